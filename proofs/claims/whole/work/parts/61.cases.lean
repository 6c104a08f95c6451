section LB
variable {p : Program} {l : Launch} {e : Env} {R : Room} {s : State} {m : MethodId} {args : Array Value} {below : List Frame} {meth : Method} {c : Code} {H : Heap} {locs : List Loc} {cells slots : Nat} {Q : State → Prop}
variable {pc : Nat} {ls : Array Slot} {rest st0 : List Value} {a : Array Value} {A0 : Nat → Prop} {H0 : Heap} {D : va_G}
theorem cg_i {r0 : Int32} {ws1 : va_W} {A1 : Nat → Prop} {mc ms : Nat} (hr : va_Run p l e R s m args below meth c H locs cells slots mc ms (F0 m pc ls st0) rest (wQi D A1 ws1 r0 a) A1) (hA : ∀ q, A1 q → A0 q) (hS : va_S A0 H0 H locs)
    (kk : ∀ (H1 : Heap) (locs1 : List Loc), va_P D vwCl ws1 H1 → (∀ q : Nat, q < H.size → ¬ A1 q → H1[q]? = H[q]?) → va_S A0 H0 H1 locs1 → W p l e R s m args below meth c H1 locs1 (cells + mc) (slots + ms) Q (F0 m (pc + 3) ls (.int r0 :: rest))) : W p l e R s m args below meth c H locs cells slots Q (F0 m pc ls st0) := by
  refine va_calli hr hS (fun q _ h => hA q h) hA (fun r u t H1 locs1 ht hvm hw hB hz1 hk1 hS1 => ?_)
  cases hw
  rw [ht] at hB
  exact kk H1 locs1 hB hk1 hS1
theorem sld {cc : ByteArray} {b L : Nat} {sc : Nat → Int32} {i q : Int32} (hq : sc (Int32.toNatClampNeg i) = q) (hx : p.tables.exec = Jvm.exec) (hb : c.code = cc) (hX : va_X b L sc s H0) (hbl : b < H0.size) (hbA : ¬ A0 b) (hS : va_S A0 H0 H locs) (hin : vp_in i L) (hdg : decode cc pc = .ok (.iaload, 1))
    (k : W p l e R s m args below meth c H locs cells slots Q (F0 m (pc + 1) ls (.int q :: rest))) : W p l e R s m args below meth c H locs cells slots Q (F0 m pc ls (.int i :: .ref b :: rest)) := by
  subst hq
  exact va_sld hx hb hX hbl hbA hS hin hdg k
theorem xPcS {tys : List (ClassId × FieldType)} {sa : Nat → Nat} {ws : va_W} {A : Nat → Prop} {As : List Value} (hK : kK D tys s) (hP : va_P D vwCl ws H) (hD : va_D A ws) (hX : kX A sa s s.heap) (hS : va_S A s.heap H locs) : PreS s H (xPc D tys sa ws As) As :=
  ⟨fun a U g mk q => ⟨q.1, q.2.1, q.2.2.1.call, q.2.2.2.1, q.2.2.2.2.call⟩, fun U hU hW => ⟨rfl, by rw [hU]; exact hP, hK.warm hW, ⟨hD.1, fun _ _ _ => trivial⟩, by rw [hU]; exact hX.at hS (wA.sub hD) hW⟩⟩
end LB
theorem mG_law_init : Cond.initialized yL_size.cls ∈ lw_G := mG_5_23
set_option maxHeartbeats 8000000 in
set_option maxRecDepth 100000 in
theorem lc_0 {p : Program} {l : Launch} {e : Env} {s : State} {m : MethodId} {args : Array Value} {below : List Frame} {meth : Method} {c : Code} {Q : State → Prop} (hx : p.tables.exec = Jvm.exec) (hb : c.code = cL_law) (hml : c.maxLocals = 8) (hown : s.vm.findClass RL = some m.cls) (htH : ∀ w ∈ lw_H, w.before args s = true) {bs L : Nat} {sc : Nat → Int32} (hXs : va_X bs L sc s s.heap) (hbl : bs < s.heap.size) {A : Nat → Prop} (hbA : ¬ A bs) (hlt : l.stackTraces = false) {dC : Nat → ClassId} {dI : Nat → Nat → Nat} {a b : Nat → Nat} {cI cJ : ClassId} {sa : Nat → Nat} {o : Nat} (hK : kK (dC, dI) (tIJ cI cJ) s) (hX : kX A sa s s.heap) {ce sl : Nat} (hce : ce + 1 ≤ 603072) (hsl : sl + 8 ≤ 7198826) {x4 : Int32} (hin : ∀ k : Int32, 0 ≤ k → k ≤ 6 → vp_in (x4 + k) L) {xs ys pl pm kp : Nat → Int32} {lp lq lr : Nat → Int64} {P on c1 c2 c3 rh ln d7 d8 d9 d10 th : Int32} {fo : Nat → Int64} (hI : Inv xs ys pl pm lp lq lr P on rh ln) (q1 : Int32) (hq1 : sc (Int32.toNatClampNeg (x4 + (1 : Int32))) = q1) (q2 : Int32) (hq2 : sc (Int32.toNatClampNeg (x4 + (2 : Int32))) = q2) (q3 : Int32) (hq3 : sc (Int32.toNatClampNeg (x4 + (3 : Int32))) = q3) (q4 : Int32) (hq4 : sc (Int32.toNatClampNeg (x4 + (4 : Int32))) = q4) (q5 : Int32) (hq5 : sc (Int32.toNatClampNeg (x4 + (5 : Int32))) = q5) (q6 : Int32) (hq6 : sc (Int32.toNatClampNeg (x4 + (6 : Int32))) = q6) (K : (∀ (xs ys pl pm kp : Nat → Int32) (lp lq lr : Nat → Int64) (P on c1 c2 c3 rh ln d7 d8 d9 d10 th : Int32) (fo : Nat → Int64), Inv xs ys pl pm lp lq lr P on rh ln → ∀ (H : Heap) (locs : List Loc), va_P (dC, dI) vwCl ((wM b cI cJ xs ys pm lp lq lr th P rh on c1 c2 c3 ln) ++ ((wC a cI cJ xs ys pl kp lp lq lr P on c1 c2 c3 rh ln d7 d8 d9 d10) ++ (wO o cJ fo))) H → va_D A ((wM b cI cJ xs ys pm lp lq lr th P rh on c1 c2 c3 ln) ++ ((wC a cI cJ xs ys pl kp lp lq lr P on c1 c2 c3 rh ln d7 d8 d9 d10) ++ (wO o cJ fo))) → va_S A s.heap H locs → ∀ (ls : Array Slot), lv_has ls 8 [(0, .ref bs), (1, .ref (a 0)), (2, .ref (b 0)), (3, .ref o), (4, .int x4)] → W p l e room_1 s m args below meth c H locs (ce + 1) (sl + 8) Q (F0 m 1311 ls []))) : ∀ (H : Heap) (locs : List Loc), va_P (dC, dI) vwCl ((wM b cI cJ xs ys pm lp lq lr th P rh on c1 c2 c3 ln) ++ ((wC a cI cJ xs ys pl kp lp lq lr P on c1 c2 c3 rh ln d7 d8 d9 d10) ++ (wO o cJ fo))) H → va_D A ((wM b cI cJ xs ys pm lp lq lr th P rh on c1 c2 c3 ln) ++ ((wC a cI cJ xs ys pl kp lp lq lr P on c1 c2 c3 rh ln d7 d8 d9 d10) ++ (wO o cJ fo))) → va_S A s.heap H locs → ∀ (ls : Array Slot), lv_has ls 8 [(0, .ref bs), (1, .ref (a 0)), (2, .ref (b 0)), (3, .ref o), (4, .int x4)] → W p l e room_1 s m args below meth c H locs ce sl Q (F0 m 144 ls []) := by
  intro H locs hP hD hS ls hl
  obtain ⟨⟨hg0, hv0⟩, ⟨hr0, hh⟩, ⟨hl0, hl6⟩, hon, hbx, hby, hpl, hpm, hplP, hrel, hlnk⟩ := id hI
  have hbx6 : ∀ j : Nat, (xs j).toInt.natAbs ≤ 16384 := fun j => Nat.le_trans (hbx j) (by decide)
  have hby6 : ∀ j : Nat, (ys j).toInt.natAbs ≤ 16384 := fun j => Nat.le_trans (hby j) (by decide)
  have hts : ∀ w ∈ lw_G, w.before args s = true := fun w h => htH w (List.mem_append_right _ h)
  have hn1 : vp_in (x4 + (1 : Int32)) L := hin 1 (by decide) (by decide)
  have hn2 : vp_in (x4 + (2 : Int32)) L := hin 2 (by decide) (by decide)
  have hn3 : vp_in (x4 + (3 : Int32)) L := hin 3 (by decide) (by decide)
  have hn4 : vp_in (x4 + (4 : Int32)) L := hin 4 (by decide) (by decide)
  have hn5 : vp_in (x4 + (5 : Int32)) L := hin 5 (by decide) (by decide)
  have hn6 : vp_in (x4 + (6 : Int32)) L := hin 6 (by decide) (by decide)
  refine lv_aload_n hx hb dL_law_144 rfl (lv_at hl 1 rfl) ?_
  refine lv_aload_n hx hb dL_law_145 rfl (lv_at hl 0 rfl) ?_
  refine lv_iload hx hb dL_law_146 (lv_at hl 4 rfl) ?_
  refine lv_iconst (v := (1 : Int32)) hx hb dL_law_148 (by decide) ?_
  refine lv_iadd hx hb dL_law_149 ?_
  refine sld hq1 hx hb hXs hbl hbA hS hn1 dL_law_150 ?_
  refine lv_i2l hx hb dL_law_151 rfl ?_
  refine lv_bipush (v := (32 : Int32)) hx hb dL_law_152 (by decide) ?_
  refine lv_lshl (v := ((Int32.toInt64 q1) <<< (Int32.toInt64 (32 : Int32) &&& 63))) hx hb dL_law_154 rfl ?_
  refine lv_aload_n hx hb dL_law_155 rfl (lv_at hl 0 rfl) ?_
  refine lv_iload hx hb dL_law_156 (lv_at hl 4 rfl) ?_
  refine lv_iconst (v := (2 : Int32)) hx hb dL_law_158 (by decide) ?_
  refine lv_iadd hx hb dL_law_159 ?_
  refine sld hq2 hx hb hXs hbl hbA hS hn2 dL_law_160 ?_
  refine lv_i2l hx hb dL_law_161 rfl ?_
  refine lv_ldc2 hx hb hown (hts _ mG_1_7) dL_law_162 ?_
  refine lv_land hx hb dL_law_165 ?_
  refine lv_lor hx hb dL_law_166 ?_
  refine lv_aload_n hx hb dL_law_167 rfl (lv_at hl 0 rfl) ?_
  refine lv_iload hx hb dL_law_168 (lv_at hl 4 rfl) ?_
  refine lv_iconst (v := (3 : Int32)) hx hb dL_law_170 (by decide) ?_
  refine lv_iadd hx hb dL_law_171 ?_
  refine sld hq3 hx hb hXs hbl hbA hS hn3 dL_law_172 ?_
  refine lv_i2l hx hb dL_law_173 rfl ?_
  refine lv_bipush (v := (32 : Int32)) hx hb dL_law_174 (by decide) ?_
  refine lv_lshl (v := ((Int32.toInt64 q3) <<< (Int32.toInt64 (32 : Int32) &&& 63))) hx hb dL_law_176 rfl ?_
  refine lv_aload_n hx hb dL_law_177 rfl (lv_at hl 0 rfl) ?_
  refine lv_iload hx hb dL_law_178 (lv_at hl 4 rfl) ?_
  refine lv_iconst (v := (4 : Int32)) hx hb dL_law_180 (by decide) ?_
  refine lv_iadd hx hb dL_law_181 ?_
  refine sld hq4 hx hb hXs hbl hbA hS hn4 dL_law_182 ?_
  refine lv_i2l hx hb dL_law_183 rfl ?_
  refine lv_ldc2 hx hb hown (hts _ mG_1_7) dL_law_184 ?_
  refine lv_land hx hb dL_law_187 ?_
  refine lv_lor hx hb dL_law_188 ?_
  refine lv_aload_n hx hb dL_law_189 rfl (lv_at hl 0 rfl) ?_
  refine lv_iload hx hb dL_law_190 (lv_at hl 4 rfl) ?_
  refine lv_iconst (v := (5 : Int32)) hx hb dL_law_192 (by decide) ?_
  refine lv_iadd hx hb dL_law_193 ?_
  refine sld hq5 hx hb hXs hbl hbA hS hn5 dL_law_194 ?_
  refine lv_i2l hx hb dL_law_195 rfl ?_
  refine lv_bipush (v := (32 : Int32)) hx hb dL_law_196 (by decide) ?_
  refine lv_lshl (v := ((Int32.toInt64 q5) <<< (Int32.toInt64 (32 : Int32) &&& 63))) hx hb dL_law_198 rfl ?_
  refine lv_aload_n hx hb dL_law_199 rfl (lv_at hl 0 rfl) ?_
  refine lv_iload hx hb dL_law_200 (lv_at hl 4 rfl) ?_
  refine lv_bipush (v := (6 : Int32)) hx hb dL_law_202 (by decide) ?_
  refine lv_iadd hx hb dL_law_204 ?_
  refine sld hq6 hx hb hXs hbl hbA hS hn6 dL_law_205 ?_
  refine lv_i2l hx hb dL_law_206 rfl ?_
  refine lv_ldc2 hx hb hown (hts _ mG_1_7) dL_law_207 ?_
  refine lv_land hx hb dL_law_210 ?_
  refine lv_lor hx hb dL_law_211 ?_
  refine cw_i (va_runV (As := [.long (((Int32.toInt64 q1) <<< (Int32.toInt64 (32 : Int32) &&& 63)) ||| ((Int32.toInt64 q2) &&& (4294967295 : Int64))), .long (((Int32.toInt64 q3) <<< (Int32.toInt64 (32 : Int32) &&& 63)) ||| ((Int32.toInt64 q4) &&& (4294967295 : Int64))), .long (((Int32.toInt64 q5) <<< (Int32.toInt64 (32 : Int32) &&& 63)) ||| ((Int32.toInt64 q6) &&& (4294967295 : Int64)))]) (rest := []) ⟨hx, hb, hml, hown, hts⟩ (c_X5_point l dC dI a cI cJ xs ys pl kp lp lq lr P on c1 c2 c3 rh ln d7 d8 d9 d10 (((Int32.toInt64 q1) <<< (Int32.toInt64 (32 : Int32) &&& 63)) ||| ((Int32.toInt64 q2) &&& (4294967295 : Int64))) (((Int32.toInt64 q3) <<< (Int32.toInt64 (32 : Int32) &&& 63)) ||| ((Int32.toInt64 q4) &&& (4294967295 : Int64))) (((Int32.toInt64 q5) <<< (Int32.toInt64 (32 : Int32) &&& 63)) ||| ((Int32.toInt64 q6) &&& (4294967295 : Int64))) hg0) (cwV 3 hts (gG_V mG_4_15 mG_4_16 mG_4_17 mG_1_2 (gG_c mG_4_18 gG_G)) rfl rfl rfl hd_X5_point ⟨Nat.le_of_ble_eq_true rfl, Nat.le_of_ble_eq_true rfl⟩) (wPcV (ci := 9) (q0 := 0) hK hP.right.left hD.right.left rfl rfl) rfl rfl hl.1 rfl (lv_room (Nat.le_of_ble_eq_true rfl)) dL_law_212 ⟨by show ce + 0 ≤ 603072; omega, by show sl + 0 ≤ 7198826; omega⟩) (wA.sub hD.right.left) hS (fun H locs hP1 hk1 hS => ?_)
  have hP := jn_2 hP hD hP1 hk1
  have hD := hD.addr (w1 := ((wM b cI cJ xs ys pm lp lq lr th P rh on c1 c2 c3 ln) ++ ((wC a cI cJ ((f_X5_point xs ys P (((Int32.toInt64 q1) <<< (Int32.toInt64 (32 : Int32) &&& 63)) ||| ((Int32.toInt64 q2) &&& (4294967295 : Int64))) (((Int32.toInt64 q3) <<< (Int32.toInt64 (32 : Int32) &&& 63)) ||| ((Int32.toInt64 q4) &&& (4294967295 : Int64))) (((Int32.toInt64 q5) <<< (Int32.toInt64 (32 : Int32) &&& 63)) ||| ((Int32.toInt64 q6) &&& (4294967295 : Int64)))).2.1) ((f_X5_point xs ys P (((Int32.toInt64 q1) <<< (Int32.toInt64 (32 : Int32) &&& 63)) ||| ((Int32.toInt64 q2) &&& (4294967295 : Int64))) (((Int32.toInt64 q3) <<< (Int32.toInt64 (32 : Int32) &&& 63)) ||| ((Int32.toInt64 q4) &&& (4294967295 : Int64))) (((Int32.toInt64 q5) <<< (Int32.toInt64 (32 : Int32) &&& 63)) ||| ((Int32.toInt64 q6) &&& (4294967295 : Int64)))).2.2.1) pl kp lp lq lr ((f_X5_point xs ys P (((Int32.toInt64 q1) <<< (Int32.toInt64 (32 : Int32) &&& 63)) ||| ((Int32.toInt64 q2) &&& (4294967295 : Int64))) (((Int32.toInt64 q3) <<< (Int32.toInt64 (32 : Int32) &&& 63)) ||| ((Int32.toInt64 q4) &&& (4294967295 : Int64))) (((Int32.toInt64 q5) <<< (Int32.toInt64 (32 : Int32) &&& 63)) ||| ((Int32.toInt64 q6) &&& (4294967295 : Int64)))).2.2.2) on c1 c2 c3 rh ln d7 d8 d9 d10) ++ (wO o cJ fo)))) rfl
  have hP : va_P (dC, dI) vwCl ((wM b cI cJ xs ys pm lp lq lr th P rh on c1 c2 c3 ln) ++ ((wC a cI cJ ((f_X5_point xs ys P (((Int32.toInt64 q1) <<< (Int32.toInt64 (32 : Int32) &&& 63)) ||| ((Int32.toInt64 q2) &&& (4294967295 : Int64))) (((Int32.toInt64 q3) <<< (Int32.toInt64 (32 : Int32) &&& 63)) ||| ((Int32.toInt64 q4) &&& (4294967295 : Int64))) (((Int32.toInt64 q5) <<< (Int32.toInt64 (32 : Int32) &&& 63)) ||| ((Int32.toInt64 q6) &&& (4294967295 : Int64)))).2.1) ((f_X5_point xs ys P (((Int32.toInt64 q1) <<< (Int32.toInt64 (32 : Int32) &&& 63)) ||| ((Int32.toInt64 q2) &&& (4294967295 : Int64))) (((Int32.toInt64 q3) <<< (Int32.toInt64 (32 : Int32) &&& 63)) ||| ((Int32.toInt64 q4) &&& (4294967295 : Int64))) (((Int32.toInt64 q5) <<< (Int32.toInt64 (32 : Int32) &&& 63)) ||| ((Int32.toInt64 q6) &&& (4294967295 : Int64)))).2.2.1) pl kp lp lq lr ((f_X5_point xs ys P (((Int32.toInt64 q1) <<< (Int32.toInt64 (32 : Int32) &&& 63)) ||| ((Int32.toInt64 q2) &&& (4294967295 : Int64))) (((Int32.toInt64 q3) <<< (Int32.toInt64 (32 : Int32) &&& 63)) ||| ((Int32.toInt64 q4) &&& (4294967295 : Int64))) (((Int32.toInt64 q5) <<< (Int32.toInt64 (32 : Int32) &&& 63)) ||| ((Int32.toInt64 q6) &&& (4294967295 : Int64)))).2.2.2) on c1 c2 c3 rh ln d7 d8 d9 d10) ++ (wO o cJ fo))) H := hP
  refine lv_aload_n hx hb dL_law_215 rfl (lv_at hl 2 rfl) ?_
  refine lv_aload_n hx hb dL_law_216 rfl (lv_at hl 0 rfl) ?_
  refine lv_iload hx hb dL_law_217 (lv_at hl 4 rfl) ?_
  refine lv_iconst (v := (1 : Int32)) hx hb dL_law_219 (by decide) ?_
  refine lv_iadd hx hb dL_law_220 ?_
  refine sld hq1 hx hb hXs hbl hbA hS hn1 dL_law_221 ?_
  refine lv_i2l hx hb dL_law_222 rfl ?_
  refine lv_bipush (v := (32 : Int32)) hx hb dL_law_223 (by decide) ?_
  refine lv_lshl (v := ((Int32.toInt64 q1) <<< (Int32.toInt64 (32 : Int32) &&& 63))) hx hb dL_law_225 rfl ?_
  refine lv_aload_n hx hb dL_law_226 rfl (lv_at hl 0 rfl) ?_
  refine lv_iload hx hb dL_law_227 (lv_at hl 4 rfl) ?_
  refine lv_iconst (v := (2 : Int32)) hx hb dL_law_229 (by decide) ?_
  refine lv_iadd hx hb dL_law_230 ?_
  refine sld hq2 hx hb hXs hbl hbA hS hn2 dL_law_231 ?_
  refine lv_i2l hx hb dL_law_232 rfl ?_
  refine lv_ldc2 hx hb hown (hts _ mG_1_7) dL_law_233 ?_
  refine lv_land hx hb dL_law_236 ?_
  refine lv_lor hx hb dL_law_237 ?_
  refine lv_aload_n hx hb dL_law_238 rfl (lv_at hl 0 rfl) ?_
  refine lv_iload hx hb dL_law_239 (lv_at hl 4 rfl) ?_
  refine lv_iconst (v := (3 : Int32)) hx hb dL_law_241 (by decide) ?_
  refine lv_iadd hx hb dL_law_242 ?_
  refine sld hq3 hx hb hXs hbl hbA hS hn3 dL_law_243 ?_
  refine lv_i2l hx hb dL_law_244 rfl ?_
  refine lv_bipush (v := (32 : Int32)) hx hb dL_law_245 (by decide) ?_
  refine lv_lshl (v := ((Int32.toInt64 q3) <<< (Int32.toInt64 (32 : Int32) &&& 63))) hx hb dL_law_247 rfl ?_
  refine lv_aload_n hx hb dL_law_248 rfl (lv_at hl 0 rfl) ?_
  refine lv_iload hx hb dL_law_249 (lv_at hl 4 rfl) ?_
  refine lv_iconst (v := (4 : Int32)) hx hb dL_law_251 (by decide) ?_
  refine lv_iadd hx hb dL_law_252 ?_
  refine sld hq4 hx hb hXs hbl hbA hS hn4 dL_law_253 ?_
  refine lv_i2l hx hb dL_law_254 rfl ?_
  refine lv_ldc2 hx hb hown (hts _ mG_1_7) dL_law_255 ?_
  refine lv_land hx hb dL_law_258 ?_
  refine lv_lor hx hb dL_law_259 ?_
  refine lv_aload_n hx hb dL_law_260 rfl (lv_at hl 0 rfl) ?_
  refine lv_iload hx hb dL_law_261 (lv_at hl 4 rfl) ?_
  refine lv_iconst (v := (5 : Int32)) hx hb dL_law_263 (by decide) ?_
  refine lv_iadd hx hb dL_law_264 ?_
  refine sld hq5 hx hb hXs hbl hbA hS hn5 dL_law_265 ?_
  refine lv_i2l hx hb dL_law_266 rfl ?_
  refine lv_bipush (v := (32 : Int32)) hx hb dL_law_267 (by decide) ?_
  refine lv_lshl (v := ((Int32.toInt64 q5) <<< (Int32.toInt64 (32 : Int32) &&& 63))) hx hb dL_law_269 rfl ?_
  refine lv_aload_n hx hb dL_law_270 rfl (lv_at hl 0 rfl) ?_
  refine lv_iload hx hb dL_law_271 (lv_at hl 4 rfl) ?_
  refine lv_bipush (v := (6 : Int32)) hx hb dL_law_273 (by decide) ?_
  refine lv_iadd hx hb dL_law_275 ?_
  refine sld hq6 hx hb hXs hbl hbA hS hn6 dL_law_276 ?_
  refine lv_i2l hx hb dL_law_277 rfl ?_
  refine lv_ldc2 hx hb hown (hts _ mG_1_7) dL_law_278 ?_
  refine lv_land hx hb dL_law_281 ?_
  refine lv_lor hx hb dL_law_282 ?_
  refine cw_i (va_runV (As := [.long (((Int32.toInt64 q1) <<< (Int32.toInt64 (32 : Int32) &&& 63)) ||| ((Int32.toInt64 q2) &&& (4294967295 : Int64))), .long (((Int32.toInt64 q3) <<< (Int32.toInt64 (32 : Int32) &&& 63)) ||| ((Int32.toInt64 q4) &&& (4294967295 : Int64))), .long (((Int32.toInt64 q5) <<< (Int32.toInt64 (32 : Int32) &&& 63)) ||| ((Int32.toInt64 q6) &&& (4294967295 : Int64)))]) (rest := [.int ((f_X5_point xs ys P (((Int32.toInt64 q1) <<< (Int32.toInt64 (32 : Int32) &&& 63)) ||| ((Int32.toInt64 q2) &&& (4294967295 : Int64))) (((Int32.toInt64 q3) <<< (Int32.toInt64 (32 : Int32) &&& 63)) ||| ((Int32.toInt64 q4) &&& (4294967295 : Int64))) (((Int32.toInt64 q5) <<< (Int32.toInt64 (32 : Int32) &&& 63)) ||| ((Int32.toInt64 q6) &&& (4294967295 : Int64)))).1)]) ⟨hx, hb, hml, hown, hts⟩ (c_X6_point l dC dI b cI cJ xs ys pm lp lq lr th P rh on c1 c2 c3 ln (((Int32.toInt64 q1) <<< (Int32.toInt64 (32 : Int32) &&& 63)) ||| ((Int32.toInt64 q2) &&& (4294967295 : Int64))) (((Int32.toInt64 q3) <<< (Int32.toInt64 (32 : Int32) &&& 63)) ||| ((Int32.toInt64 q4) &&& (4294967295 : Int64))) (((Int32.toInt64 q5) <<< (Int32.toInt64 (32 : Int32) &&& 63)) ||| ((Int32.toInt64 q6) &&& (4294967295 : Int64))) hg0 hv0) (cwV 3 hts (gG_V mG_5_8 mG_5_9 mG_5_10 mG_1_5 (gG_c mG_5_11 gG_G)) rfl rfl rfl hd_X6_point ⟨Nat.le_of_ble_eq_true rfl, Nat.le_of_ble_eq_true rfl⟩) (wPcV (ci := 10) (q0 := 0) hK hP.left hD.left rfl rfl) rfl rfl hl.1 rfl (lv_room (Nat.le_of_ble_eq_true rfl)) dL_law_283 ⟨by show ce + 0 ≤ 603072; omega, by show sl + 0 ≤ 7198826; omega⟩) (wA.sub hD.left) hS (fun H locs hP1 hk1 hS => ?_)
  have hP := jn_1 hP hD hP1 hk1
  have hD := hD.addr (w1 := ((wM b cI cJ ((f_X6_point xs ys th P (((Int32.toInt64 q1) <<< (Int32.toInt64 (32 : Int32) &&& 63)) ||| ((Int32.toInt64 q2) &&& (4294967295 : Int64))) (((Int32.toInt64 q3) <<< (Int32.toInt64 (32 : Int32) &&& 63)) ||| ((Int32.toInt64 q4) &&& (4294967295 : Int64))) (((Int32.toInt64 q5) <<< (Int32.toInt64 (32 : Int32) &&& 63)) ||| ((Int32.toInt64 q6) &&& (4294967295 : Int64)))).2.2.1) ((f_X6_point xs ys th P (((Int32.toInt64 q1) <<< (Int32.toInt64 (32 : Int32) &&& 63)) ||| ((Int32.toInt64 q2) &&& (4294967295 : Int64))) (((Int32.toInt64 q3) <<< (Int32.toInt64 (32 : Int32) &&& 63)) ||| ((Int32.toInt64 q4) &&& (4294967295 : Int64))) (((Int32.toInt64 q5) <<< (Int32.toInt64 (32 : Int32) &&& 63)) ||| ((Int32.toInt64 q6) &&& (4294967295 : Int64)))).2.2.2.1) pm lp lq lr ((f_X6_point xs ys th P (((Int32.toInt64 q1) <<< (Int32.toInt64 (32 : Int32) &&& 63)) ||| ((Int32.toInt64 q2) &&& (4294967295 : Int64))) (((Int32.toInt64 q3) <<< (Int32.toInt64 (32 : Int32) &&& 63)) ||| ((Int32.toInt64 q4) &&& (4294967295 : Int64))) (((Int32.toInt64 q5) <<< (Int32.toInt64 (32 : Int32) &&& 63)) ||| ((Int32.toInt64 q6) &&& (4294967295 : Int64)))).2.1) ((f_X6_point xs ys th P (((Int32.toInt64 q1) <<< (Int32.toInt64 (32 : Int32) &&& 63)) ||| ((Int32.toInt64 q2) &&& (4294967295 : Int64))) (((Int32.toInt64 q3) <<< (Int32.toInt64 (32 : Int32) &&& 63)) ||| ((Int32.toInt64 q4) &&& (4294967295 : Int64))) (((Int32.toInt64 q5) <<< (Int32.toInt64 (32 : Int32) &&& 63)) ||| ((Int32.toInt64 q6) &&& (4294967295 : Int64)))).2.2.2.2) rh on c1 c2 c3 ln) ++ ((wC a cI cJ ((f_X5_point xs ys P (((Int32.toInt64 q1) <<< (Int32.toInt64 (32 : Int32) &&& 63)) ||| ((Int32.toInt64 q2) &&& (4294967295 : Int64))) (((Int32.toInt64 q3) <<< (Int32.toInt64 (32 : Int32) &&& 63)) ||| ((Int32.toInt64 q4) &&& (4294967295 : Int64))) (((Int32.toInt64 q5) <<< (Int32.toInt64 (32 : Int32) &&& 63)) ||| ((Int32.toInt64 q6) &&& (4294967295 : Int64)))).2.1) ((f_X5_point xs ys P (((Int32.toInt64 q1) <<< (Int32.toInt64 (32 : Int32) &&& 63)) ||| ((Int32.toInt64 q2) &&& (4294967295 : Int64))) (((Int32.toInt64 q3) <<< (Int32.toInt64 (32 : Int32) &&& 63)) ||| ((Int32.toInt64 q4) &&& (4294967295 : Int64))) (((Int32.toInt64 q5) <<< (Int32.toInt64 (32 : Int32) &&& 63)) ||| ((Int32.toInt64 q6) &&& (4294967295 : Int64)))).2.2.1) pl kp lp lq lr ((f_X5_point xs ys P (((Int32.toInt64 q1) <<< (Int32.toInt64 (32 : Int32) &&& 63)) ||| ((Int32.toInt64 q2) &&& (4294967295 : Int64))) (((Int32.toInt64 q3) <<< (Int32.toInt64 (32 : Int32) &&& 63)) ||| ((Int32.toInt64 q4) &&& (4294967295 : Int64))) (((Int32.toInt64 q5) <<< (Int32.toInt64 (32 : Int32) &&& 63)) ||| ((Int32.toInt64 q6) &&& (4294967295 : Int64)))).2.2.2) on c1 c2 c3 rh ln d7 d8 d9 d10) ++ (wO o cJ fo)))) rfl
  have hP : va_P (dC, dI) vwCl ((wM b cI cJ ((f_X6_point xs ys th P (((Int32.toInt64 q1) <<< (Int32.toInt64 (32 : Int32) &&& 63)) ||| ((Int32.toInt64 q2) &&& (4294967295 : Int64))) (((Int32.toInt64 q3) <<< (Int32.toInt64 (32 : Int32) &&& 63)) ||| ((Int32.toInt64 q4) &&& (4294967295 : Int64))) (((Int32.toInt64 q5) <<< (Int32.toInt64 (32 : Int32) &&& 63)) ||| ((Int32.toInt64 q6) &&& (4294967295 : Int64)))).2.2.1) ((f_X6_point xs ys th P (((Int32.toInt64 q1) <<< (Int32.toInt64 (32 : Int32) &&& 63)) ||| ((Int32.toInt64 q2) &&& (4294967295 : Int64))) (((Int32.toInt64 q3) <<< (Int32.toInt64 (32 : Int32) &&& 63)) ||| ((Int32.toInt64 q4) &&& (4294967295 : Int64))) (((Int32.toInt64 q5) <<< (Int32.toInt64 (32 : Int32) &&& 63)) ||| ((Int32.toInt64 q6) &&& (4294967295 : Int64)))).2.2.2.1) pm lp lq lr ((f_X6_point xs ys th P (((Int32.toInt64 q1) <<< (Int32.toInt64 (32 : Int32) &&& 63)) ||| ((Int32.toInt64 q2) &&& (4294967295 : Int64))) (((Int32.toInt64 q3) <<< (Int32.toInt64 (32 : Int32) &&& 63)) ||| ((Int32.toInt64 q4) &&& (4294967295 : Int64))) (((Int32.toInt64 q5) <<< (Int32.toInt64 (32 : Int32) &&& 63)) ||| ((Int32.toInt64 q6) &&& (4294967295 : Int64)))).2.1) ((f_X6_point xs ys th P (((Int32.toInt64 q1) <<< (Int32.toInt64 (32 : Int32) &&& 63)) ||| ((Int32.toInt64 q2) &&& (4294967295 : Int64))) (((Int32.toInt64 q3) <<< (Int32.toInt64 (32 : Int32) &&& 63)) ||| ((Int32.toInt64 q4) &&& (4294967295 : Int64))) (((Int32.toInt64 q5) <<< (Int32.toInt64 (32 : Int32) &&& 63)) ||| ((Int32.toInt64 q6) &&& (4294967295 : Int64)))).2.2.2.2) rh on c1 c2 c3 ln) ++ ((wC a cI cJ ((f_X5_point xs ys P (((Int32.toInt64 q1) <<< (Int32.toInt64 (32 : Int32) &&& 63)) ||| ((Int32.toInt64 q2) &&& (4294967295 : Int64))) (((Int32.toInt64 q3) <<< (Int32.toInt64 (32 : Int32) &&& 63)) ||| ((Int32.toInt64 q4) &&& (4294967295 : Int64))) (((Int32.toInt64 q5) <<< (Int32.toInt64 (32 : Int32) &&& 63)) ||| ((Int32.toInt64 q6) &&& (4294967295 : Int64)))).2.1) ((f_X5_point xs ys P (((Int32.toInt64 q1) <<< (Int32.toInt64 (32 : Int32) &&& 63)) ||| ((Int32.toInt64 q2) &&& (4294967295 : Int64))) (((Int32.toInt64 q3) <<< (Int32.toInt64 (32 : Int32) &&& 63)) ||| ((Int32.toInt64 q4) &&& (4294967295 : Int64))) (((Int32.toInt64 q5) <<< (Int32.toInt64 (32 : Int32) &&& 63)) ||| ((Int32.toInt64 q6) &&& (4294967295 : Int64)))).2.2.1) pl kp lp lq lr ((f_X5_point xs ys P (((Int32.toInt64 q1) <<< (Int32.toInt64 (32 : Int32) &&& 63)) ||| ((Int32.toInt64 q2) &&& (4294967295 : Int64))) (((Int32.toInt64 q3) <<< (Int32.toInt64 (32 : Int32) &&& 63)) ||| ((Int32.toInt64 q4) &&& (4294967295 : Int64))) (((Int32.toInt64 q5) <<< (Int32.toInt64 (32 : Int32) &&& 63)) ||| ((Int32.toInt64 q6) &&& (4294967295 : Int64)))).2.2.2) on c1 c2 c3 rh ln d7 d8 d9 d10) ++ (wO o cJ fo))) H := hP
  have hst := st_point hI th (((Int32.toInt64 q1) <<< (Int32.toInt64 (32 : Int32) &&& 63)) ||| ((Int32.toInt64 q2) &&& (4294967295 : Int64))) (((Int32.toInt64 q3) <<< (Int32.toInt64 (32 : Int32) &&& 63)) ||| ((Int32.toInt64 q4) &&& (4294967295 : Int64))) (((Int32.toInt64 q5) <<< (Int32.toInt64 (32 : Int32) &&& 63)) ||| ((Int32.toInt64 q6) &&& (4294967295 : Int64)))
  refine lv_icmp_eq (tgt := 1311) hx hb dL_law_286 (by decide) (fun _ => ?_) (fun c9 => absurd hst.1 c9)
  rw [hst.2.1] at hP
  rw [hst.2.2.1] at hP
  rw [hst.2.2.2.1] at hP
  refine W.widen (k := ce + 1) (n := sl + 8) (by omega) (by omega) ?_
  exact K ((f_X5_point xs ys P (((Int32.toInt64 q1) <<< (Int32.toInt64 (32 : Int32) &&& 63)) ||| ((Int32.toInt64 q2) &&& (4294967295 : Int64))) (((Int32.toInt64 q3) <<< (Int32.toInt64 (32 : Int32) &&& 63)) ||| ((Int32.toInt64 q4) &&& (4294967295 : Int64))) (((Int32.toInt64 q5) <<< (Int32.toInt64 (32 : Int32) &&& 63)) ||| ((Int32.toInt64 q6) &&& (4294967295 : Int64)))).2.1) ((f_X5_point xs ys P (((Int32.toInt64 q1) <<< (Int32.toInt64 (32 : Int32) &&& 63)) ||| ((Int32.toInt64 q2) &&& (4294967295 : Int64))) (((Int32.toInt64 q3) <<< (Int32.toInt64 (32 : Int32) &&& 63)) ||| ((Int32.toInt64 q4) &&& (4294967295 : Int64))) (((Int32.toInt64 q5) <<< (Int32.toInt64 (32 : Int32) &&& 63)) ||| ((Int32.toInt64 q6) &&& (4294967295 : Int64)))).2.2.1) pl pm kp lp lq lr ((f_X5_point xs ys P (((Int32.toInt64 q1) <<< (Int32.toInt64 (32 : Int32) &&& 63)) ||| ((Int32.toInt64 q2) &&& (4294967295 : Int64))) (((Int32.toInt64 q3) <<< (Int32.toInt64 (32 : Int32) &&& 63)) ||| ((Int32.toInt64 q4) &&& (4294967295 : Int64))) (((Int32.toInt64 q5) <<< (Int32.toInt64 (32 : Int32) &&& 63)) ||| ((Int32.toInt64 q6) &&& (4294967295 : Int64)))).2.2.2) on c1 c2 c3 rh ln d7 d8 d9 d10 ((f_X6_point xs ys th P (((Int32.toInt64 q1) <<< (Int32.toInt64 (32 : Int32) &&& 63)) ||| ((Int32.toInt64 q2) &&& (4294967295 : Int64))) (((Int32.toInt64 q3) <<< (Int32.toInt64 (32 : Int32) &&& 63)) ||| ((Int32.toInt64 q4) &&& (4294967295 : Int64))) (((Int32.toInt64 q5) <<< (Int32.toInt64 (32 : Int32) &&& 63)) ||| ((Int32.toInt64 q6) &&& (4294967295 : Int64)))).2.1) fo hst.2.2.2.2 _ _ hP (hD.addr rfl) hS ls (lv_sub hl [0, 1, 2, 3, 4] rfl)
set_option maxHeartbeats 8000000 in
set_option maxRecDepth 100000 in
theorem lc_1 {p : Program} {l : Launch} {e : Env} {s : State} {m : MethodId} {args : Array Value} {below : List Frame} {meth : Method} {c : Code} {Q : State → Prop} (hx : p.tables.exec = Jvm.exec) (hb : c.code = cL_law) (hml : c.maxLocals = 8) (hown : s.vm.findClass RL = some m.cls) (htH : ∀ w ∈ lw_H, w.before args s = true) {bs L : Nat} {sc : Nat → Int32} (hXs : va_X bs L sc s s.heap) (hbl : bs < s.heap.size) {A : Nat → Prop} (hbA : ¬ A bs) (hlt : l.stackTraces = false) {dC : Nat → ClassId} {dI : Nat → Nat → Nat} {a b : Nat → Nat} {cI cJ : ClassId} {sa : Nat → Nat} {o : Nat} (hK : kK (dC, dI) (tIJ cI cJ) s) (hX : kX A sa s s.heap) {ce sl : Nat} (hce : ce + 1 ≤ 603072) (hsl : sl + 8 ≤ 7198826) {x4 : Int32} (hin : ∀ k : Int32, 0 ≤ k → k ≤ 6 → vp_in (x4 + k) L) {xs ys pl pm kp : Nat → Int32} {lp lq lr : Nat → Int64} {P on c1 c2 c3 rh ln d7 d8 d9 d10 th : Int32} {fo : Nat → Int64} (hI : Inv xs ys pl pm lp lq lr P on rh ln) (q1 : Int32) (hq1 : sc (Int32.toNatClampNeg (x4 + (1 : Int32))) = q1) (K : (∀ (xs ys pl pm kp : Nat → Int32) (lp lq lr : Nat → Int64) (P on c1 c2 c3 rh ln d7 d8 d9 d10 th : Int32) (fo : Nat → Int64), Inv xs ys pl pm lp lq lr P on rh ln → ∀ (H : Heap) (locs : List Loc), va_P (dC, dI) vwCl ((wM b cI cJ xs ys pm lp lq lr th P rh on c1 c2 c3 ln) ++ ((wC a cI cJ xs ys pl kp lp lq lr P on c1 c2 c3 rh ln d7 d8 d9 d10) ++ (wO o cJ fo))) H → va_D A ((wM b cI cJ xs ys pm lp lq lr th P rh on c1 c2 c3 ln) ++ ((wC a cI cJ xs ys pl kp lp lq lr P on c1 c2 c3 rh ln d7 d8 d9 d10) ++ (wO o cJ fo))) → va_S A s.heap H locs → ∀ (ls : Array Slot), lv_has ls 8 [(0, .ref bs), (1, .ref (a 0)), (2, .ref (b 0)), (3, .ref o), (4, .int x4)] → W p l e room_1 s m args below meth c H locs (ce + 1) (sl + 8) Q (F0 m 1311 ls []))) : ∀ (H : Heap) (locs : List Loc), va_P (dC, dI) vwCl ((wM b cI cJ xs ys pm lp lq lr th P rh on c1 c2 c3 ln) ++ ((wC a cI cJ xs ys pl kp lp lq lr P on c1 c2 c3 rh ln d7 d8 d9 d10) ++ (wO o cJ fo))) H → va_D A ((wM b cI cJ xs ys pm lp lq lr th P rh on c1 c2 c3 ln) ++ ((wC a cI cJ xs ys pl kp lp lq lr P on c1 c2 c3 rh ln d7 d8 d9 d10) ++ (wO o cJ fo))) → va_S A s.heap H locs → ∀ (ls : Array Slot), lv_has ls 8 [(0, .ref bs), (1, .ref (a 0)), (2, .ref (b 0)), (3, .ref o), (4, .int x4)] → W p l e room_1 s m args below meth c H locs ce sl Q (F0 m 291 ls []) := by
  intro H locs hP hD hS ls hl
  obtain ⟨⟨hg0, hv0⟩, ⟨hr0, hh⟩, ⟨hl0, hl6⟩, hon, hbx, hby, hpl, hpm, hplP, hrel, hlnk⟩ := id hI
  have hbx6 : ∀ j : Nat, (xs j).toInt.natAbs ≤ 16384 := fun j => Nat.le_trans (hbx j) (by decide)
  have hby6 : ∀ j : Nat, (ys j).toInt.natAbs ≤ 16384 := fun j => Nat.le_trans (hby j) (by decide)
  have hts : ∀ w ∈ lw_G, w.before args s = true := fun w h => htH w (List.mem_append_right _ h)
  have hn1 : vp_in (x4 + (1 : Int32)) L := hin 1 (by decide) (by decide)
  have hn2 : vp_in (x4 + (2 : Int32)) L := hin 2 (by decide) (by decide)
  have hn3 : vp_in (x4 + (3 : Int32)) L := hin 3 (by decide) (by decide)
  have hn4 : vp_in (x4 + (4 : Int32)) L := hin 4 (by decide) (by decide)
  have hn5 : vp_in (x4 + (5 : Int32)) L := hin 5 (by decide) (by decide)
  have hn6 : vp_in (x4 + (6 : Int32)) L := hin 6 (by decide) (by decide)
  refine lv_aload_n hx hb dL_law_291 rfl (lv_at hl 1 rfl) ?_
  refine lv_aload_n hx hb dL_law_292 rfl (lv_at hl 0 rfl) ?_
  refine lv_iload hx hb dL_law_293 (lv_at hl 4 rfl) ?_
  refine lv_iconst (v := (1 : Int32)) hx hb dL_law_295 (by decide) ?_
  refine lv_iadd hx hb dL_law_296 ?_
  refine sld hq1 hx hb hXs hbl hbA hS hn1 dL_law_297 ?_
  refine lv_aload_n hx hb dL_law_298 rfl (lv_at hl 3 rfl) ?_
  refine cg_i (vx_runSW (As := [.ref (a 0), .int q1, .ref o]) (rest := []) ⟨hx, hb, hml, hown, htH⟩ (c_L_size l dC dI a cI cJ xs ys pl kp lp lq lr P on c1 c2 c3 rh ln d7 d8 d9 d10 sa hlt o fo q1 ) (vx_cwSW 3 htH (gH_S mG_5_21 mG_5_22 mG_law_init (gH_c mG_6_0 gH_H)) rfl rfl rfl hs_L_size ⟨Nat.le_of_ble_eq_true rfl, Nat.le_of_ble_eq_true rfl⟩) (xPcS hK hP.right hD.right hX hS) rfl rfl hl.1 rfl (lv_room (Nat.le_of_ble_eq_true rfl)) dL_law_299 ⟨hce, hsl⟩) (wA.sub hD.right) hS (fun H locs hP1 hk1 hS => ?_)
  have hP := jn_3 hP hD hP1 hk1
  have hD := hD.addr (w1 := ((wM b cI cJ xs ys pm lp lq lr th P rh on c1 c2 c3 ln) ++ ((wC a cI cJ xs ys ((f_X5_size pl rh q1).2.2.1) kp lp lq lr P on c1 c2 c3 ((f_X5_size pl rh q1).2.2.2) ln d7 d8 d9 d10) ++ (wO o cJ (oF (f_X5_size pl rh q1).1 (Int32.toInt64 (f_X5_size pl rh q1).2.1) fo))))) rfl
  have hP : va_P (dC, dI) vwCl ((wM b cI cJ xs ys pm lp lq lr th P rh on c1 c2 c3 ln) ++ ((wC a cI cJ xs ys ((f_X5_size pl rh q1).2.2.1) kp lp lq lr P on c1 c2 c3 ((f_X5_size pl rh q1).2.2.2) ln d7 d8 d9 d10) ++ (wO o cJ (oF (f_X5_size pl rh q1).1 (Int32.toInt64 (f_X5_size pl rh q1).2.1) fo)))) H := hP
  refine lv_istore (lv' := [(5, .int (f_X5_size pl rh q1).1), (0, .ref bs), (1, .ref (a 0)), (2, .ref (b 0)), (3, .ref o), (4, .int x4)]) hx hb dL_law_302 hl (by decide) rfl (fun ls hl => ?_)
  refine lv_aload_n hx hb dL_law_304 rfl (lv_at hl 3 rfl) ?_
  refine lv_aload_n hx hb dL_law_305 rfl (lv_at hl 1 rfl) ?_
  refine lv_iload hx hb dL_law_306 (lv_at hl 5 rfl) ?_
  refine lv_iconst (v := (1 : Int32)) hx hb dL_law_308 (by decide) ?_
  refine lv_iadd hx hb dL_law_309 ?_
  refine sld hq1 hx hb hXs hbl hbA hS hn1 dL_law_310 ?_
  refine cw_i (va_runV (As := [.int q1]) (rest := []) ⟨hx, hb, hml, hown, hts⟩ (c_X6_size l dC dI b cI cJ xs ys pm lp lq lr th P rh on c1 c2 c3 ln q1 ) (cwV 1 hts (gG_V mG_6_13 mG_6_14 mG_6_15 mG_1_5 (gG_c mG_6_16 gG_G)) rfl rfl rfl hd_X6_size ⟨Nat.le_of_ble_eq_true rfl, Nat.le_of_ble_eq_true rfl⟩) (wPcV (ci := 10) (q0 := 0) hK hP.left hD.left rfl rfl) rfl rfl hl.1 rfl (lv_room (Nat.le_of_ble_eq_true rfl)) dL_law_311 ⟨by show ce + 1 + 0 ≤ 603072; omega, by show sl + 8 + 0 ≤ 7198826; omega⟩) (wA.sub hD.left) hS (fun H locs hP1 hk1 hS => ?_)
  have hP := jn_1 hP hD hP1 hk1
  have hD := hD.addr (w1 := ((wM b cI cJ xs ys ((f_X6_size pm th rh q1).2.2.2) lp lq lr ((f_X6_size pm th rh q1).2.1) P ((f_X6_size pm th rh q1).2.2.1) on c1 c2 c3 ln) ++ ((wC a cI cJ xs ys ((f_X5_size pl rh q1).2.2.1) kp lp lq lr P on c1 c2 c3 ((f_X5_size pl rh q1).2.2.2) ln d7 d8 d9 d10) ++ (wO o cJ (oF (f_X5_size pl rh q1).1 (Int32.toInt64 (f_X5_size pl rh q1).2.1) fo))))) rfl
  have hP : va_P (dC, dI) vwCl ((wM b cI cJ xs ys ((f_X6_size pm th rh q1).2.2.2) lp lq lr ((f_X6_size pm th rh q1).2.1) P ((f_X6_size pm th rh q1).2.2.1) on c1 c2 c3 ln) ++ ((wC a cI cJ xs ys ((f_X5_size pl rh q1).2.2.1) kp lp lq lr P on c1 c2 c3 ((f_X5_size pl rh q1).2.2.2) ln d7 d8 d9 d10) ++ (wO o cJ (oF (f_X5_size pl rh q1).1 (Int32.toInt64 (f_X5_size pl rh q1).2.1) fo)))) H := hP
  refine lv_istore (lv' := [(6, .int ((f_X6_size pm th rh q1).1)), (5, .int (f_X5_size pl rh q1).1), (0, .ref bs), (1, .ref (a 0)), (2, .ref (b 0)), (3, .ref o), (4, .int x4)]) hx hb dL_law_314 hl (by decide) rfl (fun ls hl => ?_)
  refine lv_aload_n hx hb dL_law_316 rfl (lv_at hl 4 rfl) ?_
  refine cp_i (va_runV (As := []) (rest := []) ⟨hx, hb, hml, hown, hts⟩ (c_X6_thrown l dC dI b cI cJ xs ys ((f_X6_size pm th rh q1).2.2.2) lp lq lr ((f_X6_size pm th rh q1).2.1) P ((f_X6_size pm th rh q1).2.2.1) on c1 c2 c3 ln  ) (cwV 0 hts (gG_V mG_6_22 mG_6_23 mG_7_0 mG_1_5 (gG_c mG_7_1 gG_G)) rfl rfl rfl hd_X6_thrown ⟨Nat.le_of_ble_eq_true rfl, Nat.le_of_ble_eq_true rfl⟩) (pPcV (ci := 10) (q0 := 0) hK hP.left rfl rfl) rfl rfl hl.1 rfl (lv_room (Nat.le_of_ble_eq_true rfl)) dL_law_317 ⟨by show ce + 1 + 0 ≤ 603072; omega, by show sl + 8 + 0 ≤ 7198826; omega⟩) hP hS (fun H hP hS => ?_)
  refine lv_iload hx hb dL_law_320 (lv_at hl 1 rfl) ?_
  have hst := st_size hI th q1
  refine lv_icmp_eq (tgt := 327) hx hb dL_law_322 (by decide) (fun _ => ?_) (fun c9 => absurd hst.1 c9)
  refine lv_iload hx hb dL_law_327 (lv_at hl 1 rfl) ?_
  refine lv_if_ne (tgt := 344) hx hb dL_law_329 (by decide) (fun ck => ?_) (fun ck => ?_)
  · skip
    refine lv_goto (tgt := 1311) hx hb dL_law_344 (by decide) ?_
    rw [hst.2.2.1] at hP
    exact K xs ys ((f_X5_size pl rh q1).2.2.1) ((f_X6_size pm th rh q1).2.2.2) kp lp lq lr P on c1 c2 c3 ((f_X5_size pl rh q1).2.2.2) ln d7 d8 d9 d10 ((f_X6_size pm th rh q1).2.1) (oF (f_X5_size pl rh q1).1 (Int32.toInt64 (f_X5_size pl rh q1).2.1) fo) hst.2.2.2 _ _ hP (hD.addr rfl) hS ls (lv_sub hl [2, 3, 4, 5, 6] rfl)
  · skip
    refine lv_aload_n hx hb dL_law_332 rfl (lv_at hl 5 rfl) ?_
    refine lv_iconst (v := (0 : Int32)) hx hb dL_law_333 (by decide) ?_
    refine va_lald hx hb hK.1 hP 20 1 rfl rfl (by rw [vp_in_iff]; decide) dL_law_334 ?_
    refine lv_iload hx hb dL_law_335 (lv_at hl 0 rfl) ?_
    refine lv_i2l hx hb dL_law_337 rfl ?_
    refine W.lcmp hx hb dL_law_338 ?_
    have hv9 : (oF (f_X5_size pl rh q1).1 (Int32.toInt64 (f_X5_size pl rh q1).2.1) fo) (Int32.toNatClampNeg 0) = (Int32.toInt64 (f_X5_size pl rh q1).2.1) := by unfold oF; rw [if_pos ck]; exact if_pos rfl
    have hv8 : lg_cmp ((oF (f_X5_size pl rh q1).1 (Int32.toInt64 (f_X5_size pl rh q1).2.1) fo) (Int32.toNatClampNeg 0)) (Int32.toInt64 ((f_X6_size pm th rh q1).1)) = 0 := (lg_cmp_eq _ _).mpr (hv9.trans (congrArg Int32.toInt64 (hst.2.1 ck)))
    refine lv_if_eq (tgt := 344) hx hb dL_law_339 (by decide) (fun _ => ?_) (fun c9 => absurd hv8 c9)
    refine lv_goto (tgt := 1311) hx hb dL_law_344 (by decide) ?_
    rw [hst.2.2.1] at hP
    exact K xs ys ((f_X5_size pl rh q1).2.2.1) ((f_X6_size pm th rh q1).2.2.2) kp lp lq lr P on c1 c2 c3 ((f_X5_size pl rh q1).2.2.2) ln d7 d8 d9 d10 ((f_X6_size pm th rh q1).2.1) (oF (f_X5_size pl rh q1).1 (Int32.toInt64 (f_X5_size pl rh q1).2.1) fo) hst.2.2.2 _ _ hP (hD.addr rfl) hS ls (lv_sub hl [2, 3, 4, 5, 6] rfl)
set_option maxHeartbeats 8000000 in
set_option maxRecDepth 100000 in
theorem lc_2 {p : Program} {l : Launch} {e : Env} {s : State} {m : MethodId} {args : Array Value} {below : List Frame} {meth : Method} {c : Code} {Q : State → Prop} (hx : p.tables.exec = Jvm.exec) (hb : c.code = cL_law) (hml : c.maxLocals = 8) (hown : s.vm.findClass RL = some m.cls) (htH : ∀ w ∈ lw_H, w.before args s = true) {bs L : Nat} {sc : Nat → Int32} (hXs : va_X bs L sc s s.heap) (hbl : bs < s.heap.size) {A : Nat → Prop} (hbA : ¬ A bs) (hlt : l.stackTraces = false) {dC : Nat → ClassId} {dI : Nat → Nat → Nat} {a b : Nat → Nat} {cI cJ : ClassId} {sa : Nat → Nat} {o : Nat} (hK : kK (dC, dI) (tIJ cI cJ) s) (hX : kX A sa s s.heap) {ce sl : Nat} (hce : ce + 1 ≤ 603072) (hsl : sl + 8 ≤ 7198826) {x4 : Int32} (hin : ∀ k : Int32, 0 ≤ k → k ≤ 6 → vp_in (x4 + k) L) {xs ys pl pm kp : Nat → Int32} {lp lq lr : Nat → Int64} {P on c1 c2 c3 rh ln d7 d8 d9 d10 th : Int32} {fo : Nat → Int64} (hI : Inv xs ys pl pm lp lq lr P on rh ln) (q1 : Int32) (hq1 : sc (Int32.toNatClampNeg (x4 + (1 : Int32))) = q1) (q2 : Int32) (hq2 : sc (Int32.toNatClampNeg (x4 + (2 : Int32))) = q2) (K : (∀ (xs ys pl pm kp : Nat → Int32) (lp lq lr : Nat → Int64) (P on c1 c2 c3 rh ln d7 d8 d9 d10 th : Int32) (fo : Nat → Int64), Inv xs ys pl pm lp lq lr P on rh ln → ∀ (H : Heap) (locs : List Loc), va_P (dC, dI) vwCl ((wM b cI cJ xs ys pm lp lq lr th P rh on c1 c2 c3 ln) ++ ((wC a cI cJ xs ys pl kp lp lq lr P on c1 c2 c3 rh ln d7 d8 d9 d10) ++ (wO o cJ fo))) H → va_D A ((wM b cI cJ xs ys pm lp lq lr th P rh on c1 c2 c3 ln) ++ ((wC a cI cJ xs ys pl kp lp lq lr P on c1 c2 c3 rh ln d7 d8 d9 d10) ++ (wO o cJ fo))) → va_S A s.heap H locs → ∀ (ls : Array Slot), lv_has ls 8 [(0, .ref bs), (1, .ref (a 0)), (2, .ref (b 0)), (3, .ref o), (4, .int x4)] → W p l e room_1 s m args below meth c H locs (ce + 1) (sl + 8) Q (F0 m 1311 ls []))) : ∀ (H : Heap) (locs : List Loc), va_P (dC, dI) vwCl ((wM b cI cJ xs ys pm lp lq lr th P rh on c1 c2 c3 ln) ++ ((wC a cI cJ xs ys pl kp lp lq lr P on c1 c2 c3 rh ln d7 d8 d9 d10) ++ (wO o cJ fo))) H → va_D A ((wM b cI cJ xs ys pm lp lq lr th P rh on c1 c2 c3 ln) ++ ((wC a cI cJ xs ys pl kp lp lq lr P on c1 c2 c3 rh ln d7 d8 d9 d10) ++ (wO o cJ fo))) → va_S A s.heap H locs → ∀ (ls : Array Slot), lv_has ls 8 [(0, .ref bs), (1, .ref (a 0)), (2, .ref (b 0)), (3, .ref o), (4, .int x4)] → W p l e room_1 s m args below meth c H locs ce sl Q (F0 m 347 ls []) := by
  intro H locs hP hD hS ls hl
  obtain ⟨⟨hg0, hv0⟩, ⟨hr0, hh⟩, ⟨hl0, hl6⟩, hon, hbx, hby, hpl, hpm, hplP, hrel, hlnk⟩ := id hI
  have hbx6 : ∀ j : Nat, (xs j).toInt.natAbs ≤ 16384 := fun j => Nat.le_trans (hbx j) (by decide)
  have hby6 : ∀ j : Nat, (ys j).toInt.natAbs ≤ 16384 := fun j => Nat.le_trans (hby j) (by decide)
  have hts : ∀ w ∈ lw_G, w.before args s = true := fun w h => htH w (List.mem_append_right _ h)
  have hn1 : vp_in (x4 + (1 : Int32)) L := hin 1 (by decide) (by decide)
  have hn2 : vp_in (x4 + (2 : Int32)) L := hin 2 (by decide) (by decide)
  have hn3 : vp_in (x4 + (3 : Int32)) L := hin 3 (by decide) (by decide)
  have hn4 : vp_in (x4 + (4 : Int32)) L := hin 4 (by decide) (by decide)
  have hn5 : vp_in (x4 + (5 : Int32)) L := hin 5 (by decide) (by decide)
  have hn6 : vp_in (x4 + (6 : Int32)) L := hin 6 (by decide) (by decide)
  refine lv_aload_n hx hb dL_law_347 rfl (lv_at hl 1 rfl) ?_
  refine lv_aload_n hx hb dL_law_348 rfl (lv_at hl 0 rfl) ?_
  refine lv_iload hx hb dL_law_349 (lv_at hl 4 rfl) ?_
  refine lv_iconst (v := (1 : Int32)) hx hb dL_law_351 (by decide) ?_
  refine lv_iadd hx hb dL_law_352 ?_
  refine sld hq1 hx hb hXs hbl hbA hS hn1 dL_law_353 ?_
  refine lv_aload_n hx hb dL_law_354 rfl (lv_at hl 0 rfl) ?_
  refine lv_iload hx hb dL_law_355 (lv_at hl 4 rfl) ?_
  refine lv_iconst (v := (2 : Int32)) hx hb dL_law_357 (by decide) ?_
  refine lv_iadd hx hb dL_law_358 ?_
  refine sld hq2 hx hb hXs hbl hbA hS hn2 dL_law_359 ?_
  refine lv_aload_n hx hb dL_law_360 rfl (lv_at hl 3 rfl) ?_
  refine cg_i (vx_runSW (As := [.ref (a 0), .int q1, .int q2, .ref o]) (rest := []) ⟨hx, hb, hml, hown, htH⟩ (c_L_of l dC dI a cI cJ xs ys pl kp lp lq lr P on c1 c2 c3 rh ln d7 d8 d9 d10 sa hlt o fo q1 q2 hh) (vx_cwSW 4 htH (gH_S mG_7_2 mG_7_3 mG_law_init (gH_c mG_7_4 gH_H)) rfl rfl rfl hs_L_of ⟨Nat.le_of_ble_eq_true rfl, Nat.le_of_ble_eq_true rfl⟩) (xPcS hK hP.right hD.right hX hS) rfl rfl hl.1 rfl (lv_room (Nat.le_of_ble_eq_true rfl)) dL_law_361 ⟨hce, hsl⟩) (wA.sub hD.right) hS (fun H locs hP1 hk1 hS => ?_)
  have hP := jn_3 hP hD hP1 hk1
  have hD := hD.addr (w1 := ((wM b cI cJ xs ys pm lp lq lr th P rh on c1 c2 c3 ln) ++ ((wC a cI cJ xs ys ((f_X5_of pl P rh q1 q2).2.2) kp lp lq lr P on c1 c2 c3 rh ln d7 d8 d9 d10) ++ (wO o cJ (oF (f_X5_of pl P rh q1 q2).1 (Int32.toInt64 (f_X5_of pl P rh q1 q2).2.1) fo))))) rfl
  have hP : va_P (dC, dI) vwCl ((wM b cI cJ xs ys pm lp lq lr th P rh on c1 c2 c3 ln) ++ ((wC a cI cJ xs ys ((f_X5_of pl P rh q1 q2).2.2) kp lp lq lr P on c1 c2 c3 rh ln d7 d8 d9 d10) ++ (wO o cJ (oF (f_X5_of pl P rh q1 q2).1 (Int32.toInt64 (f_X5_of pl P rh q1 q2).2.1) fo)))) H := hP
  refine lv_istore (lv' := [(5, .int (f_X5_of pl P rh q1 q2).1), (0, .ref bs), (1, .ref (a 0)), (2, .ref (b 0)), (3, .ref o), (4, .int x4)]) hx hb dL_law_364 hl (by decide) rfl (fun ls hl => ?_)
  refine lv_aload_n hx hb dL_law_366 rfl (lv_at hl 3 rfl) ?_
  refine lv_aload_n hx hb dL_law_367 rfl (lv_at hl 1 rfl) ?_
  refine lv_iload hx hb dL_law_368 (lv_at hl 5 rfl) ?_
  refine lv_iconst (v := (1 : Int32)) hx hb dL_law_370 (by decide) ?_
  refine lv_iadd hx hb dL_law_371 ?_
  refine sld hq1 hx hb hXs hbl hbA hS hn1 dL_law_372 ?_
  refine lv_aload_n hx hb dL_law_373 rfl (lv_at hl 1 rfl) ?_
  refine lv_iload hx hb dL_law_374 (lv_at hl 5 rfl) ?_
  refine lv_iconst (v := (2 : Int32)) hx hb dL_law_376 (by decide) ?_
  refine lv_iadd hx hb dL_law_377 ?_
  refine sld hq2 hx hb hXs hbl hbA hS hn2 dL_law_378 ?_
  refine cw_i (va_runV (As := [.int q1, .int q2]) (rest := []) ⟨hx, hb, hml, hown, hts⟩ (c_X6_of l dC dI b cI cJ xs ys pm lp lq lr th P rh on c1 c2 c3 ln q1 q2 hh) (cwV 2 hts (gG_V mG_8_1 mG_8_2 mG_8_3 mG_1_5 (gG_c mG_8_4 gG_G)) rfl rfl rfl hd_X6_of ⟨Nat.le_of_ble_eq_true rfl, Nat.le_of_ble_eq_true rfl⟩) (wPcV (ci := 10) (q0 := 0) hK hP.left hD.left rfl rfl) rfl rfl hl.1 rfl (lv_room (Nat.le_of_ble_eq_true rfl)) dL_law_379 ⟨by show ce + 1 + 0 ≤ 603072; omega, by show sl + 8 + 0 ≤ 7198826; omega⟩) (wA.sub hD.left) hS (fun H locs hP1 hk1 hS => ?_)
  have hP := jn_1 hP hD hP1 hk1
  have hD := hD.addr (w1 := ((wM b cI cJ xs ys ((f_X6_of pm th P rh q1 q2).2.2) lp lq lr ((f_X6_of pm th P rh q1 q2).2.1) P rh on c1 c2 c3 ln) ++ ((wC a cI cJ xs ys ((f_X5_of pl P rh q1 q2).2.2) kp lp lq lr P on c1 c2 c3 rh ln d7 d8 d9 d10) ++ (wO o cJ (oF (f_X5_of pl P rh q1 q2).1 (Int32.toInt64 (f_X5_of pl P rh q1 q2).2.1) fo))))) rfl
  have hP : va_P (dC, dI) vwCl ((wM b cI cJ xs ys ((f_X6_of pm th P rh q1 q2).2.2) lp lq lr ((f_X6_of pm th P rh q1 q2).2.1) P rh on c1 c2 c3 ln) ++ ((wC a cI cJ xs ys ((f_X5_of pl P rh q1 q2).2.2) kp lp lq lr P on c1 c2 c3 rh ln d7 d8 d9 d10) ++ (wO o cJ (oF (f_X5_of pl P rh q1 q2).1 (Int32.toInt64 (f_X5_of pl P rh q1 q2).2.1) fo)))) H := hP
  refine lv_istore (lv' := [(6, .int ((f_X6_of pm th P rh q1 q2).1)), (5, .int (f_X5_of pl P rh q1 q2).1), (0, .ref bs), (1, .ref (a 0)), (2, .ref (b 0)), (3, .ref o), (4, .int x4)]) hx hb dL_law_382 hl (by decide) rfl (fun ls hl => ?_)
  refine lv_aload_n hx hb dL_law_384 rfl (lv_at hl 4 rfl) ?_
  refine cp_i (va_runV (As := []) (rest := []) ⟨hx, hb, hml, hown, hts⟩ (c_X6_thrown l dC dI b cI cJ xs ys ((f_X6_of pm th P rh q1 q2).2.2) lp lq lr ((f_X6_of pm th P rh q1 q2).2.1) P rh on c1 c2 c3 ln  ) (cwV 0 hts (gG_V mG_6_22 mG_6_23 mG_7_0 mG_1_5 (gG_c mG_7_1 gG_G)) rfl rfl rfl hd_X6_thrown ⟨Nat.le_of_ble_eq_true rfl, Nat.le_of_ble_eq_true rfl⟩) (pPcV (ci := 10) (q0 := 0) hK hP.left rfl rfl) rfl rfl hl.1 rfl (lv_room (Nat.le_of_ble_eq_true rfl)) dL_law_385 ⟨by show ce + 1 + 0 ≤ 603072; omega, by show sl + 8 + 0 ≤ 7198826; omega⟩) hP hS (fun H hP hS => ?_)
  refine lv_iload hx hb dL_law_388 (lv_at hl 1 rfl) ?_
  have hst := st_of hI th q1 q2
  refine lv_icmp_eq (tgt := 395) hx hb dL_law_390 (by decide) (fun _ => ?_) (fun c9 => absurd hst.1 c9)
  refine lv_iload hx hb dL_law_395 (lv_at hl 1 rfl) ?_
  refine lv_if_ne (tgt := 412) hx hb dL_law_397 (by decide) (fun ck => ?_) (fun ck => ?_)
  · skip
    refine lv_goto (tgt := 1311) hx hb dL_law_412 (by decide) ?_
    exact K xs ys ((f_X5_of pl P rh q1 q2).2.2) ((f_X6_of pm th P rh q1 q2).2.2) kp lp lq lr P on c1 c2 c3 rh ln d7 d8 d9 d10 ((f_X6_of pm th P rh q1 q2).2.1) (oF (f_X5_of pl P rh q1 q2).1 (Int32.toInt64 (f_X5_of pl P rh q1 q2).2.1) fo) hst.2.2 _ _ hP (hD.addr rfl) hS ls (lv_sub hl [2, 3, 4, 5, 6] rfl)
  · skip
    refine lv_aload_n hx hb dL_law_400 rfl (lv_at hl 5 rfl) ?_
    refine lv_iconst (v := (0 : Int32)) hx hb dL_law_401 (by decide) ?_
    refine va_lald hx hb hK.1 hP 20 1 rfl rfl (by rw [vp_in_iff]; decide) dL_law_402 ?_
    refine lv_iload hx hb dL_law_403 (lv_at hl 0 rfl) ?_
    refine lv_i2l hx hb dL_law_405 rfl ?_
    refine W.lcmp hx hb dL_law_406 ?_
    have hv9 : (oF (f_X5_of pl P rh q1 q2).1 (Int32.toInt64 (f_X5_of pl P rh q1 q2).2.1) fo) (Int32.toNatClampNeg 0) = (Int32.toInt64 (f_X5_of pl P rh q1 q2).2.1) := by unfold oF; rw [if_pos ck]; exact if_pos rfl
    have hv8 : lg_cmp ((oF (f_X5_of pl P rh q1 q2).1 (Int32.toInt64 (f_X5_of pl P rh q1 q2).2.1) fo) (Int32.toNatClampNeg 0)) (Int32.toInt64 ((f_X6_of pm th P rh q1 q2).1)) = 0 := (lg_cmp_eq _ _).mpr (hv9.trans (congrArg Int32.toInt64 (hst.2.1 ck)))
    refine lv_if_eq (tgt := 412) hx hb dL_law_407 (by decide) (fun _ => ?_) (fun c9 => absurd hv8 c9)
    refine lv_goto (tgt := 1311) hx hb dL_law_412 (by decide) ?_
    exact K xs ys ((f_X5_of pl P rh q1 q2).2.2) ((f_X6_of pm th P rh q1 q2).2.2) kp lp lq lr P on c1 c2 c3 rh ln d7 d8 d9 d10 ((f_X6_of pm th P rh q1 q2).2.1) (oF (f_X5_of pl P rh q1 q2).1 (Int32.toInt64 (f_X5_of pl P rh q1 q2).2.1) fo) hst.2.2 _ _ hP (hD.addr rfl) hS ls (lv_sub hl [2, 3, 4, 5, 6] rfl)
set_option maxHeartbeats 8000000 in
set_option maxRecDepth 100000 in
theorem lc_3 {p : Program} {l : Launch} {e : Env} {s : State} {m : MethodId} {args : Array Value} {below : List Frame} {meth : Method} {c : Code} {Q : State → Prop} (hx : p.tables.exec = Jvm.exec) (hb : c.code = cL_law) (hml : c.maxLocals = 8) (hown : s.vm.findClass RL = some m.cls) (htH : ∀ w ∈ lw_H, w.before args s = true) {bs L : Nat} {sc : Nat → Int32} (hXs : va_X bs L sc s s.heap) (hbl : bs < s.heap.size) {A : Nat → Prop} (hbA : ¬ A bs) (hlt : l.stackTraces = false) {dC : Nat → ClassId} {dI : Nat → Nat → Nat} {a b : Nat → Nat} {cI cJ : ClassId} {sa : Nat → Nat} {o : Nat} (hK : kK (dC, dI) (tIJ cI cJ) s) (hX : kX A sa s s.heap) {ce sl : Nat} (hce : ce + 1 ≤ 603072) (hsl : sl + 8 ≤ 7198826) {x4 : Int32} (hin : ∀ k : Int32, 0 ≤ k → k ≤ 6 → vp_in (x4 + k) L) {xs ys pl pm kp : Nat → Int32} {lp lq lr : Nat → Int64} {P on c1 c2 c3 rh ln d7 d8 d9 d10 th : Int32} {fo : Nat → Int64} (hI : Inv xs ys pl pm lp lq lr P on rh ln) (q1 : Int32) (hq1 : sc (Int32.toNatClampNeg (x4 + (1 : Int32))) = q1) (q2 : Int32) (hq2 : sc (Int32.toNatClampNeg (x4 + (2 : Int32))) = q2) (K : (∀ (xs ys pl pm kp : Nat → Int32) (lp lq lr : Nat → Int64) (P on c1 c2 c3 rh ln d7 d8 d9 d10 th : Int32) (fo : Nat → Int64), Inv xs ys pl pm lp lq lr P on rh ln → ∀ (H : Heap) (locs : List Loc), va_P (dC, dI) vwCl ((wM b cI cJ xs ys pm lp lq lr th P rh on c1 c2 c3 ln) ++ ((wC a cI cJ xs ys pl kp lp lq lr P on c1 c2 c3 rh ln d7 d8 d9 d10) ++ (wO o cJ fo))) H → va_D A ((wM b cI cJ xs ys pm lp lq lr th P rh on c1 c2 c3 ln) ++ ((wC a cI cJ xs ys pl kp lp lq lr P on c1 c2 c3 rh ln d7 d8 d9 d10) ++ (wO o cJ fo))) → va_S A s.heap H locs → ∀ (ls : Array Slot), lv_has ls 8 [(0, .ref bs), (1, .ref (a 0)), (2, .ref (b 0)), (3, .ref o), (4, .int x4)] → W p l e room_1 s m args below meth c H locs (ce + 1) (sl + 8) Q (F0 m 1311 ls []))) : ∀ (H : Heap) (locs : List Loc), va_P (dC, dI) vwCl ((wM b cI cJ xs ys pm lp lq lr th P rh on c1 c2 c3 ln) ++ ((wC a cI cJ xs ys pl kp lp lq lr P on c1 c2 c3 rh ln d7 d8 d9 d10) ++ (wO o cJ fo))) H → va_D A ((wM b cI cJ xs ys pm lp lq lr th P rh on c1 c2 c3 ln) ++ ((wC a cI cJ xs ys pl kp lp lq lr P on c1 c2 c3 rh ln d7 d8 d9 d10) ++ (wO o cJ fo))) → va_S A s.heap H locs → ∀ (ls : Array Slot), lv_has ls 8 [(0, .ref bs), (1, .ref (a 0)), (2, .ref (b 0)), (3, .ref o), (4, .int x4)] → W p l e room_1 s m args below meth c H locs ce sl Q (F0 m 415 ls []) := by
  intro H locs hP hD hS ls hl
  obtain ⟨⟨hg0, hv0⟩, ⟨hr0, hh⟩, ⟨hl0, hl6⟩, hon, hbx, hby, hpl, hpm, hplP, hrel, hlnk⟩ := id hI
  have hbx6 : ∀ j : Nat, (xs j).toInt.natAbs ≤ 16384 := fun j => Nat.le_trans (hbx j) (by decide)
  have hby6 : ∀ j : Nat, (ys j).toInt.natAbs ≤ 16384 := fun j => Nat.le_trans (hby j) (by decide)
  have hts : ∀ w ∈ lw_G, w.before args s = true := fun w h => htH w (List.mem_append_right _ h)
  have hn1 : vp_in (x4 + (1 : Int32)) L := hin 1 (by decide) (by decide)
  have hn2 : vp_in (x4 + (2 : Int32)) L := hin 2 (by decide) (by decide)
  have hn3 : vp_in (x4 + (3 : Int32)) L := hin 3 (by decide) (by decide)
  have hn4 : vp_in (x4 + (4 : Int32)) L := hin 4 (by decide) (by decide)
  have hn5 : vp_in (x4 + (5 : Int32)) L := hin 5 (by decide) (by decide)
  have hn6 : vp_in (x4 + (6 : Int32)) L := hin 6 (by decide) (by decide)
  refine lv_aload_n hx hb dL_law_415 rfl (lv_at hl 1 rfl) ?_
  refine lv_aload_n hx hb dL_law_416 rfl (lv_at hl 0 rfl) ?_
  refine lv_iload hx hb dL_law_417 (lv_at hl 4 rfl) ?_
  refine lv_iconst (v := (1 : Int32)) hx hb dL_law_419 (by decide) ?_
  refine lv_iadd hx hb dL_law_420 ?_
  refine sld hq1 hx hb hXs hbl hbA hS hn1 dL_law_421 ?_
  refine lv_aload_n hx hb dL_law_422 rfl (lv_at hl 0 rfl) ?_
  refine lv_iload hx hb dL_law_423 (lv_at hl 4 rfl) ?_
  refine lv_iconst (v := (2 : Int32)) hx hb dL_law_425 (by decide) ?_
  refine lv_iadd hx hb dL_law_426 ?_
  refine sld hq2 hx hb hXs hbl hbA hS hn2 dL_law_427 ?_
  refine lv_aload_n hx hb dL_law_428 rfl (lv_at hl 3 rfl) ?_
  refine cg_i (vx_runSW (As := [.ref (a 0), .int q1, .int q2, .ref o]) (rest := []) ⟨hx, hb, hml, hown, htH⟩ (c_L_at l dC dI a cI cJ xs ys pl kp lp lq lr P on c1 c2 c3 rh ln d7 d8 d9 d10 sa hlt o fo q1 q2 hv0 hh) (vx_cwSW 4 htH (gH_S mG_8_13 mG_8_14 mG_law_init (gH_c mG_8_15 gH_H)) rfl rfl rfl hs_L_at ⟨Nat.le_of_ble_eq_true rfl, Nat.le_of_ble_eq_true rfl⟩) (xPcS hK hP.right hD.right hX hS) rfl rfl hl.1 rfl (lv_room (Nat.le_of_ble_eq_true rfl)) dL_law_429 ⟨hce, hsl⟩) (wA.sub hD.right) hS (fun H locs hP1 hk1 hS => ?_)
  have hP := jn_3 hP hD hP1 hk1
  have hD := hD.addr (w1 := ((wM b cI cJ xs ys pm lp lq lr th P rh on c1 c2 c3 ln) ++ ((wC a cI cJ xs ys pl kp lp lq lr P on c1 c2 c3 rh ln d7 d8 d9 d10) ++ (wO o cJ (oF (f_X5_at xs ys pl P rh q1 q2).1 (Int32.toInt64 (f_X5_at xs ys pl P rh q1 q2).2) fo))))) rfl
  have hP : va_P (dC, dI) vwCl ((wM b cI cJ xs ys pm lp lq lr th P rh on c1 c2 c3 ln) ++ ((wC a cI cJ xs ys pl kp lp lq lr P on c1 c2 c3 rh ln d7 d8 d9 d10) ++ (wO o cJ (oF (f_X5_at xs ys pl P rh q1 q2).1 (Int32.toInt64 (f_X5_at xs ys pl P rh q1 q2).2) fo)))) H := hP
  refine lv_istore (lv' := [(5, .int (f_X5_at xs ys pl P rh q1 q2).1), (0, .ref bs), (1, .ref (a 0)), (2, .ref (b 0)), (3, .ref o), (4, .int x4)]) hx hb dL_law_432 hl (by decide) rfl (fun ls hl => ?_)
  refine lv_aload_n hx hb dL_law_434 rfl (lv_at hl 3 rfl) ?_
  refine lv_aload_n hx hb dL_law_435 rfl (lv_at hl 1 rfl) ?_
  refine lv_iload hx hb dL_law_436 (lv_at hl 5 rfl) ?_
  refine lv_iconst (v := (1 : Int32)) hx hb dL_law_438 (by decide) ?_
  refine lv_iadd hx hb dL_law_439 ?_
  refine sld hq1 hx hb hXs hbl hbA hS hn1 dL_law_440 ?_
  refine lv_aload_n hx hb dL_law_441 rfl (lv_at hl 1 rfl) ?_
  refine lv_iload hx hb dL_law_442 (lv_at hl 5 rfl) ?_
  refine lv_iconst (v := (2 : Int32)) hx hb dL_law_444 (by decide) ?_
  refine lv_iadd hx hb dL_law_445 ?_
  refine sld hq2 hx hb hXs hbl hbA hS hn2 dL_law_446 ?_
  refine cw_i (va_runV (As := [.int q1, .int q2]) (rest := []) ⟨hx, hb, hml, hown, hts⟩ (c_X6_at l dC dI b cI cJ xs ys pm lp lq lr th P rh on c1 c2 c3 ln q1 q2 hh hpm) (cwV 2 hts (gG_V mG_9_3 mG_9_4 mG_9_5 mG_1_5 (gG_c mG_9_6 gG_G)) rfl rfl rfl hd_X6_at ⟨Nat.le_of_ble_eq_true rfl, Nat.le_of_ble_eq_true rfl⟩) (wPcV (ci := 10) (q0 := 0) hK hP.left hD.left rfl rfl) rfl rfl hl.1 rfl (lv_room (Nat.le_of_ble_eq_true rfl)) dL_law_447 ⟨by show ce + 1 + 0 ≤ 603072; omega, by show sl + 8 + 0 ≤ 7198826; omega⟩) (wA.sub hD.left) hS (fun H locs hP1 hk1 hS => ?_)
  have hP := jn_1 hP hD hP1 hk1
  have hD := hD.addr (w1 := ((wM b cI cJ xs ys pm lp lq lr ((f_X6_at xs ys pm th rh q1 q2).2) P rh on c1 c2 c3 ln) ++ ((wC a cI cJ xs ys pl kp lp lq lr P on c1 c2 c3 rh ln d7 d8 d9 d10) ++ (wO o cJ (oF (f_X5_at xs ys pl P rh q1 q2).1 (Int32.toInt64 (f_X5_at xs ys pl P rh q1 q2).2) fo))))) rfl
  have hP : va_P (dC, dI) vwCl ((wM b cI cJ xs ys pm lp lq lr ((f_X6_at xs ys pm th rh q1 q2).2) P rh on c1 c2 c3 ln) ++ ((wC a cI cJ xs ys pl kp lp lq lr P on c1 c2 c3 rh ln d7 d8 d9 d10) ++ (wO o cJ (oF (f_X5_at xs ys pl P rh q1 q2).1 (Int32.toInt64 (f_X5_at xs ys pl P rh q1 q2).2) fo)))) H := hP
  refine lv_istore (lv' := [(6, .int ((f_X6_at xs ys pm th rh q1 q2).1)), (5, .int (f_X5_at xs ys pl P rh q1 q2).1), (0, .ref bs), (1, .ref (a 0)), (2, .ref (b 0)), (3, .ref o), (4, .int x4)]) hx hb dL_law_450 hl (by decide) rfl (fun ls hl => ?_)
  refine lv_aload_n hx hb dL_law_452 rfl (lv_at hl 4 rfl) ?_
  refine cp_i (va_runV (As := []) (rest := []) ⟨hx, hb, hml, hown, hts⟩ (c_X6_thrown l dC dI b cI cJ xs ys pm lp lq lr ((f_X6_at xs ys pm th rh q1 q2).2) P rh on c1 c2 c3 ln  ) (cwV 0 hts (gG_V mG_6_22 mG_6_23 mG_7_0 mG_1_5 (gG_c mG_7_1 gG_G)) rfl rfl rfl hd_X6_thrown ⟨Nat.le_of_ble_eq_true rfl, Nat.le_of_ble_eq_true rfl⟩) (pPcV (ci := 10) (q0 := 0) hK hP.left rfl rfl) rfl rfl hl.1 rfl (lv_room (Nat.le_of_ble_eq_true rfl)) dL_law_453 ⟨by show ce + 1 + 0 ≤ 603072; omega, by show sl + 8 + 0 ≤ 7198826; omega⟩) hP hS (fun H hP hS => ?_)
  refine lv_iload hx hb dL_law_456 (lv_at hl 1 rfl) ?_
  have hst := st_at hI th q1 q2
  refine lv_icmp_eq (tgt := 463) hx hb dL_law_458 (by decide) (fun _ => ?_) (fun c9 => absurd hst.1 c9)
  refine lv_iload hx hb dL_law_463 (lv_at hl 1 rfl) ?_
  refine lv_if_ne (tgt := 480) hx hb dL_law_465 (by decide) (fun ck => ?_) (fun ck => ?_)
  · skip
    refine lv_goto (tgt := 1311) hx hb dL_law_480 (by decide) ?_
    exact K xs ys pl pm kp lp lq lr P on c1 c2 c3 rh ln d7 d8 d9 d10 ((f_X6_at xs ys pm th rh q1 q2).2) (oF (f_X5_at xs ys pl P rh q1 q2).1 (Int32.toInt64 (f_X5_at xs ys pl P rh q1 q2).2) fo) hI _ _ hP (hD.addr rfl) hS ls (lv_sub hl [2, 3, 4, 5, 6] rfl)
  · skip
    refine lv_aload_n hx hb dL_law_468 rfl (lv_at hl 5 rfl) ?_
    refine lv_iconst (v := (0 : Int32)) hx hb dL_law_469 (by decide) ?_
    refine va_lald hx hb hK.1 hP 20 1 rfl rfl (by rw [vp_in_iff]; decide) dL_law_470 ?_
    refine lv_iload hx hb dL_law_471 (lv_at hl 0 rfl) ?_
    refine lv_i2l hx hb dL_law_473 rfl ?_
    refine W.lcmp hx hb dL_law_474 ?_
    have hv9 : (oF (f_X5_at xs ys pl P rh q1 q2).1 (Int32.toInt64 (f_X5_at xs ys pl P rh q1 q2).2) fo) (Int32.toNatClampNeg 0) = (Int32.toInt64 (f_X5_at xs ys pl P rh q1 q2).2) := by unfold oF; rw [if_pos ck]; exact if_pos rfl
    have hv8 : lg_cmp ((oF (f_X5_at xs ys pl P rh q1 q2).1 (Int32.toInt64 (f_X5_at xs ys pl P rh q1 q2).2) fo) (Int32.toNatClampNeg 0)) (Int32.toInt64 ((f_X6_at xs ys pm th rh q1 q2).1)) = 0 := (lg_cmp_eq _ _).mpr (hv9.trans (congrArg Int32.toInt64 (hst.2 ck)))
    refine lv_if_eq (tgt := 480) hx hb dL_law_475 (by decide) (fun _ => ?_) (fun c9 => absurd hv8 c9)
    refine lv_goto (tgt := 1311) hx hb dL_law_480 (by decide) ?_
    exact K xs ys pl pm kp lp lq lr P on c1 c2 c3 rh ln d7 d8 d9 d10 ((f_X6_at xs ys pm th rh q1 q2).2) (oF (f_X5_at xs ys pl P rh q1 q2).1 (Int32.toInt64 (f_X5_at xs ys pl P rh q1 q2).2) fo) hI _ _ hP (hD.addr rfl) hS ls (lv_sub hl [2, 3, 4, 5, 6] rfl)
set_option maxHeartbeats 8000000 in
set_option maxRecDepth 100000 in
theorem lc_4 {p : Program} {l : Launch} {e : Env} {s : State} {m : MethodId} {args : Array Value} {below : List Frame} {meth : Method} {c : Code} {Q : State → Prop} (hx : p.tables.exec = Jvm.exec) (hb : c.code = cL_law) (hml : c.maxLocals = 8) (hown : s.vm.findClass RL = some m.cls) (htH : ∀ w ∈ lw_H, w.before args s = true) {bs L : Nat} {sc : Nat → Int32} (hXs : va_X bs L sc s s.heap) (hbl : bs < s.heap.size) {A : Nat → Prop} (hbA : ¬ A bs) (hlt : l.stackTraces = false) {dC : Nat → ClassId} {dI : Nat → Nat → Nat} {a b : Nat → Nat} {cI cJ : ClassId} {sa : Nat → Nat} {o : Nat} (hK : kK (dC, dI) (tIJ cI cJ) s) (hX : kX A sa s s.heap) {ce sl : Nat} (hce : ce + 1 ≤ 603072) (hsl : sl + 8 ≤ 7198826) {x4 : Int32} (hin : ∀ k : Int32, 0 ≤ k → k ≤ 6 → vp_in (x4 + k) L) {xs ys pl pm kp : Nat → Int32} {lp lq lr : Nat → Int64} {P on c1 c2 c3 rh ln d7 d8 d9 d10 th : Int32} {fo : Nat → Int64} (hI : Inv xs ys pl pm lp lq lr P on rh ln) (q1 : Int32) (hq1 : sc (Int32.toNatClampNeg (x4 + (1 : Int32))) = q1) (q2 : Int32) (hq2 : sc (Int32.toNatClampNeg (x4 + (2 : Int32))) = q2) (q3 : Int32) (hq3 : sc (Int32.toNatClampNeg (x4 + (3 : Int32))) = q3) (K : (∀ (xs ys pl pm kp : Nat → Int32) (lp lq lr : Nat → Int64) (P on c1 c2 c3 rh ln d7 d8 d9 d10 th : Int32) (fo : Nat → Int64), Inv xs ys pl pm lp lq lr P on rh ln → ∀ (H : Heap) (locs : List Loc), va_P (dC, dI) vwCl ((wM b cI cJ xs ys pm lp lq lr th P rh on c1 c2 c3 ln) ++ ((wC a cI cJ xs ys pl kp lp lq lr P on c1 c2 c3 rh ln d7 d8 d9 d10) ++ (wO o cJ fo))) H → va_D A ((wM b cI cJ xs ys pm lp lq lr th P rh on c1 c2 c3 ln) ++ ((wC a cI cJ xs ys pl kp lp lq lr P on c1 c2 c3 rh ln d7 d8 d9 d10) ++ (wO o cJ fo))) → va_S A s.heap H locs → ∀ (ls : Array Slot), lv_has ls 8 [(0, .ref bs), (1, .ref (a 0)), (2, .ref (b 0)), (3, .ref o), (4, .int x4)] → W p l e room_1 s m args below meth c H locs (ce + 1) (sl + 8) Q (F0 m 1311 ls []))) : ∀ (H : Heap) (locs : List Loc), va_P (dC, dI) vwCl ((wM b cI cJ xs ys pm lp lq lr th P rh on c1 c2 c3 ln) ++ ((wC a cI cJ xs ys pl kp lp lq lr P on c1 c2 c3 rh ln d7 d8 d9 d10) ++ (wO o cJ fo))) H → va_D A ((wM b cI cJ xs ys pm lp lq lr th P rh on c1 c2 c3 ln) ++ ((wC a cI cJ xs ys pl kp lp lq lr P on c1 c2 c3 rh ln d7 d8 d9 d10) ++ (wO o cJ fo))) → va_S A s.heap H locs → ∀ (ls : Array Slot), lv_has ls 8 [(0, .ref bs), (1, .ref (a 0)), (2, .ref (b 0)), (3, .ref o), (4, .int x4)] → W p l e room_1 s m args below meth c H locs ce sl Q (F0 m 483 ls []) := by
  intro H locs hP hD hS ls hl
  obtain ⟨⟨hg0, hv0⟩, ⟨hr0, hh⟩, ⟨hl0, hl6⟩, hon, hbx, hby, hpl, hpm, hplP, hrel, hlnk⟩ := id hI
  have hbx6 : ∀ j : Nat, (xs j).toInt.natAbs ≤ 16384 := fun j => Nat.le_trans (hbx j) (by decide)
  have hby6 : ∀ j : Nat, (ys j).toInt.natAbs ≤ 16384 := fun j => Nat.le_trans (hby j) (by decide)
  have hts : ∀ w ∈ lw_G, w.before args s = true := fun w h => htH w (List.mem_append_right _ h)
  have hn1 : vp_in (x4 + (1 : Int32)) L := hin 1 (by decide) (by decide)
  have hn2 : vp_in (x4 + (2 : Int32)) L := hin 2 (by decide) (by decide)
  have hn3 : vp_in (x4 + (3 : Int32)) L := hin 3 (by decide) (by decide)
  have hn4 : vp_in (x4 + (4 : Int32)) L := hin 4 (by decide) (by decide)
  have hn5 : vp_in (x4 + (5 : Int32)) L := hin 5 (by decide) (by decide)
  have hn6 : vp_in (x4 + (6 : Int32)) L := hin 6 (by decide) (by decide)
  refine lv_aload_n hx hb dL_law_483 rfl (lv_at hl 1 rfl) ?_
  refine lv_aload_n hx hb dL_law_484 rfl (lv_at hl 0 rfl) ?_
  refine lv_iload hx hb dL_law_485 (lv_at hl 4 rfl) ?_
  refine lv_iconst (v := (1 : Int32)) hx hb dL_law_487 (by decide) ?_
  refine lv_iadd hx hb dL_law_488 ?_
  refine sld hq1 hx hb hXs hbl hbA hS hn1 dL_law_489 ?_
  refine lv_aload_n hx hb dL_law_490 rfl (lv_at hl 0 rfl) ?_
  refine lv_iload hx hb dL_law_491 (lv_at hl 4 rfl) ?_
  refine lv_iconst (v := (2 : Int32)) hx hb dL_law_493 (by decide) ?_
  refine lv_iadd hx hb dL_law_494 ?_
  refine sld hq2 hx hb hXs hbl hbA hS hn2 dL_law_495 ?_
  refine lv_aload_n hx hb dL_law_496 rfl (lv_at hl 0 rfl) ?_
  refine lv_iload hx hb dL_law_497 (lv_at hl 4 rfl) ?_
  refine lv_iconst (v := (3 : Int32)) hx hb dL_law_499 (by decide) ?_
  refine lv_iadd hx hb dL_law_500 ?_
  refine sld hq3 hx hb hXs hbl hbA hS hn3 dL_law_501 ?_
  refine cw_i (va_runV (As := [.int q1, .int q2, .int q3]) (rest := []) ⟨hx, hb, hml, hown, hts⟩ (c_X5_side l dC dI a cI cJ xs ys pl kp lp lq lr P on c1 c2 c3 rh ln d7 d8 d9 d10 q1 q2 q3 hv0 hbx6 hby6) (cwV 3 hts (gG_V mG_9_7 mG_9_8 mG_9_9 mG_1_2 (gG_c mG_9_10 gG_G)) rfl rfl rfl hd_X5_side ⟨Nat.le_of_ble_eq_true rfl, Nat.le_of_ble_eq_true rfl⟩) (wPcV (ci := 9) (q0 := 0) hK hP.right.left hD.right.left rfl rfl) rfl rfl hl.1 rfl (lv_room (Nat.le_of_ble_eq_true rfl)) dL_law_502 ⟨by show ce + 0 ≤ 603072; omega, by show sl + 0 ≤ 7198826; omega⟩) (wA.sub hD.right.left) hS (fun H locs hP1 hk1 hS => ?_)
  have hP := jn_2 hP hD hP1 hk1
  have hD := hD.addr (w1 := ((wM b cI cJ xs ys pm lp lq lr th P rh on c1 c2 c3 ln) ++ ((wC a cI cJ xs ys pl kp lp lq lr P on ((f_X5_side xs ys P on c1 c2 c3 q1 q2 q3).2.1) ((f_X5_side xs ys P on c1 c2 c3 q1 q2 q3).2.2.1) ((f_X5_side xs ys P on c1 c2 c3 q1 q2 q3).2.2.2) rh ln d7 d8 d9 d10) ++ (wO o cJ fo)))) rfl
  have hP : va_P (dC, dI) vwCl ((wM b cI cJ xs ys pm lp lq lr th P rh on c1 c2 c3 ln) ++ ((wC a cI cJ xs ys pl kp lp lq lr P on ((f_X5_side xs ys P on c1 c2 c3 q1 q2 q3).2.1) ((f_X5_side xs ys P on c1 c2 c3 q1 q2 q3).2.2.1) ((f_X5_side xs ys P on c1 c2 c3 q1 q2 q3).2.2.2) rh ln d7 d8 d9 d10) ++ (wO o cJ fo))) H := hP
  refine lv_aload_n hx hb dL_law_505 rfl (lv_at hl 2 rfl) ?_
  refine lv_aload_n hx hb dL_law_506 rfl (lv_at hl 0 rfl) ?_
  refine lv_iload hx hb dL_law_507 (lv_at hl 4 rfl) ?_
  refine lv_iconst (v := (1 : Int32)) hx hb dL_law_509 (by decide) ?_
  refine lv_iadd hx hb dL_law_510 ?_
  refine sld hq1 hx hb hXs hbl hbA hS hn1 dL_law_511 ?_
  refine lv_aload_n hx hb dL_law_512 rfl (lv_at hl 0 rfl) ?_
  refine lv_iload hx hb dL_law_513 (lv_at hl 4 rfl) ?_
  refine lv_iconst (v := (2 : Int32)) hx hb dL_law_515 (by decide) ?_
  refine lv_iadd hx hb dL_law_516 ?_
  refine sld hq2 hx hb hXs hbl hbA hS hn2 dL_law_517 ?_
  refine lv_aload_n hx hb dL_law_518 rfl (lv_at hl 0 rfl) ?_
  refine lv_iload hx hb dL_law_519 (lv_at hl 4 rfl) ?_
  refine lv_iconst (v := (3 : Int32)) hx hb dL_law_521 (by decide) ?_
  refine lv_iadd hx hb dL_law_522 ?_
  refine sld hq3 hx hb hXs hbl hbA hS hn3 dL_law_523 ?_
  refine cw_i (va_runV (As := [.int q1, .int q2, .int q3]) (rest := [.int ((f_X5_side xs ys P on c1 c2 c3 q1 q2 q3).1)]) ⟨hx, hb, hml, hown, hts⟩ (c_X6_side l dC dI b cI cJ xs ys pm lp lq lr th P rh on c1 c2 c3 ln q1 q2 q3 hv0 hbx6 hby6) (cwV 3 hts (gG_V mG_11_20 mG_11_21 mG_11_22 mG_1_5 (gG_c mG_11_23 gG_G)) rfl rfl rfl hd_X6_side ⟨Nat.le_of_ble_eq_true rfl, Nat.le_of_ble_eq_true rfl⟩) (wPcV (ci := 10) (q0 := 0) hK hP.left hD.left rfl rfl) rfl rfl hl.1 rfl (lv_room (Nat.le_of_ble_eq_true rfl)) dL_law_524 ⟨by show ce + 0 ≤ 603072; omega, by show sl + 0 ≤ 7198826; omega⟩) (wA.sub hD.left) hS (fun H locs hP1 hk1 hS => ?_)
  have hP := jn_1 hP hD hP1 hk1
  have hD := hD.addr (w1 := ((wM b cI cJ xs ys pm lp lq lr ((f_X6_side xs ys th P on c1 c2 c3 q1 q2 q3).2.1) P rh on ((f_X6_side xs ys th P on c1 c2 c3 q1 q2 q3).2.2.1) ((f_X6_side xs ys th P on c1 c2 c3 q1 q2 q3).2.2.2.1) ((f_X6_side xs ys th P on c1 c2 c3 q1 q2 q3).2.2.2.2) ln) ++ ((wC a cI cJ xs ys pl kp lp lq lr P on ((f_X5_side xs ys P on c1 c2 c3 q1 q2 q3).2.1) ((f_X5_side xs ys P on c1 c2 c3 q1 q2 q3).2.2.1) ((f_X5_side xs ys P on c1 c2 c3 q1 q2 q3).2.2.2) rh ln d7 d8 d9 d10) ++ (wO o cJ fo)))) rfl
  have hP : va_P (dC, dI) vwCl ((wM b cI cJ xs ys pm lp lq lr ((f_X6_side xs ys th P on c1 c2 c3 q1 q2 q3).2.1) P rh on ((f_X6_side xs ys th P on c1 c2 c3 q1 q2 q3).2.2.1) ((f_X6_side xs ys th P on c1 c2 c3 q1 q2 q3).2.2.2.1) ((f_X6_side xs ys th P on c1 c2 c3 q1 q2 q3).2.2.2.2) ln) ++ ((wC a cI cJ xs ys pl kp lp lq lr P on ((f_X5_side xs ys P on c1 c2 c3 q1 q2 q3).2.1) ((f_X5_side xs ys P on c1 c2 c3 q1 q2 q3).2.2.1) ((f_X5_side xs ys P on c1 c2 c3 q1 q2 q3).2.2.2) rh ln d7 d8 d9 d10) ++ (wO o cJ fo))) H := hP
  have hst := st_side hI th c1 c2 c3 q1 q2 q3
  refine lv_icmp_eq (tgt := 1311) hx hb dL_law_527 (by decide) (fun _ => ?_) (fun c9 => absurd hst.1 c9)
  rw [hst.2.1] at hP
  rw [hst.2.2.1] at hP
  rw [hst.2.2.2] at hP
  refine W.widen (k := ce + 1) (n := sl + 8) (by omega) (by omega) ?_
  exact K xs ys pl pm kp lp lq lr P on ((f_X5_side xs ys P on c1 c2 c3 q1 q2 q3).2.1) ((f_X5_side xs ys P on c1 c2 c3 q1 q2 q3).2.2.1) ((f_X5_side xs ys P on c1 c2 c3 q1 q2 q3).2.2.2) rh ln d7 d8 d9 d10 ((f_X6_side xs ys th P on c1 c2 c3 q1 q2 q3).2.1) fo hI _ _ hP (hD.addr rfl) hS ls (lv_sub hl [0, 1, 2, 3, 4] rfl)
set_option maxHeartbeats 8000000 in
set_option maxRecDepth 100000 in
theorem lc_5 {p : Program} {l : Launch} {e : Env} {s : State} {m : MethodId} {args : Array Value} {below : List Frame} {meth : Method} {c : Code} {Q : State → Prop} (hx : p.tables.exec = Jvm.exec) (hb : c.code = cL_law) (hml : c.maxLocals = 8) (hown : s.vm.findClass RL = some m.cls) (htH : ∀ w ∈ lw_H, w.before args s = true) {bs L : Nat} {sc : Nat → Int32} (hXs : va_X bs L sc s s.heap) (hbl : bs < s.heap.size) {A : Nat → Prop} (hbA : ¬ A bs) (hlt : l.stackTraces = false) {dC : Nat → ClassId} {dI : Nat → Nat → Nat} {a b : Nat → Nat} {cI cJ : ClassId} {sa : Nat → Nat} {o : Nat} (hK : kK (dC, dI) (tIJ cI cJ) s) (hX : kX A sa s s.heap) {ce sl : Nat} (hce : ce + 1 ≤ 603072) (hsl : sl + 8 ≤ 7198826) {x4 : Int32} (hin : ∀ k : Int32, 0 ≤ k → k ≤ 6 → vp_in (x4 + k) L) {xs ys pl pm kp : Nat → Int32} {lp lq lr : Nat → Int64} {P on c1 c2 c3 rh ln d7 d8 d9 d10 th : Int32} {fo : Nat → Int64} (hI : Inv xs ys pl pm lp lq lr P on rh ln) (q1 : Int32) (hq1 : sc (Int32.toNatClampNeg (x4 + (1 : Int32))) = q1) (q2 : Int32) (hq2 : sc (Int32.toNatClampNeg (x4 + (2 : Int32))) = q2) (q3 : Int32) (hq3 : sc (Int32.toNatClampNeg (x4 + (3 : Int32))) = q3) (q4 : Int32) (hq4 : sc (Int32.toNatClampNeg (x4 + (4 : Int32))) = q4) (K : (∀ (xs ys pl pm kp : Nat → Int32) (lp lq lr : Nat → Int64) (P on c1 c2 c3 rh ln d7 d8 d9 d10 th : Int32) (fo : Nat → Int64), Inv xs ys pl pm lp lq lr P on rh ln → ∀ (H : Heap) (locs : List Loc), va_P (dC, dI) vwCl ((wM b cI cJ xs ys pm lp lq lr th P rh on c1 c2 c3 ln) ++ ((wC a cI cJ xs ys pl kp lp lq lr P on c1 c2 c3 rh ln d7 d8 d9 d10) ++ (wO o cJ fo))) H → va_D A ((wM b cI cJ xs ys pm lp lq lr th P rh on c1 c2 c3 ln) ++ ((wC a cI cJ xs ys pl kp lp lq lr P on c1 c2 c3 rh ln d7 d8 d9 d10) ++ (wO o cJ fo))) → va_S A s.heap H locs → ∀ (ls : Array Slot), lv_has ls 8 [(0, .ref bs), (1, .ref (a 0)), (2, .ref (b 0)), (3, .ref o), (4, .int x4)] → W p l e room_1 s m args below meth c H locs (ce + 1) (sl + 8) Q (F0 m 1311 ls []))) : ∀ (H : Heap) (locs : List Loc), va_P (dC, dI) vwCl ((wM b cI cJ xs ys pm lp lq lr th P rh on c1 c2 c3 ln) ++ ((wC a cI cJ xs ys pl kp lp lq lr P on c1 c2 c3 rh ln d7 d8 d9 d10) ++ (wO o cJ fo))) H → va_D A ((wM b cI cJ xs ys pm lp lq lr th P rh on c1 c2 c3 ln) ++ ((wC a cI cJ xs ys pl kp lp lq lr P on c1 c2 c3 rh ln d7 d8 d9 d10) ++ (wO o cJ fo))) → va_S A s.heap H locs → ∀ (ls : Array Slot), lv_has ls 8 [(0, .ref bs), (1, .ref (a 0)), (2, .ref (b 0)), (3, .ref o), (4, .int x4)] → W p l e room_1 s m args below meth c H locs ce sl Q (F0 m 532 ls []) := by
  intro H locs hP hD hS ls hl
  obtain ⟨⟨hg0, hv0⟩, ⟨hr0, hh⟩, ⟨hl0, hl6⟩, hon, hbx, hby, hpl, hpm, hplP, hrel, hlnk⟩ := id hI
  have hbx6 : ∀ j : Nat, (xs j).toInt.natAbs ≤ 16384 := fun j => Nat.le_trans (hbx j) (by decide)
  have hby6 : ∀ j : Nat, (ys j).toInt.natAbs ≤ 16384 := fun j => Nat.le_trans (hby j) (by decide)
  have hts : ∀ w ∈ lw_G, w.before args s = true := fun w h => htH w (List.mem_append_right _ h)
  have hn1 : vp_in (x4 + (1 : Int32)) L := hin 1 (by decide) (by decide)
  have hn2 : vp_in (x4 + (2 : Int32)) L := hin 2 (by decide) (by decide)
  have hn3 : vp_in (x4 + (3 : Int32)) L := hin 3 (by decide) (by decide)
  have hn4 : vp_in (x4 + (4 : Int32)) L := hin 4 (by decide) (by decide)
  have hn5 : vp_in (x4 + (5 : Int32)) L := hin 5 (by decide) (by decide)
  have hn6 : vp_in (x4 + (6 : Int32)) L := hin 6 (by decide) (by decide)
  refine lv_aload_n hx hb dL_law_532 rfl (lv_at hl 1 rfl) ?_
  refine lv_aload_n hx hb dL_law_533 rfl (lv_at hl 0 rfl) ?_
  refine lv_iload hx hb dL_law_534 (lv_at hl 4 rfl) ?_
  refine lv_iconst (v := (1 : Int32)) hx hb dL_law_536 (by decide) ?_
  refine lv_iadd hx hb dL_law_537 ?_
  refine sld hq1 hx hb hXs hbl hbA hS hn1 dL_law_538 ?_
  refine lv_aload_n hx hb dL_law_539 rfl (lv_at hl 0 rfl) ?_
  refine lv_iload hx hb dL_law_540 (lv_at hl 4 rfl) ?_
  refine lv_iconst (v := (2 : Int32)) hx hb dL_law_542 (by decide) ?_
  refine lv_iadd hx hb dL_law_543 ?_
  refine sld hq2 hx hb hXs hbl hbA hS hn2 dL_law_544 ?_
  refine lv_aload_n hx hb dL_law_545 rfl (lv_at hl 0 rfl) ?_
  refine lv_iload hx hb dL_law_546 (lv_at hl 4 rfl) ?_
  refine lv_iconst (v := (3 : Int32)) hx hb dL_law_548 (by decide) ?_
  refine lv_iadd hx hb dL_law_549 ?_
  refine sld hq3 hx hb hXs hbl hbA hS hn3 dL_law_550 ?_
  refine lv_aload_n hx hb dL_law_551 rfl (lv_at hl 0 rfl) ?_
  refine lv_iload hx hb dL_law_552 (lv_at hl 4 rfl) ?_
  refine lv_iconst (v := (4 : Int32)) hx hb dL_law_554 (by decide) ?_
  refine lv_iadd hx hb dL_law_555 ?_
  refine sld hq4 hx hb hXs hbl hbA hS hn4 dL_law_556 ?_
  refine cw_i (va_runV (As := [.int q1, .int q2, .int q3, .int q4]) (rest := []) ⟨hx, hb, hml, hown, hts⟩ (c_X5_circle l dC dI a cI cJ xs ys pl kp lp lq lr P on c1 c2 c3 rh ln d7 d8 d9 d10 q1 q2 q3 q4 hv0 hbx6 hby6) (cwV 4 hts (gG_V mG_13_18 mG_13_19 mG_13_20 mG_1_2 (gG_c mG_13_21 gG_G)) rfl rfl rfl hd_X5_circle ⟨Nat.le_of_ble_eq_true rfl, Nat.le_of_ble_eq_true rfl⟩) (wPcV (ci := 9) (q0 := 0) hK hP.right.left hD.right.left rfl rfl) rfl rfl hl.1 rfl (lv_room (Nat.le_of_ble_eq_true rfl)) dL_law_557 ⟨by show ce + 0 ≤ 603072; omega, by show sl + 0 ≤ 7198826; omega⟩) (wA.sub hD.right.left) hS (fun H locs hP1 hk1 hS => ?_)
  have hP := jn_2 hP hD hP1 hk1
  have hD := hD.addr (w1 := ((wM b cI cJ xs ys pm lp lq lr th P rh on c1 c2 c3 ln) ++ ((wC a cI cJ xs ys pl kp lp lq lr P on ((f_X5_circle xs ys P on c1 c2 c3 q1 q2 q3 q4).2.1) ((f_X5_circle xs ys P on c1 c2 c3 q1 q2 q3 q4).2.2.1) ((f_X5_circle xs ys P on c1 c2 c3 q1 q2 q3 q4).2.2.2) rh ln d7 d8 d9 d10) ++ (wO o cJ fo)))) rfl
  have hP : va_P (dC, dI) vwCl ((wM b cI cJ xs ys pm lp lq lr th P rh on c1 c2 c3 ln) ++ ((wC a cI cJ xs ys pl kp lp lq lr P on ((f_X5_circle xs ys P on c1 c2 c3 q1 q2 q3 q4).2.1) ((f_X5_circle xs ys P on c1 c2 c3 q1 q2 q3 q4).2.2.1) ((f_X5_circle xs ys P on c1 c2 c3 q1 q2 q3 q4).2.2.2) rh ln d7 d8 d9 d10) ++ (wO o cJ fo))) H := hP
  refine lv_aload_n hx hb dL_law_560 rfl (lv_at hl 2 rfl) ?_
  refine lv_aload_n hx hb dL_law_561 rfl (lv_at hl 0 rfl) ?_
  refine lv_iload hx hb dL_law_562 (lv_at hl 4 rfl) ?_
  refine lv_iconst (v := (1 : Int32)) hx hb dL_law_564 (by decide) ?_
  refine lv_iadd hx hb dL_law_565 ?_
  refine sld hq1 hx hb hXs hbl hbA hS hn1 dL_law_566 ?_
  refine lv_aload_n hx hb dL_law_567 rfl (lv_at hl 0 rfl) ?_
  refine lv_iload hx hb dL_law_568 (lv_at hl 4 rfl) ?_
  refine lv_iconst (v := (2 : Int32)) hx hb dL_law_570 (by decide) ?_
  refine lv_iadd hx hb dL_law_571 ?_
  refine sld hq2 hx hb hXs hbl hbA hS hn2 dL_law_572 ?_
  refine lv_aload_n hx hb dL_law_573 rfl (lv_at hl 0 rfl) ?_
  refine lv_iload hx hb dL_law_574 (lv_at hl 4 rfl) ?_
  refine lv_iconst (v := (3 : Int32)) hx hb dL_law_576 (by decide) ?_
  refine lv_iadd hx hb dL_law_577 ?_
  refine sld hq3 hx hb hXs hbl hbA hS hn3 dL_law_578 ?_
  refine lv_aload_n hx hb dL_law_579 rfl (lv_at hl 0 rfl) ?_
  refine lv_iload hx hb dL_law_580 (lv_at hl 4 rfl) ?_
  refine lv_iconst (v := (4 : Int32)) hx hb dL_law_582 (by decide) ?_
  refine lv_iadd hx hb dL_law_583 ?_
  refine sld hq4 hx hb hXs hbl hbA hS hn4 dL_law_584 ?_
  refine cw_i (va_runV (As := [.int q1, .int q2, .int q3, .int q4]) (rest := [.int ((f_X5_circle xs ys P on c1 c2 c3 q1 q2 q3 q4).1)]) ⟨hx, hb, hml, hown, hts⟩ (c_X6_circle l dC dI b cI cJ xs ys pm lp lq lr th P rh on c1 c2 c3 ln q1 q2 q3 q4 hv0 hbx6 hby6) (cwV 4 hts (gG_V mG_14_8 mG_14_9 mG_14_10 mG_1_5 (gG_c mG_14_11 gG_G)) rfl rfl rfl hd_X6_circle ⟨Nat.le_of_ble_eq_true rfl, Nat.le_of_ble_eq_true rfl⟩) (wPcV (ci := 10) (q0 := 0) hK hP.left hD.left rfl rfl) rfl rfl hl.1 rfl (lv_room (Nat.le_of_ble_eq_true rfl)) dL_law_585 ⟨by show ce + 0 ≤ 603072; omega, by show sl + 0 ≤ 7198826; omega⟩) (wA.sub hD.left) hS (fun H locs hP1 hk1 hS => ?_)
  have hP := jn_1 hP hD hP1 hk1
  have hD := hD.addr (w1 := ((wM b cI cJ xs ys pm lp lq lr ((f_X6_circle xs ys th P on c1 c2 c3 q1 q2 q3 q4).2.1) P rh on ((f_X6_circle xs ys th P on c1 c2 c3 q1 q2 q3 q4).2.2.1) ((f_X6_circle xs ys th P on c1 c2 c3 q1 q2 q3 q4).2.2.2.1) ((f_X6_circle xs ys th P on c1 c2 c3 q1 q2 q3 q4).2.2.2.2) ln) ++ ((wC a cI cJ xs ys pl kp lp lq lr P on ((f_X5_circle xs ys P on c1 c2 c3 q1 q2 q3 q4).2.1) ((f_X5_circle xs ys P on c1 c2 c3 q1 q2 q3 q4).2.2.1) ((f_X5_circle xs ys P on c1 c2 c3 q1 q2 q3 q4).2.2.2) rh ln d7 d8 d9 d10) ++ (wO o cJ fo)))) rfl
  have hP : va_P (dC, dI) vwCl ((wM b cI cJ xs ys pm lp lq lr ((f_X6_circle xs ys th P on c1 c2 c3 q1 q2 q3 q4).2.1) P rh on ((f_X6_circle xs ys th P on c1 c2 c3 q1 q2 q3 q4).2.2.1) ((f_X6_circle xs ys th P on c1 c2 c3 q1 q2 q3 q4).2.2.2.1) ((f_X6_circle xs ys th P on c1 c2 c3 q1 q2 q3 q4).2.2.2.2) ln) ++ ((wC a cI cJ xs ys pl kp lp lq lr P on ((f_X5_circle xs ys P on c1 c2 c3 q1 q2 q3 q4).2.1) ((f_X5_circle xs ys P on c1 c2 c3 q1 q2 q3 q4).2.2.1) ((f_X5_circle xs ys P on c1 c2 c3 q1 q2 q3 q4).2.2.2) rh ln d7 d8 d9 d10) ++ (wO o cJ fo))) H := hP
  have hst := st_circle hI th c1 c2 c3 q1 q2 q3 q4
  refine lv_icmp_eq (tgt := 1311) hx hb dL_law_588 (by decide) (fun _ => ?_) (fun c9 => absurd hst.1 c9)
  rw [hst.2.1] at hP
  rw [hst.2.2.1] at hP
  rw [hst.2.2.2] at hP
  refine W.widen (k := ce + 1) (n := sl + 8) (by omega) (by omega) ?_
  exact K xs ys pl pm kp lp lq lr P on ((f_X5_circle xs ys P on c1 c2 c3 q1 q2 q3 q4).2.1) ((f_X5_circle xs ys P on c1 c2 c3 q1 q2 q3 q4).2.2.1) ((f_X5_circle xs ys P on c1 c2 c3 q1 q2 q3 q4).2.2.2) rh ln d7 d8 d9 d10 ((f_X6_circle xs ys th P on c1 c2 c3 q1 q2 q3 q4).2.1) fo hI _ _ hP (hD.addr rfl) hS ls (lv_sub hl [0, 1, 2, 3, 4] rfl)
set_option maxHeartbeats 8000000 in
set_option maxRecDepth 100000 in
theorem lc_6 {p : Program} {l : Launch} {e : Env} {s : State} {m : MethodId} {args : Array Value} {below : List Frame} {meth : Method} {c : Code} {Q : State → Prop} (hx : p.tables.exec = Jvm.exec) (hb : c.code = cL_law) (hml : c.maxLocals = 8) (hown : s.vm.findClass RL = some m.cls) (htH : ∀ w ∈ lw_H, w.before args s = true) {bs L : Nat} {sc : Nat → Int32} (hXs : va_X bs L sc s s.heap) (hbl : bs < s.heap.size) {A : Nat → Prop} (hbA : ¬ A bs) (hlt : l.stackTraces = false) {dC : Nat → ClassId} {dI : Nat → Nat → Nat} {a b : Nat → Nat} {cI cJ : ClassId} {sa : Nat → Nat} {o : Nat} (hK : kK (dC, dI) (tIJ cI cJ) s) (hX : kX A sa s s.heap) {ce sl : Nat} (hce : ce + 1 ≤ 603072) (hsl : sl + 8 ≤ 7198826) {x4 : Int32} (hin : ∀ k : Int32, 0 ≤ k → k ≤ 6 → vp_in (x4 + k) L) {xs ys pl pm kp : Nat → Int32} {lp lq lr : Nat → Int64} {P on c1 c2 c3 rh ln d7 d8 d9 d10 th : Int32} {fo : Nat → Int64} (hI : Inv xs ys pl pm lp lq lr P on rh ln) (q1 : Int32) (hq1 : sc (Int32.toNatClampNeg (x4 + (1 : Int32))) = q1) (K : (∀ (xs ys pl pm kp : Nat → Int32) (lp lq lr : Nat → Int64) (P on c1 c2 c3 rh ln d7 d8 d9 d10 th : Int32) (fo : Nat → Int64), Inv xs ys pl pm lp lq lr P on rh ln → ∀ (H : Heap) (locs : List Loc), va_P (dC, dI) vwCl ((wM b cI cJ xs ys pm lp lq lr th P rh on c1 c2 c3 ln) ++ ((wC a cI cJ xs ys pl kp lp lq lr P on c1 c2 c3 rh ln d7 d8 d9 d10) ++ (wO o cJ fo))) H → va_D A ((wM b cI cJ xs ys pm lp lq lr th P rh on c1 c2 c3 ln) ++ ((wC a cI cJ xs ys pl kp lp lq lr P on c1 c2 c3 rh ln d7 d8 d9 d10) ++ (wO o cJ fo))) → va_S A s.heap H locs → ∀ (ls : Array Slot), lv_has ls 8 [(0, .ref bs), (1, .ref (a 0)), (2, .ref (b 0)), (3, .ref o), (4, .int x4)] → W p l e room_1 s m args below meth c H locs (ce + 1) (sl + 8) Q (F0 m 1311 ls []))) : ∀ (H : Heap) (locs : List Loc), va_P (dC, dI) vwCl ((wM b cI cJ xs ys pm lp lq lr th P rh on c1 c2 c3 ln) ++ ((wC a cI cJ xs ys pl kp lp lq lr P on c1 c2 c3 rh ln d7 d8 d9 d10) ++ (wO o cJ fo))) H → va_D A ((wM b cI cJ xs ys pm lp lq lr th P rh on c1 c2 c3 ln) ++ ((wC a cI cJ xs ys pl kp lp lq lr P on c1 c2 c3 rh ln d7 d8 d9 d10) ++ (wO o cJ fo))) → va_S A s.heap H locs → ∀ (ls : Array Slot), lv_has ls 8 [(0, .ref bs), (1, .ref (a 0)), (2, .ref (b 0)), (3, .ref o), (4, .int x4)] → W p l e room_1 s m args below meth c H locs ce sl Q (F0 m 593 ls []) := by
  intro H locs hP hD hS ls hl
  obtain ⟨⟨hg0, hv0⟩, ⟨hr0, hh⟩, ⟨hl0, hl6⟩, hon, hbx, hby, hpl, hpm, hplP, hrel, hlnk⟩ := id hI
  have hbx6 : ∀ j : Nat, (xs j).toInt.natAbs ≤ 16384 := fun j => Nat.le_trans (hbx j) (by decide)
  have hby6 : ∀ j : Nat, (ys j).toInt.natAbs ≤ 16384 := fun j => Nat.le_trans (hby j) (by decide)
  have hts : ∀ w ∈ lw_G, w.before args s = true := fun w h => htH w (List.mem_append_right _ h)
  have hn1 : vp_in (x4 + (1 : Int32)) L := hin 1 (by decide) (by decide)
  have hn2 : vp_in (x4 + (2 : Int32)) L := hin 2 (by decide) (by decide)
  have hn3 : vp_in (x4 + (3 : Int32)) L := hin 3 (by decide) (by decide)
  have hn4 : vp_in (x4 + (4 : Int32)) L := hin 4 (by decide) (by decide)
  have hn5 : vp_in (x4 + (5 : Int32)) L := hin 5 (by decide) (by decide)
  have hn6 : vp_in (x4 + (6 : Int32)) L := hin 6 (by decide) (by decide)
  refine lv_aload_n hx hb dL_law_593 rfl (lv_at hl 1 rfl) ?_
  refine lv_aload_n hx hb dL_law_594 rfl (lv_at hl 0 rfl) ?_
  refine lv_iload hx hb dL_law_595 (lv_at hl 4 rfl) ?_
  refine lv_iconst (v := (1 : Int32)) hx hb dL_law_597 (by decide) ?_
  refine lv_iadd hx hb dL_law_598 ?_
  refine sld hq1 hx hb hXs hbl hbA hS hn1 dL_law_599 ?_
  refine lv_if_eq (tgt := 607) hx hb dL_law_600 (by decide) (fun cq => ?_) (fun cq => ?_)
  · skip
    refine lv_iconst (v := (0 : Int32)) hx hb dL_law_607 (by decide) ?_
    have hz : (0 : Int32) = 0 ∨ (0 : Int32) = 1 := by decide
    refine cw_i (va_runV (As := [.int (0 : Int32)]) (rest := []) ⟨hx, hb, hml, hown, hts⟩ (c_X5_filter l dC dI a cI cJ xs ys pl kp lp lq lr P on c1 c2 c3 rh ln d7 d8 d9 d10 (0 : Int32) hz) (cwV 1 hts (gG_V mG_14_21 mG_14_22 mG_14_23 mG_1_2 (gG_c mG_15_0 gG_G)) rfl rfl rfl hd_X5_filter ⟨Nat.le_of_ble_eq_true rfl, Nat.le_of_ble_eq_true rfl⟩) (wPcV (ci := 9) (q0 := 0) hK hP.right.left hD.right.left rfl rfl) rfl rfl hl.1 rfl (lv_room (Nat.le_of_ble_eq_true rfl)) dL_law_608 ⟨by show ce + 0 ≤ 603072; omega, by show sl + 0 ≤ 7198826; omega⟩) (wA.sub hD.right.left) hS (fun H locs hP1 hk1 hS => ?_)
    have hP := jn_2 hP hD hP1 hk1
    have hD := hD.addr (w1 := ((wM b cI cJ xs ys pm lp lq lr th P rh on c1 c2 c3 ln) ++ ((wC a cI cJ xs ys pl kp lp lq lr P ((f_X5_filter on (0 : Int32)).2) c1 c2 c3 rh ln d7 d8 d9 d10) ++ (wO o cJ fo)))) rfl
    have hP : va_P (dC, dI) vwCl ((wM b cI cJ xs ys pm lp lq lr th P rh on c1 c2 c3 ln) ++ ((wC a cI cJ xs ys pl kp lp lq lr P ((f_X5_filter on (0 : Int32)).2) c1 c2 c3 rh ln d7 d8 d9 d10) ++ (wO o cJ fo))) H := hP
    refine lv_aload_n hx hb dL_law_611 rfl (lv_at hl 2 rfl) ?_
    refine lv_aload_n hx hb dL_law_612 rfl (lv_at hl 0 rfl) ?_
    refine lv_iload hx hb dL_law_613 (lv_at hl 4 rfl) ?_
    refine lv_iconst (v := (1 : Int32)) hx hb dL_law_615 (by decide) ?_
    refine lv_iadd hx hb dL_law_616 ?_
    refine sld hq1 hx hb hXs hbl hbA hS hn1 dL_law_617 ?_
    refine lv_if_eq (tgt := 625) hx hb dL_law_618 (by decide) (fun _ => ?_) (fun c9 => absurd cq c9)
    refine lv_iconst (v := (0 : Int32)) hx hb dL_law_625 (by decide) ?_
    have hz : (0 : Int32) = 0 ∨ (0 : Int32) = 1 := by decide
    refine cw_i (va_runV (As := [.int (0 : Int32)]) (rest := [.int ((f_X5_filter on (0 : Int32)).1)]) ⟨hx, hb, hml, hown, hts⟩ (c_X6_filter l dC dI b cI cJ xs ys pm lp lq lr th P rh on c1 c2 c3 ln (0 : Int32) hz) (cwV 1 hts (gG_V mG_15_2 mG_15_3 mG_15_4 mG_1_5 (gG_c mG_15_5 gG_G)) rfl rfl rfl hd_X6_filter ⟨Nat.le_of_ble_eq_true rfl, Nat.le_of_ble_eq_true rfl⟩) (wPcV (ci := 10) (q0 := 0) hK hP.left hD.left rfl rfl) rfl rfl hl.1 rfl (lv_room (Nat.le_of_ble_eq_true rfl)) dL_law_626 ⟨by show ce + 0 ≤ 603072; omega, by show sl + 0 ≤ 7198826; omega⟩) (wA.sub hD.left) hS (fun H locs hP1 hk1 hS => ?_)
    have hP := jn_1 hP hD hP1 hk1
    have hD := hD.addr (w1 := ((wM b cI cJ xs ys pm lp lq lr ((f_X6_filter th on (0 : Int32)).2.1) P rh ((f_X6_filter th on (0 : Int32)).2.2) c1 c2 c3 ln) ++ ((wC a cI cJ xs ys pl kp lp lq lr P ((f_X5_filter on (0 : Int32)).2) c1 c2 c3 rh ln d7 d8 d9 d10) ++ (wO o cJ fo)))) rfl
    have hP : va_P (dC, dI) vwCl ((wM b cI cJ xs ys pm lp lq lr ((f_X6_filter th on (0 : Int32)).2.1) P rh ((f_X6_filter th on (0 : Int32)).2.2) c1 c2 c3 ln) ++ ((wC a cI cJ xs ys pl kp lp lq lr P ((f_X5_filter on (0 : Int32)).2) c1 c2 c3 rh ln d7 d8 d9 d10) ++ (wO o cJ fo))) H := hP
    have hst := st_filter hI th (p1 := (0 : Int32)) (by decide)
    refine lv_icmp_eq (tgt := 1311) hx hb dL_law_629 (by decide) (fun _ => ?_) (fun c9 => absurd hst.1 c9)
    rw [hst.2.1] at hP
    refine W.widen (k := ce + 1) (n := sl + 8) (by omega) (by omega) ?_
    exact K xs ys pl pm kp lp lq lr P ((f_X5_filter on (0 : Int32)).2) c1 c2 c3 rh ln d7 d8 d9 d10 ((f_X6_filter th on (0 : Int32)).2.1) fo hst.2.2 _ _ hP (hD.addr rfl) hS ls (lv_sub hl [0, 1, 2, 3, 4] rfl)
  · skip
    refine lv_iconst (v := (1 : Int32)) hx hb dL_law_603 (by decide) ?_
    refine lv_goto (tgt := 608) hx hb dL_law_604 (by decide) ?_
    have hz : (1 : Int32) = 0 ∨ (1 : Int32) = 1 := by decide
    refine cw_i (va_runV (As := [.int (1 : Int32)]) (rest := []) ⟨hx, hb, hml, hown, hts⟩ (c_X5_filter l dC dI a cI cJ xs ys pl kp lp lq lr P on c1 c2 c3 rh ln d7 d8 d9 d10 (1 : Int32) hz) (cwV 1 hts (gG_V mG_14_21 mG_14_22 mG_14_23 mG_1_2 (gG_c mG_15_0 gG_G)) rfl rfl rfl hd_X5_filter ⟨Nat.le_of_ble_eq_true rfl, Nat.le_of_ble_eq_true rfl⟩) (wPcV (ci := 9) (q0 := 0) hK hP.right.left hD.right.left rfl rfl) rfl rfl hl.1 rfl (lv_room (Nat.le_of_ble_eq_true rfl)) dL_law_608 ⟨by show ce + 0 ≤ 603072; omega, by show sl + 0 ≤ 7198826; omega⟩) (wA.sub hD.right.left) hS (fun H locs hP1 hk1 hS => ?_)
    have hP := jn_2 hP hD hP1 hk1
    have hD := hD.addr (w1 := ((wM b cI cJ xs ys pm lp lq lr th P rh on c1 c2 c3 ln) ++ ((wC a cI cJ xs ys pl kp lp lq lr P ((f_X5_filter on (1 : Int32)).2) c1 c2 c3 rh ln d7 d8 d9 d10) ++ (wO o cJ fo)))) rfl
    have hP : va_P (dC, dI) vwCl ((wM b cI cJ xs ys pm lp lq lr th P rh on c1 c2 c3 ln) ++ ((wC a cI cJ xs ys pl kp lp lq lr P ((f_X5_filter on (1 : Int32)).2) c1 c2 c3 rh ln d7 d8 d9 d10) ++ (wO o cJ fo))) H := hP
    refine lv_aload_n hx hb dL_law_611 rfl (lv_at hl 2 rfl) ?_
    refine lv_aload_n hx hb dL_law_612 rfl (lv_at hl 0 rfl) ?_
    refine lv_iload hx hb dL_law_613 (lv_at hl 4 rfl) ?_
    refine lv_iconst (v := (1 : Int32)) hx hb dL_law_615 (by decide) ?_
    refine lv_iadd hx hb dL_law_616 ?_
    refine sld hq1 hx hb hXs hbl hbA hS hn1 dL_law_617 ?_
    refine lv_if_eq (tgt := 625) hx hb dL_law_618 (by decide) (fun c9 => absurd c9 cq) (fun _ => ?_)
    refine lv_iconst (v := (1 : Int32)) hx hb dL_law_621 (by decide) ?_
    refine lv_goto (tgt := 626) hx hb dL_law_622 (by decide) ?_
    have hz : (1 : Int32) = 0 ∨ (1 : Int32) = 1 := by decide
    refine cw_i (va_runV (As := [.int (1 : Int32)]) (rest := [.int ((f_X5_filter on (1 : Int32)).1)]) ⟨hx, hb, hml, hown, hts⟩ (c_X6_filter l dC dI b cI cJ xs ys pm lp lq lr th P rh on c1 c2 c3 ln (1 : Int32) hz) (cwV 1 hts (gG_V mG_15_2 mG_15_3 mG_15_4 mG_1_5 (gG_c mG_15_5 gG_G)) rfl rfl rfl hd_X6_filter ⟨Nat.le_of_ble_eq_true rfl, Nat.le_of_ble_eq_true rfl⟩) (wPcV (ci := 10) (q0 := 0) hK hP.left hD.left rfl rfl) rfl rfl hl.1 rfl (lv_room (Nat.le_of_ble_eq_true rfl)) dL_law_626 ⟨by show ce + 0 ≤ 603072; omega, by show sl + 0 ≤ 7198826; omega⟩) (wA.sub hD.left) hS (fun H locs hP1 hk1 hS => ?_)
    have hP := jn_1 hP hD hP1 hk1
    have hD := hD.addr (w1 := ((wM b cI cJ xs ys pm lp lq lr ((f_X6_filter th on (1 : Int32)).2.1) P rh ((f_X6_filter th on (1 : Int32)).2.2) c1 c2 c3 ln) ++ ((wC a cI cJ xs ys pl kp lp lq lr P ((f_X5_filter on (1 : Int32)).2) c1 c2 c3 rh ln d7 d8 d9 d10) ++ (wO o cJ fo)))) rfl
    have hP : va_P (dC, dI) vwCl ((wM b cI cJ xs ys pm lp lq lr ((f_X6_filter th on (1 : Int32)).2.1) P rh ((f_X6_filter th on (1 : Int32)).2.2) c1 c2 c3 ln) ++ ((wC a cI cJ xs ys pl kp lp lq lr P ((f_X5_filter on (1 : Int32)).2) c1 c2 c3 rh ln d7 d8 d9 d10) ++ (wO o cJ fo))) H := hP
    have hst := st_filter hI th (p1 := (1 : Int32)) (by decide)
    refine lv_icmp_eq (tgt := 1311) hx hb dL_law_629 (by decide) (fun _ => ?_) (fun c9 => absurd hst.1 c9)
    rw [hst.2.1] at hP
    refine W.widen (k := ce + 1) (n := sl + 8) (by omega) (by omega) ?_
    exact K xs ys pl pm kp lp lq lr P ((f_X5_filter on (1 : Int32)).2) c1 c2 c3 rh ln d7 d8 d9 d10 ((f_X6_filter th on (1 : Int32)).2.1) fo hst.2.2 _ _ hP (hD.addr rfl) hS ls (lv_sub hl [0, 1, 2, 3, 4] rfl)
set_option maxHeartbeats 8000000 in
set_option maxRecDepth 100000 in
theorem lc_7 {p : Program} {l : Launch} {e : Env} {s : State} {m : MethodId} {args : Array Value} {below : List Frame} {meth : Method} {c : Code} {Q : State → Prop} (hx : p.tables.exec = Jvm.exec) (hb : c.code = cL_law) (hml : c.maxLocals = 8) (hown : s.vm.findClass RL = some m.cls) (htH : ∀ w ∈ lw_H, w.before args s = true) {bs L : Nat} {sc : Nat → Int32} (hXs : va_X bs L sc s s.heap) (hbl : bs < s.heap.size) {A : Nat → Prop} (hbA : ¬ A bs) (hlt : l.stackTraces = false) {dC : Nat → ClassId} {dI : Nat → Nat → Nat} {a b : Nat → Nat} {cI cJ : ClassId} {sa : Nat → Nat} {o : Nat} (hK : kK (dC, dI) (tIJ cI cJ) s) (hX : kX A sa s s.heap) {ce sl : Nat} (hce : ce + 1 ≤ 603072) (hsl : sl + 8 ≤ 7198826) {x4 : Int32} (hin : ∀ k : Int32, 0 ≤ k → k ≤ 6 → vp_in (x4 + k) L) {xs ys pl pm kp : Nat → Int32} {lp lq lr : Nat → Int64} {P on c1 c2 c3 rh ln d7 d8 d9 d10 th : Int32} {fo : Nat → Int64} (hI : Inv xs ys pl pm lp lq lr P on rh ln) (q1 : Int32) (hq1 : sc (Int32.toNatClampNeg (x4 + (1 : Int32))) = q1) (K : (∀ (xs ys pl pm kp : Nat → Int32) (lp lq lr : Nat → Int64) (P on c1 c2 c3 rh ln d7 d8 d9 d10 th : Int32) (fo : Nat → Int64), Inv xs ys pl pm lp lq lr P on rh ln → ∀ (H : Heap) (locs : List Loc), va_P (dC, dI) vwCl ((wM b cI cJ xs ys pm lp lq lr th P rh on c1 c2 c3 ln) ++ ((wC a cI cJ xs ys pl kp lp lq lr P on c1 c2 c3 rh ln d7 d8 d9 d10) ++ (wO o cJ fo))) H → va_D A ((wM b cI cJ xs ys pm lp lq lr th P rh on c1 c2 c3 ln) ++ ((wC a cI cJ xs ys pl kp lp lq lr P on c1 c2 c3 rh ln d7 d8 d9 d10) ++ (wO o cJ fo))) → va_S A s.heap H locs → ∀ (ls : Array Slot), lv_has ls 8 [(0, .ref bs), (1, .ref (a 0)), (2, .ref (b 0)), (3, .ref o), (4, .int x4)] → W p l e room_1 s m args below meth c H locs (ce + 1) (sl + 8) Q (F0 m 1311 ls []))) : ∀ (H : Heap) (locs : List Loc), va_P (dC, dI) vwCl ((wM b cI cJ xs ys pm lp lq lr th P rh on c1 c2 c3 ln) ++ ((wC a cI cJ xs ys pl kp lp lq lr P on c1 c2 c3 rh ln d7 d8 d9 d10) ++ (wO o cJ fo))) H → va_D A ((wM b cI cJ xs ys pm lp lq lr th P rh on c1 c2 c3 ln) ++ ((wC a cI cJ xs ys pl kp lp lq lr P on c1 c2 c3 rh ln d7 d8 d9 d10) ++ (wO o cJ fo))) → va_S A s.heap H locs → ∀ (ls : Array Slot), lv_has ls 8 [(0, .ref bs), (1, .ref (a 0)), (2, .ref (b 0)), (3, .ref o), (4, .int x4)] → W p l e room_1 s m args below meth c H locs ce sl Q (F0 m 634 ls []) := by
  intro H locs hP hD hS ls hl
  obtain ⟨⟨hg0, hv0⟩, ⟨hr0, hh⟩, ⟨hl0, hl6⟩, hon, hbx, hby, hpl, hpm, hplP, hrel, hlnk⟩ := id hI
  have hbx6 : ∀ j : Nat, (xs j).toInt.natAbs ≤ 16384 := fun j => Nat.le_trans (hbx j) (by decide)
  have hby6 : ∀ j : Nat, (ys j).toInt.natAbs ≤ 16384 := fun j => Nat.le_trans (hby j) (by decide)
  have hts : ∀ w ∈ lw_G, w.before args s = true := fun w h => htH w (List.mem_append_right _ h)
  have hn1 : vp_in (x4 + (1 : Int32)) L := hin 1 (by decide) (by decide)
  have hn2 : vp_in (x4 + (2 : Int32)) L := hin 2 (by decide) (by decide)
  have hn3 : vp_in (x4 + (3 : Int32)) L := hin 3 (by decide) (by decide)
  have hn4 : vp_in (x4 + (4 : Int32)) L := hin 4 (by decide) (by decide)
  have hn5 : vp_in (x4 + (5 : Int32)) L := hin 5 (by decide) (by decide)
  have hn6 : vp_in (x4 + (6 : Int32)) L := hin 6 (by decide) (by decide)
  refine lv_aload_n hx hb dL_law_634 rfl (lv_at hl 1 rfl) ?_
  refine lv_aload_n hx hb dL_law_635 rfl (lv_at hl 0 rfl) ?_
  refine lv_iload hx hb dL_law_636 (lv_at hl 4 rfl) ?_
  refine lv_iconst (v := (1 : Int32)) hx hb dL_law_638 (by decide) ?_
  refine lv_iadd hx hb dL_law_639 ?_
  refine sld hq1 hx hb hXs hbl hbA hS hn1 dL_law_640 ?_
  refine cp_i (va_runV (As := [.int q1]) (rest := []) ⟨hx, hb, hml, hown, hts⟩ (c_X5_decided l dC dI a cI cJ xs ys pl kp lp lq lr P on c1 c2 c3 rh ln d7 d8 d9 d10 q1 ) (cwV 1 hts (gG_V mG_15_6 mG_15_7 mG_15_8 mG_1_2 (gG_c mG_15_9 gG_G)) rfl rfl rfl hd_X5_decided ⟨Nat.le_of_ble_eq_true rfl, Nat.le_of_ble_eq_true rfl⟩) (pPcV (ci := 9) (q0 := 0) hK hP.right.left rfl rfl) rfl rfl hl.1 rfl (lv_room (Nat.le_of_ble_eq_true rfl)) dL_law_641 ⟨by show ce + 0 ≤ 603072; omega, by show sl + 0 ≤ 7198826; omega⟩) hP hS (fun H hP hS => ?_)
  refine lv_aload_n hx hb dL_law_644 rfl (lv_at hl 2 rfl) ?_
  refine lv_aload_n hx hb dL_law_645 rfl (lv_at hl 0 rfl) ?_
  refine lv_iload hx hb dL_law_646 (lv_at hl 4 rfl) ?_
  refine lv_iconst (v := (1 : Int32)) hx hb dL_law_648 (by decide) ?_
  refine lv_iadd hx hb dL_law_649 ?_
  refine sld hq1 hx hb hXs hbl hbA hS hn1 dL_law_650 ?_
  refine cw_i (va_runV (As := [.int q1]) (rest := [.int (f_X5_decided c1 c2 c3 q1)]) ⟨hx, hb, hml, hown, hts⟩ (c_X6_decided l dC dI b cI cJ xs ys pm lp lq lr th P rh on c1 c2 c3 ln q1 ) (cwV 1 hts (gG_V mG_15_13 mG_15_14 mG_15_15 mG_1_5 (gG_c mG_15_16 gG_G)) rfl rfl rfl hd_X6_decided ⟨Nat.le_of_ble_eq_true rfl, Nat.le_of_ble_eq_true rfl⟩) (wPcV (ci := 10) (q0 := 0) hK hP.left hD.left rfl rfl) rfl rfl hl.1 rfl (lv_room (Nat.le_of_ble_eq_true rfl)) dL_law_651 ⟨by show ce + 0 ≤ 603072; omega, by show sl + 0 ≤ 7198826; omega⟩) (wA.sub hD.left) hS (fun H locs hP1 hk1 hS => ?_)
  have hP := jn_1 hP hD hP1 hk1
  have hD := hD.addr (w1 := ((wM b cI cJ xs ys pm lp lq lr ((f_X6_decided th c1 c2 c3 q1).2) P rh on c1 c2 c3 ln) ++ ((wC a cI cJ xs ys pl kp lp lq lr P on c1 c2 c3 rh ln d7 d8 d9 d10) ++ (wO o cJ fo)))) rfl
  have hP : va_P (dC, dI) vwCl ((wM b cI cJ xs ys pm lp lq lr ((f_X6_decided th c1 c2 c3 q1).2) P rh on c1 c2 c3 ln) ++ ((wC a cI cJ xs ys pl kp lp lq lr P on c1 c2 c3 rh ln d7 d8 d9 d10) ++ (wO o cJ fo))) H := hP
  have hst := st_decided hI th c1 c2 c3 q1
  refine lv_icmp_eq (tgt := 1311) hx hb dL_law_654 (by decide) (fun _ => ?_) (fun c9 => absurd hst c9)
  refine W.widen (k := ce + 1) (n := sl + 8) (by omega) (by omega) ?_
  exact K xs ys pl pm kp lp lq lr P on c1 c2 c3 rh ln d7 d8 d9 d10 ((f_X6_decided th c1 c2 c3 q1).2) fo hI _ _ hP (hD.addr rfl) hS ls (lv_sub hl [0, 1, 2, 3, 4] rfl)
set_option maxHeartbeats 8000000 in
set_option maxRecDepth 100000 in
theorem lc_8 {p : Program} {l : Launch} {e : Env} {s : State} {m : MethodId} {args : Array Value} {below : List Frame} {meth : Method} {c : Code} {Q : State → Prop} (hx : p.tables.exec = Jvm.exec) (hb : c.code = cL_law) (hml : c.maxLocals = 8) (hown : s.vm.findClass RL = some m.cls) (htH : ∀ w ∈ lw_H, w.before args s = true) {bs L : Nat} {sc : Nat → Int32} (hXs : va_X bs L sc s s.heap) (hbl : bs < s.heap.size) {A : Nat → Prop} (hbA : ¬ A bs) (hlt : l.stackTraces = false) {dC : Nat → ClassId} {dI : Nat → Nat → Nat} {a b : Nat → Nat} {cI cJ : ClassId} {sa : Nat → Nat} {o : Nat} (hK : kK (dC, dI) (tIJ cI cJ) s) (hX : kX A sa s s.heap) {ce sl : Nat} (hce : ce + 1 ≤ 603072) (hsl : sl + 8 ≤ 7198826) {x4 : Int32} (hin : ∀ k : Int32, 0 ≤ k → k ≤ 6 → vp_in (x4 + k) L) {xs ys pl pm kp : Nat → Int32} {lp lq lr : Nat → Int64} {P on c1 c2 c3 rh ln d7 d8 d9 d10 th : Int32} {fo : Nat → Int64} (hI : Inv xs ys pl pm lp lq lr P on rh ln) (q1 : Int32) (hq1 : sc (Int32.toNatClampNeg (x4 + (1 : Int32))) = q1) (q2 : Int32) (hq2 : sc (Int32.toNatClampNeg (x4 + (2 : Int32))) = q2) (q3 : Int32) (hq3 : sc (Int32.toNatClampNeg (x4 + (3 : Int32))) = q3) (K : (∀ (xs ys pl pm kp : Nat → Int32) (lp lq lr : Nat → Int64) (P on c1 c2 c3 rh ln d7 d8 d9 d10 th : Int32) (fo : Nat → Int64), Inv xs ys pl pm lp lq lr P on rh ln → ∀ (H : Heap) (locs : List Loc), va_P (dC, dI) vwCl ((wM b cI cJ xs ys pm lp lq lr th P rh on c1 c2 c3 ln) ++ ((wC a cI cJ xs ys pl kp lp lq lr P on c1 c2 c3 rh ln d7 d8 d9 d10) ++ (wO o cJ fo))) H → va_D A ((wM b cI cJ xs ys pm lp lq lr th P rh on c1 c2 c3 ln) ++ ((wC a cI cJ xs ys pl kp lp lq lr P on c1 c2 c3 rh ln d7 d8 d9 d10) ++ (wO o cJ fo))) → va_S A s.heap H locs → ∀ (ls : Array Slot), lv_has ls 8 [(0, .ref bs), (1, .ref (a 0)), (2, .ref (b 0)), (3, .ref o), (4, .int x4)] → W p l e room_1 s m args below meth c H locs (ce + 1) (sl + 8) Q (F0 m 1311 ls []))) : ∀ (H : Heap) (locs : List Loc), va_P (dC, dI) vwCl ((wM b cI cJ xs ys pm lp lq lr th P rh on c1 c2 c3 ln) ++ ((wC a cI cJ xs ys pl kp lp lq lr P on c1 c2 c3 rh ln d7 d8 d9 d10) ++ (wO o cJ fo))) H → va_D A ((wM b cI cJ xs ys pm lp lq lr th P rh on c1 c2 c3 ln) ++ ((wC a cI cJ xs ys pl kp lp lq lr P on c1 c2 c3 rh ln d7 d8 d9 d10) ++ (wO o cJ fo))) → va_S A s.heap H locs → ∀ (ls : Array Slot), lv_has ls 8 [(0, .ref bs), (1, .ref (a 0)), (2, .ref (b 0)), (3, .ref o), (4, .int x4)] → W p l e room_1 s m args below meth c H locs ce sl Q (F0 m 659 ls []) := by
  intro H locs hP hD hS ls hl
  obtain ⟨⟨hg0, hv0⟩, ⟨hr0, hh⟩, ⟨hl0, hl6⟩, hon, hbx, hby, hpl, hpm, hplP, hrel, hlnk⟩ := id hI
  have hbx6 : ∀ j : Nat, (xs j).toInt.natAbs ≤ 16384 := fun j => Nat.le_trans (hbx j) (by decide)
  have hby6 : ∀ j : Nat, (ys j).toInt.natAbs ≤ 16384 := fun j => Nat.le_trans (hby j) (by decide)
  have hts : ∀ w ∈ lw_G, w.before args s = true := fun w h => htH w (List.mem_append_right _ h)
  have hn1 : vp_in (x4 + (1 : Int32)) L := hin 1 (by decide) (by decide)
  have hn2 : vp_in (x4 + (2 : Int32)) L := hin 2 (by decide) (by decide)
  have hn3 : vp_in (x4 + (3 : Int32)) L := hin 3 (by decide) (by decide)
  have hn4 : vp_in (x4 + (4 : Int32)) L := hin 4 (by decide) (by decide)
  have hn5 : vp_in (x4 + (5 : Int32)) L := hin 5 (by decide) (by decide)
  have hn6 : vp_in (x4 + (6 : Int32)) L := hin 6 (by decide) (by decide)
  refine lv_aload_n hx hb dL_law_659 rfl (lv_at hl 1 rfl) ?_
  refine lv_aload_n hx hb dL_law_660 rfl (lv_at hl 0 rfl) ?_
  refine lv_iload hx hb dL_law_661 (lv_at hl 4 rfl) ?_
  refine lv_iconst (v := (1 : Int32)) hx hb dL_law_663 (by decide) ?_
  refine lv_iadd hx hb dL_law_664 ?_
  refine sld hq1 hx hb hXs hbl hbA hS hn1 dL_law_665 ?_
  refine lv_aload_n hx hb dL_law_666 rfl (lv_at hl 0 rfl) ?_
  refine lv_iload hx hb dL_law_667 (lv_at hl 4 rfl) ?_
  refine lv_iconst (v := (2 : Int32)) hx hb dL_law_669 (by decide) ?_
  refine lv_iadd hx hb dL_law_670 ?_
  refine sld hq2 hx hb hXs hbl hbA hS hn2 dL_law_671 ?_
  refine lv_aload_n hx hb dL_law_672 rfl (lv_at hl 0 rfl) ?_
  refine lv_iload hx hb dL_law_673 (lv_at hl 4 rfl) ?_
  refine lv_iconst (v := (3 : Int32)) hx hb dL_law_675 (by decide) ?_
  refine lv_iadd hx hb dL_law_676 ?_
  refine sld hq3 hx hb hXs hbl hbA hS hn3 dL_law_677 ?_
  refine cp_i (va_runV (As := [.int q1, .int q2, .int q3]) (rest := []) ⟨hx, hb, hml, hown, hts⟩ (c_X5_between l dC dI a cI cJ xs ys pl kp lp lq lr P on c1 c2 c3 rh ln d7 d8 d9 d10 q1 q2 q3 hv0) (cwV 3 hts (gG_V mG_15_17 mG_15_18 mG_15_19 mG_1_2 (gG_c mG_15_20 gG_G)) rfl rfl rfl hd_X5_between ⟨Nat.le_of_ble_eq_true rfl, Nat.le_of_ble_eq_true rfl⟩) (pPcV (ci := 9) (q0 := 0) hK hP.right.left rfl rfl) rfl rfl hl.1 rfl (lv_room (Nat.le_of_ble_eq_true rfl)) dL_law_678 ⟨by show ce + 0 ≤ 603072; omega, by show sl + 0 ≤ 7198826; omega⟩) hP hS (fun H hP hS => ?_)
  refine lv_aload_n hx hb dL_law_681 rfl (lv_at hl 2 rfl) ?_
  refine lv_aload_n hx hb dL_law_682 rfl (lv_at hl 0 rfl) ?_
  refine lv_iload hx hb dL_law_683 (lv_at hl 4 rfl) ?_
  refine lv_iconst (v := (1 : Int32)) hx hb dL_law_685 (by decide) ?_
  refine lv_iadd hx hb dL_law_686 ?_
  refine sld hq1 hx hb hXs hbl hbA hS hn1 dL_law_687 ?_
  refine lv_aload_n hx hb dL_law_688 rfl (lv_at hl 0 rfl) ?_
  refine lv_iload hx hb dL_law_689 (lv_at hl 4 rfl) ?_
  refine lv_iconst (v := (2 : Int32)) hx hb dL_law_691 (by decide) ?_
  refine lv_iadd hx hb dL_law_692 ?_
  refine sld hq2 hx hb hXs hbl hbA hS hn2 dL_law_693 ?_
  refine lv_aload_n hx hb dL_law_694 rfl (lv_at hl 0 rfl) ?_
  refine lv_iload hx hb dL_law_695 (lv_at hl 4 rfl) ?_
  refine lv_iconst (v := (3 : Int32)) hx hb dL_law_697 (by decide) ?_
  refine lv_iadd hx hb dL_law_698 ?_
  refine sld hq3 hx hb hXs hbl hbA hS hn3 dL_law_699 ?_
  refine cw_i (va_runV (As := [.int q1, .int q2, .int q3]) (rest := [.int (f_X5_between xs ys P q1 q2 q3)]) ⟨hx, hb, hml, hown, hts⟩ (c_X6_between l dC dI b cI cJ xs ys pm lp lq lr th P rh on c1 c2 c3 ln q1 q2 q3 hv0) (cwV 3 hts (gG_V mG_16_16 mG_16_17 mG_16_18 mG_1_5 (gG_c mG_16_19 gG_G)) rfl rfl rfl hd_X6_between ⟨Nat.le_of_ble_eq_true rfl, Nat.le_of_ble_eq_true rfl⟩) (wPcV (ci := 10) (q0 := 0) hK hP.left hD.left rfl rfl) rfl rfl hl.1 rfl (lv_room (Nat.le_of_ble_eq_true rfl)) dL_law_700 ⟨by show ce + 0 ≤ 603072; omega, by show sl + 0 ≤ 7198826; omega⟩) (wA.sub hD.left) hS (fun H locs hP1 hk1 hS => ?_)
  have hP := jn_1 hP hD hP1 hk1
  have hD := hD.addr (w1 := ((wM b cI cJ xs ys pm lp lq lr ((f_X6_between xs ys th P q1 q2 q3).2) P rh on c1 c2 c3 ln) ++ ((wC a cI cJ xs ys pl kp lp lq lr P on c1 c2 c3 rh ln d7 d8 d9 d10) ++ (wO o cJ fo)))) rfl
  have hP : va_P (dC, dI) vwCl ((wM b cI cJ xs ys pm lp lq lr ((f_X6_between xs ys th P q1 q2 q3).2) P rh on c1 c2 c3 ln) ++ ((wC a cI cJ xs ys pl kp lp lq lr P on c1 c2 c3 rh ln d7 d8 d9 d10) ++ (wO o cJ fo))) H := hP
  have hst := st_between hI th q1 q2 q3
  refine lv_icmp_eq (tgt := 1311) hx hb dL_law_703 (by decide) (fun _ => ?_) (fun c9 => absurd hst c9)
  refine W.widen (k := ce + 1) (n := sl + 8) (by omega) (by omega) ?_
  exact K xs ys pl pm kp lp lq lr P on c1 c2 c3 rh ln d7 d8 d9 d10 ((f_X6_between xs ys th P q1 q2 q3).2) fo hI _ _ hP (hD.addr rfl) hS ls (lv_sub hl [0, 1, 2, 3, 4] rfl)
set_option maxHeartbeats 8000000 in
set_option maxRecDepth 100000 in
theorem lc_9 {p : Program} {l : Launch} {e : Env} {s : State} {m : MethodId} {args : Array Value} {below : List Frame} {meth : Method} {c : Code} {Q : State → Prop} (hx : p.tables.exec = Jvm.exec) (hb : c.code = cL_law) (hml : c.maxLocals = 8) (hown : s.vm.findClass RL = some m.cls) (htH : ∀ w ∈ lw_H, w.before args s = true) {bs L : Nat} {sc : Nat → Int32} (hXs : va_X bs L sc s s.heap) (hbl : bs < s.heap.size) {A : Nat → Prop} (hbA : ¬ A bs) (hlt : l.stackTraces = false) {dC : Nat → ClassId} {dI : Nat → Nat → Nat} {a b : Nat → Nat} {cI cJ : ClassId} {sa : Nat → Nat} {o : Nat} (hK : kK (dC, dI) (tIJ cI cJ) s) (hX : kX A sa s s.heap) {ce sl : Nat} (hce : ce + 1 ≤ 603072) (hsl : sl + 8 ≤ 7198826) {x4 : Int32} (hin : ∀ k : Int32, 0 ≤ k → k ≤ 6 → vp_in (x4 + k) L) {xs ys pl pm kp : Nat → Int32} {lp lq lr : Nat → Int64} {P on c1 c2 c3 rh ln d7 d8 d9 d10 th : Int32} {fo : Nat → Int64} (hI : Inv xs ys pl pm lp lq lr P on rh ln) (q1 : Int32) (hq1 : sc (Int32.toNatClampNeg (x4 + (1 : Int32))) = q1) (q2 : Int32) (hq2 : sc (Int32.toNatClampNeg (x4 + (2 : Int32))) = q2) (q3 : Int32) (hq3 : sc (Int32.toNatClampNeg (x4 + (3 : Int32))) = q3) (q4 : Int32) (hq4 : sc (Int32.toNatClampNeg (x4 + (4 : Int32))) = q4) (K : (∀ (xs ys pl pm kp : Nat → Int32) (lp lq lr : Nat → Int64) (P on c1 c2 c3 rh ln d7 d8 d9 d10 th : Int32) (fo : Nat → Int64), Inv xs ys pl pm lp lq lr P on rh ln → ∀ (H : Heap) (locs : List Loc), va_P (dC, dI) vwCl ((wM b cI cJ xs ys pm lp lq lr th P rh on c1 c2 c3 ln) ++ ((wC a cI cJ xs ys pl kp lp lq lr P on c1 c2 c3 rh ln d7 d8 d9 d10) ++ (wO o cJ fo))) H → va_D A ((wM b cI cJ xs ys pm lp lq lr th P rh on c1 c2 c3 ln) ++ ((wC a cI cJ xs ys pl kp lp lq lr P on c1 c2 c3 rh ln d7 d8 d9 d10) ++ (wO o cJ fo))) → va_S A s.heap H locs → ∀ (ls : Array Slot), lv_has ls 8 [(0, .ref bs), (1, .ref (a 0)), (2, .ref (b 0)), (3, .ref o), (4, .int x4)] → W p l e room_1 s m args below meth c H locs (ce + 1) (sl + 8) Q (F0 m 1311 ls []))) : ∀ (H : Heap) (locs : List Loc), va_P (dC, dI) vwCl ((wM b cI cJ xs ys pm lp lq lr th P rh on c1 c2 c3 ln) ++ ((wC a cI cJ xs ys pl kp lp lq lr P on c1 c2 c3 rh ln d7 d8 d9 d10) ++ (wO o cJ fo))) H → va_D A ((wM b cI cJ xs ys pm lp lq lr th P rh on c1 c2 c3 ln) ++ ((wC a cI cJ xs ys pl kp lp lq lr P on c1 c2 c3 rh ln d7 d8 d9 d10) ++ (wO o cJ fo))) → va_S A s.heap H locs → ∀ (ls : Array Slot), lv_has ls 8 [(0, .ref bs), (1, .ref (a 0)), (2, .ref (b 0)), (3, .ref o), (4, .int x4)] → W p l e room_1 s m args below meth c H locs ce sl Q (F0 m 708 ls []) := by
  intro H locs hP hD hS ls hl
  obtain ⟨⟨hg0, hv0⟩, ⟨hr0, hh⟩, ⟨hl0, hl6⟩, hon, hbx, hby, hpl, hpm, hplP, hrel, hlnk⟩ := id hI
  have hbx6 : ∀ j : Nat, (xs j).toInt.natAbs ≤ 16384 := fun j => Nat.le_trans (hbx j) (by decide)
  have hby6 : ∀ j : Nat, (ys j).toInt.natAbs ≤ 16384 := fun j => Nat.le_trans (hby j) (by decide)
  have hts : ∀ w ∈ lw_G, w.before args s = true := fun w h => htH w (List.mem_append_right _ h)
  have hn1 : vp_in (x4 + (1 : Int32)) L := hin 1 (by decide) (by decide)
  have hn2 : vp_in (x4 + (2 : Int32)) L := hin 2 (by decide) (by decide)
  have hn3 : vp_in (x4 + (3 : Int32)) L := hin 3 (by decide) (by decide)
  have hn4 : vp_in (x4 + (4 : Int32)) L := hin 4 (by decide) (by decide)
  have hn5 : vp_in (x4 + (5 : Int32)) L := hin 5 (by decide) (by decide)
  have hn6 : vp_in (x4 + (6 : Int32)) L := hin 6 (by decide) (by decide)
  refine lv_aload_n hx hb dL_law_708 rfl (lv_at hl 1 rfl) ?_
  refine lv_aload_n hx hb dL_law_709 rfl (lv_at hl 0 rfl) ?_
  refine lv_iload hx hb dL_law_710 (lv_at hl 4 rfl) ?_
  refine lv_iconst (v := (1 : Int32)) hx hb dL_law_712 (by decide) ?_
  refine lv_iadd hx hb dL_law_713 ?_
  refine sld hq1 hx hb hXs hbl hbA hS hn1 dL_law_714 ?_
  refine lv_aload_n hx hb dL_law_715 rfl (lv_at hl 0 rfl) ?_
  refine lv_iload hx hb dL_law_716 (lv_at hl 4 rfl) ?_
  refine lv_iconst (v := (2 : Int32)) hx hb dL_law_718 (by decide) ?_
  refine lv_iadd hx hb dL_law_719 ?_
  refine sld hq2 hx hb hXs hbl hbA hS hn2 dL_law_720 ?_
  refine lv_aload_n hx hb dL_law_721 rfl (lv_at hl 0 rfl) ?_
  refine lv_iload hx hb dL_law_722 (lv_at hl 4 rfl) ?_
  refine lv_iconst (v := (3 : Int32)) hx hb dL_law_724 (by decide) ?_
  refine lv_iadd hx hb dL_law_725 ?_
  refine sld hq3 hx hb hXs hbl hbA hS hn3 dL_law_726 ?_
  refine lv_aload_n hx hb dL_law_727 rfl (lv_at hl 0 rfl) ?_
  refine lv_iload hx hb dL_law_728 (lv_at hl 4 rfl) ?_
  refine lv_iconst (v := (4 : Int32)) hx hb dL_law_730 (by decide) ?_
  refine lv_iadd hx hb dL_law_731 ?_
  refine sld hq4 hx hb hXs hbl hbA hS hn4 dL_law_732 ?_
  refine cp_i (va_runV (As := [.int q1, .int q2, .int q3, .int q4]) (rest := []) ⟨hx, hb, hml, hown, hts⟩ (c_X5_inside l dC dI a cI cJ xs ys pl kp lp lq lr P on c1 c2 c3 rh ln d7 d8 d9 d10 q1 q2 q3 q4 hv0) (cwV 4 hts (gG_V mG_17_4 mG_17_5 mG_17_6 mG_1_2 (gG_c mG_17_7 gG_G)) rfl rfl rfl hd_X5_inside ⟨Nat.le_of_ble_eq_true rfl, Nat.le_of_ble_eq_true rfl⟩) (pPcV (ci := 9) (q0 := 0) hK hP.right.left rfl rfl) rfl rfl hl.1 rfl (lv_room (Nat.le_of_ble_eq_true rfl)) dL_law_733 ⟨by show ce + 0 ≤ 603072; omega, by show sl + 0 ≤ 7198826; omega⟩) hP hS (fun H hP hS => ?_)
  refine lv_aload_n hx hb dL_law_736 rfl (lv_at hl 2 rfl) ?_
  refine lv_aload_n hx hb dL_law_737 rfl (lv_at hl 0 rfl) ?_
  refine lv_iload hx hb dL_law_738 (lv_at hl 4 rfl) ?_
  refine lv_iconst (v := (1 : Int32)) hx hb dL_law_740 (by decide) ?_
  refine lv_iadd hx hb dL_law_741 ?_
  refine sld hq1 hx hb hXs hbl hbA hS hn1 dL_law_742 ?_
  refine lv_aload_n hx hb dL_law_743 rfl (lv_at hl 0 rfl) ?_
  refine lv_iload hx hb dL_law_744 (lv_at hl 4 rfl) ?_
  refine lv_iconst (v := (2 : Int32)) hx hb dL_law_746 (by decide) ?_
  refine lv_iadd hx hb dL_law_747 ?_
  refine sld hq2 hx hb hXs hbl hbA hS hn2 dL_law_748 ?_
  refine lv_aload_n hx hb dL_law_749 rfl (lv_at hl 0 rfl) ?_
  refine lv_iload hx hb dL_law_750 (lv_at hl 4 rfl) ?_
  refine lv_iconst (v := (3 : Int32)) hx hb dL_law_752 (by decide) ?_
  refine lv_iadd hx hb dL_law_753 ?_
  refine sld hq3 hx hb hXs hbl hbA hS hn3 dL_law_754 ?_
  refine lv_aload_n hx hb dL_law_755 rfl (lv_at hl 0 rfl) ?_
  refine lv_iload hx hb dL_law_756 (lv_at hl 4 rfl) ?_
  refine lv_iconst (v := (4 : Int32)) hx hb dL_law_758 (by decide) ?_
  refine lv_iadd hx hb dL_law_759 ?_
  refine sld hq4 hx hb hXs hbl hbA hS hn4 dL_law_760 ?_
  refine cw_i (va_runV (As := [.int q1, .int q2, .int q3, .int q4]) (rest := [.int (f_X5_inside xs ys P q1 q2 q3 q4)]) ⟨hx, hb, hml, hown, hts⟩ (c_X6_inside l dC dI b cI cJ xs ys pm lp lq lr th P rh on c1 c2 c3 ln q1 q2 q3 q4 hv0) (cwV 4 hts (gG_V mG_17_17 mG_17_18 mG_17_19 mG_1_5 (gG_c mG_17_20 gG_G)) rfl rfl rfl hd_X6_inside ⟨Nat.le_of_ble_eq_true rfl, Nat.le_of_ble_eq_true rfl⟩) (wPcV (ci := 10) (q0 := 0) hK hP.left hD.left rfl rfl) rfl rfl hl.1 rfl (lv_room (Nat.le_of_ble_eq_true rfl)) dL_law_761 ⟨by show ce + 0 ≤ 603072; omega, by show sl + 0 ≤ 7198826; omega⟩) (wA.sub hD.left) hS (fun H locs hP1 hk1 hS => ?_)
  have hP := jn_1 hP hD hP1 hk1
  have hD := hD.addr (w1 := ((wM b cI cJ xs ys pm lp lq lr ((f_X6_inside xs ys th P q1 q2 q3 q4).2) P rh on c1 c2 c3 ln) ++ ((wC a cI cJ xs ys pl kp lp lq lr P on c1 c2 c3 rh ln d7 d8 d9 d10) ++ (wO o cJ fo)))) rfl
  have hP : va_P (dC, dI) vwCl ((wM b cI cJ xs ys pm lp lq lr ((f_X6_inside xs ys th P q1 q2 q3 q4).2) P rh on c1 c2 c3 ln) ++ ((wC a cI cJ xs ys pl kp lp lq lr P on c1 c2 c3 rh ln d7 d8 d9 d10) ++ (wO o cJ fo))) H := hP
  have hst := st_inside hI th q1 q2 q3 q4
  refine lv_icmp_eq (tgt := 1311) hx hb dL_law_764 (by decide) (fun _ => ?_) (fun c9 => absurd hst c9)
  refine W.widen (k := ce + 1) (n := sl + 8) (by omega) (by omega) ?_
  exact K xs ys pl pm kp lp lq lr P on c1 c2 c3 rh ln d7 d8 d9 d10 ((f_X6_inside xs ys th P q1 q2 q3 q4).2) fo hI _ _ hP (hD.addr rfl) hS ls (lv_sub hl [0, 1, 2, 3, 4] rfl)
set_option maxHeartbeats 8000000 in
set_option maxRecDepth 100000 in
theorem lc_10 {p : Program} {l : Launch} {e : Env} {s : State} {m : MethodId} {args : Array Value} {below : List Frame} {meth : Method} {c : Code} {Q : State → Prop} (hx : p.tables.exec = Jvm.exec) (hb : c.code = cL_law) (hml : c.maxLocals = 8) (hown : s.vm.findClass RL = some m.cls) (htH : ∀ w ∈ lw_H, w.before args s = true) {bs L : Nat} {sc : Nat → Int32} (hXs : va_X bs L sc s s.heap) (hbl : bs < s.heap.size) {A : Nat → Prop} (hbA : ¬ A bs) (hlt : l.stackTraces = false) {dC : Nat → ClassId} {dI : Nat → Nat → Nat} {a b : Nat → Nat} {cI cJ : ClassId} {sa : Nat → Nat} {o : Nat} (hK : kK (dC, dI) (tIJ cI cJ) s) (hX : kX A sa s s.heap) {ce sl : Nat} (hce : ce + 1 ≤ 603072) (hsl : sl + 8 ≤ 7198826) {x4 : Int32} (hin : ∀ k : Int32, 0 ≤ k → k ≤ 6 → vp_in (x4 + k) L) {xs ys pl pm kp : Nat → Int32} {lp lq lr : Nat → Int64} {P on c1 c2 c3 rh ln d7 d8 d9 d10 th : Int32} {fo : Nat → Int64} (hI : Inv xs ys pl pm lp lq lr P on rh ln) (q1 : Int32) (hq1 : sc (Int32.toNatClampNeg (x4 + (1 : Int32))) = q1) (q2 : Int32) (hq2 : sc (Int32.toNatClampNeg (x4 + (2 : Int32))) = q2) (q3 : Int32) (hq3 : sc (Int32.toNatClampNeg (x4 + (3 : Int32))) = q3) (q4 : Int32) (hq4 : sc (Int32.toNatClampNeg (x4 + (4 : Int32))) = q4) (K : (∀ (xs ys pl pm kp : Nat → Int32) (lp lq lr : Nat → Int64) (P on c1 c2 c3 rh ln d7 d8 d9 d10 th : Int32) (fo : Nat → Int64), Inv xs ys pl pm lp lq lr P on rh ln → ∀ (H : Heap) (locs : List Loc), va_P (dC, dI) vwCl ((wM b cI cJ xs ys pm lp lq lr th P rh on c1 c2 c3 ln) ++ ((wC a cI cJ xs ys pl kp lp lq lr P on c1 c2 c3 rh ln d7 d8 d9 d10) ++ (wO o cJ fo))) H → va_D A ((wM b cI cJ xs ys pm lp lq lr th P rh on c1 c2 c3 ln) ++ ((wC a cI cJ xs ys pl kp lp lq lr P on c1 c2 c3 rh ln d7 d8 d9 d10) ++ (wO o cJ fo))) → va_S A s.heap H locs → ∀ (ls : Array Slot), lv_has ls 8 [(0, .ref bs), (1, .ref (a 0)), (2, .ref (b 0)), (3, .ref o), (4, .int x4)] → W p l e room_1 s m args below meth c H locs (ce + 1) (sl + 8) Q (F0 m 1311 ls []))) : ∀ (H : Heap) (locs : List Loc), va_P (dC, dI) vwCl ((wM b cI cJ xs ys pm lp lq lr th P rh on c1 c2 c3 ln) ++ ((wC a cI cJ xs ys pl kp lp lq lr P on c1 c2 c3 rh ln d7 d8 d9 d10) ++ (wO o cJ fo))) H → va_D A ((wM b cI cJ xs ys pm lp lq lr th P rh on c1 c2 c3 ln) ++ ((wC a cI cJ xs ys pl kp lp lq lr P on c1 c2 c3 rh ln d7 d8 d9 d10) ++ (wO o cJ fo))) → va_S A s.heap H locs → ∀ (ls : Array Slot), lv_has ls 8 [(0, .ref bs), (1, .ref (a 0)), (2, .ref (b 0)), (3, .ref o), (4, .int x4)] → W p l e room_1 s m args below meth c H locs ce sl Q (F0 m 769 ls []) := by
  intro H locs hP hD hS ls hl
  obtain ⟨⟨hg0, hv0⟩, ⟨hr0, hh⟩, ⟨hl0, hl6⟩, hon, hbx, hby, hpl, hpm, hplP, hrel, hlnk⟩ := id hI
  have hbx6 : ∀ j : Nat, (xs j).toInt.natAbs ≤ 16384 := fun j => Nat.le_trans (hbx j) (by decide)
  have hby6 : ∀ j : Nat, (ys j).toInt.natAbs ≤ 16384 := fun j => Nat.le_trans (hby j) (by decide)
  have hts : ∀ w ∈ lw_G, w.before args s = true := fun w h => htH w (List.mem_append_right _ h)
  have hn1 : vp_in (x4 + (1 : Int32)) L := hin 1 (by decide) (by decide)
  have hn2 : vp_in (x4 + (2 : Int32)) L := hin 2 (by decide) (by decide)
  have hn3 : vp_in (x4 + (3 : Int32)) L := hin 3 (by decide) (by decide)
  have hn4 : vp_in (x4 + (4 : Int32)) L := hin 4 (by decide) (by decide)
  have hn5 : vp_in (x4 + (5 : Int32)) L := hin 5 (by decide) (by decide)
  have hn6 : vp_in (x4 + (6 : Int32)) L := hin 6 (by decide) (by decide)
  refine lv_aload_n hx hb dL_law_769 rfl (lv_at hl 1 rfl) ?_
  refine lv_aload_n hx hb dL_law_770 rfl (lv_at hl 0 rfl) ?_
  refine lv_iload hx hb dL_law_771 (lv_at hl 4 rfl) ?_
  refine lv_iconst (v := (1 : Int32)) hx hb dL_law_773 (by decide) ?_
  refine lv_iadd hx hb dL_law_774 ?_
  refine sld hq1 hx hb hXs hbl hbA hS hn1 dL_law_775 ?_
  refine lv_aload_n hx hb dL_law_776 rfl (lv_at hl 0 rfl) ?_
  refine lv_iload hx hb dL_law_777 (lv_at hl 4 rfl) ?_
  refine lv_iconst (v := (2 : Int32)) hx hb dL_law_779 (by decide) ?_
  refine lv_iadd hx hb dL_law_780 ?_
  refine sld hq2 hx hb hXs hbl hbA hS hn2 dL_law_781 ?_
  refine lv_aload_n hx hb dL_law_782 rfl (lv_at hl 0 rfl) ?_
  refine lv_iload hx hb dL_law_783 (lv_at hl 4 rfl) ?_
  refine lv_iconst (v := (3 : Int32)) hx hb dL_law_785 (by decide) ?_
  refine lv_iadd hx hb dL_law_786 ?_
  refine sld hq3 hx hb hXs hbl hbA hS hn3 dL_law_787 ?_
  refine lv_aload_n hx hb dL_law_788 rfl (lv_at hl 0 rfl) ?_
  refine lv_iload hx hb dL_law_789 (lv_at hl 4 rfl) ?_
  refine lv_iconst (v := (4 : Int32)) hx hb dL_law_791 (by decide) ?_
  refine lv_iadd hx hb dL_law_792 ?_
  refine sld hq4 hx hb hXs hbl hbA hS hn4 dL_law_793 ?_
  refine cp_i (va_runV (As := [.int q1, .int q2, .int q3, .int q4]) (rest := []) ⟨hx, hb, hml, hown, hts⟩ (c_X5_cross l dC dI a cI cJ xs ys pl kp lp lq lr P on c1 c2 c3 rh ln d7 d8 d9 d10 q1 q2 q3 q4 hv0) (cwV 4 hts (gG_V mG_18_1 mG_18_2 mG_18_3 mG_1_2 (gG_c mG_18_4 gG_G)) rfl rfl rfl hd_X5_cross ⟨Nat.le_of_ble_eq_true rfl, Nat.le_of_ble_eq_true rfl⟩) (pPcV (ci := 9) (q0 := 0) hK hP.right.left rfl rfl) rfl rfl hl.1 rfl (lv_room (Nat.le_of_ble_eq_true rfl)) dL_law_794 ⟨by show ce + 0 ≤ 603072; omega, by show sl + 0 ≤ 7198826; omega⟩) hP hS (fun H hP hS => ?_)
  refine lv_aload_n hx hb dL_law_797 rfl (lv_at hl 2 rfl) ?_
  refine lv_aload_n hx hb dL_law_798 rfl (lv_at hl 0 rfl) ?_
  refine lv_iload hx hb dL_law_799 (lv_at hl 4 rfl) ?_
  refine lv_iconst (v := (1 : Int32)) hx hb dL_law_801 (by decide) ?_
  refine lv_iadd hx hb dL_law_802 ?_
  refine sld hq1 hx hb hXs hbl hbA hS hn1 dL_law_803 ?_
  refine lv_aload_n hx hb dL_law_804 rfl (lv_at hl 0 rfl) ?_
  refine lv_iload hx hb dL_law_805 (lv_at hl 4 rfl) ?_
  refine lv_iconst (v := (2 : Int32)) hx hb dL_law_807 (by decide) ?_
  refine lv_iadd hx hb dL_law_808 ?_
  refine sld hq2 hx hb hXs hbl hbA hS hn2 dL_law_809 ?_
  refine lv_aload_n hx hb dL_law_810 rfl (lv_at hl 0 rfl) ?_
  refine lv_iload hx hb dL_law_811 (lv_at hl 4 rfl) ?_
  refine lv_iconst (v := (3 : Int32)) hx hb dL_law_813 (by decide) ?_
  refine lv_iadd hx hb dL_law_814 ?_
  refine sld hq3 hx hb hXs hbl hbA hS hn3 dL_law_815 ?_
  refine lv_aload_n hx hb dL_law_816 rfl (lv_at hl 0 rfl) ?_
  refine lv_iload hx hb dL_law_817 (lv_at hl 4 rfl) ?_
  refine lv_iconst (v := (4 : Int32)) hx hb dL_law_819 (by decide) ?_
  refine lv_iadd hx hb dL_law_820 ?_
  refine sld hq4 hx hb hXs hbl hbA hS hn4 dL_law_821 ?_
  refine cw_i (va_runV (As := [.int q1, .int q2, .int q3, .int q4]) (rest := [.int (f_X5_cross xs ys P q1 q2 q3 q4)]) ⟨hx, hb, hml, hown, hts⟩ (c_X6_cross l dC dI b cI cJ xs ys pm lp lq lr th P rh on c1 c2 c3 ln q1 q2 q3 q4 hv0) (cwV 4 hts (gG_V mG_18_22 mG_18_23 mG_19_0 mG_1_5 (gG_c mG_19_1 gG_G)) rfl rfl rfl hd_X6_cross ⟨Nat.le_of_ble_eq_true rfl, Nat.le_of_ble_eq_true rfl⟩) (wPcV (ci := 10) (q0 := 0) hK hP.left hD.left rfl rfl) rfl rfl hl.1 rfl (lv_room (Nat.le_of_ble_eq_true rfl)) dL_law_822 ⟨by show ce + 0 ≤ 603072; omega, by show sl + 0 ≤ 7198826; omega⟩) (wA.sub hD.left) hS (fun H locs hP1 hk1 hS => ?_)
  have hP := jn_1 hP hD hP1 hk1
  have hD := hD.addr (w1 := ((wM b cI cJ xs ys pm lp lq lr ((f_X6_cross xs ys th P q1 q2 q3 q4).2) P rh on c1 c2 c3 ln) ++ ((wC a cI cJ xs ys pl kp lp lq lr P on c1 c2 c3 rh ln d7 d8 d9 d10) ++ (wO o cJ fo)))) rfl
  have hP : va_P (dC, dI) vwCl ((wM b cI cJ xs ys pm lp lq lr ((f_X6_cross xs ys th P q1 q2 q3 q4).2) P rh on c1 c2 c3 ln) ++ ((wC a cI cJ xs ys pl kp lp lq lr P on c1 c2 c3 rh ln d7 d8 d9 d10) ++ (wO o cJ fo))) H := hP
  have hst := st_cross hI th q1 q2 q3 q4
  refine lv_icmp_eq (tgt := 1311) hx hb dL_law_825 (by decide) (fun _ => ?_) (fun c9 => absurd hst c9)
  refine W.widen (k := ce + 1) (n := sl + 8) (by omega) (by omega) ?_
  exact K xs ys pl pm kp lp lq lr P on c1 c2 c3 rh ln d7 d8 d9 d10 ((f_X6_cross xs ys th P q1 q2 q3 q4).2) fo hI _ _ hP (hD.addr rfl) hS ls (lv_sub hl [0, 1, 2, 3, 4] rfl)
set_option maxHeartbeats 8000000 in
set_option maxRecDepth 100000 in
theorem lc_11 {p : Program} {l : Launch} {e : Env} {s : State} {m : MethodId} {args : Array Value} {below : List Frame} {meth : Method} {c : Code} {Q : State → Prop} (hx : p.tables.exec = Jvm.exec) (hb : c.code = cL_law) (hml : c.maxLocals = 8) (hown : s.vm.findClass RL = some m.cls) (htH : ∀ w ∈ lw_H, w.before args s = true) {bs L : Nat} {sc : Nat → Int32} (hXs : va_X bs L sc s s.heap) (hbl : bs < s.heap.size) {A : Nat → Prop} (hbA : ¬ A bs) (hlt : l.stackTraces = false) {dC : Nat → ClassId} {dI : Nat → Nat → Nat} {a b : Nat → Nat} {cI cJ : ClassId} {sa : Nat → Nat} {o : Nat} (hK : kK (dC, dI) (tIJ cI cJ) s) (hX : kX A sa s s.heap) {ce sl : Nat} (hce : ce + 1 ≤ 603072) (hsl : sl + 8 ≤ 7198826) {x4 : Int32} (hin : ∀ k : Int32, 0 ≤ k → k ≤ 6 → vp_in (x4 + k) L) {xs ys pl pm kp : Nat → Int32} {lp lq lr : Nat → Int64} {P on c1 c2 c3 rh ln d7 d8 d9 d10 th : Int32} {fo : Nat → Int64} (hI : Inv xs ys pl pm lp lq lr P on rh ln) (q1 : Int32) (hq1 : sc (Int32.toNatClampNeg (x4 + (1 : Int32))) = q1) (q2 : Int32) (hq2 : sc (Int32.toNatClampNeg (x4 + (2 : Int32))) = q2) (q3 : Int32) (hq3 : sc (Int32.toNatClampNeg (x4 + (3 : Int32))) = q3) (q4 : Int32) (hq4 : sc (Int32.toNatClampNeg (x4 + (4 : Int32))) = q4) (K : (∀ (xs ys pl pm kp : Nat → Int32) (lp lq lr : Nat → Int64) (P on c1 c2 c3 rh ln d7 d8 d9 d10 th : Int32) (fo : Nat → Int64), Inv xs ys pl pm lp lq lr P on rh ln → ∀ (H : Heap) (locs : List Loc), va_P (dC, dI) vwCl ((wM b cI cJ xs ys pm lp lq lr th P rh on c1 c2 c3 ln) ++ ((wC a cI cJ xs ys pl kp lp lq lr P on c1 c2 c3 rh ln d7 d8 d9 d10) ++ (wO o cJ fo))) H → va_D A ((wM b cI cJ xs ys pm lp lq lr th P rh on c1 c2 c3 ln) ++ ((wC a cI cJ xs ys pl kp lp lq lr P on c1 c2 c3 rh ln d7 d8 d9 d10) ++ (wO o cJ fo))) → va_S A s.heap H locs → ∀ (ls : Array Slot), lv_has ls 8 [(0, .ref bs), (1, .ref (a 0)), (2, .ref (b 0)), (3, .ref o), (4, .int x4)] → W p l e room_1 s m args below meth c H locs (ce + 1) (sl + 8) Q (F0 m 1311 ls []))) : ∀ (H : Heap) (locs : List Loc), va_P (dC, dI) vwCl ((wM b cI cJ xs ys pm lp lq lr th P rh on c1 c2 c3 ln) ++ ((wC a cI cJ xs ys pl kp lp lq lr P on c1 c2 c3 rh ln d7 d8 d9 d10) ++ (wO o cJ fo))) H → va_D A ((wM b cI cJ xs ys pm lp lq lr th P rh on c1 c2 c3 ln) ++ ((wC a cI cJ xs ys pl kp lp lq lr P on c1 c2 c3 rh ln d7 d8 d9 d10) ++ (wO o cJ fo))) → va_S A s.heap H locs → ∀ (ls : Array Slot), lv_has ls 8 [(0, .ref bs), (1, .ref (a 0)), (2, .ref (b 0)), (3, .ref o), (4, .int x4)] → W p l e room_1 s m args below meth c H locs ce sl Q (F0 m 830 ls []) := by
  intro H locs hP hD hS ls hl
  obtain ⟨⟨hg0, hv0⟩, ⟨hr0, hh⟩, ⟨hl0, hl6⟩, hon, hbx, hby, hpl, hpm, hplP, hrel, hlnk⟩ := id hI
  have hbx6 : ∀ j : Nat, (xs j).toInt.natAbs ≤ 16384 := fun j => Nat.le_trans (hbx j) (by decide)
  have hby6 : ∀ j : Nat, (ys j).toInt.natAbs ≤ 16384 := fun j => Nat.le_trans (hby j) (by decide)
  have hts : ∀ w ∈ lw_G, w.before args s = true := fun w h => htH w (List.mem_append_right _ h)
  have hn1 : vp_in (x4 + (1 : Int32)) L := hin 1 (by decide) (by decide)
  have hn2 : vp_in (x4 + (2 : Int32)) L := hin 2 (by decide) (by decide)
  have hn3 : vp_in (x4 + (3 : Int32)) L := hin 3 (by decide) (by decide)
  have hn4 : vp_in (x4 + (4 : Int32)) L := hin 4 (by decide) (by decide)
  have hn5 : vp_in (x4 + (5 : Int32)) L := hin 5 (by decide) (by decide)
  have hn6 : vp_in (x4 + (6 : Int32)) L := hin 6 (by decide) (by decide)
  refine lv_aload_n hx hb dL_law_830 rfl (lv_at hl 1 rfl) ?_
  refine lv_aload_n hx hb dL_law_831 rfl (lv_at hl 0 rfl) ?_
  refine lv_iload hx hb dL_law_832 (lv_at hl 4 rfl) ?_
  refine lv_iconst (v := (1 : Int32)) hx hb dL_law_834 (by decide) ?_
  refine lv_iadd hx hb dL_law_835 ?_
  refine sld hq1 hx hb hXs hbl hbA hS hn1 dL_law_836 ?_
  refine lv_aload_n hx hb dL_law_837 rfl (lv_at hl 0 rfl) ?_
  refine lv_iload hx hb dL_law_838 (lv_at hl 4 rfl) ?_
  refine lv_iconst (v := (2 : Int32)) hx hb dL_law_840 (by decide) ?_
  refine lv_iadd hx hb dL_law_841 ?_
  refine sld hq2 hx hb hXs hbl hbA hS hn2 dL_law_842 ?_
  refine lv_aload_n hx hb dL_law_843 rfl (lv_at hl 0 rfl) ?_
  refine lv_iload hx hb dL_law_844 (lv_at hl 4 rfl) ?_
  refine lv_iconst (v := (3 : Int32)) hx hb dL_law_846 (by decide) ?_
  refine lv_iadd hx hb dL_law_847 ?_
  refine sld hq3 hx hb hXs hbl hbA hS hn3 dL_law_848 ?_
  refine lv_aload_n hx hb dL_law_849 rfl (lv_at hl 0 rfl) ?_
  refine lv_iload hx hb dL_law_850 (lv_at hl 4 rfl) ?_
  refine lv_iconst (v := (4 : Int32)) hx hb dL_law_852 (by decide) ?_
  refine lv_iadd hx hb dL_law_853 ?_
  refine sld hq4 hx hb hXs hbl hbA hS hn4 dL_law_854 ?_
  refine cp_i (va_runV (As := [.int q1, .int q2, .int q3, .int q4]) (rest := []) ⟨hx, hb, hml, hown, hts⟩ (c_X5_separated l dC dI a cI cJ xs ys pl kp lp lq lr P on c1 c2 c3 rh ln d7 d8 d9 d10 q1 q2 q3 q4 hv0) (cwV 4 hts (gG_V mG_19_6 mG_19_7 mG_19_8 mG_1_2 (gG_c mG_19_9 gG_G)) rfl rfl rfl hd_X5_separated ⟨Nat.le_of_ble_eq_true rfl, Nat.le_of_ble_eq_true rfl⟩) (pPcV (ci := 9) (q0 := 0) hK hP.right.left rfl rfl) rfl rfl hl.1 rfl (lv_room (Nat.le_of_ble_eq_true rfl)) dL_law_855 ⟨by show ce + 0 ≤ 603072; omega, by show sl + 0 ≤ 7198826; omega⟩) hP hS (fun H hP hS => ?_)
  refine lv_aload_n hx hb dL_law_858 rfl (lv_at hl 2 rfl) ?_
  refine lv_aload_n hx hb dL_law_859 rfl (lv_at hl 0 rfl) ?_
  refine lv_iload hx hb dL_law_860 (lv_at hl 4 rfl) ?_
  refine lv_iconst (v := (1 : Int32)) hx hb dL_law_862 (by decide) ?_
  refine lv_iadd hx hb dL_law_863 ?_
  refine sld hq1 hx hb hXs hbl hbA hS hn1 dL_law_864 ?_
  refine lv_aload_n hx hb dL_law_865 rfl (lv_at hl 0 rfl) ?_
  refine lv_iload hx hb dL_law_866 (lv_at hl 4 rfl) ?_
  refine lv_iconst (v := (2 : Int32)) hx hb dL_law_868 (by decide) ?_
  refine lv_iadd hx hb dL_law_869 ?_
  refine sld hq2 hx hb hXs hbl hbA hS hn2 dL_law_870 ?_
  refine lv_aload_n hx hb dL_law_871 rfl (lv_at hl 0 rfl) ?_
  refine lv_iload hx hb dL_law_872 (lv_at hl 4 rfl) ?_
  refine lv_iconst (v := (3 : Int32)) hx hb dL_law_874 (by decide) ?_
  refine lv_iadd hx hb dL_law_875 ?_
  refine sld hq3 hx hb hXs hbl hbA hS hn3 dL_law_876 ?_
  refine lv_aload_n hx hb dL_law_877 rfl (lv_at hl 0 rfl) ?_
  refine lv_iload hx hb dL_law_878 (lv_at hl 4 rfl) ?_
  refine lv_iconst (v := (4 : Int32)) hx hb dL_law_880 (by decide) ?_
  refine lv_iadd hx hb dL_law_881 ?_
  refine sld hq4 hx hb hXs hbl hbA hS hn4 dL_law_882 ?_
  refine cw_i (va_runV (As := [.int q1, .int q2, .int q3, .int q4]) (rest := [.int (f_X5_separated xs ys P q1 q2 q3 q4)]) ⟨hx, hb, hml, hown, hts⟩ (c_X6_separated l dC dI b cI cJ xs ys pm lp lq lr th P rh on c1 c2 c3 ln q1 q2 q3 q4 hv0) (cwV 4 hts (gG_V mG_19_19 mG_19_20 mG_19_21 mG_1_5 (gG_c mG_19_22 gG_G)) rfl rfl rfl hd_X6_separated ⟨Nat.le_of_ble_eq_true rfl, Nat.le_of_ble_eq_true rfl⟩) (wPcV (ci := 10) (q0 := 0) hK hP.left hD.left rfl rfl) rfl rfl hl.1 rfl (lv_room (Nat.le_of_ble_eq_true rfl)) dL_law_883 ⟨by show ce + 0 ≤ 603072; omega, by show sl + 0 ≤ 7198826; omega⟩) (wA.sub hD.left) hS (fun H locs hP1 hk1 hS => ?_)
  have hP := jn_1 hP hD hP1 hk1
  have hD := hD.addr (w1 := ((wM b cI cJ xs ys pm lp lq lr ((f_X6_separated xs ys th P q1 q2 q3 q4).2) P rh on c1 c2 c3 ln) ++ ((wC a cI cJ xs ys pl kp lp lq lr P on c1 c2 c3 rh ln d7 d8 d9 d10) ++ (wO o cJ fo)))) rfl
  have hP : va_P (dC, dI) vwCl ((wM b cI cJ xs ys pm lp lq lr ((f_X6_separated xs ys th P q1 q2 q3 q4).2) P rh on c1 c2 c3 ln) ++ ((wC a cI cJ xs ys pl kp lp lq lr P on c1 c2 c3 rh ln d7 d8 d9 d10) ++ (wO o cJ fo))) H := hP
  have hst := st_separated hI th q1 q2 q3 q4
  refine lv_icmp_eq (tgt := 1311) hx hb dL_law_886 (by decide) (fun _ => ?_) (fun c9 => absurd hst c9)
  refine W.widen (k := ce + 1) (n := sl + 8) (by omega) (by omega) ?_
  exact K xs ys pl pm kp lp lq lr P on c1 c2 c3 rh ln d7 d8 d9 d10 ((f_X6_separated xs ys th P q1 q2 q3 q4).2) fo hI _ _ hP (hD.addr rfl) hS ls (lv_sub hl [0, 1, 2, 3, 4] rfl)
set_option maxHeartbeats 8000000 in
set_option maxRecDepth 100000 in
theorem lc_12 {p : Program} {l : Launch} {e : Env} {s : State} {m : MethodId} {args : Array Value} {below : List Frame} {meth : Method} {c : Code} {Q : State → Prop} (hx : p.tables.exec = Jvm.exec) (hb : c.code = cL_law) (hml : c.maxLocals = 8) (hown : s.vm.findClass RL = some m.cls) (htH : ∀ w ∈ lw_H, w.before args s = true) {bs L : Nat} {sc : Nat → Int32} (hXs : va_X bs L sc s s.heap) (hbl : bs < s.heap.size) {A : Nat → Prop} (hbA : ¬ A bs) (hlt : l.stackTraces = false) {dC : Nat → ClassId} {dI : Nat → Nat → Nat} {a b : Nat → Nat} {cI cJ : ClassId} {sa : Nat → Nat} {o : Nat} (hK : kK (dC, dI) (tIJ cI cJ) s) (hX : kX A sa s s.heap) {ce sl : Nat} (hce : ce + 1 ≤ 603072) (hsl : sl + 8 ≤ 7198826) {x4 : Int32} (hin : ∀ k : Int32, 0 ≤ k → k ≤ 6 → vp_in (x4 + k) L) {xs ys pl pm kp : Nat → Int32} {lp lq lr : Nat → Int64} {P on c1 c2 c3 rh ln d7 d8 d9 d10 th : Int32} {fo : Nat → Int64} (hI : Inv xs ys pl pm lp lq lr P on rh ln) (q1 : Int32) (hq1 : sc (Int32.toNatClampNeg (x4 + (1 : Int32))) = q1) (K : (∀ (xs ys pl pm kp : Nat → Int32) (lp lq lr : Nat → Int64) (P on c1 c2 c3 rh ln d7 d8 d9 d10 th : Int32) (fo : Nat → Int64), Inv xs ys pl pm lp lq lr P on rh ln → ∀ (H : Heap) (locs : List Loc), va_P (dC, dI) vwCl ((wM b cI cJ xs ys pm lp lq lr th P rh on c1 c2 c3 ln) ++ ((wC a cI cJ xs ys pl kp lp lq lr P on c1 c2 c3 rh ln d7 d8 d9 d10) ++ (wO o cJ fo))) H → va_D A ((wM b cI cJ xs ys pm lp lq lr th P rh on c1 c2 c3 ln) ++ ((wC a cI cJ xs ys pl kp lp lq lr P on c1 c2 c3 rh ln d7 d8 d9 d10) ++ (wO o cJ fo))) → va_S A s.heap H locs → ∀ (ls : Array Slot), lv_has ls 8 [(0, .ref bs), (1, .ref (a 0)), (2, .ref (b 0)), (3, .ref o), (4, .int x4)] → W p l e room_1 s m args below meth c H locs (ce + 1) (sl + 8) Q (F0 m 1311 ls []))) : ∀ (H : Heap) (locs : List Loc), va_P (dC, dI) vwCl ((wM b cI cJ xs ys pm lp lq lr th P rh on c1 c2 c3 ln) ++ ((wC a cI cJ xs ys pl kp lp lq lr P on c1 c2 c3 rh ln d7 d8 d9 d10) ++ (wO o cJ fo))) H → va_D A ((wM b cI cJ xs ys pm lp lq lr th P rh on c1 c2 c3 ln) ++ ((wC a cI cJ xs ys pl kp lp lq lr P on c1 c2 c3 rh ln d7 d8 d9 d10) ++ (wO o cJ fo))) → va_S A s.heap H locs → ∀ (ls : Array Slot), lv_has ls 8 [(0, .ref bs), (1, .ref (a 0)), (2, .ref (b 0)), (3, .ref o), (4, .int x4)] → W p l e room_1 s m args below meth c H locs ce sl Q (F0 m 891 ls []) := by
  intro H locs hP hD hS ls hl
  obtain ⟨⟨hg0, hv0⟩, ⟨hr0, hh⟩, ⟨hl0, hl6⟩, hon, hbx, hby, hpl, hpm, hplP, hrel, hlnk⟩ := id hI
  have hbx6 : ∀ j : Nat, (xs j).toInt.natAbs ≤ 16384 := fun j => Nat.le_trans (hbx j) (by decide)
  have hby6 : ∀ j : Nat, (ys j).toInt.natAbs ≤ 16384 := fun j => Nat.le_trans (hby j) (by decide)
  have hts : ∀ w ∈ lw_G, w.before args s = true := fun w h => htH w (List.mem_append_right _ h)
  have hn1 : vp_in (x4 + (1 : Int32)) L := hin 1 (by decide) (by decide)
  have hn2 : vp_in (x4 + (2 : Int32)) L := hin 2 (by decide) (by decide)
  have hn3 : vp_in (x4 + (3 : Int32)) L := hin 3 (by decide) (by decide)
  have hn4 : vp_in (x4 + (4 : Int32)) L := hin 4 (by decide) (by decide)
  have hn5 : vp_in (x4 + (5 : Int32)) L := hin 5 (by decide) (by decide)
  have hn6 : vp_in (x4 + (6 : Int32)) L := hin 6 (by decide) (by decide)
  refine lv_aload_n hx hb dL_law_891 rfl (lv_at hl 1 rfl) ?_
  refine lv_aload_n hx hb dL_law_892 rfl (lv_at hl 0 rfl) ?_
  refine lv_iload hx hb dL_law_893 (lv_at hl 4 rfl) ?_
  refine lv_iconst (v := (1 : Int32)) hx hb dL_law_895 (by decide) ?_
  refine lv_iadd hx hb dL_law_896 ?_
  refine sld hq1 hx hb hXs hbl hbA hS hn1 dL_law_897 ?_
  refine cp_i (va_runV (As := [.int q1]) (rest := []) ⟨hx, hb, hml, hown, hts⟩ (c_X5_convex l dC dI a cI cJ xs ys pl kp lp lq lr P on c1 c2 c3 rh ln d7 d8 d9 d10 q1 hh hpl) (cwV 1 hts (gG_V mG_19_23 mG_20_0 mG_20_1 mG_1_2 (gG_c mG_20_2 gG_G)) rfl rfl rfl hd_X5_convex ⟨Nat.le_of_ble_eq_true rfl, Nat.le_of_ble_eq_true rfl⟩) (pPcV (ci := 9) (q0 := 0) hK hP.right.left rfl rfl) rfl rfl hl.1 rfl (lv_room (Nat.le_of_ble_eq_true rfl)) dL_law_898 ⟨by show ce + 0 ≤ 603072; omega, by show sl + 0 ≤ 7198826; omega⟩) hP hS (fun H hP hS => ?_)
  refine lv_aload_n hx hb dL_law_901 rfl (lv_at hl 2 rfl) ?_
  refine lv_aload_n hx hb dL_law_902 rfl (lv_at hl 0 rfl) ?_
  refine lv_iload hx hb dL_law_903 (lv_at hl 4 rfl) ?_
  refine lv_iconst (v := (1 : Int32)) hx hb dL_law_905 (by decide) ?_
  refine lv_iadd hx hb dL_law_906 ?_
  refine sld hq1 hx hb hXs hbl hbA hS hn1 dL_law_907 ?_
  refine cw_i (va_runV (As := [.int q1]) (rest := [.int (f_X5_convex xs ys pl rh q1)]) ⟨hx, hb, hml, hown, hts⟩ (c_X6_convex l dC dI b cI cJ xs ys pm lp lq lr th P rh on c1 c2 c3 ln q1 hh hpm) (cwV 1 hts (gG_V mG_20_20 mG_20_21 mG_20_22 mG_1_5 (gG_c mG_20_23 gG_G)) rfl rfl rfl hd_X6_convex ⟨Nat.le_of_ble_eq_true rfl, Nat.le_of_ble_eq_true rfl⟩) (wPcV (ci := 10) (q0 := 0) hK hP.left hD.left rfl rfl) rfl rfl hl.1 rfl (lv_room (Nat.le_of_ble_eq_true rfl)) dL_law_908 ⟨by show ce + 0 ≤ 603072; omega, by show sl + 0 ≤ 7198826; omega⟩) (wA.sub hD.left) hS (fun H locs hP1 hk1 hS => ?_)
  have hP := jn_1 hP hD hP1 hk1
  have hD := hD.addr (w1 := ((wM b cI cJ xs ys pm lp lq lr ((f_X6_convex xs ys pm th rh q1).2) P rh on c1 c2 c3 ln) ++ ((wC a cI cJ xs ys pl kp lp lq lr P on c1 c2 c3 rh ln d7 d8 d9 d10) ++ (wO o cJ fo)))) rfl
  have hP : va_P (dC, dI) vwCl ((wM b cI cJ xs ys pm lp lq lr ((f_X6_convex xs ys pm th rh q1).2) P rh on c1 c2 c3 ln) ++ ((wC a cI cJ xs ys pl kp lp lq lr P on c1 c2 c3 rh ln d7 d8 d9 d10) ++ (wO o cJ fo))) H := hP
  have hst := st_convex hI th q1
  refine lv_icmp_eq (tgt := 1311) hx hb dL_law_911 (by decide) (fun _ => ?_) (fun c9 => absurd hst c9)
  refine W.widen (k := ce + 1) (n := sl + 8) (by omega) (by omega) ?_
  exact K xs ys pl pm kp lp lq lr P on c1 c2 c3 rh ln d7 d8 d9 d10 ((f_X6_convex xs ys pm th rh q1).2) fo hI _ _ hP (hD.addr rfl) hS ls (lv_sub hl [0, 1, 2, 3, 4] rfl)
set_option maxHeartbeats 8000000 in
set_option maxRecDepth 100000 in
theorem lc_13 {p : Program} {l : Launch} {e : Env} {s : State} {m : MethodId} {args : Array Value} {below : List Frame} {meth : Method} {c : Code} {Q : State → Prop} (hx : p.tables.exec = Jvm.exec) (hb : c.code = cL_law) (hml : c.maxLocals = 8) (hown : s.vm.findClass RL = some m.cls) (htH : ∀ w ∈ lw_H, w.before args s = true) {bs L : Nat} {sc : Nat → Int32} (hXs : va_X bs L sc s s.heap) (hbl : bs < s.heap.size) {A : Nat → Prop} (hbA : ¬ A bs) (hlt : l.stackTraces = false) {dC : Nat → ClassId} {dI : Nat → Nat → Nat} {a b : Nat → Nat} {cI cJ : ClassId} {sa : Nat → Nat} {o : Nat} (hK : kK (dC, dI) (tIJ cI cJ) s) (hX : kX A sa s s.heap) {ce sl : Nat} (hce : ce + 1 ≤ 603072) (hsl : sl + 8 ≤ 7198826) {x4 : Int32} (hin : ∀ k : Int32, 0 ≤ k → k ≤ 6 → vp_in (x4 + k) L) {xs ys pl pm kp : Nat → Int32} {lp lq lr : Nat → Int64} {P on c1 c2 c3 rh ln d7 d8 d9 d10 th : Int32} {fo : Nat → Int64} (hI : Inv xs ys pl pm lp lq lr P on rh ln) (q1 : Int32) (hq1 : sc (Int32.toNatClampNeg (x4 + (1 : Int32))) = q1) (q2 : Int32) (hq2 : sc (Int32.toNatClampNeg (x4 + (2 : Int32))) = q2) (K : (∀ (xs ys pl pm kp : Nat → Int32) (lp lq lr : Nat → Int64) (P on c1 c2 c3 rh ln d7 d8 d9 d10 th : Int32) (fo : Nat → Int64), Inv xs ys pl pm lp lq lr P on rh ln → ∀ (H : Heap) (locs : List Loc), va_P (dC, dI) vwCl ((wM b cI cJ xs ys pm lp lq lr th P rh on c1 c2 c3 ln) ++ ((wC a cI cJ xs ys pl kp lp lq lr P on c1 c2 c3 rh ln d7 d8 d9 d10) ++ (wO o cJ fo))) H → va_D A ((wM b cI cJ xs ys pm lp lq lr th P rh on c1 c2 c3 ln) ++ ((wC a cI cJ xs ys pl kp lp lq lr P on c1 c2 c3 rh ln d7 d8 d9 d10) ++ (wO o cJ fo))) → va_S A s.heap H locs → ∀ (ls : Array Slot), lv_has ls 8 [(0, .ref bs), (1, .ref (a 0)), (2, .ref (b 0)), (3, .ref o), (4, .int x4)] → W p l e room_1 s m args below meth c H locs (ce + 1) (sl + 8) Q (F0 m 1311 ls []))) : ∀ (H : Heap) (locs : List Loc), va_P (dC, dI) vwCl ((wM b cI cJ xs ys pm lp lq lr th P rh on c1 c2 c3 ln) ++ ((wC a cI cJ xs ys pl kp lp lq lr P on c1 c2 c3 rh ln d7 d8 d9 d10) ++ (wO o cJ fo))) H → va_D A ((wM b cI cJ xs ys pm lp lq lr th P rh on c1 c2 c3 ln) ++ ((wC a cI cJ xs ys pl kp lp lq lr P on c1 c2 c3 rh ln d7 d8 d9 d10) ++ (wO o cJ fo))) → va_S A s.heap H locs → ∀ (ls : Array Slot), lv_has ls 8 [(0, .ref bs), (1, .ref (a 0)), (2, .ref (b 0)), (3, .ref o), (4, .int x4)] → W p l e room_1 s m args below meth c H locs ce sl Q (F0 m 916 ls []) := by
  intro H locs hP hD hS ls hl
  obtain ⟨⟨hg0, hv0⟩, ⟨hr0, hh⟩, ⟨hl0, hl6⟩, hon, hbx, hby, hpl, hpm, hplP, hrel, hlnk⟩ := id hI
  have hbx6 : ∀ j : Nat, (xs j).toInt.natAbs ≤ 16384 := fun j => Nat.le_trans (hbx j) (by decide)
  have hby6 : ∀ j : Nat, (ys j).toInt.natAbs ≤ 16384 := fun j => Nat.le_trans (hby j) (by decide)
  have hts : ∀ w ∈ lw_G, w.before args s = true := fun w h => htH w (List.mem_append_right _ h)
  have hn1 : vp_in (x4 + (1 : Int32)) L := hin 1 (by decide) (by decide)
  have hn2 : vp_in (x4 + (2 : Int32)) L := hin 2 (by decide) (by decide)
  have hn3 : vp_in (x4 + (3 : Int32)) L := hin 3 (by decide) (by decide)
  have hn4 : vp_in (x4 + (4 : Int32)) L := hin 4 (by decide) (by decide)
  have hn5 : vp_in (x4 + (5 : Int32)) L := hin 5 (by decide) (by decide)
  have hn6 : vp_in (x4 + (6 : Int32)) L := hin 6 (by decide) (by decide)
  refine lv_aload_n hx hb dL_law_916 rfl (lv_at hl 1 rfl) ?_
  refine lv_aload_n hx hb dL_law_917 rfl (lv_at hl 0 rfl) ?_
  refine lv_iload hx hb dL_law_918 (lv_at hl 4 rfl) ?_
  refine lv_iconst (v := (1 : Int32)) hx hb dL_law_920 (by decide) ?_
  refine lv_iadd hx hb dL_law_921 ?_
  refine sld hq1 hx hb hXs hbl hbA hS hn1 dL_law_922 ?_
  refine lv_aload_n hx hb dL_law_923 rfl (lv_at hl 0 rfl) ?_
  refine lv_iload hx hb dL_law_924 (lv_at hl 4 rfl) ?_
  refine lv_iconst (v := (2 : Int32)) hx hb dL_law_926 (by decide) ?_
  refine lv_iadd hx hb dL_law_927 ?_
  refine sld hq2 hx hb hXs hbl hbA hS hn2 dL_law_928 ?_
  refine cp_i (va_runV (As := [.int q1, .int q2]) (rest := []) ⟨hx, hb, hml, hown, hts⟩ (c_X5_polygon l dC dI a cI cJ xs ys pl kp lp lq lr P on c1 c2 c3 rh ln d7 d8 d9 d10 q1 q2 hv0 hh hpl) (cwV 2 hts (gG_V mG_21_12 mG_21_13 mG_21_14 mG_1_2 (gG_c mG_21_15 gG_G)) rfl rfl rfl hd_X5_polygon ⟨Nat.le_of_ble_eq_true rfl, Nat.le_of_ble_eq_true rfl⟩) (pPcV (ci := 9) (q0 := 0) hK hP.right.left rfl rfl) rfl rfl hl.1 rfl (lv_room (Nat.le_of_ble_eq_true rfl)) dL_law_929 ⟨by show ce + 0 ≤ 603072; omega, by show sl + 0 ≤ 7198826; omega⟩) hP hS (fun H hP hS => ?_)
  refine lv_aload_n hx hb dL_law_932 rfl (lv_at hl 2 rfl) ?_
  refine lv_aload_n hx hb dL_law_933 rfl (lv_at hl 0 rfl) ?_
  refine lv_iload hx hb dL_law_934 (lv_at hl 4 rfl) ?_
  refine lv_iconst (v := (1 : Int32)) hx hb dL_law_936 (by decide) ?_
  refine lv_iadd hx hb dL_law_937 ?_
  refine sld hq1 hx hb hXs hbl hbA hS hn1 dL_law_938 ?_
  refine lv_aload_n hx hb dL_law_939 rfl (lv_at hl 0 rfl) ?_
  refine lv_iload hx hb dL_law_940 (lv_at hl 4 rfl) ?_
  refine lv_iconst (v := (2 : Int32)) hx hb dL_law_942 (by decide) ?_
  refine lv_iadd hx hb dL_law_943 ?_
  refine sld hq2 hx hb hXs hbl hbA hS hn2 dL_law_944 ?_
  refine cw_i (va_runV (As := [.int q1, .int q2]) (rest := [.int (f_X5_polygon xs ys pl P rh q1 q2)]) ⟨hx, hb, hml, hown, hts⟩ (c_X6_polygon l dC dI b cI cJ xs ys pm lp lq lr th P rh on c1 c2 c3 ln q1 q2 hv0 hh hpm) (cwV 2 hts (gG_V mG_22_10 mG_22_11 mG_22_12 mG_1_5 (gG_c mG_22_13 gG_G)) rfl rfl rfl hd_X6_polygon ⟨Nat.le_of_ble_eq_true rfl, Nat.le_of_ble_eq_true rfl⟩) (wPcV (ci := 10) (q0 := 0) hK hP.left hD.left rfl rfl) rfl rfl hl.1 rfl (lv_room (Nat.le_of_ble_eq_true rfl)) dL_law_945 ⟨by show ce + 0 ≤ 603072; omega, by show sl + 0 ≤ 7198826; omega⟩) (wA.sub hD.left) hS (fun H locs hP1 hk1 hS => ?_)
  have hP := jn_1 hP hD hP1 hk1
  have hD := hD.addr (w1 := ((wM b cI cJ xs ys pm lp lq lr ((f_X6_polygon xs ys pm th P rh q1 q2).2) P rh on c1 c2 c3 ln) ++ ((wC a cI cJ xs ys pl kp lp lq lr P on c1 c2 c3 rh ln d7 d8 d9 d10) ++ (wO o cJ fo)))) rfl
  have hP : va_P (dC, dI) vwCl ((wM b cI cJ xs ys pm lp lq lr ((f_X6_polygon xs ys pm th P rh q1 q2).2) P rh on c1 c2 c3 ln) ++ ((wC a cI cJ xs ys pl kp lp lq lr P on c1 c2 c3 rh ln d7 d8 d9 d10) ++ (wO o cJ fo))) H := hP
  have hst := st_polygon hI th q1 q2
  refine lv_icmp_eq (tgt := 1311) hx hb dL_law_948 (by decide) (fun _ => ?_) (fun c9 => absurd hst c9)
  refine W.widen (k := ce + 1) (n := sl + 8) (by omega) (by omega) ?_
  exact K xs ys pl pm kp lp lq lr P on c1 c2 c3 rh ln d7 d8 d9 d10 ((f_X6_polygon xs ys pm th P rh q1 q2).2) fo hI _ _ hP (hD.addr rfl) hS ls (lv_sub hl [0, 1, 2, 3, 4] rfl)
set_option maxHeartbeats 8000000 in
set_option maxRecDepth 100000 in
theorem lc_14 {p : Program} {l : Launch} {e : Env} {s : State} {m : MethodId} {args : Array Value} {below : List Frame} {meth : Method} {c : Code} {Q : State → Prop} (hx : p.tables.exec = Jvm.exec) (hb : c.code = cL_law) (hml : c.maxLocals = 8) (hown : s.vm.findClass RL = some m.cls) (htH : ∀ w ∈ lw_H, w.before args s = true) {bs L : Nat} {sc : Nat → Int32} (hXs : va_X bs L sc s s.heap) (hbl : bs < s.heap.size) {A : Nat → Prop} (hbA : ¬ A bs) (hlt : l.stackTraces = false) {dC : Nat → ClassId} {dI : Nat → Nat → Nat} {a b : Nat → Nat} {cI cJ : ClassId} {sa : Nat → Nat} {o : Nat} (hK : kK (dC, dI) (tIJ cI cJ) s) (hX : kX A sa s s.heap) {ce sl : Nat} (hce : ce + 1 ≤ 603072) (hsl : sl + 8 ≤ 7198826) {x4 : Int32} (hin : ∀ k : Int32, 0 ≤ k → k ≤ 6 → vp_in (x4 + k) L) {xs ys pl pm kp : Nat → Int32} {lp lq lr : Nat → Int64} {P on c1 c2 c3 rh ln d7 d8 d9 d10 th : Int32} {fo : Nat → Int64} (hI : Inv xs ys pl pm lp lq lr P on rh ln) (q1 : Int32) (hq1 : sc (Int32.toNatClampNeg (x4 + (1 : Int32))) = q1) (q2 : Int32) (hq2 : sc (Int32.toNatClampNeg (x4 + (2 : Int32))) = q2) (K : (∀ (xs ys pl pm kp : Nat → Int32) (lp lq lr : Nat → Int64) (P on c1 c2 c3 rh ln d7 d8 d9 d10 th : Int32) (fo : Nat → Int64), Inv xs ys pl pm lp lq lr P on rh ln → ∀ (H : Heap) (locs : List Loc), va_P (dC, dI) vwCl ((wM b cI cJ xs ys pm lp lq lr th P rh on c1 c2 c3 ln) ++ ((wC a cI cJ xs ys pl kp lp lq lr P on c1 c2 c3 rh ln d7 d8 d9 d10) ++ (wO o cJ fo))) H → va_D A ((wM b cI cJ xs ys pm lp lq lr th P rh on c1 c2 c3 ln) ++ ((wC a cI cJ xs ys pl kp lp lq lr P on c1 c2 c3 rh ln d7 d8 d9 d10) ++ (wO o cJ fo))) → va_S A s.heap H locs → ∀ (ls : Array Slot), lv_has ls 8 [(0, .ref bs), (1, .ref (a 0)), (2, .ref (b 0)), (3, .ref o), (4, .int x4)] → W p l e room_1 s m args below meth c H locs (ce + 1) (sl + 8) Q (F0 m 1311 ls []))) : ∀ (H : Heap) (locs : List Loc), va_P (dC, dI) vwCl ((wM b cI cJ xs ys pm lp lq lr th P rh on c1 c2 c3 ln) ++ ((wC a cI cJ xs ys pl kp lp lq lr P on c1 c2 c3 rh ln d7 d8 d9 d10) ++ (wO o cJ fo))) H → va_D A ((wM b cI cJ xs ys pm lp lq lr th P rh on c1 c2 c3 ln) ++ ((wC a cI cJ xs ys pl kp lp lq lr P on c1 c2 c3 rh ln d7 d8 d9 d10) ++ (wO o cJ fo))) → va_S A s.heap H locs → ∀ (ls : Array Slot), lv_has ls 8 [(0, .ref bs), (1, .ref (a 0)), (2, .ref (b 0)), (3, .ref o), (4, .int x4)] → W p l e room_1 s m args below meth c H locs ce sl Q (F0 m 953 ls []) := by
  intro H locs hP hD hS ls hl
  obtain ⟨⟨hg0, hv0⟩, ⟨hr0, hh⟩, ⟨hl0, hl6⟩, hon, hbx, hby, hpl, hpm, hplP, hrel, hlnk⟩ := id hI
  have hbx6 : ∀ j : Nat, (xs j).toInt.natAbs ≤ 16384 := fun j => Nat.le_trans (hbx j) (by decide)
  have hby6 : ∀ j : Nat, (ys j).toInt.natAbs ≤ 16384 := fun j => Nat.le_trans (hby j) (by decide)
  have hts : ∀ w ∈ lw_G, w.before args s = true := fun w h => htH w (List.mem_append_right _ h)
  have hn1 : vp_in (x4 + (1 : Int32)) L := hin 1 (by decide) (by decide)
  have hn2 : vp_in (x4 + (2 : Int32)) L := hin 2 (by decide) (by decide)
  have hn3 : vp_in (x4 + (3 : Int32)) L := hin 3 (by decide) (by decide)
  have hn4 : vp_in (x4 + (4 : Int32)) L := hin 4 (by decide) (by decide)
  have hn5 : vp_in (x4 + (5 : Int32)) L := hin 5 (by decide) (by decide)
  have hn6 : vp_in (x4 + (6 : Int32)) L := hin 6 (by decide) (by decide)
  refine lv_aload_n hx hb dL_law_953 rfl (lv_at hl 1 rfl) ?_
  refine lv_aload_n hx hb dL_law_954 rfl (lv_at hl 0 rfl) ?_
  refine lv_iload hx hb dL_law_955 (lv_at hl 4 rfl) ?_
  refine lv_iconst (v := (1 : Int32)) hx hb dL_law_957 (by decide) ?_
  refine lv_iadd hx hb dL_law_958 ?_
  refine sld hq1 hx hb hXs hbl hbA hS hn1 dL_law_959 ?_
  refine lv_aload_n hx hb dL_law_960 rfl (lv_at hl 0 rfl) ?_
  refine lv_iload hx hb dL_law_961 (lv_at hl 4 rfl) ?_
  refine lv_iconst (v := (2 : Int32)) hx hb dL_law_963 (by decide) ?_
  refine lv_iadd hx hb dL_law_964 ?_
  refine sld hq2 hx hb hXs hbl hbA hS hn2 dL_law_965 ?_
  refine cp_i (va_runV (As := [.int q1, .int q2]) (rest := []) ⟨hx, hb, hml, hown, hts⟩ (c_X5_winding l dC dI a cI cJ xs ys pl kp lp lq lr P on c1 c2 c3 rh ln d7 d8 d9 d10 q1 q2 hv0 hh hpl) (cwV 2 hts (gG_V mG_22_22 mG_22_23 mG_23_0 mG_1_2 (gG_c mG_23_1 gG_G)) rfl rfl rfl hd_X5_winding ⟨Nat.le_of_ble_eq_true rfl, Nat.le_of_ble_eq_true rfl⟩) (pPcV (ci := 9) (q0 := 0) hK hP.right.left rfl rfl) rfl rfl hl.1 rfl (lv_room (Nat.le_of_ble_eq_true rfl)) dL_law_966 ⟨by show ce + 0 ≤ 603072; omega, by show sl + 0 ≤ 7198826; omega⟩) hP hS (fun H hP hS => ?_)
  refine lv_aload_n hx hb dL_law_969 rfl (lv_at hl 2 rfl) ?_
  refine lv_aload_n hx hb dL_law_970 rfl (lv_at hl 0 rfl) ?_
  refine lv_iload hx hb dL_law_971 (lv_at hl 4 rfl) ?_
  refine lv_iconst (v := (1 : Int32)) hx hb dL_law_973 (by decide) ?_
  refine lv_iadd hx hb dL_law_974 ?_
  refine sld hq1 hx hb hXs hbl hbA hS hn1 dL_law_975 ?_
  refine lv_aload_n hx hb dL_law_976 rfl (lv_at hl 0 rfl) ?_
  refine lv_iload hx hb dL_law_977 (lv_at hl 4 rfl) ?_
  refine lv_iconst (v := (2 : Int32)) hx hb dL_law_979 (by decide) ?_
  refine lv_iadd hx hb dL_law_980 ?_
  refine sld hq2 hx hb hXs hbl hbA hS hn2 dL_law_981 ?_
  refine cw_i (va_runV (As := [.int q1, .int q2]) (rest := [.int (f_X5_winding xs ys pl P rh q1 q2)]) ⟨hx, hb, hml, hown, hts⟩ (c_X6_winding l dC dI b cI cJ xs ys pm lp lq lr th P rh on c1 c2 c3 ln q1 q2 hv0 hh hpm) (cwV 2 hts (gG_V mG_23_2 mG_23_3 mG_23_4 mG_1_5 (gG_c mG_23_5 gG_G)) rfl rfl rfl hd_X6_winding ⟨Nat.le_of_ble_eq_true rfl, Nat.le_of_ble_eq_true rfl⟩) (wPcV (ci := 10) (q0 := 0) hK hP.left hD.left rfl rfl) rfl rfl hl.1 rfl (lv_room (Nat.le_of_ble_eq_true rfl)) dL_law_982 ⟨by show ce + 0 ≤ 603072; omega, by show sl + 0 ≤ 7198826; omega⟩) (wA.sub hD.left) hS (fun H locs hP1 hk1 hS => ?_)
  have hP := jn_1 hP hD hP1 hk1
  have hD := hD.addr (w1 := ((wM b cI cJ xs ys pm lp lq lr ((f_X6_winding xs ys pm th P rh q1 q2).2) P rh on c1 c2 c3 ln) ++ ((wC a cI cJ xs ys pl kp lp lq lr P on c1 c2 c3 rh ln d7 d8 d9 d10) ++ (wO o cJ fo)))) rfl
  have hP : va_P (dC, dI) vwCl ((wM b cI cJ xs ys pm lp lq lr ((f_X6_winding xs ys pm th P rh q1 q2).2) P rh on c1 c2 c3 ln) ++ ((wC a cI cJ xs ys pl kp lp lq lr P on c1 c2 c3 rh ln d7 d8 d9 d10) ++ (wO o cJ fo))) H := hP
  have hst := st_winding hI th q1 q2
  refine lv_icmp_eq (tgt := 1311) hx hb dL_law_985 (by decide) (fun _ => ?_) (fun c9 => absurd hst c9)
  refine W.widen (k := ce + 1) (n := sl + 8) (by omega) (by omega) ?_
  exact K xs ys pl pm kp lp lq lr P on c1 c2 c3 rh ln d7 d8 d9 d10 ((f_X6_winding xs ys pm th P rh q1 q2).2) fo hI _ _ hP (hD.addr rfl) hS ls (lv_sub hl [0, 1, 2, 3, 4] rfl)
set_option maxHeartbeats 8000000 in
set_option maxRecDepth 100000 in
theorem lc_15 {p : Program} {l : Launch} {e : Env} {s : State} {m : MethodId} {args : Array Value} {below : List Frame} {meth : Method} {c : Code} {Q : State → Prop} (hx : p.tables.exec = Jvm.exec) (hb : c.code = cL_law) (hml : c.maxLocals = 8) (hown : s.vm.findClass RL = some m.cls) (htH : ∀ w ∈ lw_H, w.before args s = true) {bs L : Nat} {sc : Nat → Int32} (hXs : va_X bs L sc s s.heap) (hbl : bs < s.heap.size) {A : Nat → Prop} (hbA : ¬ A bs) (hlt : l.stackTraces = false) {dC : Nat → ClassId} {dI : Nat → Nat → Nat} {a b : Nat → Nat} {cI cJ : ClassId} {sa : Nat → Nat} {o : Nat} (hK : kK (dC, dI) (tIJ cI cJ) s) (hX : kX A sa s s.heap) {ce sl : Nat} (hce : ce + 1 ≤ 603072) (hsl : sl + 8 ≤ 7198826) {x4 : Int32} (hin : ∀ k : Int32, 0 ≤ k → k ≤ 6 → vp_in (x4 + k) L) {xs ys pl pm kp : Nat → Int32} {lp lq lr : Nat → Int64} {P on c1 c2 c3 rh ln d7 d8 d9 d10 th : Int32} {fo : Nat → Int64} (hI : Inv xs ys pl pm lp lq lr P on rh ln) (q1 : Int32) (hq1 : sc (Int32.toNatClampNeg (x4 + (1 : Int32))) = q1) (q2 : Int32) (hq2 : sc (Int32.toNatClampNeg (x4 + (2 : Int32))) = q2) (K : (∀ (xs ys pl pm kp : Nat → Int32) (lp lq lr : Nat → Int64) (P on c1 c2 c3 rh ln d7 d8 d9 d10 th : Int32) (fo : Nat → Int64), Inv xs ys pl pm lp lq lr P on rh ln → ∀ (H : Heap) (locs : List Loc), va_P (dC, dI) vwCl ((wM b cI cJ xs ys pm lp lq lr th P rh on c1 c2 c3 ln) ++ ((wC a cI cJ xs ys pl kp lp lq lr P on c1 c2 c3 rh ln d7 d8 d9 d10) ++ (wO o cJ fo))) H → va_D A ((wM b cI cJ xs ys pm lp lq lr th P rh on c1 c2 c3 ln) ++ ((wC a cI cJ xs ys pl kp lp lq lr P on c1 c2 c3 rh ln d7 d8 d9 d10) ++ (wO o cJ fo))) → va_S A s.heap H locs → ∀ (ls : Array Slot), lv_has ls 8 [(0, .ref bs), (1, .ref (a 0)), (2, .ref (b 0)), (3, .ref o), (4, .int x4)] → W p l e room_1 s m args below meth c H locs (ce + 1) (sl + 8) Q (F0 m 1311 ls []))) : ∀ (H : Heap) (locs : List Loc), va_P (dC, dI) vwCl ((wM b cI cJ xs ys pm lp lq lr th P rh on c1 c2 c3 ln) ++ ((wC a cI cJ xs ys pl kp lp lq lr P on c1 c2 c3 rh ln d7 d8 d9 d10) ++ (wO o cJ fo))) H → va_D A ((wM b cI cJ xs ys pm lp lq lr th P rh on c1 c2 c3 ln) ++ ((wC a cI cJ xs ys pl kp lp lq lr P on c1 c2 c3 rh ln d7 d8 d9 d10) ++ (wO o cJ fo))) → va_S A s.heap H locs → ∀ (ls : Array Slot), lv_has ls 8 [(0, .ref bs), (1, .ref (a 0)), (2, .ref (b 0)), (3, .ref o), (4, .int x4)] → W p l e room_1 s m args below meth c H locs ce sl Q (F0 m 990 ls []) := by
  intro H locs hP hD hS ls hl
  obtain ⟨⟨hg0, hv0⟩, ⟨hr0, hh⟩, ⟨hl0, hl6⟩, hon, hbx, hby, hpl, hpm, hplP, hrel, hlnk⟩ := id hI
  have hbx6 : ∀ j : Nat, (xs j).toInt.natAbs ≤ 16384 := fun j => Nat.le_trans (hbx j) (by decide)
  have hby6 : ∀ j : Nat, (ys j).toInt.natAbs ≤ 16384 := fun j => Nat.le_trans (hby j) (by decide)
  have hts : ∀ w ∈ lw_G, w.before args s = true := fun w h => htH w (List.mem_append_right _ h)
  have hn1 : vp_in (x4 + (1 : Int32)) L := hin 1 (by decide) (by decide)
  have hn2 : vp_in (x4 + (2 : Int32)) L := hin 2 (by decide) (by decide)
  have hn3 : vp_in (x4 + (3 : Int32)) L := hin 3 (by decide) (by decide)
  have hn4 : vp_in (x4 + (4 : Int32)) L := hin 4 (by decide) (by decide)
  have hn5 : vp_in (x4 + (5 : Int32)) L := hin 5 (by decide) (by decide)
  have hn6 : vp_in (x4 + (6 : Int32)) L := hin 6 (by decide) (by decide)
  refine lv_aload_n hx hb dL_law_990 rfl (lv_at hl 1 rfl) ?_
  refine lv_aload_n hx hb dL_law_991 rfl (lv_at hl 0 rfl) ?_
  refine lv_iload hx hb dL_law_992 (lv_at hl 4 rfl) ?_
  refine lv_iconst (v := (1 : Int32)) hx hb dL_law_994 (by decide) ?_
  refine lv_iadd hx hb dL_law_995 ?_
  refine sld hq1 hx hb hXs hbl hbA hS hn1 dL_law_996 ?_
  refine lv_aload_n hx hb dL_law_997 rfl (lv_at hl 0 rfl) ?_
  refine lv_iload hx hb dL_law_998 (lv_at hl 4 rfl) ?_
  refine lv_iconst (v := (2 : Int32)) hx hb dL_law_1000 (by decide) ?_
  refine lv_iadd hx hb dL_law_1001 ?_
  refine sld hq2 hx hb hXs hbl hbA hS hn2 dL_law_1002 ?_
  refine cp_i (va_runV (As := [.int q1, .int q2]) (rest := []) ⟨hx, hb, hml, hown, hts⟩ (c_X5_nearest l dC dI a cI cJ xs ys pl kp lp lq lr P on c1 c2 c3 rh ln d7 d8 d9 d10 q1 q2 hv0 hh hpl) (cwV 2 hts (gG_V mG_23_6 mG_23_7 mG_23_8 mG_1_2 (gG_c mG_23_9 gG_G)) rfl rfl rfl hd_X5_nearest ⟨Nat.le_of_ble_eq_true rfl, Nat.le_of_ble_eq_true rfl⟩) (pPcV (ci := 9) (q0 := 0) hK hP.right.left rfl rfl) rfl rfl hl.1 rfl (lv_room (Nat.le_of_ble_eq_true rfl)) dL_law_1003 ⟨by show ce + 0 ≤ 603072; omega, by show sl + 0 ≤ 7198826; omega⟩) hP hS (fun H hP hS => ?_)
  refine lv_aload_n hx hb dL_law_1006 rfl (lv_at hl 2 rfl) ?_
  refine lv_aload_n hx hb dL_law_1007 rfl (lv_at hl 0 rfl) ?_
  refine lv_iload hx hb dL_law_1008 (lv_at hl 4 rfl) ?_
  refine lv_iconst (v := (1 : Int32)) hx hb dL_law_1010 (by decide) ?_
  refine lv_iadd hx hb dL_law_1011 ?_
  refine sld hq1 hx hb hXs hbl hbA hS hn1 dL_law_1012 ?_
  refine lv_aload_n hx hb dL_law_1013 rfl (lv_at hl 0 rfl) ?_
  refine lv_iload hx hb dL_law_1014 (lv_at hl 4 rfl) ?_
  refine lv_iconst (v := (2 : Int32)) hx hb dL_law_1016 (by decide) ?_
  refine lv_iadd hx hb dL_law_1017 ?_
  refine sld hq2 hx hb hXs hbl hbA hS hn2 dL_law_1018 ?_
  refine cw_i (va_runV (As := [.int q1, .int q2]) (rest := [.int (f_X5_nearest xs ys pl P rh q1 q2)]) ⟨hx, hb, hml, hown, hts⟩ (c_X6_nearest l dC dI b cI cJ xs ys pm lp lq lr th P rh on c1 c2 c3 ln q1 q2 hv0 hh hpm) (cwV 2 hts (gG_V mG_23_18 mG_23_19 mG_23_20 mG_1_5 (gG_c mG_23_21 gG_G)) rfl rfl rfl hd_X6_nearest ⟨Nat.le_of_ble_eq_true rfl, Nat.le_of_ble_eq_true rfl⟩) (wPcV (ci := 10) (q0 := 0) hK hP.left hD.left rfl rfl) rfl rfl hl.1 rfl (lv_room (Nat.le_of_ble_eq_true rfl)) dL_law_1019 ⟨by show ce + 0 ≤ 603072; omega, by show sl + 0 ≤ 7198826; omega⟩) (wA.sub hD.left) hS (fun H locs hP1 hk1 hS => ?_)
  have hP := jn_1 hP hD hP1 hk1
  have hD := hD.addr (w1 := ((wM b cI cJ xs ys pm lp lq lr ((f_X6_nearest xs ys pm th P rh q1 q2).2) P rh on c1 c2 c3 ln) ++ ((wC a cI cJ xs ys pl kp lp lq lr P on c1 c2 c3 rh ln d7 d8 d9 d10) ++ (wO o cJ fo)))) rfl
  have hP : va_P (dC, dI) vwCl ((wM b cI cJ xs ys pm lp lq lr ((f_X6_nearest xs ys pm th P rh q1 q2).2) P rh on c1 c2 c3 ln) ++ ((wC a cI cJ xs ys pl kp lp lq lr P on c1 c2 c3 rh ln d7 d8 d9 d10) ++ (wO o cJ fo))) H := hP
  have hst := st_nearest hI th q1 q2
  refine lv_icmp_eq (tgt := 1311) hx hb dL_law_1022 (by decide) (fun _ => ?_) (fun c9 => absurd hst c9)
  refine W.widen (k := ce + 1) (n := sl + 8) (by omega) (by omega) ?_
  exact K xs ys pl pm kp lp lq lr P on c1 c2 c3 rh ln d7 d8 d9 d10 ((f_X6_nearest xs ys pm th P rh q1 q2).2) fo hI _ _ hP (hD.addr rfl) hS ls (lv_sub hl [0, 1, 2, 3, 4] rfl)
set_option maxHeartbeats 8000000 in
set_option maxRecDepth 100000 in
theorem lc_16 {p : Program} {l : Launch} {e : Env} {s : State} {m : MethodId} {args : Array Value} {below : List Frame} {meth : Method} {c : Code} {Q : State → Prop} (hx : p.tables.exec = Jvm.exec) (hb : c.code = cL_law) (hml : c.maxLocals = 8) (hown : s.vm.findClass RL = some m.cls) (htH : ∀ w ∈ lw_H, w.before args s = true) {bs L : Nat} {sc : Nat → Int32} (hXs : va_X bs L sc s s.heap) (hbl : bs < s.heap.size) {A : Nat → Prop} (hbA : ¬ A bs) (hlt : l.stackTraces = false) {dC : Nat → ClassId} {dI : Nat → Nat → Nat} {a b : Nat → Nat} {cI cJ : ClassId} {sa : Nat → Nat} {o : Nat} (hK : kK (dC, dI) (tIJ cI cJ) s) (hX : kX A sa s s.heap) {ce sl : Nat} (hce : ce + 1 ≤ 603072) (hsl : sl + 8 ≤ 7198826) {x4 : Int32} (hin : ∀ k : Int32, 0 ≤ k → k ≤ 6 → vp_in (x4 + k) L) {xs ys pl pm kp : Nat → Int32} {lp lq lr : Nat → Int64} {P on c1 c2 c3 rh ln d7 d8 d9 d10 th : Int32} {fo : Nat → Int64} (hI : Inv xs ys pl pm lp lq lr P on rh ln) (q1 : Int32) (hq1 : sc (Int32.toNatClampNeg (x4 + (1 : Int32))) = q1) (q2 : Int32) (hq2 : sc (Int32.toNatClampNeg (x4 + (2 : Int32))) = q2) (q3 : Int32) (hq3 : sc (Int32.toNatClampNeg (x4 + (3 : Int32))) = q3) (K : (∀ (xs ys pl pm kp : Nat → Int32) (lp lq lr : Nat → Int64) (P on c1 c2 c3 rh ln d7 d8 d9 d10 th : Int32) (fo : Nat → Int64), Inv xs ys pl pm lp lq lr P on rh ln → ∀ (H : Heap) (locs : List Loc), va_P (dC, dI) vwCl ((wM b cI cJ xs ys pm lp lq lr th P rh on c1 c2 c3 ln) ++ ((wC a cI cJ xs ys pl kp lp lq lr P on c1 c2 c3 rh ln d7 d8 d9 d10) ++ (wO o cJ fo))) H → va_D A ((wM b cI cJ xs ys pm lp lq lr th P rh on c1 c2 c3 ln) ++ ((wC a cI cJ xs ys pl kp lp lq lr P on c1 c2 c3 rh ln d7 d8 d9 d10) ++ (wO o cJ fo))) → va_S A s.heap H locs → ∀ (ls : Array Slot), lv_has ls 8 [(0, .ref bs), (1, .ref (a 0)), (2, .ref (b 0)), (3, .ref o), (4, .int x4)] → W p l e room_1 s m args below meth c H locs (ce + 1) (sl + 8) Q (F0 m 1311 ls []))) : ∀ (H : Heap) (locs : List Loc), va_P (dC, dI) vwCl ((wM b cI cJ xs ys pm lp lq lr th P rh on c1 c2 c3 ln) ++ ((wC a cI cJ xs ys pl kp lp lq lr P on c1 c2 c3 rh ln d7 d8 d9 d10) ++ (wO o cJ fo))) H → va_D A ((wM b cI cJ xs ys pm lp lq lr th P rh on c1 c2 c3 ln) ++ ((wC a cI cJ xs ys pl kp lp lq lr P on c1 c2 c3 rh ln d7 d8 d9 d10) ++ (wO o cJ fo))) → va_S A s.heap H locs → ∀ (ls : Array Slot), lv_has ls 8 [(0, .ref bs), (1, .ref (a 0)), (2, .ref (b 0)), (3, .ref o), (4, .int x4)] → W p l e room_1 s m args below meth c H locs ce sl Q (F0 m 1027 ls []) := by
  intro H locs hP hD hS ls hl
  obtain ⟨⟨hg0, hv0⟩, ⟨hr0, hh⟩, ⟨hl0, hl6⟩, hon, hbx, hby, hpl, hpm, hplP, hrel, hlnk⟩ := id hI
  have hbx6 : ∀ j : Nat, (xs j).toInt.natAbs ≤ 16384 := fun j => Nat.le_trans (hbx j) (by decide)
  have hby6 : ∀ j : Nat, (ys j).toInt.natAbs ≤ 16384 := fun j => Nat.le_trans (hby j) (by decide)
  have hts : ∀ w ∈ lw_G, w.before args s = true := fun w h => htH w (List.mem_append_right _ h)
  have hn1 : vp_in (x4 + (1 : Int32)) L := hin 1 (by decide) (by decide)
  have hn2 : vp_in (x4 + (2 : Int32)) L := hin 2 (by decide) (by decide)
  have hn3 : vp_in (x4 + (3 : Int32)) L := hin 3 (by decide) (by decide)
  have hn4 : vp_in (x4 + (4 : Int32)) L := hin 4 (by decide) (by decide)
  have hn5 : vp_in (x4 + (5 : Int32)) L := hin 5 (by decide) (by decide)
  have hn6 : vp_in (x4 + (6 : Int32)) L := hin 6 (by decide) (by decide)
  refine lv_aload_n hx hb dL_law_1027 rfl (lv_at hl 1 rfl) ?_
  refine lv_aload_n hx hb dL_law_1028 rfl (lv_at hl 0 rfl) ?_
  refine lv_iload hx hb dL_law_1029 (lv_at hl 4 rfl) ?_
  refine lv_iconst (v := (1 : Int32)) hx hb dL_law_1031 (by decide) ?_
  refine lv_iadd hx hb dL_law_1032 ?_
  refine sld hq1 hx hb hXs hbl hbA hS hn1 dL_law_1033 ?_
  refine lv_aload_n hx hb dL_law_1034 rfl (lv_at hl 0 rfl) ?_
  refine lv_iload hx hb dL_law_1035 (lv_at hl 4 rfl) ?_
  refine lv_iconst (v := (2 : Int32)) hx hb dL_law_1037 (by decide) ?_
  refine lv_iadd hx hb dL_law_1038 ?_
  refine sld hq2 hx hb hXs hbl hbA hS hn2 dL_law_1039 ?_
  refine lv_aload_n hx hb dL_law_1040 rfl (lv_at hl 0 rfl) ?_
  refine lv_iload hx hb dL_law_1041 (lv_at hl 4 rfl) ?_
  refine lv_iconst (v := (3 : Int32)) hx hb dL_law_1043 (by decide) ?_
  refine lv_iadd hx hb dL_law_1044 ?_
  refine sld hq3 hx hb hXs hbl hbA hS hn3 dL_law_1045 ?_
  refine cp_i (va_runV (As := [.int q1, .int q2, .int q3]) (rest := []) ⟨hx, hb, hml, hown, hts⟩ (c_X5_around l dC dI a cI cJ xs ys pl kp lp lq lr P on c1 c2 c3 rh ln d7 d8 d9 d10 q1 q2 q3 hv0 hh hpl) (cwV 3 hts (gG_V mG_24_2 mG_24_3 mG_24_4 mG_1_2 (gG_c mG_24_5 gG_G)) rfl rfl rfl hd_X5_around ⟨Nat.le_of_ble_eq_true rfl, Nat.le_of_ble_eq_true rfl⟩) (pPcV (ci := 9) (q0 := 0) hK hP.right.left rfl rfl) rfl rfl hl.1 rfl (lv_room (Nat.le_of_ble_eq_true rfl)) dL_law_1046 ⟨by show ce + 0 ≤ 603072; omega, by show sl + 0 ≤ 7198826; omega⟩) hP hS (fun H hP hS => ?_)
  refine lv_aload_n hx hb dL_law_1049 rfl (lv_at hl 2 rfl) ?_
  refine lv_aload_n hx hb dL_law_1050 rfl (lv_at hl 0 rfl) ?_
  refine lv_iload hx hb dL_law_1051 (lv_at hl 4 rfl) ?_
  refine lv_iconst (v := (1 : Int32)) hx hb dL_law_1053 (by decide) ?_
  refine lv_iadd hx hb dL_law_1054 ?_
  refine sld hq1 hx hb hXs hbl hbA hS hn1 dL_law_1055 ?_
  refine lv_aload_n hx hb dL_law_1056 rfl (lv_at hl 0 rfl) ?_
  refine lv_iload hx hb dL_law_1057 (lv_at hl 4 rfl) ?_
  refine lv_iconst (v := (2 : Int32)) hx hb dL_law_1059 (by decide) ?_
  refine lv_iadd hx hb dL_law_1060 ?_
  refine sld hq2 hx hb hXs hbl hbA hS hn2 dL_law_1061 ?_
  refine lv_aload_n hx hb dL_law_1062 rfl (lv_at hl 0 rfl) ?_
  refine lv_iload hx hb dL_law_1063 (lv_at hl 4 rfl) ?_
  refine lv_iconst (v := (3 : Int32)) hx hb dL_law_1065 (by decide) ?_
  refine lv_iadd hx hb dL_law_1066 ?_
  refine sld hq3 hx hb hXs hbl hbA hS hn3 dL_law_1067 ?_
  refine cw_i (va_runV (As := [.int q1, .int q2, .int q3]) (rest := [.int (f_X5_around xs ys pl P rh q1 q2 q3)]) ⟨hx, hb, hml, hown, hts⟩ (c_X6_around l dC dI b cI cJ xs ys pm lp lq lr th P rh on c1 c2 c3 ln q1 q2 q3 hv0 hh hpm) (cwV 3 hts (gG_V mG_25_1 mG_25_2 mG_25_3 mG_1_5 (gG_c mG_25_4 gG_G)) rfl rfl rfl hd_X6_around ⟨Nat.le_of_ble_eq_true rfl, Nat.le_of_ble_eq_true rfl⟩) (wPcV (ci := 10) (q0 := 0) hK hP.left hD.left rfl rfl) rfl rfl hl.1 rfl (lv_room (Nat.le_of_ble_eq_true rfl)) dL_law_1068 ⟨by show ce + 0 ≤ 603072; omega, by show sl + 0 ≤ 7198826; omega⟩) (wA.sub hD.left) hS (fun H locs hP1 hk1 hS => ?_)
  have hP := jn_1 hP hD hP1 hk1
  have hD := hD.addr (w1 := ((wM b cI cJ xs ys pm lp lq lr ((f_X6_around xs ys pm th P rh q1 q2 q3).2) P rh on c1 c2 c3 ln) ++ ((wC a cI cJ xs ys pl kp lp lq lr P on c1 c2 c3 rh ln d7 d8 d9 d10) ++ (wO o cJ fo)))) rfl
  have hP : va_P (dC, dI) vwCl ((wM b cI cJ xs ys pm lp lq lr ((f_X6_around xs ys pm th P rh q1 q2 q3).2) P rh on c1 c2 c3 ln) ++ ((wC a cI cJ xs ys pl kp lp lq lr P on c1 c2 c3 rh ln d7 d8 d9 d10) ++ (wO o cJ fo))) H := hP
  have hst := st_around hI th q1 q2 q3
  refine lv_icmp_eq (tgt := 1311) hx hb dL_law_1071 (by decide) (fun _ => ?_) (fun c9 => absurd hst c9)
  refine W.widen (k := ce + 1) (n := sl + 8) (by omega) (by omega) ?_
  exact K xs ys pl pm kp lp lq lr P on c1 c2 c3 rh ln d7 d8 d9 d10 ((f_X6_around xs ys pm th P rh q1 q2 q3).2) fo hI _ _ hP (hD.addr rfl) hS ls (lv_sub hl [0, 1, 2, 3, 4] rfl)
set_option maxHeartbeats 8000000 in
set_option maxRecDepth 100000 in
theorem lc_17 {p : Program} {l : Launch} {e : Env} {s : State} {m : MethodId} {args : Array Value} {below : List Frame} {meth : Method} {c : Code} {Q : State → Prop} (hx : p.tables.exec = Jvm.exec) (hb : c.code = cL_law) (hml : c.maxLocals = 8) (hown : s.vm.findClass RL = some m.cls) (htH : ∀ w ∈ lw_H, w.before args s = true) {bs L : Nat} {sc : Nat → Int32} (hXs : va_X bs L sc s s.heap) (hbl : bs < s.heap.size) {A : Nat → Prop} (hbA : ¬ A bs) (hlt : l.stackTraces = false) {dC : Nat → ClassId} {dI : Nat → Nat → Nat} {a b : Nat → Nat} {cI cJ : ClassId} {sa : Nat → Nat} {o : Nat} (hK : kK (dC, dI) (tIJ cI cJ) s) (hX : kX A sa s s.heap) {ce sl : Nat} (hce : ce + 1 ≤ 603072) (hsl : sl + 8 ≤ 7198826) {x4 : Int32} (hin : ∀ k : Int32, 0 ≤ k → k ≤ 6 → vp_in (x4 + k) L) {xs ys pl pm kp : Nat → Int32} {lp lq lr : Nat → Int64} {P on c1 c2 c3 rh ln d7 d8 d9 d10 th : Int32} {fo : Nat → Int64} (hI : Inv xs ys pl pm lp lq lr P on rh ln) (q1 : Int32) (hq1 : sc (Int32.toNatClampNeg (x4 + (1 : Int32))) = q1) (q2 : Int32) (hq2 : sc (Int32.toNatClampNeg (x4 + (2 : Int32))) = q2) (K : (∀ (xs ys pl pm kp : Nat → Int32) (lp lq lr : Nat → Int64) (P on c1 c2 c3 rh ln d7 d8 d9 d10 th : Int32) (fo : Nat → Int64), Inv xs ys pl pm lp lq lr P on rh ln → ∀ (H : Heap) (locs : List Loc), va_P (dC, dI) vwCl ((wM b cI cJ xs ys pm lp lq lr th P rh on c1 c2 c3 ln) ++ ((wC a cI cJ xs ys pl kp lp lq lr P on c1 c2 c3 rh ln d7 d8 d9 d10) ++ (wO o cJ fo))) H → va_D A ((wM b cI cJ xs ys pm lp lq lr th P rh on c1 c2 c3 ln) ++ ((wC a cI cJ xs ys pl kp lp lq lr P on c1 c2 c3 rh ln d7 d8 d9 d10) ++ (wO o cJ fo))) → va_S A s.heap H locs → ∀ (ls : Array Slot), lv_has ls 8 [(0, .ref bs), (1, .ref (a 0)), (2, .ref (b 0)), (3, .ref o), (4, .int x4)] → W p l e room_1 s m args below meth c H locs (ce + 1) (sl + 8) Q (F0 m 1311 ls []))) : ∀ (H : Heap) (locs : List Loc), va_P (dC, dI) vwCl ((wM b cI cJ xs ys pm lp lq lr th P rh on c1 c2 c3 ln) ++ ((wC a cI cJ xs ys pl kp lp lq lr P on c1 c2 c3 rh ln d7 d8 d9 d10) ++ (wO o cJ fo))) H → va_D A ((wM b cI cJ xs ys pm lp lq lr th P rh on c1 c2 c3 ln) ++ ((wC a cI cJ xs ys pl kp lp lq lr P on c1 c2 c3 rh ln d7 d8 d9 d10) ++ (wO o cJ fo))) → va_S A s.heap H locs → ∀ (ls : Array Slot), lv_has ls 8 [(0, .ref bs), (1, .ref (a 0)), (2, .ref (b 0)), (3, .ref o), (4, .int x4)] → W p l e room_1 s m args below meth c H locs ce sl Q (F0 m 1076 ls []) := by
  intro H locs hP hD hS ls hl
  obtain ⟨⟨hg0, hv0⟩, ⟨hr0, hh⟩, ⟨hl0, hl6⟩, hon, hbx, hby, hpl, hpm, hplP, hrel, hlnk⟩ := id hI
  have hbx6 : ∀ j : Nat, (xs j).toInt.natAbs ≤ 16384 := fun j => Nat.le_trans (hbx j) (by decide)
  have hby6 : ∀ j : Nat, (ys j).toInt.natAbs ≤ 16384 := fun j => Nat.le_trans (hby j) (by decide)
  have hts : ∀ w ∈ lw_G, w.before args s = true := fun w h => htH w (List.mem_append_right _ h)
  have hn1 : vp_in (x4 + (1 : Int32)) L := hin 1 (by decide) (by decide)
  have hn2 : vp_in (x4 + (2 : Int32)) L := hin 2 (by decide) (by decide)
  have hn3 : vp_in (x4 + (3 : Int32)) L := hin 3 (by decide) (by decide)
  have hn4 : vp_in (x4 + (4 : Int32)) L := hin 4 (by decide) (by decide)
  have hn5 : vp_in (x4 + (5 : Int32)) L := hin 5 (by decide) (by decide)
  have hn6 : vp_in (x4 + (6 : Int32)) L := hin 6 (by decide) (by decide)
  refine lv_aload_n hx hb dL_law_1076 rfl (lv_at hl 1 rfl) ?_
  refine lv_aload_n hx hb dL_law_1077 rfl (lv_at hl 0 rfl) ?_
  refine lv_iload hx hb dL_law_1078 (lv_at hl 4 rfl) ?_
  refine lv_iconst (v := (1 : Int32)) hx hb dL_law_1080 (by decide) ?_
  refine lv_iadd hx hb dL_law_1081 ?_
  refine sld hq1 hx hb hXs hbl hbA hS hn1 dL_law_1082 ?_
  refine lv_aload_n hx hb dL_law_1083 rfl (lv_at hl 0 rfl) ?_
  refine lv_iload hx hb dL_law_1084 (lv_at hl 4 rfl) ?_
  refine lv_iconst (v := (2 : Int32)) hx hb dL_law_1086 (by decide) ?_
  refine lv_iadd hx hb dL_law_1087 ?_
  refine sld hq2 hx hb hXs hbl hbA hS hn2 dL_law_1088 ?_
  refine cp_i (va_runV (As := [.int q1, .int q2]) (rest := []) ⟨hx, hb, hml, hown, hts⟩ (c_X5_order l dC dI a cI cJ xs ys pl kp lp lq lr P on c1 c2 c3 rh ln d7 d8 d9 d10 q1 q2 hh hpl) (cwV 2 hts (gG_V mG_25_13 mG_25_14 mG_25_15 mG_1_2 (gG_c mG_25_16 gG_G)) rfl rfl rfl hd_X5_order ⟨Nat.le_of_ble_eq_true rfl, Nat.le_of_ble_eq_true rfl⟩) (pPcV (ci := 9) (q0 := 0) hK hP.right.left rfl rfl) rfl rfl hl.1 rfl (lv_room (Nat.le_of_ble_eq_true rfl)) dL_law_1089 ⟨by show ce + 0 ≤ 603072; omega, by show sl + 0 ≤ 7198826; omega⟩) hP hS (fun H hP hS => ?_)
  refine lv_aload_n hx hb dL_law_1092 rfl (lv_at hl 2 rfl) ?_
  refine lv_aload_n hx hb dL_law_1093 rfl (lv_at hl 0 rfl) ?_
  refine lv_iload hx hb dL_law_1094 (lv_at hl 4 rfl) ?_
  refine lv_iconst (v := (1 : Int32)) hx hb dL_law_1096 (by decide) ?_
  refine lv_iadd hx hb dL_law_1097 ?_
  refine sld hq1 hx hb hXs hbl hbA hS hn1 dL_law_1098 ?_
  refine lv_aload_n hx hb dL_law_1099 rfl (lv_at hl 0 rfl) ?_
  refine lv_iload hx hb dL_law_1100 (lv_at hl 4 rfl) ?_
  refine lv_iconst (v := (2 : Int32)) hx hb dL_law_1102 (by decide) ?_
  refine lv_iadd hx hb dL_law_1103 ?_
  refine sld hq2 hx hb hXs hbl hbA hS hn2 dL_law_1104 ?_
  refine cw_i (va_runV (As := [.int q1, .int q2]) (rest := [.int (f_X5_order xs ys pl rh q1 q2)]) ⟨hx, hb, hml, hown, hts⟩ (c_X6_order l dC dI b cI cJ xs ys pm lp lq lr th P rh on c1 c2 c3 ln q1 q2 hh hpm) (cwV 2 hts (gG_V mG_26_6 mG_26_7 mG_26_8 mG_1_5 (gG_c mG_26_9 gG_G)) rfl rfl rfl hd_X6_order ⟨Nat.le_of_ble_eq_true rfl, Nat.le_of_ble_eq_true rfl⟩) (wPcV (ci := 10) (q0 := 0) hK hP.left hD.left rfl rfl) rfl rfl hl.1 rfl (lv_room (Nat.le_of_ble_eq_true rfl)) dL_law_1105 ⟨by show ce + 0 ≤ 603072; omega, by show sl + 0 ≤ 7198826; omega⟩) (wA.sub hD.left) hS (fun H locs hP1 hk1 hS => ?_)
  have hP := jn_1 hP hD hP1 hk1
  have hD := hD.addr (w1 := ((wM b cI cJ xs ys pm lp lq lr ((f_X6_order xs ys pm th rh q1 q2).2) P rh on c1 c2 c3 ln) ++ ((wC a cI cJ xs ys pl kp lp lq lr P on c1 c2 c3 rh ln d7 d8 d9 d10) ++ (wO o cJ fo)))) rfl
  have hP : va_P (dC, dI) vwCl ((wM b cI cJ xs ys pm lp lq lr ((f_X6_order xs ys pm th rh q1 q2).2) P rh on c1 c2 c3 ln) ++ ((wC a cI cJ xs ys pl kp lp lq lr P on c1 c2 c3 rh ln d7 d8 d9 d10) ++ (wO o cJ fo))) H := hP
  have hst := st_order hI th q1 q2
  refine lv_icmp_eq (tgt := 1311) hx hb dL_law_1108 (by decide) (fun _ => ?_) (fun c9 => absurd hst c9)
  refine W.widen (k := ce + 1) (n := sl + 8) (by omega) (by omega) ?_
  exact K xs ys pl pm kp lp lq lr P on c1 c2 c3 rh ln d7 d8 d9 d10 ((f_X6_order xs ys pm th rh q1 q2).2) fo hI _ _ hP (hD.addr rfl) hS ls (lv_sub hl [0, 1, 2, 3, 4] rfl)
set_option maxHeartbeats 8000000 in
set_option maxRecDepth 100000 in
theorem lc_18 {p : Program} {l : Launch} {e : Env} {s : State} {m : MethodId} {args : Array Value} {below : List Frame} {meth : Method} {c : Code} {Q : State → Prop} (hx : p.tables.exec = Jvm.exec) (hb : c.code = cL_law) (hml : c.maxLocals = 8) (hown : s.vm.findClass RL = some m.cls) (htH : ∀ w ∈ lw_H, w.before args s = true) {bs L : Nat} {sc : Nat → Int32} (hXs : va_X bs L sc s s.heap) (hbl : bs < s.heap.size) {A : Nat → Prop} (hbA : ¬ A bs) (hlt : l.stackTraces = false) {dC : Nat → ClassId} {dI : Nat → Nat → Nat} {a b : Nat → Nat} {cI cJ : ClassId} {sa : Nat → Nat} {o : Nat} (hK : kK (dC, dI) (tIJ cI cJ) s) (hX : kX A sa s s.heap) {ce sl : Nat} (hce : ce + 1 ≤ 603072) (hsl : sl + 8 ≤ 7198826) {x4 : Int32} (hin : ∀ k : Int32, 0 ≤ k → k ≤ 6 → vp_in (x4 + k) L) {xs ys pl pm kp : Nat → Int32} {lp lq lr : Nat → Int64} {P on c1 c2 c3 rh ln d7 d8 d9 d10 th : Int32} {fo : Nat → Int64} (hI : Inv xs ys pl pm lp lq lr P on rh ln) (q1 : Int32) (hq1 : sc (Int32.toNatClampNeg (x4 + (1 : Int32))) = q1) (q2 : Int32) (hq2 : sc (Int32.toNatClampNeg (x4 + (2 : Int32))) = q2) (q3 : Int32) (hq3 : sc (Int32.toNatClampNeg (x4 + (3 : Int32))) = q3) (K : (∀ (xs ys pl pm kp : Nat → Int32) (lp lq lr : Nat → Int64) (P on c1 c2 c3 rh ln d7 d8 d9 d10 th : Int32) (fo : Nat → Int64), Inv xs ys pl pm lp lq lr P on rh ln → ∀ (H : Heap) (locs : List Loc), va_P (dC, dI) vwCl ((wM b cI cJ xs ys pm lp lq lr th P rh on c1 c2 c3 ln) ++ ((wC a cI cJ xs ys pl kp lp lq lr P on c1 c2 c3 rh ln d7 d8 d9 d10) ++ (wO o cJ fo))) H → va_D A ((wM b cI cJ xs ys pm lp lq lr th P rh on c1 c2 c3 ln) ++ ((wC a cI cJ xs ys pl kp lp lq lr P on c1 c2 c3 rh ln d7 d8 d9 d10) ++ (wO o cJ fo))) → va_S A s.heap H locs → ∀ (ls : Array Slot), lv_has ls 8 [(0, .ref bs), (1, .ref (a 0)), (2, .ref (b 0)), (3, .ref o), (4, .int x4)] → W p l e room_1 s m args below meth c H locs (ce + 1) (sl + 8) Q (F0 m 1311 ls []))) : ∀ (H : Heap) (locs : List Loc), va_P (dC, dI) vwCl ((wM b cI cJ xs ys pm lp lq lr th P rh on c1 c2 c3 ln) ++ ((wC a cI cJ xs ys pl kp lp lq lr P on c1 c2 c3 rh ln d7 d8 d9 d10) ++ (wO o cJ fo))) H → va_D A ((wM b cI cJ xs ys pm lp lq lr th P rh on c1 c2 c3 ln) ++ ((wC a cI cJ xs ys pl kp lp lq lr P on c1 c2 c3 rh ln d7 d8 d9 d10) ++ (wO o cJ fo))) → va_S A s.heap H locs → ∀ (ls : Array Slot), lv_has ls 8 [(0, .ref bs), (1, .ref (a 0)), (2, .ref (b 0)), (3, .ref o), (4, .int x4)] → W p l e room_1 s m args below meth c H locs ce sl Q (F0 m 1113 ls []) := by
  intro H locs hP hD hS ls hl
  obtain ⟨⟨hg0, hv0⟩, ⟨hr0, hh⟩, ⟨hl0, hl6⟩, hon, hbx, hby, hpl, hpm, hplP, hrel, hlnk⟩ := id hI
  have hbx6 : ∀ j : Nat, (xs j).toInt.natAbs ≤ 16384 := fun j => Nat.le_trans (hbx j) (by decide)
  have hby6 : ∀ j : Nat, (ys j).toInt.natAbs ≤ 16384 := fun j => Nat.le_trans (hby j) (by decide)
  have hts : ∀ w ∈ lw_G, w.before args s = true := fun w h => htH w (List.mem_append_right _ h)
  have hn1 : vp_in (x4 + (1 : Int32)) L := hin 1 (by decide) (by decide)
  have hn2 : vp_in (x4 + (2 : Int32)) L := hin 2 (by decide) (by decide)
  have hn3 : vp_in (x4 + (3 : Int32)) L := hin 3 (by decide) (by decide)
  have hn4 : vp_in (x4 + (4 : Int32)) L := hin 4 (by decide) (by decide)
  have hn5 : vp_in (x4 + (5 : Int32)) L := hin 5 (by decide) (by decide)
  have hn6 : vp_in (x4 + (6 : Int32)) L := hin 6 (by decide) (by decide)
  refine lv_aload_n hx hb dL_law_1113 rfl (lv_at hl 1 rfl) ?_
  refine lv_aload_n hx hb dL_law_1114 rfl (lv_at hl 0 rfl) ?_
  refine lv_iload hx hb dL_law_1115 (lv_at hl 4 rfl) ?_
  refine lv_iconst (v := (1 : Int32)) hx hb dL_law_1117 (by decide) ?_
  refine lv_iadd hx hb dL_law_1118 ?_
  refine sld hq1 hx hb hXs hbl hbA hS hn1 dL_law_1119 ?_
  refine lv_aload_n hx hb dL_law_1120 rfl (lv_at hl 0 rfl) ?_
  refine lv_iload hx hb dL_law_1121 (lv_at hl 4 rfl) ?_
  refine lv_iconst (v := (2 : Int32)) hx hb dL_law_1123 (by decide) ?_
  refine lv_iadd hx hb dL_law_1124 ?_
  refine sld hq2 hx hb hXs hbl hbA hS hn2 dL_law_1125 ?_
  refine lv_i2l hx hb dL_law_1126 rfl ?_
  refine lv_bipush (v := (32 : Int32)) hx hb dL_law_1127 (by decide) ?_
  refine lv_lshl (v := ((Int32.toInt64 q2) <<< (Int32.toInt64 (32 : Int32) &&& 63))) hx hb dL_law_1129 rfl ?_
  refine lv_aload_n hx hb dL_law_1130 rfl (lv_at hl 0 rfl) ?_
  refine lv_iload hx hb dL_law_1131 (lv_at hl 4 rfl) ?_
  refine lv_iconst (v := (3 : Int32)) hx hb dL_law_1133 (by decide) ?_
  refine lv_iadd hx hb dL_law_1134 ?_
  refine sld hq3 hx hb hXs hbl hbA hS hn3 dL_law_1135 ?_
  refine lv_i2l hx hb dL_law_1136 rfl ?_
  refine lv_ldc2 hx hb hown (hts _ mG_1_7) dL_law_1137 ?_
  refine lv_land hx hb dL_law_1140 ?_
  refine lv_lor hx hb dL_law_1141 ?_
  refine lv_aload_n hx hb dL_law_1142 rfl (lv_at hl 3 rfl) ?_
  refine cg_i (vx_runSW (As := [.ref (a 0), .int q1, .long (((Int32.toInt64 q2) <<< (Int32.toInt64 (32 : Int32) &&& 63)) ||| ((Int32.toInt64 q3) &&& (4294967295 : Int64))), .ref o]) (rest := []) ⟨hx, hb, hml, hown, htH⟩ (c_L_area l dC dI a cI cJ xs ys pl kp lp lq lr P on c1 c2 c3 rh ln d7 d8 d9 d10 sa hlt o fo q1 (((Int32.toInt64 q2) <<< (Int32.toInt64 (32 : Int32) &&& 63)) ||| ((Int32.toInt64 q3) &&& (4294967295 : Int64))) hh hpl) (vx_cwSW 4 htH (gH_S mG_26_14 mG_26_15 mG_law_init (gH_c mG_26_16 gH_H)) rfl rfl rfl hs_L_area ⟨Nat.le_of_ble_eq_true rfl, Nat.le_of_ble_eq_true rfl⟩) (xPcS hK hP.right hD.right hX hS) rfl rfl hl.1 rfl (lv_room (Nat.le_of_ble_eq_true rfl)) dL_law_1143 ⟨hce, hsl⟩) (wA.sub hD.right) hS (fun H locs hP1 hk1 hS => ?_)
  have hP := jn_3 hP hD hP1 hk1
  have hD := hD.addr (w1 := ((wM b cI cJ xs ys pm lp lq lr th P rh on c1 c2 c3 ln) ++ ((wC a cI cJ xs ys pl kp lp lq lr P on c1 c2 c3 rh ln d7 d8 d9 d10) ++ (wO o cJ (oF (f_X5_area xs ys pl rh q1 (((Int32.toInt64 q2) <<< (Int32.toInt64 (32 : Int32) &&& 63)) ||| ((Int32.toInt64 q3) &&& (4294967295 : Int64)))).1 ((f_X5_area xs ys pl rh q1 (((Int32.toInt64 q2) <<< (Int32.toInt64 (32 : Int32) &&& 63)) ||| ((Int32.toInt64 q3) &&& (4294967295 : Int64)))).2) fo))))) rfl
  have hP : va_P (dC, dI) vwCl ((wM b cI cJ xs ys pm lp lq lr th P rh on c1 c2 c3 ln) ++ ((wC a cI cJ xs ys pl kp lp lq lr P on c1 c2 c3 rh ln d7 d8 d9 d10) ++ (wO o cJ (oF (f_X5_area xs ys pl rh q1 (((Int32.toInt64 q2) <<< (Int32.toInt64 (32 : Int32) &&& 63)) ||| ((Int32.toInt64 q3) &&& (4294967295 : Int64)))).1 ((f_X5_area xs ys pl rh q1 (((Int32.toInt64 q2) <<< (Int32.toInt64 (32 : Int32) &&& 63)) ||| ((Int32.toInt64 q3) &&& (4294967295 : Int64)))).2) fo)))) H := hP
  refine lv_istore (lv' := [(5, .int (f_X5_area xs ys pl rh q1 (((Int32.toInt64 q2) <<< (Int32.toInt64 (32 : Int32) &&& 63)) ||| ((Int32.toInt64 q3) &&& (4294967295 : Int64)))).1), (0, .ref bs), (1, .ref (a 0)), (2, .ref (b 0)), (3, .ref o), (4, .int x4)]) hx hb dL_law_1146 hl (by decide) rfl (fun ls hl => ?_)
  refine lv_aload_n hx hb dL_law_1148 rfl (lv_at hl 3 rfl) ?_
  refine lv_aload_n hx hb dL_law_1149 rfl (lv_at hl 1 rfl) ?_
  refine lv_iload hx hb dL_law_1150 (lv_at hl 5 rfl) ?_
  refine lv_iconst (v := (1 : Int32)) hx hb dL_law_1152 (by decide) ?_
  refine lv_iadd hx hb dL_law_1153 ?_
  refine sld hq1 hx hb hXs hbl hbA hS hn1 dL_law_1154 ?_
  refine lv_aload_n hx hb dL_law_1155 rfl (lv_at hl 1 rfl) ?_
  refine lv_iload hx hb dL_law_1156 (lv_at hl 5 rfl) ?_
  refine lv_iconst (v := (2 : Int32)) hx hb dL_law_1158 (by decide) ?_
  refine lv_iadd hx hb dL_law_1159 ?_
  refine sld hq2 hx hb hXs hbl hbA hS hn2 dL_law_1160 ?_
  refine lv_i2l hx hb dL_law_1161 rfl ?_
  refine lv_bipush (v := (32 : Int32)) hx hb dL_law_1162 (by decide) ?_
  refine lv_lshl (v := ((Int32.toInt64 q2) <<< (Int32.toInt64 (32 : Int32) &&& 63))) hx hb dL_law_1164 rfl ?_
  refine lv_aload_n hx hb dL_law_1165 rfl (lv_at hl 1 rfl) ?_
  refine lv_iload hx hb dL_law_1166 (lv_at hl 5 rfl) ?_
  refine lv_iconst (v := (3 : Int32)) hx hb dL_law_1168 (by decide) ?_
  refine lv_iadd hx hb dL_law_1169 ?_
  refine sld hq3 hx hb hXs hbl hbA hS hn3 dL_law_1170 ?_
  refine lv_i2l hx hb dL_law_1171 rfl ?_
  refine lv_ldc2 hx hb hown (hts _ mG_1_7) dL_law_1172 ?_
  refine lv_land hx hb dL_law_1175 ?_
  refine lv_lor hx hb dL_law_1176 ?_
  refine cw_l (va_runV (As := [.int q1, .long (((Int32.toInt64 q2) <<< (Int32.toInt64 (32 : Int32) &&& 63)) ||| ((Int32.toInt64 q3) &&& (4294967295 : Int64)))]) (rest := []) ⟨hx, hb, hml, hown, hts⟩ (c_X6_area l dC dI b cI cJ xs ys pm lp lq lr th P rh on c1 c2 c3 ln q1 (((Int32.toInt64 q2) <<< (Int32.toInt64 (32 : Int32) &&& 63)) ||| ((Int32.toInt64 q3) &&& (4294967295 : Int64))) hh hpm) (cwV 2 hts (gG_V mG_27_4 mG_27_5 mG_27_6 mG_1_5 (gG_c mG_27_7 gG_G)) rfl rfl rfl hd_X6_area ⟨Nat.le_of_ble_eq_true rfl, Nat.le_of_ble_eq_true rfl⟩) (wPcV (ci := 10) (q0 := 0) hK hP.left hD.left rfl rfl) rfl rfl hl.1 rfl (lv_room (Nat.le_of_ble_eq_true rfl)) dL_law_1177 ⟨by show ce + 1 + 0 ≤ 603072; omega, by show sl + 8 + 0 ≤ 7198826; omega⟩) (wA.sub hD.left) hS (fun H locs hP1 hk1 hS => ?_)
  have hP := jn_1 hP hD hP1 hk1
  have hD := hD.addr (w1 := ((wM b cI cJ xs ys pm lp lq lr ((f_X6_area xs ys pm th rh q1 (((Int32.toInt64 q2) <<< (Int32.toInt64 (32 : Int32) &&& 63)) ||| ((Int32.toInt64 q3) &&& (4294967295 : Int64)))).2) P rh on c1 c2 c3 ln) ++ ((wC a cI cJ xs ys pl kp lp lq lr P on c1 c2 c3 rh ln d7 d8 d9 d10) ++ (wO o cJ (oF (f_X5_area xs ys pl rh q1 (((Int32.toInt64 q2) <<< (Int32.toInt64 (32 : Int32) &&& 63)) ||| ((Int32.toInt64 q3) &&& (4294967295 : Int64)))).1 ((f_X5_area xs ys pl rh q1 (((Int32.toInt64 q2) <<< (Int32.toInt64 (32 : Int32) &&& 63)) ||| ((Int32.toInt64 q3) &&& (4294967295 : Int64)))).2) fo))))) rfl
  have hP : va_P (dC, dI) vwCl ((wM b cI cJ xs ys pm lp lq lr ((f_X6_area xs ys pm th rh q1 (((Int32.toInt64 q2) <<< (Int32.toInt64 (32 : Int32) &&& 63)) ||| ((Int32.toInt64 q3) &&& (4294967295 : Int64)))).2) P rh on c1 c2 c3 ln) ++ ((wC a cI cJ xs ys pl kp lp lq lr P on c1 c2 c3 rh ln d7 d8 d9 d10) ++ (wO o cJ (oF (f_X5_area xs ys pl rh q1 (((Int32.toInt64 q2) <<< (Int32.toInt64 (32 : Int32) &&& 63)) ||| ((Int32.toInt64 q3) &&& (4294967295 : Int64)))).1 ((f_X5_area xs ys pl rh q1 (((Int32.toInt64 q2) <<< (Int32.toInt64 (32 : Int32) &&& 63)) ||| ((Int32.toInt64 q3) &&& (4294967295 : Int64)))).2) fo)))) H := hP
  refine lv_lstore (lv' := [(6, .long ((f_X6_area xs ys pm th rh q1 (((Int32.toInt64 q2) <<< (Int32.toInt64 (32 : Int32) &&& 63)) ||| ((Int32.toInt64 q3) &&& (4294967295 : Int64)))).1)), (5, .int (f_X5_area xs ys pl rh q1 (((Int32.toInt64 q2) <<< (Int32.toInt64 (32 : Int32) &&& 63)) ||| ((Int32.toInt64 q3) &&& (4294967295 : Int64)))).1), (0, .ref bs), (1, .ref (a 0)), (2, .ref (b 0)), (3, .ref o), (4, .int x4)]) hx hb dL_law_1180 hl (by decide) rfl (fun ls hl => ?_)
  refine lv_aload_n hx hb dL_law_1182 rfl (lv_at hl 4 rfl) ?_
  refine cp_i (va_runV (As := []) (rest := []) ⟨hx, hb, hml, hown, hts⟩ (c_X6_thrown l dC dI b cI cJ xs ys pm lp lq lr ((f_X6_area xs ys pm th rh q1 (((Int32.toInt64 q2) <<< (Int32.toInt64 (32 : Int32) &&& 63)) ||| ((Int32.toInt64 q3) &&& (4294967295 : Int64)))).2) P rh on c1 c2 c3 ln  ) (cwV 0 hts (gG_V mG_6_22 mG_6_23 mG_7_0 mG_1_5 (gG_c mG_7_1 gG_G)) rfl rfl rfl hd_X6_thrown ⟨Nat.le_of_ble_eq_true rfl, Nat.le_of_ble_eq_true rfl⟩) (pPcV (ci := 10) (q0 := 0) hK hP.left rfl rfl) rfl rfl hl.1 rfl (lv_room (Nat.le_of_ble_eq_true rfl)) dL_law_1183 ⟨by show ce + 1 + 0 ≤ 603072; omega, by show sl + 8 + 0 ≤ 7198826; omega⟩) hP hS (fun H hP hS => ?_)
  refine lv_iload hx hb dL_law_1186 (lv_at hl 1 rfl) ?_
  have hst := st_area hI th q1 (((Int32.toInt64 q2) <<< (Int32.toInt64 (32 : Int32) &&& 63)) ||| ((Int32.toInt64 q3) &&& (4294967295 : Int64)))
  refine lv_icmp_eq (tgt := 1193) hx hb dL_law_1188 (by decide) (fun _ => ?_) (fun c9 => absurd hst.1 c9)
  refine lv_iload hx hb dL_law_1193 (lv_at hl 1 rfl) ?_
  refine lv_if_ne (tgt := 1209) hx hb dL_law_1195 (by decide) (fun ck => ?_) (fun ck => ?_)
  · skip
    refine lv_goto (tgt := 1311) hx hb dL_law_1209 (by decide) ?_
    exact K xs ys pl pm kp lp lq lr P on c1 c2 c3 rh ln d7 d8 d9 d10 ((f_X6_area xs ys pm th rh q1 (((Int32.toInt64 q2) <<< (Int32.toInt64 (32 : Int32) &&& 63)) ||| ((Int32.toInt64 q3) &&& (4294967295 : Int64)))).2) (oF (f_X5_area xs ys pl rh q1 (((Int32.toInt64 q2) <<< (Int32.toInt64 (32 : Int32) &&& 63)) ||| ((Int32.toInt64 q3) &&& (4294967295 : Int64)))).1 ((f_X5_area xs ys pl rh q1 (((Int32.toInt64 q2) <<< (Int32.toInt64 (32 : Int32) &&& 63)) ||| ((Int32.toInt64 q3) &&& (4294967295 : Int64)))).2) fo) hI _ _ hP (hD.addr rfl) hS ls (lv_sub hl [2, 3, 4, 5, 6] rfl)
  · skip
    refine lv_aload_n hx hb dL_law_1198 rfl (lv_at hl 5 rfl) ?_
    refine lv_iconst (v := (0 : Int32)) hx hb dL_law_1199 (by decide) ?_
    refine va_lald hx hb hK.1 hP 20 1 rfl rfl (by rw [vp_in_iff]; decide) dL_law_1200 ?_
    refine lv_lload hx hb dL_law_1201 (lv_at hl 0 rfl) ?_
    refine W.lcmp hx hb dL_law_1203 ?_
    have hv9 : (oF (f_X5_area xs ys pl rh q1 (((Int32.toInt64 q2) <<< (Int32.toInt64 (32 : Int32) &&& 63)) ||| ((Int32.toInt64 q3) &&& (4294967295 : Int64)))).1 ((f_X5_area xs ys pl rh q1 (((Int32.toInt64 q2) <<< (Int32.toInt64 (32 : Int32) &&& 63)) ||| ((Int32.toInt64 q3) &&& (4294967295 : Int64)))).2) fo) (Int32.toNatClampNeg 0) = ((f_X5_area xs ys pl rh q1 (((Int32.toInt64 q2) <<< (Int32.toInt64 (32 : Int32) &&& 63)) ||| ((Int32.toInt64 q3) &&& (4294967295 : Int64)))).2) := by unfold oF; rw [if_pos ck]; exact if_pos rfl
    have hv8 : lg_cmp ((oF (f_X5_area xs ys pl rh q1 (((Int32.toInt64 q2) <<< (Int32.toInt64 (32 : Int32) &&& 63)) ||| ((Int32.toInt64 q3) &&& (4294967295 : Int64)))).1 ((f_X5_area xs ys pl rh q1 (((Int32.toInt64 q2) <<< (Int32.toInt64 (32 : Int32) &&& 63)) ||| ((Int32.toInt64 q3) &&& (4294967295 : Int64)))).2) fo) (Int32.toNatClampNeg 0)) ((f_X6_area xs ys pm th rh q1 (((Int32.toInt64 q2) <<< (Int32.toInt64 (32 : Int32) &&& 63)) ||| ((Int32.toInt64 q3) &&& (4294967295 : Int64)))).1) = 0 := (lg_cmp_eq _ _).mpr (hv9.trans (hst.2 ck))
    refine lv_if_eq (tgt := 1209) hx hb dL_law_1204 (by decide) (fun _ => ?_) (fun c9 => absurd hv8 c9)
    refine lv_goto (tgt := 1311) hx hb dL_law_1209 (by decide) ?_
    exact K xs ys pl pm kp lp lq lr P on c1 c2 c3 rh ln d7 d8 d9 d10 ((f_X6_area xs ys pm th rh q1 (((Int32.toInt64 q2) <<< (Int32.toInt64 (32 : Int32) &&& 63)) ||| ((Int32.toInt64 q3) &&& (4294967295 : Int64)))).2) (oF (f_X5_area xs ys pl rh q1 (((Int32.toInt64 q2) <<< (Int32.toInt64 (32 : Int32) &&& 63)) ||| ((Int32.toInt64 q3) &&& (4294967295 : Int64)))).1 ((f_X5_area xs ys pl rh q1 (((Int32.toInt64 q2) <<< (Int32.toInt64 (32 : Int32) &&& 63)) ||| ((Int32.toInt64 q3) &&& (4294967295 : Int64)))).2) fo) hI _ _ hP (hD.addr rfl) hS ls (lv_sub hl [2, 3, 4, 5, 6] rfl)
set_option maxHeartbeats 8000000 in
set_option maxRecDepth 100000 in
theorem lc_19 {p : Program} {l : Launch} {e : Env} {s : State} {m : MethodId} {args : Array Value} {below : List Frame} {meth : Method} {c : Code} {Q : State → Prop} (hx : p.tables.exec = Jvm.exec) (hb : c.code = cL_law) (hml : c.maxLocals = 8) (hown : s.vm.findClass RL = some m.cls) (htH : ∀ w ∈ lw_H, w.before args s = true) {bs L : Nat} {sc : Nat → Int32} (hXs : va_X bs L sc s s.heap) (hbl : bs < s.heap.size) {A : Nat → Prop} (hbA : ¬ A bs) (hlt : l.stackTraces = false) {dC : Nat → ClassId} {dI : Nat → Nat → Nat} {a b : Nat → Nat} {cI cJ : ClassId} {sa : Nat → Nat} {o : Nat} (hK : kK (dC, dI) (tIJ cI cJ) s) (hX : kX A sa s s.heap) {ce sl : Nat} (hce : ce + 1 ≤ 603072) (hsl : sl + 8 ≤ 7198826) {x4 : Int32} (hin : ∀ k : Int32, 0 ≤ k → k ≤ 6 → vp_in (x4 + k) L) {xs ys pl pm kp : Nat → Int32} {lp lq lr : Nat → Int64} {P on c1 c2 c3 rh ln d7 d8 d9 d10 th : Int32} {fo : Nat → Int64} (hI : Inv xs ys pl pm lp lq lr P on rh ln) (q1 : Int32) (hq1 : sc (Int32.toNatClampNeg (x4 + (1 : Int32))) = q1) (q2 : Int32) (hq2 : sc (Int32.toNatClampNeg (x4 + (2 : Int32))) = q2) (K : (∀ (xs ys pl pm kp : Nat → Int32) (lp lq lr : Nat → Int64) (P on c1 c2 c3 rh ln d7 d8 d9 d10 th : Int32) (fo : Nat → Int64), Inv xs ys pl pm lp lq lr P on rh ln → ∀ (H : Heap) (locs : List Loc), va_P (dC, dI) vwCl ((wM b cI cJ xs ys pm lp lq lr th P rh on c1 c2 c3 ln) ++ ((wC a cI cJ xs ys pl kp lp lq lr P on c1 c2 c3 rh ln d7 d8 d9 d10) ++ (wO o cJ fo))) H → va_D A ((wM b cI cJ xs ys pm lp lq lr th P rh on c1 c2 c3 ln) ++ ((wC a cI cJ xs ys pl kp lp lq lr P on c1 c2 c3 rh ln d7 d8 d9 d10) ++ (wO o cJ fo))) → va_S A s.heap H locs → ∀ (ls : Array Slot), lv_has ls 8 [(0, .ref bs), (1, .ref (a 0)), (2, .ref (b 0)), (3, .ref o), (4, .int x4)] → W p l e room_1 s m args below meth c H locs (ce + 1) (sl + 8) Q (F0 m 1311 ls []))) : ∀ (H : Heap) (locs : List Loc), va_P (dC, dI) vwCl ((wM b cI cJ xs ys pm lp lq lr th P rh on c1 c2 c3 ln) ++ ((wC a cI cJ xs ys pl kp lp lq lr P on c1 c2 c3 rh ln d7 d8 d9 d10) ++ (wO o cJ fo))) H → va_D A ((wM b cI cJ xs ys pm lp lq lr th P rh on c1 c2 c3 ln) ++ ((wC a cI cJ xs ys pl kp lp lq lr P on c1 c2 c3 rh ln d7 d8 d9 d10) ++ (wO o cJ fo))) → va_S A s.heap H locs → ∀ (ls : Array Slot), lv_has ls 8 [(0, .ref bs), (1, .ref (a 0)), (2, .ref (b 0)), (3, .ref o), (4, .int x4)] → W p l e room_1 s m args below meth c H locs ce sl Q (F0 m 1212 ls []) := by
  intro H locs hP hD hS ls hl
  obtain ⟨⟨hg0, hv0⟩, ⟨hr0, hh⟩, ⟨hl0, hl6⟩, hon, hbx, hby, hpl, hpm, hplP, hrel, hlnk⟩ := id hI
  have hbx6 : ∀ j : Nat, (xs j).toInt.natAbs ≤ 16384 := fun j => Nat.le_trans (hbx j) (by decide)
  have hby6 : ∀ j : Nat, (ys j).toInt.natAbs ≤ 16384 := fun j => Nat.le_trans (hby j) (by decide)
  have hts : ∀ w ∈ lw_G, w.before args s = true := fun w h => htH w (List.mem_append_right _ h)
  have hn1 : vp_in (x4 + (1 : Int32)) L := hin 1 (by decide) (by decide)
  have hn2 : vp_in (x4 + (2 : Int32)) L := hin 2 (by decide) (by decide)
  have hn3 : vp_in (x4 + (3 : Int32)) L := hin 3 (by decide) (by decide)
  have hn4 : vp_in (x4 + (4 : Int32)) L := hin 4 (by decide) (by decide)
  have hn5 : vp_in (x4 + (5 : Int32)) L := hin 5 (by decide) (by decide)
  have hn6 : vp_in (x4 + (6 : Int32)) L := hin 6 (by decide) (by decide)
  refine lv_aload_n hx hb dL_law_1212 rfl (lv_at hl 1 rfl) ?_
  refine lv_aload_n hx hb dL_law_1213 rfl (lv_at hl 0 rfl) ?_
  refine lv_iload hx hb dL_law_1214 (lv_at hl 4 rfl) ?_
  refine lv_iconst (v := (1 : Int32)) hx hb dL_law_1216 (by decide) ?_
  refine lv_iadd hx hb dL_law_1217 ?_
  refine sld hq1 hx hb hXs hbl hbA hS hn1 dL_law_1218 ?_
  refine lv_aload_n hx hb dL_law_1219 rfl (lv_at hl 0 rfl) ?_
  refine lv_iload hx hb dL_law_1220 (lv_at hl 4 rfl) ?_
  refine lv_iconst (v := (2 : Int32)) hx hb dL_law_1222 (by decide) ?_
  refine lv_iadd hx hb dL_law_1223 ?_
  refine sld hq2 hx hb hXs hbl hbA hS hn2 dL_law_1224 ?_
  refine cw_i (va_runV (As := [.int q1, .int q2]) (rest := []) ⟨hx, hb, hml, hown, hts⟩ (c_X5_line l dC dI a cI cJ xs ys pl kp lp lq lr P on c1 c2 c3 rh ln d7 d8 d9 d10 q1 q2 hv0 hl0) (cwV 2 hts (gG_V mG_27_8 mG_27_9 mG_27_10 mG_1_2 (gG_c mG_27_11 gG_G)) rfl rfl rfl hd_X5_line ⟨Nat.le_of_ble_eq_true rfl, Nat.le_of_ble_eq_true rfl⟩) (wPcV (ci := 9) (q0 := 0) hK hP.right.left hD.right.left rfl rfl) rfl rfl hl.1 rfl (lv_room (Nat.le_of_ble_eq_true rfl)) dL_law_1225 ⟨by show ce + 0 ≤ 603072; omega, by show sl + 0 ≤ 7198826; omega⟩) (wA.sub hD.right.left) hS (fun H locs hP1 hk1 hS => ?_)
  have hP := jn_2 hP hD hP1 hk1
  have hD := hD.addr (w1 := ((wM b cI cJ xs ys pm lp lq lr th P rh on c1 c2 c3 ln) ++ ((wC a cI cJ xs ys pl kp ((f_X5_line xs ys lp lq lr P ln q1 q2).2.1) ((f_X5_line xs ys lp lq lr P ln q1 q2).2.2.1) ((f_X5_line xs ys lp lq lr P ln q1 q2).2.2.2.1) P on c1 c2 c3 rh ((f_X5_line xs ys lp lq lr P ln q1 q2).2.2.2.2) d7 d8 d9 d10) ++ (wO o cJ fo)))) rfl
  have hP : va_P (dC, dI) vwCl ((wM b cI cJ xs ys pm lp lq lr th P rh on c1 c2 c3 ln) ++ ((wC a cI cJ xs ys pl kp ((f_X5_line xs ys lp lq lr P ln q1 q2).2.1) ((f_X5_line xs ys lp lq lr P ln q1 q2).2.2.1) ((f_X5_line xs ys lp lq lr P ln q1 q2).2.2.2.1) P on c1 c2 c3 rh ((f_X5_line xs ys lp lq lr P ln q1 q2).2.2.2.2) d7 d8 d9 d10) ++ (wO o cJ fo))) H := hP
  refine lv_aload_n hx hb dL_law_1228 rfl (lv_at hl 2 rfl) ?_
  refine lv_aload_n hx hb dL_law_1229 rfl (lv_at hl 0 rfl) ?_
  refine lv_iload hx hb dL_law_1230 (lv_at hl 4 rfl) ?_
  refine lv_iconst (v := (1 : Int32)) hx hb dL_law_1232 (by decide) ?_
  refine lv_iadd hx hb dL_law_1233 ?_
  refine sld hq1 hx hb hXs hbl hbA hS hn1 dL_law_1234 ?_
  refine lv_aload_n hx hb dL_law_1235 rfl (lv_at hl 0 rfl) ?_
  refine lv_iload hx hb dL_law_1236 (lv_at hl 4 rfl) ?_
  refine lv_iconst (v := (2 : Int32)) hx hb dL_law_1238 (by decide) ?_
  refine lv_iadd hx hb dL_law_1239 ?_
  refine sld hq2 hx hb hXs hbl hbA hS hn2 dL_law_1240 ?_
  refine cw_i (va_runV (As := [.int q1, .int q2]) (rest := [.int ((f_X5_line xs ys lp lq lr P ln q1 q2).1)]) ⟨hx, hb, hml, hown, hts⟩ (c_X6_line l dC dI b cI cJ xs ys pm lp lq lr th P rh on c1 c2 c3 ln q1 q2 hv0 hl0 hl6) (cwV 2 hts (gG_V mG_27_18 mG_27_19 mG_27_20 mG_1_5 (gG_c mG_27_21 gG_G)) rfl rfl rfl hd_X6_line ⟨Nat.le_of_ble_eq_true rfl, Nat.le_of_ble_eq_true rfl⟩) (wPcV (ci := 10) (q0 := 0) hK hP.left hD.left rfl rfl) rfl rfl hl.1 rfl (lv_room (Nat.le_of_ble_eq_true rfl)) dL_law_1241 ⟨by show ce + 0 ≤ 603072; omega, by show sl + 0 ≤ 7198826; omega⟩) (wA.sub hD.left) hS (fun H locs hP1 hk1 hS => ?_)
  have hP := jn_1 hP hD hP1 hk1
  have hD := hD.addr (w1 := ((wM b cI cJ xs ys pm ((f_X6_line xs ys lp lq lr th P ln q1 q2).2.2.1) ((f_X6_line xs ys lp lq lr th P ln q1 q2).2.2.2.1) ((f_X6_line xs ys lp lq lr th P ln q1 q2).2.2.2.2.1) ((f_X6_line xs ys lp lq lr th P ln q1 q2).2.1) P rh on c1 c2 c3 ((f_X6_line xs ys lp lq lr th P ln q1 q2).2.2.2.2.2)) ++ ((wC a cI cJ xs ys pl kp ((f_X5_line xs ys lp lq lr P ln q1 q2).2.1) ((f_X5_line xs ys lp lq lr P ln q1 q2).2.2.1) ((f_X5_line xs ys lp lq lr P ln q1 q2).2.2.2.1) P on c1 c2 c3 rh ((f_X5_line xs ys lp lq lr P ln q1 q2).2.2.2.2) d7 d8 d9 d10) ++ (wO o cJ fo)))) rfl
  have hP : va_P (dC, dI) vwCl ((wM b cI cJ xs ys pm ((f_X6_line xs ys lp lq lr th P ln q1 q2).2.2.1) ((f_X6_line xs ys lp lq lr th P ln q1 q2).2.2.2.1) ((f_X6_line xs ys lp lq lr th P ln q1 q2).2.2.2.2.1) ((f_X6_line xs ys lp lq lr th P ln q1 q2).2.1) P rh on c1 c2 c3 ((f_X6_line xs ys lp lq lr th P ln q1 q2).2.2.2.2.2)) ++ ((wC a cI cJ xs ys pl kp ((f_X5_line xs ys lp lq lr P ln q1 q2).2.1) ((f_X5_line xs ys lp lq lr P ln q1 q2).2.2.1) ((f_X5_line xs ys lp lq lr P ln q1 q2).2.2.2.1) P on c1 c2 c3 rh ((f_X5_line xs ys lp lq lr P ln q1 q2).2.2.2.2) d7 d8 d9 d10) ++ (wO o cJ fo))) H := hP
  have hst := st_line hI th q1 q2
  refine lv_icmp_eq (tgt := 1311) hx hb dL_law_1244 (by decide) (fun _ => ?_) (fun c9 => absurd hst.1 c9)
  rw [hst.2.1] at hP
  rw [hst.2.2.1] at hP
  rw [hst.2.2.2.1] at hP
  rw [hst.2.2.2.2.1] at hP
  refine W.widen (k := ce + 1) (n := sl + 8) (by omega) (by omega) ?_
  exact K xs ys pl pm kp ((f_X5_line xs ys lp lq lr P ln q1 q2).2.1) ((f_X5_line xs ys lp lq lr P ln q1 q2).2.2.1) ((f_X5_line xs ys lp lq lr P ln q1 q2).2.2.2.1) P on c1 c2 c3 rh ((f_X5_line xs ys lp lq lr P ln q1 q2).2.2.2.2) d7 d8 d9 d10 ((f_X6_line xs ys lp lq lr th P ln q1 q2).2.1) fo hst.2.2.2.2.2 _ _ hP (hD.addr rfl) hS ls (lv_sub hl [0, 1, 2, 3, 4] rfl)
set_option maxHeartbeats 8000000 in
set_option maxRecDepth 100000 in
theorem lc_20 {p : Program} {l : Launch} {e : Env} {s : State} {m : MethodId} {args : Array Value} {below : List Frame} {meth : Method} {c : Code} {Q : State → Prop} (hx : p.tables.exec = Jvm.exec) (hb : c.code = cL_law) (hml : c.maxLocals = 8) (hown : s.vm.findClass RL = some m.cls) (htH : ∀ w ∈ lw_H, w.before args s = true) {bs L : Nat} {sc : Nat → Int32} (hXs : va_X bs L sc s s.heap) (hbl : bs < s.heap.size) {A : Nat → Prop} (hbA : ¬ A bs) (hlt : l.stackTraces = false) {dC : Nat → ClassId} {dI : Nat → Nat → Nat} {a b : Nat → Nat} {cI cJ : ClassId} {sa : Nat → Nat} {o : Nat} (hK : kK (dC, dI) (tIJ cI cJ) s) (hX : kX A sa s s.heap) {ce sl : Nat} (hce : ce + 1 ≤ 603072) (hsl : sl + 8 ≤ 7198826) {x4 : Int32} (hin : ∀ k : Int32, 0 ≤ k → k ≤ 6 → vp_in (x4 + k) L) {xs ys pl pm kp : Nat → Int32} {lp lq lr : Nat → Int64} {P on c1 c2 c3 rh ln d7 d8 d9 d10 th : Int32} {fo : Nat → Int64} (hI : Inv xs ys pl pm lp lq lr P on rh ln) (q1 : Int32) (hq1 : sc (Int32.toNatClampNeg (x4 + (1 : Int32))) = q1) (q2 : Int32) (hq2 : sc (Int32.toNatClampNeg (x4 + (2 : Int32))) = q2) (K : (∀ (xs ys pl pm kp : Nat → Int32) (lp lq lr : Nat → Int64) (P on c1 c2 c3 rh ln d7 d8 d9 d10 th : Int32) (fo : Nat → Int64), Inv xs ys pl pm lp lq lr P on rh ln → ∀ (H : Heap) (locs : List Loc), va_P (dC, dI) vwCl ((wM b cI cJ xs ys pm lp lq lr th P rh on c1 c2 c3 ln) ++ ((wC a cI cJ xs ys pl kp lp lq lr P on c1 c2 c3 rh ln d7 d8 d9 d10) ++ (wO o cJ fo))) H → va_D A ((wM b cI cJ xs ys pm lp lq lr th P rh on c1 c2 c3 ln) ++ ((wC a cI cJ xs ys pl kp lp lq lr P on c1 c2 c3 rh ln d7 d8 d9 d10) ++ (wO o cJ fo))) → va_S A s.heap H locs → ∀ (ls : Array Slot), lv_has ls 8 [(0, .ref bs), (1, .ref (a 0)), (2, .ref (b 0)), (3, .ref o), (4, .int x4)] → W p l e room_1 s m args below meth c H locs (ce + 1) (sl + 8) Q (F0 m 1311 ls []))) : ∀ (H : Heap) (locs : List Loc), va_P (dC, dI) vwCl ((wM b cI cJ xs ys pm lp lq lr th P rh on c1 c2 c3 ln) ++ ((wC a cI cJ xs ys pl kp lp lq lr P on c1 c2 c3 rh ln d7 d8 d9 d10) ++ (wO o cJ fo))) H → va_D A ((wM b cI cJ xs ys pm lp lq lr th P rh on c1 c2 c3 ln) ++ ((wC a cI cJ xs ys pl kp lp lq lr P on c1 c2 c3 rh ln d7 d8 d9 d10) ++ (wO o cJ fo))) → va_S A s.heap H locs → ∀ (ls : Array Slot), lv_has ls 8 [(0, .ref bs), (1, .ref (a 0)), (2, .ref (b 0)), (3, .ref o), (4, .int x4)] → W p l e room_1 s m args below meth c H locs ce sl Q (F0 m 1249 ls []) := by
  intro H locs hP hD hS ls hl
  obtain ⟨⟨hg0, hv0⟩, ⟨hr0, hh⟩, ⟨hl0, hl6⟩, hon, hbx, hby, hpl, hpm, hplP, hrel, hlnk⟩ := id hI
  have hbx6 : ∀ j : Nat, (xs j).toInt.natAbs ≤ 16384 := fun j => Nat.le_trans (hbx j) (by decide)
  have hby6 : ∀ j : Nat, (ys j).toInt.natAbs ≤ 16384 := fun j => Nat.le_trans (hby j) (by decide)
  have hts : ∀ w ∈ lw_G, w.before args s = true := fun w h => htH w (List.mem_append_right _ h)
  have hn1 : vp_in (x4 + (1 : Int32)) L := hin 1 (by decide) (by decide)
  have hn2 : vp_in (x4 + (2 : Int32)) L := hin 2 (by decide) (by decide)
  have hn3 : vp_in (x4 + (3 : Int32)) L := hin 3 (by decide) (by decide)
  have hn4 : vp_in (x4 + (4 : Int32)) L := hin 4 (by decide) (by decide)
  have hn5 : vp_in (x4 + (5 : Int32)) L := hin 5 (by decide) (by decide)
  have hn6 : vp_in (x4 + (6 : Int32)) L := hin 6 (by decide) (by decide)
  refine lv_aload_n hx hb dL_law_1249 rfl (lv_at hl 1 rfl) ?_
  refine lv_aload_n hx hb dL_law_1250 rfl (lv_at hl 0 rfl) ?_
  refine lv_iload hx hb dL_law_1251 (lv_at hl 4 rfl) ?_
  refine lv_iconst (v := (1 : Int32)) hx hb dL_law_1253 (by decide) ?_
  refine lv_iadd hx hb dL_law_1254 ?_
  refine sld hq1 hx hb hXs hbl hbA hS hn1 dL_law_1255 ?_
  refine lv_aload_n hx hb dL_law_1256 rfl (lv_at hl 0 rfl) ?_
  refine lv_iload hx hb dL_law_1257 (lv_at hl 4 rfl) ?_
  refine lv_iconst (v := (2 : Int32)) hx hb dL_law_1259 (by decide) ?_
  refine lv_iadd hx hb dL_law_1260 ?_
  refine sld hq2 hx hb hXs hbl hbA hS hn2 dL_law_1261 ?_
  refine cw_i (va_runV (As := [.int q1, .int q2]) (rest := []) ⟨hx, hb, hml, hown, hts⟩ (c_X5_lines l dC dI a cI cJ xs ys pl kp lp lq lr P on c1 c2 c3 rh ln d7 d8 d9 d10 q1 q2 hl6) (cwV 2 hts (gG_V mG_27_23 mG_28_0 mG_28_1 mG_1_2 (gG_c mG_28_2 gG_G)) rfl rfl rfl hd_X5_lines ⟨Nat.le_of_ble_eq_true rfl, Nat.le_of_ble_eq_true rfl⟩) (wPcV (ci := 9) (q0 := 0) hK hP.right.left hD.right.left rfl rfl) rfl rfl hl.1 rfl (lv_room (Nat.le_of_ble_eq_true rfl)) dL_law_1262 ⟨by show ce + 0 ≤ 603072; omega, by show sl + 0 ≤ 7198826; omega⟩) (wA.sub hD.right.left) hS (fun H locs hP1 hk1 hS => ?_)
  have hP := jn_2 hP hD hP1 hk1
  have hD := hD.addr (w1 := ((wM b cI cJ xs ys pm lp lq lr th P rh on c1 c2 c3 ln) ++ ((wC a cI cJ xs ys pl ((f_X5_lines kp lp lq lr ln d7 d8 d9 d10 q1 q2).2.1) lp lq lr P on c1 c2 c3 rh ln ((f_X5_lines kp lp lq lr ln d7 d8 d9 d10 q1 q2).2.2.1) ((f_X5_lines kp lp lq lr ln d7 d8 d9 d10 q1 q2).2.2.2.1) ((f_X5_lines kp lp lq lr ln d7 d8 d9 d10 q1 q2).2.2.2.2.1) ((f_X5_lines kp lp lq lr ln d7 d8 d9 d10 q1 q2).2.2.2.2.2)) ++ (wO o cJ fo)))) rfl
  have hP : va_P (dC, dI) vwCl ((wM b cI cJ xs ys pm lp lq lr th P rh on c1 c2 c3 ln) ++ ((wC a cI cJ xs ys pl ((f_X5_lines kp lp lq lr ln d7 d8 d9 d10 q1 q2).2.1) lp lq lr P on c1 c2 c3 rh ln ((f_X5_lines kp lp lq lr ln d7 d8 d9 d10 q1 q2).2.2.1) ((f_X5_lines kp lp lq lr ln d7 d8 d9 d10 q1 q2).2.2.2.1) ((f_X5_lines kp lp lq lr ln d7 d8 d9 d10 q1 q2).2.2.2.2.1) ((f_X5_lines kp lp lq lr ln d7 d8 d9 d10 q1 q2).2.2.2.2.2)) ++ (wO o cJ fo))) H := hP
  refine lv_aload_n hx hb dL_law_1265 rfl (lv_at hl 2 rfl) ?_
  refine lv_aload_n hx hb dL_law_1266 rfl (lv_at hl 0 rfl) ?_
  refine lv_iload hx hb dL_law_1267 (lv_at hl 4 rfl) ?_
  refine lv_iconst (v := (1 : Int32)) hx hb dL_law_1269 (by decide) ?_
  refine lv_iadd hx hb dL_law_1270 ?_
  refine sld hq1 hx hb hXs hbl hbA hS hn1 dL_law_1271 ?_
  refine lv_aload_n hx hb dL_law_1272 rfl (lv_at hl 0 rfl) ?_
  refine lv_iload hx hb dL_law_1273 (lv_at hl 4 rfl) ?_
  refine lv_iconst (v := (2 : Int32)) hx hb dL_law_1275 (by decide) ?_
  refine lv_iadd hx hb dL_law_1276 ?_
  refine sld hq2 hx hb hXs hbl hbA hS hn2 dL_law_1277 ?_
  refine cw_i (va_runV (As := [.int q1, .int q2]) (rest := [.int ((f_X5_lines kp lp lq lr ln d7 d8 d9 d10 q1 q2).1)]) ⟨hx, hb, hml, hown, hts⟩ (c_X6_lines l dC dI b cI cJ xs ys pm lp lq lr th P rh on c1 c2 c3 ln q1 q2 hl6) (cwV 2 hts (gG_V mG_30_1 mG_30_2 mG_30_3 mG_1_5 (gG_c mG_30_4 gG_G)) rfl rfl rfl hd_X6_lines ⟨Nat.le_of_ble_eq_true rfl, Nat.le_of_ble_eq_true rfl⟩) (wPcV (ci := 10) (q0 := 0) hK hP.left hD.left rfl rfl) rfl rfl hl.1 rfl (lv_room (Nat.le_of_ble_eq_true rfl)) dL_law_1278 ⟨by show ce + 0 ≤ 603072; omega, by show sl + 0 ≤ 7198826; omega⟩) (wA.sub hD.left) hS (fun H locs hP1 hk1 hS => ?_)
  have hP := jn_1 hP hD hP1 hk1
  have hD := hD.addr (w1 := ((wM b cI cJ xs ys pm lp lq lr ((f_X6_lines lp lq lr th ln q1 q2).2) P rh on c1 c2 c3 ln) ++ ((wC a cI cJ xs ys pl ((f_X5_lines kp lp lq lr ln d7 d8 d9 d10 q1 q2).2.1) lp lq lr P on c1 c2 c3 rh ln ((f_X5_lines kp lp lq lr ln d7 d8 d9 d10 q1 q2).2.2.1) ((f_X5_lines kp lp lq lr ln d7 d8 d9 d10 q1 q2).2.2.2.1) ((f_X5_lines kp lp lq lr ln d7 d8 d9 d10 q1 q2).2.2.2.2.1) ((f_X5_lines kp lp lq lr ln d7 d8 d9 d10 q1 q2).2.2.2.2.2)) ++ (wO o cJ fo)))) rfl
  have hP : va_P (dC, dI) vwCl ((wM b cI cJ xs ys pm lp lq lr ((f_X6_lines lp lq lr th ln q1 q2).2) P rh on c1 c2 c3 ln) ++ ((wC a cI cJ xs ys pl ((f_X5_lines kp lp lq lr ln d7 d8 d9 d10 q1 q2).2.1) lp lq lr P on c1 c2 c3 rh ln ((f_X5_lines kp lp lq lr ln d7 d8 d9 d10 q1 q2).2.2.1) ((f_X5_lines kp lp lq lr ln d7 d8 d9 d10 q1 q2).2.2.2.1) ((f_X5_lines kp lp lq lr ln d7 d8 d9 d10 q1 q2).2.2.2.2.1) ((f_X5_lines kp lp lq lr ln d7 d8 d9 d10 q1 q2).2.2.2.2.2)) ++ (wO o cJ fo))) H := hP
  have hst := st_lines hI kp th d7 d8 d9 d10 q1 q2
  refine lv_icmp_eq (tgt := 1311) hx hb dL_law_1281 (by decide) (fun _ => ?_) (fun c9 => absurd hst c9)
  refine W.widen (k := ce + 1) (n := sl + 8) (by omega) (by omega) ?_
  exact K xs ys pl pm ((f_X5_lines kp lp lq lr ln d7 d8 d9 d10 q1 q2).2.1) lp lq lr P on c1 c2 c3 rh ln ((f_X5_lines kp lp lq lr ln d7 d8 d9 d10 q1 q2).2.2.1) ((f_X5_lines kp lp lq lr ln d7 d8 d9 d10 q1 q2).2.2.2.1) ((f_X5_lines kp lp lq lr ln d7 d8 d9 d10 q1 q2).2.2.2.2.1) ((f_X5_lines kp lp lq lr ln d7 d8 d9 d10 q1 q2).2.2.2.2.2) ((f_X6_lines lp lq lr th ln q1 q2).2) fo hI _ _ hP (hD.addr rfl) hS ls (lv_sub hl [0, 1, 2, 3, 4] rfl)
set_option maxHeartbeats 8000000 in
set_option maxRecDepth 100000 in
theorem lc_21 {p : Program} {l : Launch} {e : Env} {s : State} {m : MethodId} {args : Array Value} {below : List Frame} {meth : Method} {c : Code} {Q : State → Prop} (hx : p.tables.exec = Jvm.exec) (hb : c.code = cL_law) (hml : c.maxLocals = 8) (hown : s.vm.findClass RL = some m.cls) (htH : ∀ w ∈ lw_H, w.before args s = true) {bs L : Nat} {sc : Nat → Int32} (hXs : va_X bs L sc s s.heap) (hbl : bs < s.heap.size) {A : Nat → Prop} (hbA : ¬ A bs) (hlt : l.stackTraces = false) {dC : Nat → ClassId} {dI : Nat → Nat → Nat} {a b : Nat → Nat} {cI cJ : ClassId} {sa : Nat → Nat} {o : Nat} (hK : kK (dC, dI) (tIJ cI cJ) s) (hX : kX A sa s s.heap) {ce sl : Nat} (hce : ce + 1 ≤ 603072) (hsl : sl + 8 ≤ 7198826) {x4 : Int32} (hin : ∀ k : Int32, 0 ≤ k → k ≤ 6 → vp_in (x4 + k) L) {xs ys pl pm kp : Nat → Int32} {lp lq lr : Nat → Int64} {P on c1 c2 c3 rh ln d7 d8 d9 d10 th : Int32} {fo : Nat → Int64} (hI : Inv xs ys pl pm lp lq lr P on rh ln) (q1 : Int32) (hq1 : sc (Int32.toNatClampNeg (x4 + (1 : Int32))) = q1) (K : (∀ (xs ys pl pm kp : Nat → Int32) (lp lq lr : Nat → Int64) (P on c1 c2 c3 rh ln d7 d8 d9 d10 th : Int32) (fo : Nat → Int64), Inv xs ys pl pm lp lq lr P on rh ln → ∀ (H : Heap) (locs : List Loc), va_P (dC, dI) vwCl ((wM b cI cJ xs ys pm lp lq lr th P rh on c1 c2 c3 ln) ++ ((wC a cI cJ xs ys pl kp lp lq lr P on c1 c2 c3 rh ln d7 d8 d9 d10) ++ (wO o cJ fo))) H → va_D A ((wM b cI cJ xs ys pm lp lq lr th P rh on c1 c2 c3 ln) ++ ((wC a cI cJ xs ys pl kp lp lq lr P on c1 c2 c3 rh ln d7 d8 d9 d10) ++ (wO o cJ fo))) → va_S A s.heap H locs → ∀ (ls : Array Slot), lv_has ls 8 [(0, .ref bs), (1, .ref (a 0)), (2, .ref (b 0)), (3, .ref o), (4, .int x4)] → W p l e room_1 s m args below meth c H locs (ce + 1) (sl + 8) Q (F0 m 1311 ls []))) : ∀ (H : Heap) (locs : List Loc), va_P (dC, dI) vwCl ((wM b cI cJ xs ys pm lp lq lr th P rh on c1 c2 c3 ln) ++ ((wC a cI cJ xs ys pl kp lp lq lr P on c1 c2 c3 rh ln d7 d8 d9 d10) ++ (wO o cJ fo))) H → va_D A ((wM b cI cJ xs ys pm lp lq lr th P rh on c1 c2 c3 ln) ++ ((wC a cI cJ xs ys pl kp lp lq lr P on c1 c2 c3 rh ln d7 d8 d9 d10) ++ (wO o cJ fo))) → va_S A s.heap H locs → ∀ (ls : Array Slot), lv_has ls 8 [(0, .ref bs), (1, .ref (a 0)), (2, .ref (b 0)), (3, .ref o), (4, .int x4)] → W p l e room_1 s m args below meth c H locs ce sl Q (F0 m 1286 ls []) := by
  intro H locs hP hD hS ls hl
  obtain ⟨⟨hg0, hv0⟩, ⟨hr0, hh⟩, ⟨hl0, hl6⟩, hon, hbx, hby, hpl, hpm, hplP, hrel, hlnk⟩ := id hI
  have hbx6 : ∀ j : Nat, (xs j).toInt.natAbs ≤ 16384 := fun j => Nat.le_trans (hbx j) (by decide)
  have hby6 : ∀ j : Nat, (ys j).toInt.natAbs ≤ 16384 := fun j => Nat.le_trans (hby j) (by decide)
  have hts : ∀ w ∈ lw_G, w.before args s = true := fun w h => htH w (List.mem_append_right _ h)
  have hn1 : vp_in (x4 + (1 : Int32)) L := hin 1 (by decide) (by decide)
  have hn2 : vp_in (x4 + (2 : Int32)) L := hin 2 (by decide) (by decide)
  have hn3 : vp_in (x4 + (3 : Int32)) L := hin 3 (by decide) (by decide)
  have hn4 : vp_in (x4 + (4 : Int32)) L := hin 4 (by decide) (by decide)
  have hn5 : vp_in (x4 + (5 : Int32)) L := hin 5 (by decide) (by decide)
  have hn6 : vp_in (x4 + (6 : Int32)) L := hin 6 (by decide) (by decide)
  refine lv_aload_n hx hb dL_law_1286 rfl (lv_at hl 1 rfl) ?_
  refine lv_aload_n hx hb dL_law_1287 rfl (lv_at hl 0 rfl) ?_
  refine lv_iload hx hb dL_law_1288 (lv_at hl 4 rfl) ?_
  refine lv_iconst (v := (1 : Int32)) hx hb dL_law_1290 (by decide) ?_
  refine lv_iadd hx hb dL_law_1291 ?_
  refine sld hq1 hx hb hXs hbl hbA hS hn1 dL_law_1292 ?_
  refine cp_i (va_runV (As := [.int q1]) (rest := []) ⟨hx, hb, hml, hown, hts⟩ (c_X5_count l dC dI a cI cJ xs ys pl kp lp lq lr P on c1 c2 c3 rh ln d7 d8 d9 d10 q1 ) (cwV 1 hts (gG_V mG_30_21 mG_30_22 mG_30_23 mG_1_2 (gG_c mG_31_0 gG_G)) rfl rfl rfl hd_X5_count ⟨Nat.le_of_ble_eq_true rfl, Nat.le_of_ble_eq_true rfl⟩) (pPcV (ci := 9) (q0 := 0) hK hP.right.left rfl rfl) rfl rfl hl.1 rfl (lv_room (Nat.le_of_ble_eq_true rfl)) dL_law_1293 ⟨by show ce + 0 ≤ 603072; omega, by show sl + 0 ≤ 7198826; omega⟩) hP hS (fun H hP hS => ?_)
  refine lv_aload_n hx hb dL_law_1296 rfl (lv_at hl 2 rfl) ?_
  refine lv_aload_n hx hb dL_law_1297 rfl (lv_at hl 0 rfl) ?_
  refine lv_iload hx hb dL_law_1298 (lv_at hl 4 rfl) ?_
  refine lv_iconst (v := (1 : Int32)) hx hb dL_law_1300 (by decide) ?_
  refine lv_iadd hx hb dL_law_1301 ?_
  refine sld hq1 hx hb hXs hbl hbA hS hn1 dL_law_1302 ?_
  refine cw_i (va_runV (As := [.int q1]) (rest := [.int (f_X5_count P on rh ln q1)]) ⟨hx, hb, hml, hown, hts⟩ (c_X6_count l dC dI b cI cJ xs ys pm lp lq lr th P rh on c1 c2 c3 ln q1 ) (cwV 1 hts (gG_V mG_31_3 mG_31_4 mG_31_5 mG_1_5 (gG_c mG_31_6 gG_G)) rfl rfl rfl hd_X6_count ⟨Nat.le_of_ble_eq_true rfl, Nat.le_of_ble_eq_true rfl⟩) (wPcV (ci := 10) (q0 := 0) hK hP.left hD.left rfl rfl) rfl rfl hl.1 rfl (lv_room (Nat.le_of_ble_eq_true rfl)) dL_law_1303 ⟨by show ce + 0 ≤ 603072; omega, by show sl + 0 ≤ 7198826; omega⟩) (wA.sub hD.left) hS (fun H locs hP1 hk1 hS => ?_)
  have hP := jn_1 hP hD hP1 hk1
  have hD := hD.addr (w1 := ((wM b cI cJ xs ys pm lp lq lr ((f_X6_count th P rh on ln q1).2) P rh on c1 c2 c3 ln) ++ ((wC a cI cJ xs ys pl kp lp lq lr P on c1 c2 c3 rh ln d7 d8 d9 d10) ++ (wO o cJ fo)))) rfl
  have hP : va_P (dC, dI) vwCl ((wM b cI cJ xs ys pm lp lq lr ((f_X6_count th P rh on ln q1).2) P rh on c1 c2 c3 ln) ++ ((wC a cI cJ xs ys pl kp lp lq lr P on c1 c2 c3 rh ln d7 d8 d9 d10) ++ (wO o cJ fo))) H := hP
  have hst := st_count hI th q1
  refine lv_icmp_eq (tgt := 1311) hx hb dL_law_1306 (by decide) (fun _ => ?_) (fun c9 => absurd hst c9)
  refine W.widen (k := ce + 1) (n := sl + 8) (by omega) (by omega) ?_
  exact K xs ys pl pm kp lp lq lr P on c1 c2 c3 rh ln d7 d8 d9 d10 ((f_X6_count th P rh on ln q1).2) fo hI _ _ hP (hD.addr rfl) hS ls (lv_sub hl [0, 1, 2, 3, 4] rfl)
