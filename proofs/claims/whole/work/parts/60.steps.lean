theorem fa_0 {pl : Nat → Int32} {n least : Int32} (hl : 1 ≤ least) : f_X4_fault pl 0 n least = -2 ∧ f_X6_isMany 0 n least = 0 := by
  unfold f_X4_fault f_X6_isMany
  by_cases h : n < least
  · rw [if_pos h, if_pos h]; exact ⟨rfl, rfl⟩
  · rw [if_neg h, if_neg h]
    have h1 : least ≤ n := Int32.not_lt.mp h
    have h2 : 0 < n := Int32.lt_of_lt_of_le (by decide) (Int32.le_trans hl h1)
    rw [if_neg (Int32.not_le.mpr h2), if_pos h2]; exact ⟨rfl, rfl⟩
theorem dn_set (d : Int64) : (f_X5_isDown d = 0 ∧ ¬ d = 1 ∧ ¬ d = 2 ∧ ¬ d = 3 ∧ ¬ d = 4 ∧ ¬ d = 6 ∧ ¬ d = 12) ∨ (¬ f_X5_isDown d = 0 ∧ (d = 1 ∨ d = 2 ∨ d = 3 ∨ d = 4 ∨ d = 6 ∨ d = 12)) := by
  by_cases h1 : 0 < d.toInt ∧ d.toInt ≤ 12
  · have : d = Int64.ofInt d.toInt := (Int64.ofInt_toInt d).symm
    have h2 : d.toInt = 1 ∨ d.toInt = 2 ∨ d.toInt = 3 ∨ d.toInt = 4 ∨ d.toInt = 5 ∨ d.toInt = 6 ∨ d.toInt = 7 ∨ d.toInt = 8 ∨ d.toInt = 9 ∨ d.toInt = 10 ∨ d.toInt = 11 ∨ d.toInt = 12 := by omega
    rcases h2 with e | e | e | e | e | e | e | e | e | e | e | e <;> (rw [e] at this; subst this; decide +kernel)
  · left
    have z : (0 : Int64).toInt = 0 := rfl
    have z12 : (12 : Int64).toInt = 12 := rfl
    refine ⟨?_, ?_, ?_, ?_, ?_, ?_, ?_⟩
    · unfold f_X5_isDown
      simp only [lg_cmp_le, lg_cmp_gt, Int64.le_iff_toInt_le, Int64.lt_iff_toInt_lt, z, z12]
      by_cases h2 : d.toInt ≤ 0
      · rw [if_pos h2]
      · rw [if_neg h2, if_pos (by omega)]
    all_goals (intro e; subst e; exact h1 (by decide))
theorem co_set (v : Int64) : (f_X5_isCoordinate v = 0 ∧ ¬ (-800 ≤ v.toInt ∧ v.toInt ≤ 800)) ∨ (¬ f_X5_isCoordinate v = 0 ∧ (-800 ≤ v.toInt ∧ v.toInt ≤ 800)) := by
  unfold f_X5_isCoordinate
  have z1 : (-800 : Int64).toInt = -800 := rfl
  have z2 : (800 : Int64).toInt = 800 := rfl
  simp only [lg_cmp_lt, lg_cmp_gt, Int64.lt_iff_toInt_lt, z1, z2]
  repeat' split
  all_goals first | (left; exact ⟨rfl, by omega⟩) | (right; exact ⟨by decide, by omega⟩)
theorem pt_val {v d : Int64} (hv : -800 ≤ v.toInt ∧ v.toInt ≤ 800) (hd : d = 1 ∨ d = 2 ∨ d = 3 ∨ d = 4 ∨ d = 6 ∨ d = 12) : Int64.toInt32 (v * (12 / d)) = Int64.toInt32 v * (12 / Int64.toInt32 d) ∧ (Int64.toInt32 v * (12 / Int64.toInt32 d)).toInt.natAbs ≤ 9600 := by
  have e1 : (Int64.toInt32 v).toInt = v.toInt := by rw [Int64.toInt_toInt32, fb_bmod (by omega) (by omega)]
  have go : ∀ k : Int32, 0 ≤ k.toInt → k.toInt ≤ 12 → (Int64.toInt32 v * k).toInt.natAbs ≤ 9600 := by
    intro k k0 k1
    have m := ab_mul (x := v.toInt) (y := k.toInt) (a := 800) (b := 12) hv (by omega)
    rw [fb_mulI (by rw [e1]; omega) (by rw [e1]; omega), e1]; omega
  rw [Int64.toInt32_mul]
  rcases hd with rfl | rfl | rfl | rfl | rfl | rfl <;> exact ⟨rfl, go _ (by decide) (by decide)⟩
theorem pn_in {P : Int32} (h0 : 0 ≤ P) (h : P < 60) : (0 ≤ P + 1 ∧ P + 1 ≤ 60) ∧ (P + 1).toInt = P.toInt + 1 := by
  have z : (0 : Int32).toInt = 0 := rfl
  have z60 : (60 : Int32).toInt = 60 := rfl
  have z1 : (1 : Int32).toInt = 1 := rfl
  rw [Int32.le_iff_toInt_le, z] at h0
  rw [Int32.lt_iff_toInt_lt, z60] at h
  have e : (P + 1).toInt = P.toInt + 1 := fb_addI (by rw [z1]; omega) (by rw [z1]; omega)
  rw [Int32.le_iff_toInt_le, Int32.le_iff_toInt_le, e, z, z60]; omega
set_option maxHeartbeats 4000000 in
theorem st_point {xs ys pl pm : Nat → Int32} {lp lq lr : Nat → Int64} {P on rh ln : Int32} (hI : Inv xs ys pl pm lp lq lr P on rh ln) (th : Int32) (p1 p2 p3 : Int64) : (f_X5_point xs ys P p1 p2 p3).1 = (f_X6_point xs ys th P p1 p2 p3).1 ∧ (f_X6_point xs ys th P p1 p2 p3).2.2.1 = (f_X5_point xs ys P p1 p2 p3).2.1 ∧ (f_X6_point xs ys th P p1 p2 p3).2.2.2.1 = (f_X5_point xs ys P p1 p2 p3).2.2.1 ∧ (f_X6_point xs ys th P p1 p2 p3).2.2.2.2 = (f_X5_point xs ys P p1 p2 p3).2.2.2 ∧ Inv (f_X5_point xs ys P p1 p2 p3).2.1 (f_X5_point xs ys P p1 p2 p3).2.2.1 pl pm lp lq lr (f_X5_point xs ys P p1 p2 p3).2.2.2 on rh ln := by
  obtain ⟨⟨hg0, hv0⟩, hr, hl, hon, hbx, hby, hpl, hpm, hplP, hrel, hlnk⟩ := hI
  unfold f_X5_point f_X6_point
  simp only [lg_cmp_eq]
  have hJ : (if p3 = 1 then f_X6_point_J64 xs ys th P p1 p2 p3 1 else if p3 = 2 then f_X6_point_J64 xs ys th P p1 p2 p3 1 else if p3 = 3 then f_X6_point_J64 xs ys th P p1 p2 p3 1 else if p3 = 4 then f_X6_point_J64 xs ys th P p1 p2 p3 1 else if p3 = 6 then f_X6_point_J64 xs ys th P p1 p2 p3 1 else if p3 = 12 then f_X6_point_J64 xs ys th P p1 p2 p3 1 else f_X6_point_J64 xs ys th P p1 p2 p3 0) = f_X6_point_J64 xs ys th P p1 p2 p3 (if f_X5_isDown p3 = 0 then 0 else 1) := by
    rcases dn_set p3 with ⟨h, a1, a2, a3, a4, a5, a6⟩ | ⟨h, a | a | a | a | a | a⟩
    · rw [if_neg a1, if_neg a2, if_neg a3, if_neg a4, if_neg a5, if_neg a6, if_pos h]
    · subst a; rw [if_neg h, if_pos rfl]
    · subst a; rw [if_neg h, if_neg (by decide), if_pos rfl]
    · subst a; rw [if_neg h, if_neg (by decide), if_neg (by decide), if_pos rfl]
    · subst a; rw [if_neg h, if_neg (by decide), if_neg (by decide), if_neg (by decide), if_pos rfl]
    · subst a; rw [if_neg h, if_neg (by decide), if_neg (by decide), if_neg (by decide), if_neg (by decide), if_pos rfl]
    · subst a; rw [if_neg h, if_neg (by decide), if_neg (by decide), if_neg (by decide), if_neg (by decide), if_neg (by decide), if_pos rfl]
  rw [hJ]
  unfold f_X6_point_J64
  have z1 : (-800 : Int64).toInt = -800 := rfl
  have z2 : (800 : Int64).toInt = 800 := rfl
  simp only [lg_cmp_lt, lg_cmp_gt, lg_cmp_le, Int64.lt_iff_toInt_lt, Int64.le_iff_toInt_le, z1, z2]
  have inv0 : Inv xs ys pl pm lp lq lr P on rh ln := ⟨⟨hg0, hv0⟩, hr, hl, hon, hbx, hby, hpl, hpm, hplP, hrel, hlnk⟩
  have bad : (if (if f_X5_isDown p3 = 0 then (0 : Int32) else 1) = 0 then ((-2 : Int32), (0 : Int32), xs, ys, P) else ((-2 : Int32), (0 : Int32), xs, ys, P)) = ((-2 : Int32), (0 : Int32), xs, ys, P) := by split <;> rfl
  rcases co_set p1 with ⟨c1, d1⟩ | ⟨c1, d1⟩
  · rw [if_pos c1]
    by_cases h1 : p1.toInt < -800
    · rw [if_pos h1, bad]; exact ⟨rfl, rfl, rfl, rfl, inv0⟩
    · rw [if_neg h1, if_pos (show 800 < p1.toInt by omega), bad]; exact ⟨rfl, rfl, rfl, rfl, inv0⟩
  rw [if_neg c1, if_neg (show ¬ p1.toInt < -800 by omega), if_neg (show ¬ 800 < p1.toInt by omega)]
  rcases co_set p2 with ⟨c2, d2⟩ | ⟨c2, d2⟩
  · rw [if_pos c2]
    by_cases h1 : p2.toInt < -800
    · rw [if_pos h1, bad]; exact ⟨rfl, rfl, rfl, rfl, inv0⟩
    · rw [if_neg h1, if_neg (show ¬ p2.toInt ≤ 800 by omega), bad]; exact ⟨rfl, rfl, rfl, rfl, inv0⟩
  rw [if_neg c2, if_neg (show ¬ p2.toInt < -800 by omega), if_pos (show p2.toInt ≤ 800 by omega)]
  rcases dn_set p3 with ⟨h, _⟩ | ⟨h, hset⟩
  · rw [if_pos h, if_pos h, if_pos rfl]; exact ⟨rfl, rfl, rfl, rfl, inv0⟩
  rw [if_neg h, if_neg h, if_neg (by decide)]
  have v1 := pt_val d1 hset
  have v2 := pt_val d2 hset
  rw [v1.1, v2.1]
  unfold f_X2_add
  by_cases hP : P = 60
  · subst hP
    rw [if_pos rfl, if_neg (by decide)]; exact ⟨rfl, rfl, rfl, rfl, inv0⟩
  · have hlt : P < 60 := Int32.lt_of_le_of_ne hv0 hP
    rw [if_neg hP, if_pos hlt]
    have pn := pn_in hg0 hlt
    refine ⟨rfl, rfl, rfl, rfl, pn.1, hr, hl, hon, fun j => ?_, fun j => ?_, hpl, hpm, fun j hj => ?_, hrel, hlnk⟩
    · show (upd xs _ _ j).toInt.natAbs ≤ 9600
      unfold upd; split
      · exact v1.2
      · exact hbx j
    · show (upd ys _ _ j).toInt.natAbs ≤ 9600
      unfold upd; split
      · exact v2.2
      · exact hby j
    · rcases hplP j hj with h9 | ⟨h8, h9⟩
      · exact Or.inl h9
      · right
        refine ⟨h8, ?_⟩
        show pl j < P + 1
        rw [Int32.lt_iff_toInt_lt] at *
        omega
theorem rs_L {pl0 : Nat → Int32} {u v5 n : Int32} : ∀ (m k : Nat) (f : Nat → Int32), k ≤ 24 → 24 < k + m → f_X4_resize_L7 pl0 u n v5 m (nI k) f = (v5, (fun j => if k ≤ j ∧ j < 24 then -1 else f j), n)
  | 0, k, f, h1, h2 => by omega
  | m + 1, k, f, h1, h2 => by
    rw [f_X4_resize_L7]
    by_cases h : 24 ≤ k
    · rw [if_pos (show (24 : Int32) ≤ nI k from nI_le (a := 24) h (by omega))]
      congr 2; funext j; rw [if_neg (by omega)]
    · rw [if_neg (show ¬ (24 : Int32) ≤ nI k from nI_ge (b := 24) (by omega) (by omega)), nI_1, nI_clamp (by omega), rs_L m (k + 1) _ (by omega) (by omega)]
      congr 2; funext j; unfold upd
      by_cases e : j = k
      · subst e; rw [if_neg (by omega), if_pos rfl, if_pos (by omega)]
      · by_cases e2 : k + 1 ≤ j ∧ j < 24
        · rw [if_pos e2, if_pos (by omega)]
        · rw [if_neg e2, if_neg e, if_neg (by omega)]
theorem sz_L {pl0 : Nat → Int32} {v0 u v2 n : Int32} : ∀ (m k : Nat) (f : Nat → Int32), k ≤ 24 → 24 < k + m → f_X6_size_L36 pl0 v0 u n v2 m (nI k) f = (v2, 0, n, (fun j => if k ≤ j ∧ j < 24 then -1 else f j))
  | 0, k, f, h1, h2 => by omega
  | m + 1, k, f, h1, h2 => by
    rw [f_X6_size_L36]
    by_cases h : 24 ≤ k
    · rw [if_pos (show (24 : Int32) ≤ nI k from nI_le (a := 24) h (by omega))]
      congr 3; funext j; rw [if_neg (by omega)]
    · rw [if_neg (show ¬ (24 : Int32) ≤ nI k from nI_ge (b := 24) (by omega) (by omega)), nI_1, nI_clamp (by omega), sz_L m (k + 1) _ (by omega) (by omega)]
      congr 3; funext j; unfold upd
      by_cases e : j = k
      · subst e; rw [if_neg (by omega), if_pos rfl, if_pos (by omega)]
      · by_cases e2 : k + 1 ≤ j ∧ j < 24
        · rw [if_pos e2, if_pos (by omega)]
        · rw [if_neg e2, if_neg e, if_neg (by omega)]
set_option maxHeartbeats 4000000 in
theorem st_size {xs ys pl pm : Nat → Int32} {lp lq lr : Nat → Int64} {P on rh ln : Int32} (hI : Inv xs ys pl pm lp lq lr P on rh ln) (th p1 : Int32) : (f_X6_size pm th rh p1).2.1 = (f_X5_size pl rh p1).1 ∧ ((f_X5_size pl rh p1).1 = 0 → (f_X5_size pl rh p1).2.1 = (f_X6_size pm th rh p1).1) ∧ (f_X6_size pm th rh p1).2.2.1 = (f_X5_size pl rh p1).2.2.2 ∧ Inv xs ys (f_X5_size pl rh p1).2.2.1 (f_X6_size pm th rh p1).2.2.2 lp lq lr P on (f_X5_size pl rh p1).2.2.2 ln := by
  have inv0 := hI
  obtain ⟨hP, ⟨hr0, hh⟩, hl, hon, hbx, hby, hpl, hpm, hplP, ⟨hrel, h24⟩, hlnk⟩ := hI
  unfold f_X5_size f_X6_size f_X6_fail f_X4_resize
  by_cases h1 : 0 ≤ p1
  · by_cases h2 : p1 ≤ 24
    · rw [if_pos h1, if_pos h2, if_pos h2, if_pos h1]
      have e1 := rs_L (pl0 := pl) (u := rh) (v5 := rh) (n := p1) 25 0 pl (by omega) (by omega)
      have e2 := sz_L (pl0 := pm) (v0 := th) (u := rh) (v2 := rh) (n := p1) 25 0 pm (by omega) (by omega)
      rw [show (0 : Int32) = nI 0 from rfl, e1, e2]
      refine ⟨rfl, fun _ => rfl, rfl, hP, ⟨h1, h2⟩, hl, hon, hbx, hby, fun j => ?_, fun j => ?_, fun j hj => ?_, ⟨Or.inl ?_, fun j hj => ?_⟩, hlnk⟩
      · show (if 0 ≤ j ∧ j < 24 then -1 else pl j) = -1 ∨ vp_in (if 0 ≤ j ∧ j < 24 then -1 else pl j) 60
        split
        · exact Or.inl rfl
        · exact hpl j
      · show (if 0 ≤ j ∧ j < 24 then -1 else pm j) = -1 ∨ vp_in (if 0 ≤ j ∧ j < 24 then -1 else pm j) 60
        split
        · exact Or.inl rfl
        · exact hpm j
      · left
        show (if 0 ≤ j ∧ j < 24 then -1 else pl j) = -1
        have z24 : (24 : Int32).toInt = 24 := rfl
        rw [Int32.le_iff_toInt_le, z24] at h2
        have hj : (j : Int) < p1.toInt := hj
        rw [if_pos (by omega)]
      · funext j
        show (if 0 ≤ j ∧ j < 24 then -1 else pl j) = (if 0 ≤ j ∧ j < 24 then -1 else pm j)
        split
        · rfl
        · exact h24 j (by omega)
      · show (if 0 ≤ j ∧ j < 24 then -1 else pl j) = (if 0 ≤ j ∧ j < 24 then -1 else pm j)
        rw [if_neg (by omega), if_neg (by omega)]; exact h24 j hj
    · rw [if_neg h2, if_neg h2, if_pos h1]
      exact ⟨rfl, fun _ => rfl, rfl, inv0⟩
  · rw [if_neg h1]
    by_cases h2 : p1 ≤ 24
    · rw [if_pos h2, if_neg h1]
      exact ⟨rfl, fun h => absurd (show (1 : Int32) = 0 from h) (by decide), rfl, inv0⟩
    · exfalso
      rw [Int32.le_iff_toInt_le] at h1 h2
      have z24 : (24 : Int32).toInt = 24 := rfl
      have z : (0 : Int32).toInt = 0 := rfl
      omega
theorem pc_in {rh i : Int32} (h : ¬ f_X6_isPlace rh i = 0) : 0 ≤ i ∧ i < rh ∧ (Int32.toNatClampNeg i : Int) = i.toInt := by
  unfold f_X6_isPlace at h
  by_cases h1 : i < 0
  · rw [if_pos h1] at h; exact absurd rfl h
  · rw [if_neg h1] at h
    by_cases h2 : rh ≤ i
    · rw [if_pos h2] at h; exact absurd rfl h
    · have h3 := Int32.not_lt.mp h1
      refine ⟨h3, Int32.not_le.mp h2, ?_⟩
      rw [Int32.le_iff_toInt_le] at h3
      have z : (0 : Int32).toInt = 0 := rfl
      unfold Int32.toNatClampNeg; omega
theorem pp_in {P p : Int32} (h : ¬ f_X6_isPoint P p = 0) : 0 ≤ p ∧ p < P := by
  unfold f_X6_isPoint at h
  by_cases h1 : p < 0
  · rw [if_pos h1] at h; exact absurd rfl h
  · rw [if_neg h1] at h
    by_cases h2 : P ≤ p
    · rw [if_pos h2] at h; exact absurd rfl h
    · exact ⟨Int32.not_lt.mp h1, Int32.not_le.mp h2⟩
theorem vp_60 {P p : Int32} (hP : P ≤ 60) (h : 0 ≤ p ∧ p < P) : vp_in p 60 := by
  rw [vp_in_iff]
  have z : (0 : Int32).toInt = 0 := rfl
  have z60 : (60 : Int32).toInt = 60 := rfl
  rw [Int32.le_iff_toInt_le] at hP
  rw [Int32.le_iff_toInt_le, Int32.lt_iff_toInt_lt] at h
  omega
set_option maxHeartbeats 4000000 in
theorem st_of {xs ys pl pm : Nat → Int32} {lp lq lr : Nat → Int64} {P on rh ln : Int32} (hI : Inv xs ys pl pm lp lq lr P on rh ln) (th p1 p2 : Int32) : (f_X6_of pm th P rh p1 p2).2.1 = (f_X5_of pl P rh p1 p2).1 ∧ ((f_X5_of pl P rh p1 p2).1 = 0 → (f_X5_of pl P rh p1 p2).2.1 = (f_X6_of pm th P rh p1 p2).1) ∧ Inv xs ys (f_X5_of pl P rh p1 p2).2.2 (f_X6_of pm th P rh p1 p2).2.2 lp lq lr P on rh ln := by
  have inv0 := hI
  obtain ⟨hP, ⟨hr0, hh⟩, hl, hon, hbx, hby, hpl, hpm, hplP, ⟨hrel, h24⟩, hlnk⟩ := hI
  have put : ¬ f_X6_isPlace rh p1 = 0 → (p2 = -1 ∨ (0 ≤ p2 ∧ p2 < P)) → pl (Int32.toNatClampNeg p1) = pm (Int32.toNatClampNeg p1) ∧ Inv xs ys (upd pl (Int32.toNatClampNeg p1) p2) (upd pm (Int32.toNatClampNeg p1) p2) lp lq lr P on rh ln := by
    intro h1 h2
    have hpc := pc_in h1
    have hpe : pl = pm := by
      rcases hrel with h | h
      · exact h
      · exfalso
        have := hpc.2.1; rw [h, Int32.lt_iff_toInt_lt] at this
        have h3 := hpc.1; rw [Int32.le_iff_toInt_le] at h3
        omega
    subst hpe
    have hv : p2 = -1 ∨ vp_in p2 60 := h2.imp id (vp_60 hP.2)
    refine ⟨rfl, hP, ⟨hr0, hh⟩, hl, hon, hbx, hby, fun j => ?_, fun j => ?_, fun j hj => ?_, ⟨Or.inl rfl, fun j _ => rfl⟩, hlnk⟩
    · unfold upd; split
      · exact hv
      · exact hpl j
    · unfold upd; split
      · exact hv
      · exact hpl j
    · unfold upd; split
      · exact h2
      · exact hplP j hj
  unfold f_X5_of f_X6_of f_X6_fail f_X4_put
  have e1 : ∀ q, f_X4_hasPlace rh q = f_X6_isPlace rh q := fun _ => rfl
  have e2 : ∀ q, f_X2_has P q = f_X6_isPoint P q := fun _ => rfl
  simp only [e1, e2]
  by_cases h1 : p2 = -1
  · rw [if_pos h1, if_pos h1]
    by_cases h2 : f_X6_isPlace rh p1 = 0
    · rw [if_pos h2, if_pos h2]; exact ⟨rfl, fun h => absurd (show (1 : Int32) = 0 from h) (by decide), inv0⟩
    · rw [if_neg h2, if_neg h2]
      have q := put h2 (Or.inl h1)
      exact ⟨rfl, fun _ => q.1, q.2⟩
  · rw [if_neg h1, if_neg h1]
    by_cases h3 : f_X6_isPoint P p2 = 0
    · rw [if_pos h3, if_pos h3]; exact ⟨rfl, fun _ => rfl, inv0⟩
    · rw [if_neg h3, if_neg h3]
      by_cases h2 : f_X6_isPlace rh p1 = 0
      · rw [if_pos h2, if_pos h2]; exact ⟨rfl, fun h => absurd (show (1 : Int32) = 0 from h) (by decide), inv0⟩
      · rw [if_neg h2, if_neg h2]
        have q := put h2 (Or.inr (pp_in h3))
        exact ⟨rfl, fun _ => q.1, q.2⟩
set_option maxHeartbeats 4000000 in
theorem st_at {xs ys pl pm : Nat → Int32} {lp lq lr : Nat → Int64} {P on rh ln : Int32} (hI : Inv xs ys pl pm lp lq lr P on rh ln) (th p1 p2 : Int32) : (f_X6_at xs ys pm th rh p1 p2).2 = (f_X5_at xs ys pl P rh p1 p2).1 ∧ ((f_X5_at xs ys pl P rh p1 p2).1 = 0 → (f_X5_at xs ys pl P rh p1 p2).2 = (f_X6_at xs ys pm th rh p1 p2).1) := by
  obtain ⟨hP, ⟨hr0, hh⟩, hl, hon, hbx, hby, hpl, hpm, hplP, ⟨hrel, h24⟩, hlnk⟩ := hI
  unfold f_X5_at f_X6_at f_X6_fail
  have e1 : ∀ q, f_X4_hasPlace rh q = f_X6_isPlace rh q := fun _ => rfl
  have e2 : ∀ q, f_X2_has P q = f_X6_isPoint P q := fun _ => rfl
  simp only [e1, e2]
  by_cases h1 : f_X6_isPlace rh p1 = 0
  · rw [if_pos h1, if_pos h1]; exact ⟨rfl, fun h => absurd (show (1 : Int32) = 0 from h) (by decide)⟩
  rw [if_neg h1, if_neg h1]
  have hpc := pc_in h1
  have hpe : pl = pm := by
    rcases hrel with h | h
    · exact h
    · exfalso
      have := hpc.2.1; rw [h, Int32.lt_iff_toInt_lt] at this
      have h3 := hpc.1; rw [Int32.le_iff_toInt_le] at h3
      omega
  subst hpe
  have h4 := hpc.2.1
  rw [Int32.lt_iff_toInt_lt] at h4
  have hq : (f_X6_isPoint P (pl (Int32.toNatClampNeg p1)) = 0) ↔ pl (Int32.toNatClampNeg p1) = -1 := by
    rcases hplP (Int32.toNatClampNeg p1) (by omega) with h | ⟨h, h5⟩
    · rw [h]
      refine ⟨fun _ => rfl, fun _ => ?_⟩
      unfold f_X6_isPoint; rw [if_pos (by decide)]
    · constructor
      · intro h6
        unfold f_X6_isPoint at h6
        rw [if_neg (Int32.not_lt.mpr h), if_neg (Int32.not_le.mpr h5)] at h6
        exact absurd h6 (by decide)
      · intro h6
        rw [h6] at h; exact absurd h (by decide)
  simp only [hq]
  by_cases h2 : pl (Int32.toNatClampNeg p1) = -1
  · rw [if_pos h2, if_pos h2]; exact ⟨rfl, fun h => absurd (show (2 : Int32) = 0 from h) (by decide)⟩
  · rw [if_neg h2, if_neg h2]
    by_cases h3 : p2 = 0
    · rw [if_pos h3, if_pos h3]; exact ⟨rfl, fun _ => rfl⟩
    · rw [if_neg h3, if_neg h3]
      by_cases h5 : p2 = 1
      · rw [if_pos h5, if_pos h5]; exact ⟨rfl, fun _ => rfl⟩
      · rw [if_neg h5, if_neg h5]; exact ⟨rfl, fun _ => rfl⟩
set_option maxHeartbeats 4000000 in
theorem st_area {xs ys pl pm : Nat → Int32} {lp lq lr : Nat → Int64} {P on rh ln : Int32} (hI : Inv xs ys pl pm lp lq lr P on rh ln) (th p1 : Int32) (p2 : Int64) : (f_X6_area xs ys pm th rh p1 p2).2 = (f_X5_area xs ys pl rh p1 p2).1 ∧ ((f_X5_area xs ys pl rh p1 p2).1 = 0 → (f_X5_area xs ys pl rh p1 p2).2 = (f_X6_area xs ys pm th rh p1 p2).1) := by
  obtain ⟨hP, ⟨hr0, hh⟩, hl, hon, hbx, hby, hpl, hpm, hplP, ⟨hrel, h24⟩, hlnk⟩ := hI
  rcases hrel with rfl | rfl
  · have q := f_area (xs := xs) (ys := ys) (pl := pl) (v5 := rh) (th := th) (n := p1) (by' := p2) hh
    exact ⟨q.1, fun _ => q.2⟩
  · have q := fa_0 (pl := pl) (n := p1) (least := 1) (by decide)
    unfold f_X6_area f_X5_area
    rw [q.1, if_pos q.2, if_neg (by decide)]
    exact ⟨rfl, fun _ => rfl⟩
set_option maxHeartbeats 4000000 in
theorem st_side {xs ys pl pm : Nat → Int32} {lp lq lr : Nat → Int64} {P on rh ln : Int32} (hI : Inv xs ys pl pm lp lq lr P on rh ln) (th c1 c2 c3 p1 p2 p3 : Int32) : (f_X5_side xs ys P on c1 c2 c3 p1 p2 p3).1 = (f_X6_side xs ys th P on c1 c2 c3 p1 p2 p3).1 ∧ (f_X6_side xs ys th P on c1 c2 c3 p1 p2 p3).2.2.1 = (f_X5_side xs ys P on c1 c2 c3 p1 p2 p3).2.1 ∧ (f_X6_side xs ys th P on c1 c2 c3 p1 p2 p3).2.2.2.1 = (f_X5_side xs ys P on c1 c2 c3 p1 p2 p3).2.2.1 ∧ (f_X6_side xs ys th P on c1 c2 c3 p1 p2 p3).2.2.2.2 = (f_X5_side xs ys P on c1 c2 c3 p1 p2 p3).2.2.2 := by
  exact f_side hI.2.2.2.2.1 hI.2.2.2.2.2.1
set_option maxHeartbeats 4000000 in
theorem st_circle {xs ys pl pm : Nat → Int32} {lp lq lr : Nat → Int64} {P on rh ln : Int32} (hI : Inv xs ys pl pm lp lq lr P on rh ln) (th c1 c2 c3 p1 p2 p3 p4 : Int32) : (f_X5_circle xs ys P on c1 c2 c3 p1 p2 p3 p4).1 = (f_X6_circle xs ys th P on c1 c2 c3 p1 p2 p3 p4).1 ∧ (f_X6_circle xs ys th P on c1 c2 c3 p1 p2 p3 p4).2.2.1 = (f_X5_circle xs ys P on c1 c2 c3 p1 p2 p3 p4).2.1 ∧ (f_X6_circle xs ys th P on c1 c2 c3 p1 p2 p3 p4).2.2.2.1 = (f_X5_circle xs ys P on c1 c2 c3 p1 p2 p3 p4).2.2.1 ∧ (f_X6_circle xs ys th P on c1 c2 c3 p1 p2 p3 p4).2.2.2.2 = (f_X5_circle xs ys P on c1 c2 c3 p1 p2 p3 p4).2.2.2 := by
  exact f_circle hI.2.2.2.2.1 hI.2.2.2.2.2.1
set_option maxHeartbeats 4000000 in
theorem st_filter {xs ys pl pm : Nat → Int32} {lp lq lr : Nat → Int64} {P on rh ln : Int32} (hI : Inv xs ys pl pm lp lq lr P on rh ln) (th : Int32) {p1 : Int32} (hz : p1 = 0 ∨ p1 = 1) : (f_X5_filter on p1).1 = (f_X6_filter th on p1).1 ∧ (f_X6_filter th on p1).2.2 = (f_X5_filter on p1).2 ∧ Inv xs ys pl pm lp lq lr P (f_X5_filter on p1).2 rh ln := by
  obtain ⟨hP, hr, hl, hon, hbx, hby, hpl, hpm, hplP, hrel, hlnk⟩ := hI
  unfold f_X5_filter f_X6_filter
  by_cases h : on = 0
  · rw [if_pos h, if_pos h]; exact ⟨rfl, rfl, hP, hr, hl, hz, hbx, hby, hpl, hpm, hplP, hrel, hlnk⟩
  · rw [if_neg h, if_neg h]; exact ⟨rfl, rfl, hP, hr, hl, hz, hbx, hby, hpl, hpm, hplP, hrel, hlnk⟩
set_option maxHeartbeats 4000000 in
theorem st_decided {xs ys pl pm : Nat → Int32} {lp lq lr : Nat → Int64} {P on rh ln : Int32} (hI : Inv xs ys pl pm lp lq lr P on rh ln) (th c1 c2 c3 p1 : Int32) : f_X5_decided c1 c2 c3 p1 = (f_X6_decided th c1 c2 c3 p1).1 := by
  unfold f_X5_decided f_X6_decided
  repeat' split
  all_goals rfl
set_option maxHeartbeats 4000000 in
theorem st_between {xs ys pl pm : Nat → Int32} {lp lq lr : Nat → Int64} {P on rh ln : Int32} (hI : Inv xs ys pl pm lp lq lr P on rh ln) (th p1 p2 p3 : Int32) : f_X5_between xs ys P p1 p2 p3 = (f_X6_between xs ys th P p1 p2 p3).1 := by
  exact f_between hI.2.2.2.2.1 hI.2.2.2.2.2.1 th p1 p2 p3
set_option maxHeartbeats 4000000 in
theorem st_inside {xs ys pl pm : Nat → Int32} {lp lq lr : Nat → Int64} {P on rh ln : Int32} (hI : Inv xs ys pl pm lp lq lr P on rh ln) (th p1 p2 p3 p4 : Int32) : f_X5_inside xs ys P p1 p2 p3 p4 = (f_X6_inside xs ys th P p1 p2 p3 p4).1 := by
  exact f_inside hI.2.2.2.2.1 hI.2.2.2.2.2.1 th p1 p2 p3 p4
set_option maxHeartbeats 4000000 in
theorem st_cross {xs ys pl pm : Nat → Int32} {lp lq lr : Nat → Int64} {P on rh ln : Int32} (hI : Inv xs ys pl pm lp lq lr P on rh ln) (th p1 p2 p3 p4 : Int32) : f_X5_cross xs ys P p1 p2 p3 p4 = (f_X6_cross xs ys th P p1 p2 p3 p4).1 := by
  exact f_cross hI.2.2.2.2.1 hI.2.2.2.2.2.1 th p1 p2 p3 p4
set_option maxHeartbeats 4000000 in
theorem st_separated {xs ys pl pm : Nat → Int32} {lp lq lr : Nat → Int64} {P on rh ln : Int32} (hI : Inv xs ys pl pm lp lq lr P on rh ln) (th p1 p2 p3 p4 : Int32) : f_X5_separated xs ys P p1 p2 p3 p4 = (f_X6_separated xs ys th P p1 p2 p3 p4).1 := by
  exact f_sepa hI.2.2.2.2.1 hI.2.2.2.2.2.1 th p1 p2 p3 p4
set_option maxHeartbeats 4000000 in
theorem st_convex {xs ys pl pm : Nat → Int32} {lp lq lr : Nat → Int64} {P on rh ln : Int32} (hI : Inv xs ys pl pm lp lq lr P on rh ln) (th p1 : Int32) : f_X5_convex xs ys pl rh p1 = (f_X6_convex xs ys pm th rh p1).1 := by
  obtain ⟨⟨hg0, hv0⟩, ⟨hr0, hh⟩, ⟨hl0, hl6⟩, hon, hbx, hby, hpl, hpm, hplP, ⟨hrel, h24⟩, hlnk⟩ := hI
  rcases hrel with rfl | rfl
  · exact f_convex hbx hby hh
  · unfold f_X5_convex f_X6_convex
    have q := fa_0 (pl := pl) (n := p1) (least := 3) (by decide)
    rw [q.1]
    simp only [q.2, if_true]
    repeat' split
    all_goals first | rfl | (rename_i h9; exact absurd h9 (by decide)) | contradiction
set_option maxHeartbeats 4000000 in
theorem st_polygon {xs ys pl pm : Nat → Int32} {lp lq lr : Nat → Int64} {P on rh ln : Int32} (hI : Inv xs ys pl pm lp lq lr P on rh ln) (th p1 p2 : Int32) : f_X5_polygon xs ys pl P rh p1 p2 = (f_X6_polygon xs ys pm th P rh p1 p2).1 := by
  obtain ⟨⟨hg0, hv0⟩, ⟨hr0, hh⟩, ⟨hl0, hl6⟩, hon, hbx, hby, hpl, hpm, hplP, ⟨hrel, h24⟩, hlnk⟩ := hI
  rcases hrel with rfl | rfl
  · exact f_polygon hbx hby hh
  · unfold f_X5_polygon f_X6_polygon
    have q := fa_0 (pl := pl) (n := p1) (least := 1) (by decide)
    rw [q.1]
    simp only [q.2, if_true]
    repeat' split
    all_goals first | rfl | (rename_i h9; exact absurd h9 (by decide)) | contradiction
set_option maxHeartbeats 4000000 in
theorem st_winding {xs ys pl pm : Nat → Int32} {lp lq lr : Nat → Int64} {P on rh ln : Int32} (hI : Inv xs ys pl pm lp lq lr P on rh ln) (th p1 p2 : Int32) : f_X5_winding xs ys pl P rh p1 p2 = (f_X6_winding xs ys pm th P rh p1 p2).1 := by
  obtain ⟨⟨hg0, hv0⟩, ⟨hr0, hh⟩, ⟨hl0, hl6⟩, hon, hbx, hby, hpl, hpm, hplP, ⟨hrel, h24⟩, hlnk⟩ := hI
  rcases hrel with rfl | rfl
  · exact f_winding hbx hby hh
  · unfold f_X5_winding f_X6_winding
    have q := fa_0 (pl := pl) (n := p1) (least := 1) (by decide)
    rw [q.1]
    simp only [q.2, if_true]
    repeat' split
    all_goals first | rfl | (rename_i h9; exact absurd h9 (by decide)) | contradiction
set_option maxHeartbeats 4000000 in
theorem st_nearest {xs ys pl pm : Nat → Int32} {lp lq lr : Nat → Int64} {P on rh ln : Int32} (hI : Inv xs ys pl pm lp lq lr P on rh ln) (th p1 p2 : Int32) : f_X5_nearest xs ys pl P rh p1 p2 = (f_X6_nearest xs ys pm th P rh p1 p2).1 := by
  obtain ⟨⟨hg0, hv0⟩, ⟨hr0, hh⟩, ⟨hl0, hl6⟩, hon, hbx, hby, hpl, hpm, hplP, ⟨hrel, h24⟩, hlnk⟩ := hI
  rcases hrel with rfl | rfl
  · exact f_nearest hbx hby hh
  · unfold f_X5_nearest f_X6_nearest
    have q := fa_0 (pl := pl) (n := p2) (least := 1) (by decide)
    rw [q.1]
    simp only [q.2, if_true]
    repeat' split
    all_goals first | rfl | (rename_i h9; exact absurd h9 (by decide)) | contradiction
set_option maxHeartbeats 4000000 in
theorem st_around {xs ys pl pm : Nat → Int32} {lp lq lr : Nat → Int64} {P on rh ln : Int32} (hI : Inv xs ys pl pm lp lq lr P on rh ln) (th p1 p2 p3 : Int32) : f_X5_around xs ys pl P rh p1 p2 p3 = (f_X6_around xs ys pm th P rh p1 p2 p3).1 := by
  obtain ⟨⟨hg0, hv0⟩, ⟨hr0, hh⟩, ⟨hl0, hl6⟩, hon, hbx, hby, hpl, hpm, hplP, ⟨hrel, h24⟩, hlnk⟩ := hI
  rcases hrel with rfl | rfl
  · exact f_around hbx hby hh
  · unfold f_X5_around f_X6_around
    have q := fa_0 (pl := pl) (n := p2) (least := 1) (by decide)
    rw [q.1]
    simp only [q.2, if_true]
    repeat' split
    all_goals first | rfl | (rename_i h9; exact absurd h9 (by decide)) | contradiction
set_option maxHeartbeats 4000000 in
theorem st_order {xs ys pl pm : Nat → Int32} {lp lq lr : Nat → Int64} {P on rh ln : Int32} (hI : Inv xs ys pl pm lp lq lr P on rh ln) (th p1 p2 : Int32) : f_X5_order xs ys pl rh p1 p2 = (f_X6_order xs ys pm th rh p1 p2).1 := by
  obtain ⟨⟨hg0, hv0⟩, ⟨hr0, hh⟩, ⟨hl0, hl6⟩, hon, hbx, hby, hpl, hpm, hplP, ⟨hrel, h24⟩, hlnk⟩ := hI
  rcases hrel with rfl | rfl
  · exact f_order hbx hby hh
  · unfold f_X5_order f_X6_order
    have q := fa_0 (pl := pl) (n := p1) (least := 1) (by decide)
    rw [q.1]
    simp only [q.2, if_true]
    repeat' split
    all_goals first | rfl | (rename_i h9; exact absurd h9 (by decide)) | contradiction
theorem ln_new {xs ys : Nat → Int32} (hx : gB xs) (hy : gB ys) {a b : Int32} (h : f_X6_areEqual xs ys a b = 0) : lnOk (Int32.toInt64 (ys (Int32.toNatClampNeg b) - ys (Int32.toNatClampNeg a))) (Int32.toInt64 (xs (Int32.toNatClampNeg a) - xs (Int32.toNatClampNeg b))) (Int32.toInt64 (ys (Int32.toNatClampNeg b) - ys (Int32.toNatClampNeg a)) * Int32.toInt64 (xs (Int32.toNatClampNeg a)) + Int32.toInt64 (xs (Int32.toNatClampNeg a) - xs (Int32.toNatClampNeg b)) * Int32.toInt64 (ys (Int32.toNatClampNeg a))) := by
  rw [gE_0] at h
  have xa := gx_b hx a; have xb := gx_b hx b
  have ya := gx_b hy a; have yb := gx_b hy b
  unfold gx at *
  have d1 := tI_sub yb ya
  have d2 := tI_sub xa xb
  have d3 : (Int32.toInt64 (xs (Int32.toNatClampNeg a))).toInt = (xs (Int32.toNatClampNeg a)).toInt := Int32.toInt_toInt64 _
  have d4 : (Int32.toInt64 (ys (Int32.toNatClampNeg a))).toInt = (ys (Int32.toNatClampNeg a)).toInt := Int32.toInt_toInt64 _
  have m1 := ab_mul (x := (ys (Int32.toNatClampNeg b)).toInt - (ys (Int32.toNatClampNeg a)).toInt) (y := (xs (Int32.toNatClampNeg a)).toInt) (a := 19200) (b := 9600) (by omega) (by omega)
  have m2 := ab_mul (x := (xs (Int32.toNatClampNeg a)).toInt - (xs (Int32.toNatClampNeg b)).toInt) (y := (ys (Int32.toNatClampNeg a)).toInt) (a := 19200) (b := 9600) (by omega) (by omega)
  have e1 := fb_mulL (x := Int32.toInt64 (ys (Int32.toNatClampNeg b) - ys (Int32.toNatClampNeg a))) (y := Int32.toInt64 (xs (Int32.toNatClampNeg a))) (by rw [d1, d3]; omega) (by rw [d1, d3]; omega)
  have e2 := fb_mulL (x := Int32.toInt64 (xs (Int32.toNatClampNeg a) - xs (Int32.toNatClampNeg b))) (y := Int32.toInt64 (ys (Int32.toNatClampNeg a))) (by rw [d2, d4]; omega) (by rw [d2, d4]; omega)
  rw [d1, d3] at e1
  rw [d2, d4] at e2
  have z : (0 : Int64).toInt = 0 := rfl
  refine ⟨fun ⟨h1, h2⟩ => ?_, ?_, ?_, ?_⟩
  · rw [← Int64.toInt_inj, d1, z] at h1
    rw [← Int64.toInt_inj, d2, z] at h2
    omega
  · rw [d1]; omega
  · rw [d2]; omega
  · rw [fb_addL (by rw [e1, e2]; omega) (by rw [e1, e2]; omega), e1, e2]; omega
set_option maxHeartbeats 4000000 in
theorem st_line {xs ys pl pm : Nat → Int32} {lp lq lr : Nat → Int64} {P on rh ln : Int32} (hI : Inv xs ys pl pm lp lq lr P on rh ln) (th p1 p2 : Int32) : (f_X5_line xs ys lp lq lr P ln p1 p2).1 = (f_X6_line xs ys lp lq lr th P ln p1 p2).1 ∧ (f_X6_line xs ys lp lq lr th P ln p1 p2).2.2.1 = (f_X5_line xs ys lp lq lr P ln p1 p2).2.1 ∧ (f_X6_line xs ys lp lq lr th P ln p1 p2).2.2.2.1 = (f_X5_line xs ys lp lq lr P ln p1 p2).2.2.1 ∧ (f_X6_line xs ys lp lq lr th P ln p1 p2).2.2.2.2.1 = (f_X5_line xs ys lp lq lr P ln p1 p2).2.2.2.1 ∧ (f_X6_line xs ys lp lq lr th P ln p1 p2).2.2.2.2.2 = (f_X5_line xs ys lp lq lr P ln p1 p2).2.2.2.2 ∧ Inv xs ys pl pm (f_X5_line xs ys lp lq lr P ln p1 p2).2.1 (f_X5_line xs ys lp lq lr P ln p1 p2).2.2.1 (f_X5_line xs ys lp lq lr P ln p1 p2).2.2.2.1 P on rh (f_X5_line xs ys lp lq lr P ln p1 p2).2.2.2.2 := by
  have inv0 := hI
  obtain ⟨hP, hr, ⟨hl0, hl6⟩, hon, hbx, hby, hpl, hpm, hplP, hrel, hlnk⟩ := hI
  unfold f_X5_line f_X6_line f_X1_add
  have e2 : ∀ q, f_X2_has P q = f_X6_isPoint P q := fun _ => rfl
  simp only [e2, ge_equal]
  by_cases h1 : f_X6_isPoint P p1 = 0
  · rw [if_pos h1, if_pos h1]; exact ⟨rfl, rfl, rfl, rfl, rfl, inv0⟩
  rw [if_neg h1, if_neg h1]
  by_cases h2 : f_X6_isPoint P p2 = 0
  · rw [if_pos h2, if_pos h2]; exact ⟨rfl, rfl, rfl, rfl, rfl, inv0⟩
  rw [if_neg h2, if_neg h2]
  by_cases h3 : f_X6_areEqual xs ys p1 p2 = 0
  case neg => rw [if_neg h3, if_neg h3]; exact ⟨rfl, rfl, rfl, rfl, rfl, inv0⟩
  rw [if_pos h3, if_pos h3]
  by_cases h4 : ln = 12
  · subst h4
    rw [if_pos rfl, if_neg (by decide)]; exact ⟨rfl, rfl, rfl, rfl, rfl, inv0⟩
  · have hlt : ln < 12 := Int32.lt_of_le_of_ne hl6 h4
    rw [if_neg h4, if_pos hlt]
    have z : (0 : Int32).toInt = 0 := rfl
    have z12 : (12 : Int32).toInt = 12 := rfl
    have z1 : (1 : Int32).toInt = 1 := rfl
    have hl0' := hl0; have hlt' := hlt
    rw [Int32.le_iff_toInt_le, z] at hl0'
    rw [Int32.lt_iff_toInt_lt, z12] at hlt'
    have e : (ln + 1).toInt = ln.toInt + 1 := fb_addI (by rw [z1]; omega) (by rw [z1]; omega)
    have hc : (Int32.toNatClampNeg ln : Int) = ln.toInt := by unfold Int32.toNatClampNeg; omega
    have nw := ln_new hbx hby h3
    refine ⟨rfl, rfl, rfl, rfl, rfl, hP, hr, ?_, hon, hbx, hby, hpl, hpm, hplP, hrel, fun j hj => ?_⟩
    · show 0 ≤ ln + 1 ∧ ln + 1 ≤ 12
      rw [Int32.le_iff_toInt_le, Int32.le_iff_toInt_le, e, z, z12]; omega
    · have hj : (j : Int) < (ln + 1).toInt := hj
      rw [e] at hj
      show lnOk (vp_updL lp _ _ j) (vp_updL lq _ _ j) (vp_updL lr _ _ j)
      unfold vp_updL
      by_cases h5 : j = Int32.toNatClampNeg ln
      · rw [if_pos h5, if_pos h5, if_pos h5, if_pos rfl, if_pos rfl]; exact nw
      · rw [if_neg h5, if_neg h5, if_neg h5]; exact hlnk j (by omega)
set_option maxHeartbeats 4000000 in
theorem st_lines {xs ys pl pm : Nat → Int32} {lp lq lr : Nat → Int64} {P on rh ln : Int32} (hI : Inv xs ys pl pm lp lq lr P on rh ln) (kp : Nat → Int32) (th d7 d8 d9 d10 p1 p2 : Int32) : (f_X5_lines kp lp lq lr ln d7 d8 d9 d10 p1 p2).1 = (f_X6_lines lp lq lr th ln p1 p2).1 := by
  exact f_lines hI.2.2.1.2 hI.2.2.2.2.2.2.2.2.2.2
set_option maxHeartbeats 4000000 in
theorem st_count {xs ys pl pm : Nat → Int32} {lp lq lr : Nat → Int64} {P on rh ln : Int32} (hI : Inv xs ys pl pm lp lq lr P on rh ln) (th p1 : Int32) : f_X5_count P on rh ln p1 = (f_X6_count th P rh on ln p1).1 := by
  unfold f_X5_count f_X6_count
  repeat' split
  all_goals rfl
