/-! the row: what is counted along it -/
section RW
variable {xs ys pl : Nat → Int32}
theorem nx_eq {i n : Int32} (h : ¬ n ≤ i) : f_X4_endOf pl i n = f_X6_next pl i n := by
  have e := in_1 h
  unfold f_X4_endOf f_X6_next
  have : (n ≤ i + 1) ↔ (i + 1 = n) := by
    rw [Int32.le_iff_toInt_le, ← Int32.toInt_inj, e]
    rw [Int32.le_iff_toInt_le] at h
    omega
  simp only [this]
theorem wh_0 {n : Int32} : ∀ (k : Nat) (i : Int32), f_X6_isWhole_L4 pl n k 0 i = 0
  | 0, _ => rfl
  | k + 1, i => by
    rw [f_X6_isWhole_L4]
    split
    · rfl
    · rw [if_pos rfl]; exact wh_0 k _
theorem wh_fa {v5 p2 n : Int32} : ∀ (k : Nat) (i : Int32), 0 ≤ i → (n.toInt - i.toInt).toNat < k → (f_X6_isWhole_L4 pl n k 1 i = 0 ∧ f_X4_fault_L18 pl v5 n p2 k i = -4) ∨ (¬ f_X6_isWhole_L4 pl n k 1 i = 0 ∧ f_X4_fault_L18 pl v5 n p2 k i = 0 ∧ ∀ j : Nat, i.toInt ≤ (j : Int) → (j : Int) < n.toInt → ¬ pl j = -1)
  | 0, _, _, h => absurd h (Nat.not_lt_zero _)
  | k + 1, i, h0, hf => by
    rw [f_X6_isWhole_L4, f_X4_fault_L18]
    by_cases h : n ≤ i
    · rw [if_pos h, if_pos h]
      right
      refine ⟨by decide, rfl, fun j h1 h2 => ?_⟩
      rw [Int32.le_iff_toInt_le] at h; omega
    · rw [if_neg h, if_neg h, if_neg (by decide)]
      by_cases h1 : pl (Int32.toNatClampNeg i) = -1
      · rw [if_pos h1, if_pos h1]; left; exact ⟨wh_0 k _, rfl⟩
      · rw [if_neg h1, if_neg h1]
        have e := in_1 h
        rcases wh_fa k (i + 1) (lp_pos h0 h) (lp_dec h hf) with q | ⟨q1, q2, q3⟩
        · left; exact q
        · right
          refine ⟨q1, q2, fun j h2 h3 => ?_⟩
          by_cases h4 : (j : Int) = i.toInt
          · have : Int32.toNatClampNeg i = j := by
              unfold Int32.toNatClampNeg; omega
            rw [this] at h1; exact h1
          · exact q3 j (by omega) h3
/-- the class's test of n places is the reference's two -/
theorem fa_eq {v5 n least : Int32} (hv : v5 ≤ 24) : (f_X4_fault pl v5 n least = -2 ∧ f_X6_isMany v5 n least = 0) ∨ (f_X4_fault pl v5 n least = -4 ∧ ¬ f_X6_isMany v5 n least = 0 ∧ f_X6_isWhole pl n = 0) ∨ (f_X4_fault pl v5 n least = 0 ∧ ¬ f_X6_isMany v5 n least = 0 ∧ ¬ f_X6_isWhole pl n = 0 ∧ least ≤ n ∧ n ≤ v5 ∧ ∀ j : Nat, (j : Int) < n.toInt → ¬ pl j = -1) := by
  unfold f_X4_fault f_X6_isMany f_X6_isWhole
  by_cases h1 : n < least
  · left; simp [h1]
  · rw [if_neg h1, if_neg h1]
    have h1' := Int32.not_lt.mp h1
    by_cases h2 : n ≤ v5
    · have h3 : ¬ v5 < n := Int32.not_lt.mpr h2
      rw [if_pos h2, if_neg h3]
      right
      have hn : n ≤ 24 := Int32.le_trans h2 hv
      rcases wh_fa (pl := pl) (v5 := v5) (p2 := least) (n := n) 25 0 (by decide) (lp_fuel (by decide) hn) with q | ⟨q1, q2, q3⟩
      · left; exact ⟨q.2, by decide, q.1⟩
      · right
        refine ⟨q2, by decide, q1, h1', h2, fun j hj => q3 j ?_ hj⟩
        show (0 : Int32).toInt ≤ _
        have : (0 : Int32).toInt = 0 := rfl
        omega
    · left
      have h3 : v5 < n := Int32.not_le.mp h2
      rw [if_neg h2, if_pos h3]; exact ⟨rfl, rfl⟩
/-! area -/
theorem ar_eq {v0 v2 n : Int32} {by' : Int64} : ∀ (k : Nat) (s : Int64) (i : Int32), f_X6_area_L43 xs ys pl v0 v2 n by' k s i = (f_X4_crossSum_L5 xs ys pl n k s i / by', 0)
  | 0, _, _ => by rw [f_X6_area_L43, f_X4_crossSum_L5]; congr 1; exact (Int64.zero_div).symm
  | k + 1, s, i => by
    rw [f_X6_area_L43, f_X4_crossSum_L5]
    by_cases h : n ≤ i
    · rw [if_pos h, if_pos h]
    · rw [if_neg h, if_neg h, nx_eq h]; exact ar_eq k _ _
theorem f_area {v5 th n : Int32} {by' : Int64} (hv : v5 ≤ 24) : (f_X6_area xs ys pl th v5 n by').2 = (f_X5_area xs ys pl v5 n by').1 ∧ (f_X5_area xs ys pl v5 n by').2 = (f_X6_area xs ys pl th v5 n by').1 := by
  unfold f_X6_area f_X5_area
  rcases fa_eq (pl := pl) (n := n) (least := 1) hv with ⟨q1, q2⟩ | ⟨q1, q2, q3⟩ | ⟨q1, q2, q3, _⟩
  · rw [q1, if_pos q2]; exact ⟨rfl, rfl⟩
  · rw [q1, if_neg q2, if_pos q3]; exact ⟨rfl, rfl⟩
  · rw [q1, if_neg q2, if_neg q3, if_pos rfl]
    by_cases h : lg_cmp by' 0 = 0
    · rw [if_pos h, if_pos h]; exact ⟨rfl, rfl⟩
    · rw [if_neg h, if_neg h, ar_eq]; exact ⟨rfl, rfl⟩
/-! nearest -/
theorem di_eq (hx : gB xs) (hy : gB ys) (a b : Int32) : f_X2_distance xs ys a b = f_X6_far xs ys a b := by
  have xa := gx_b hx a; have xb := gx_b hx b
  have ya := gx_b hy a; have yb := gx_b hy b
  have sw : ∀ {x y : Int32}, (-9600 ≤ x.toInt ∧ x.toInt ≤ 9600) → (-9600 ≤ y.toInt ∧ y.toInt ≤ 9600) → Int32.toInt64 (x - y) * Int32.toInt64 (x - y) = Int32.toInt64 (y - x) * Int32.toInt64 (y - x) := by
    intro x y hx hy
    have e1 := tI_sub hx hy; have e2 := tI_sub hy hx
    apply Int64.toInt_inj.mp
    rw [Int64.toInt_mul, Int64.toInt_mul, e1, e2]
    congr 1; grind
  unfold f_X2_distance f_X6_far f_X6_along
  rw [sw xa xb, sw ya yb]
theorem ne_eq {v0 v1 v2 a n : Int32} (hx : gB xs) (hy : gB ys) : ∀ (k : Nat) (b : Int32) (s : Int64) (i : Int32), f_X4_nearestBits_L21 xs ys pl a n k s b i = (f_X6_nearest_L54 xs ys pl v0 v1 v2 a n k b s i).1
  | 0, _, _, _ => rfl
  | k + 1, b, s, i => by
    rw [f_X6_nearest_L54, f_X4_nearestBits_L21]
    simp only [di_eq hx hy]
    by_cases h : n ≤ i
    · rw [if_pos h, if_pos h]
    · rw [if_neg h, if_neg h]
      by_cases h1 : 0 ≤ lg_cmp (f_X6_far xs ys a (pl (Int32.toNatClampNeg i))) s
      · rw [if_pos h1, if_pos h1]
        by_cases h2 : lg_cmp (f_X6_far xs ys a (pl (Int32.toNatClampNeg i))) s = 0
        · rw [if_pos h2, if_pos h2]; exact ne_eq hx hy k _ _ _
        · rw [if_neg h2, if_neg h2]; exact ne_eq hx hy k _ _ _
      · rw [if_neg h1, if_neg h1, if_pos ((lg_cmp_eq _ _).mpr rfl), Int32.zero_or]
        exact ne_eq hx hy k _ _ _
theorem f_nearest {v0 v5 th a n : Int32} (hx : gB xs) (hy : gB ys) (hv : v5 ≤ 24) : f_X5_nearest xs ys pl v0 v5 a n = (f_X6_nearest xs ys pl th v0 v5 a n).1 := by
  unfold f_X5_nearest f_X6_nearest
  show (if f_X6_isPoint v0 a = 0 then _ else _) = _
  by_cases h : f_X6_isPoint v0 a = 0
  · rw [if_pos h, if_pos h]
  · rw [if_neg h, if_neg h]
    rcases fa_eq (pl := pl) (n := n) (least := 1) hv with ⟨q1, q2⟩ | ⟨q1, q2, q3⟩ | ⟨q1, q2, q3, _⟩
    · rw [q1, if_pos q2]; rfl
    · rw [q1, if_neg q2, if_pos q3]; rfl
    · rw [q1, if_neg q2, if_neg q3, if_pos rfl]
      unfold f_X4_nearestBits
      rw [di_eq hx hy]; exact ne_eq hx hy 25 _ _ _
/-! polygon, winding -/
theorem ed_1 {n p : Int32} : ∀ (k : Nat) (i : Int32), (n.toInt - i.toInt).toNat < k → f_X6_isOnEdge_L5 xs ys pl n p k 1 i = 1
  | 0, _, h => absurd h (Nat.not_lt_zero _)
  | k + 1, i, hf => by
    rw [f_X6_isOnEdge_L5]
    by_cases h : n ≤ i
    · rw [if_pos h]
    · rw [if_neg h, if_neg (by decide)]; exact ed_1 k _ (lp_dec h hf)
theorem ed_eq {n p : Int32} (hx : gB xs) (hy : gB ys) : ∀ (k : Nat) (i : Int32), (n.toInt - i.toInt).toNat < k → f_X4_anyEdgeHolds_L2 xs ys pl n p k i = f_X6_isOnEdge_L5 xs ys pl n p k 0 i
  | 0, _, h => absurd h (Nat.not_lt_zero _)
  | k + 1, i, hf => by
    rw [f_X4_anyEdgeHolds_L2, f_X6_isOnEdge_L5]
    by_cases h : n ≤ i
    · rw [if_pos h, if_pos h]
    · rw [if_neg h, if_neg h, if_pos rfl, on_eq hx hy, nx_eq h]
      by_cases h1 : f_X6_isOn xs ys (pl (Int32.toNatClampNeg i)) (f_X6_next pl i n) p = 0
      · rw [if_pos h1, if_pos h1]; exact ed_eq hx hy k _ (lp_dec h hf)
      · rw [if_neg h1, if_neg h1]; exact (ed_1 k _ (lp_dec h hf)).symm
theorem gT_turn (a b c : Int32) : gT xs ys b a c = - gT xs ys a b c := by unfold gT; grind
theorem ri_eq (hx : gB xs) (hy : gB ys) {i n p : Int32} (h : ¬ n ≤ i) : (f_X4_climbsBeside xs ys (pl (Int32.toNatClampNeg i)) (f_X4_endOf pl i n) p = 0 ∧ f_X4_climbsBeside xs ys (f_X4_endOf pl i n) (pl (Int32.toNatClampNeg i)) p = 0 ∧ f_X6_rises xs ys pl i n p = 0) ∨ (f_X4_climbsBeside xs ys (pl (Int32.toNatClampNeg i)) (f_X4_endOf pl i n) p = 1 ∧ f_X4_climbsBeside xs ys (f_X4_endOf pl i n) (pl (Int32.toNatClampNeg i)) p = 0 ∧ f_X6_rises xs ys pl i n p = 1) ∨ (f_X4_climbsBeside xs ys (pl (Int32.toNatClampNeg i)) (f_X4_endOf pl i n) p = 0 ∧ f_X4_climbsBeside xs ys (f_X4_endOf pl i n) (pl (Int32.toNatClampNeg i)) p = 1 ∧ f_X6_rises xs ys pl i n p = -1) := by
  rw [nx_eq h]
  unfold f_X4_climbsBeside f_X6_rises
  simp only [ge_turn, gT_eq hx hy, gT_turn (pl (Int32.toNatClampNeg i)) (f_X6_next pl i n), sg_1, sg_n, Int32.lt_iff_toInt_lt, Int32.le_iff_toInt_le]
  generalize gT xs ys (pl (Int32.toNatClampNeg i)) (f_X6_next pl i n) p = t
  generalize (ys (Int32.toNatClampNeg p)).toInt = a1
  generalize (ys (Int32.toNatClampNeg (pl (Int32.toNatClampNeg i)))).toInt = a2
  generalize (ys (Int32.toNatClampNeg (f_X6_next pl i n))).toInt = a3
  repeat' split
  all_goals first | (left; exact ⟨rfl, rfl, rfl⟩) | (right; left; exact ⟨rfl, rfl, rfl⟩) | (right; right; exact ⟨rfl, rfl, rfl⟩) | (exfalso; omega)
theorem po_eq {v0 v1 v2 n p : Int32} (hx : gB xs) (hy : gB ys) : ∀ (k : Nat) (c1 c2 : Int32) (i : Int32), (f_X6_polygon_L52 xs ys pl v0 v1 v2 n p k (c1 + c2) i).1 = (f_X4_risesAt_L5 xs ys pl n p k c1 i + f_X4_fallsAt_L5 xs ys pl n p k c2 i) - (f_X4_risesAt_L5 xs ys pl n p k c1 i + f_X4_fallsAt_L5 xs ys pl n p k c2 i) / 2 * 2
  | 0, _, _, _ => by rw [f_X6_polygon_L52, f_X4_risesAt_L5, f_X4_fallsAt_L5]; decide
  | k + 1, c1, c2, i => by
    rw [f_X6_polygon_L52, f_X4_risesAt_L5, f_X4_fallsAt_L5]
    by_cases h : n ≤ i
    · rw [if_pos h, if_pos h, if_pos h]
    · rw [if_neg h, if_neg h, if_neg h]
      rcases ri_eq hx hy (pl := pl) (p := p) h with ⟨e1, e2, e3⟩ | ⟨e1, e2, e3⟩ | ⟨e1, e2, e3⟩
      · rw [e1, e2, e3, if_pos rfl, if_pos rfl, if_pos rfl, Int32.add_zero]
        exact po_eq hx hy k c1 c2 (i + 1)
      · rw [e1, e2, e3, if_neg (by decide), if_pos rfl, if_neg (by decide), show c1 + c2 + 1 = (c1 + 1) + c2 by grind]
        exact po_eq hx hy k (c1 + 1) c2 (i + 1)
      · rw [e1, e2, e3, if_neg (by decide), if_pos rfl, if_neg (by decide), show c1 + c2 + 1 = c1 + (c2 + 1) by grind]
        exact po_eq hx hy k c1 (c2 + 1) (i + 1)
theorem wi_eq {v0 v1 v2 n p : Int32} (hx : gB xs) (hy : gB ys) : ∀ (k : Nat) (c1 c2 : Int32) (i : Int32), (f_X6_winding_L50 xs ys pl v0 v1 v2 n p k (c1 - c2) i).1 = f_X4_risesAt_L5 xs ys pl n p k c1 i - f_X4_fallsAt_L5 xs ys pl n p k c2 i
  | 0, _, _, _ => by rw [f_X6_winding_L50, f_X4_risesAt_L5, f_X4_fallsAt_L5]; decide
  | k + 1, c1, c2, i => by
    rw [f_X6_winding_L50, f_X4_risesAt_L5, f_X4_fallsAt_L5]
    by_cases h : n ≤ i
    · rw [if_pos h, if_pos h, if_pos h]
    · rw [if_neg h, if_neg h, if_neg h]
      rcases ri_eq hx hy (pl := pl) (p := p) h with ⟨e1, e2, e3⟩ | ⟨e1, e2, e3⟩ | ⟨e1, e2, e3⟩
      · rw [e1, e2, e3, if_pos rfl, if_pos rfl, Int32.add_zero]
        exact wi_eq hx hy k c1 c2 (i + 1)
      · rw [e1, e2, e3, if_neg (by decide), if_pos rfl, show c1 - c2 + 1 = (c1 + 1) - c2 by grind]
        exact wi_eq hx hy k (c1 + 1) c2 (i + 1)
      · rw [e1, e2, e3, if_pos rfl, if_neg (by decide), show c1 - c2 + (-1) = c1 - (c2 + 1) by grind]
        exact wi_eq hx hy k c1 (c2 + 1) (i + 1)
theorem f_polygon {v0 v5 th n p : Int32} (hx : gB xs) (hy : gB ys) (hv : v5 ≤ 24) : f_X5_polygon xs ys pl v0 v5 n p = (f_X6_polygon xs ys pl th v0 v5 n p).1 := by
  unfold f_X5_polygon f_X6_polygon
  show (if f_X6_isPoint v0 p = 0 then _ else _) = _
  by_cases h : f_X6_isPoint v0 p = 0
  · rw [if_pos h, if_pos h]
    split <;> rfl
  · rw [if_neg h, if_neg h]
    rcases fa_eq (pl := pl) (n := n) (least := 1) hv with ⟨q1, q2⟩ | ⟨q1, q2, q3⟩ | ⟨q1, q2, q3, q4, q5, q6⟩
    · rw [q1, if_pos q2]; rfl
    · rw [q1, if_neg q2, if_pos q3]; rfl
    · have hn : n ≤ 24 := Int32.le_trans q5 hv
      rw [q1, if_neg q2, if_neg q3, if_pos rfl]
      unfold f_X4_anyEdgeHolds f_X6_isOnEdge
      rw [ed_eq hx hy 25 0 (lp_fuel (by decide) hn)]
      by_cases h2 : f_X6_isOnEdge_L5 xs ys pl n p 25 0 0 = 0
      · rw [if_pos h2, if_pos h2]
        exact (po_eq hx hy 25 0 0 0).symm
      · rw [if_neg h2, if_neg h2]
theorem f_winding {v0 v5 th n p : Int32} (hx : gB xs) (hy : gB ys) (hv : v5 ≤ 24) : f_X5_winding xs ys pl v0 v5 n p = (f_X6_winding xs ys pl th v0 v5 n p).1 := by
  unfold f_X5_winding f_X6_winding
  show (if f_X6_isPoint v0 p = 0 then _ else _) = _
  by_cases h : f_X6_isPoint v0 p = 0
  · rw [if_pos h, if_pos h]
    split <;> rfl
  · rw [if_neg h, if_neg h]
    rcases fa_eq (pl := pl) (n := n) (least := 1) hv with ⟨q1, q2⟩ | ⟨q1, q2, q3⟩ | ⟨q1, q2, q3, q4, q5, q6⟩
    · rw [q1, if_pos q2]; rfl
    · rw [q1, if_neg q2, if_pos q3]; rfl
    · have hn : n ≤ 24 := Int32.le_trans q5 hv
      rw [q1, if_neg q2, if_neg q3, if_pos rfl]
      unfold f_X4_anyEdgeHolds f_X6_isOnEdge
      rw [ed_eq hx hy 25 0 (lp_fuel (by decide) hn)]
      by_cases h2 : f_X6_isOnEdge_L5 xs ys pl n p 25 0 0 = 0
      · rw [if_pos h2, if_pos h2]
        exact (wi_eq hx hy 25 0 0 0).symm
      · rw [if_neg h2, if_neg h2]
end RW
