/-! lines: the survey and the reference's loops -/
section LM
variable {lp lq lr : Nat → Int64}
theorem ln_skip {v0 v7 n p2 x3 : Int32} {K : Int32 → Int32 → Int32 → Int32 → Int32 → Int32 → (Int32 × Int32)} {N a : Nat} (hn : n = nI N) (hN : N ≤ 12) (hw : f_X6_isNew lp lq lr (nI a) = 0) : ∀ (m b : Nat) (x4 x5 x6 x7 : Int32), b ≤ N ∨ b = a + 1 → b ≤ 13 → N < b + m → 0 < m → f_X6_lines_L75 lp lq lr v0 v7 n p2 K x3 (nI a) m x4 x5 x6 x7 (nI b) = K x3 x4 x5 x6 x7 (nI a + 1)
  | 0, b, _, _, _, _, _, _, _, h => absurd h (Nat.lt_irrefl _)
  | m + 1, b, x4, x5, x6, x7, h0, h13, h2, _ => by
    rw [f_X6_lines_L75]
    by_cases h : N ≤ b
    · rw [if_pos (by rw [hn]; exact nI_le h (by omega))]
    · rw [if_neg (by rw [hn]; exact nI_ge (by omega) (by omega)), if_pos hw, nI_1]
      exact ln_skip hn hN hw m (b + 1) x4 x5 x6 x7 (by omega) (by omega) (by omega) (by omega)
theorem mx_eq (x y : Int32) : (if x < y then y else x) = (if y ≤ x then x else y) := by
  by_cases h : x < y
  · rw [if_pos h, if_neg (Int32.not_le.mpr h)]
  · rw [if_neg h, if_pos (Int32.not_lt.mp h)]
theorem ln_in {kp0 kp : Nat → Int32} {v0 v7 u7 u8 u9 u10 n p2 x3 : Int32} {Km : Int32 → Int32 → Int32 → Int32 → Int32 → Int32 → (Int32 × Int32)} {Kc : Int32 → Int32 → Int32 → Int32 → ((Nat → Int32) × Int32 × Int32 × Int32 × Int32)} {N a : Nat} (hn : n = nI N) (hN : N ≤ 12) (hI : kdI lp lq lr kp N) (hkd : f_X1_keepDifferent kp0 lp lq lr u7 n = (kp, nI (fb_ct (nwB lp lq lr) N))) (ha : a < N) (wa : nwB lp lq lr a = true) : ∀ (m b m' : Nat) (v8 v9 v10 : Int32), a < b → b ≤ N → N < b + m → fb_ct (nwB lp lq lr) N < fb_ct (nwB lp lq lr) b + m' → ∃ w8 w9 w10 : Int32, f_X1_survey_L34 kp0 lp lq lr u7 u8 u9 u10 n Kc (nI (fb_ct (nwB lp lq lr) a)) m' (nI (fb_ct (nwB lp lq lr) b)) v8 v9 v10 = Kc (nI (fb_ct (nwB lp lq lr) a) + 1) w8 w9 w10 ∧ f_X6_lines_L75 lp lq lr v0 v7 n p2 Km x3 (nI a) m v8 (v10 - v8) v9 v10 (nI b) = Km x3 w8 (w10 - w8) w9 w10 (nI a + 1)
  | 0, b, m', v8, v9, v10, h1, h2, h3, h4 => by omega
  | m + 1, b, m', v8, v9, v10, h1, h2, h3, h4 => by
    have hbN := fb_ct_le (nwB lp lq lr) N
    have hba := fb_ct_le (nwB lp lq lr) a
    have hbb := fb_ct_le (nwB lp lq lr) b
    rw [f_X6_lines_L75]
    by_cases h : N ≤ b
    · have : b = N := by omega
      subst this
      rw [if_pos (by rw [hn]; exact nI_le (Nat.le_refl _) (by omega))]
      cases m' with
      | zero => omega
      | succ m' =>
        rw [f_X1_survey_L34, hkd]
        rw [if_pos (nI_le (Nat.le_refl _) (by omega))]
        exact ⟨v8, v9, v10, rfl, rfl⟩
    · rw [if_neg (by rw [hn]; exact nI_ge (by omega) (by omega))]
      have wa' : ¬ f_X6_isNew lp lq lr (nI a) = 0 := by unfold nwB at wa; simpa using wa
      rw [if_neg wa']
      have s1 := fb_ct_succ (nwB lp lq lr) b
      by_cases hw : nwB lp lq lr b = true
      · have wb' : ¬ f_X6_isNew lp lq lr (nI b) = 0 := by unfold nwB at hw; simpa using hw
        rw [if_neg wb']
        rw [if_pos hw] at s1
        have hlt := ct_lt hw (show b < N by omega)
        cases m' with
        | zero => omega
        | succ m' =>
          rw [f_X1_survey_L34, hkd]
          simp only []
          rw [if_neg (nI_ge hlt (by omega)), nI_1 (fb_ct (nwB lp lq lr) b), ← s1, nI_1 b]
          unfold f_X1_throughMeet
          rw [nI_clamp (n := fb_ct (nwB lp lq lr) a) (by omega), nI_clamp (n := fb_ct (nwB lp lq lr) b) (by omega), hI a ha wa, hI b (by omega) hw]
          have sl : ∀ i j, f_X1_slant lp lq i j = f_X6_both lp lq i j := fun _ _ => rfl
          simp only [sl]
          by_cases hs : lg_cmp (f_X6_both lp lq (nI a) (nI b)) 0 = 0
          · simp only [hs, if_true]
            rw [if_pos (by decide)]
            exact ln_in hn hN hI hkd ha wa m (b + 1) m' v8 v9 v10 (by omega) (by omega) (by omega) (by omega)
          · simp only [hs, if_false]
            have tm := tm_L hN hI ha (show b < N by omega) wa hw N 0 25 (by omega) (by omega) rfl
            have e20 : nI (2 + fb_ct (pmB lp lq lr a b) 0) = 2 := rfl
            have e00 : nI (fb_ct (nwB lp lq lr) 0) = 0 := rfl
            rw [e20, e00] at tm
            rw [tm]
            have mt := mt_L (lp := lp) (lq := lq) (lr := lr) (v0 := v0) (v7 := v7) (p2 := p2) (x3 := x3) (x4 := v8) (x5 := v10 - v8) (x6 := v9) (x7 := v10) (K := fun x4_75 x5_75 x6_75 x7_75 x9_75 => f_X6_lines_L75 lp lq lr v0 v7 n p2 Km x3 (nI a) m x4_75 x5_75 x6_75 x7_75 x9_75) hn hN ha (show b < N by omega) 25 0 (by omega) (by omega)
            have f0 : nI (fb_ct (pfB lp lq lr a b) 0) = 0 := rfl
            have f1 : nI (fb_ct (thB lp lq lr a b) 0) = 0 := rfl
            have f2 : nI 0 = 0 := rfl
            rw [f0, f1, f2] at mt
            rw [mt]
            have pm := pt_pm ha (show b < N by omega) (by omega) wa hw
            have hpm := fb_ct_le (pmB lp lq lr a b) N
            rw [Nat.add_comm 2, ← pm]
            by_cases hf : fb_ct (pfB lp lq lr a b) N = 0
            · simp only [hf, if_true]
              rw [if_neg (by exact nI_nle (by omega) (by omega)), mx_eq]
              have ex : v10 - v8 + (nI (fb_ct (thB lp lq lr a b) N) - 1) = (v10 + nI (fb_ct (thB lp lq lr a b) N)) - (v8 + 1) := by grind
              rw [ex]
              by_cases hm : nI (fb_ct (thB lp lq lr a b) N) ≤ v9
              · rw [if_pos hm, if_pos hm]
                exact ln_in hn hN hI hkd ha wa m (b + 1) m' _ _ _ (by omega) (by omega) (by omega) (by omega)
              · rw [if_neg hm, if_neg hm]
                exact ln_in hn hN hI hkd ha wa m (b + 1) m' _ _ _ (by omega) (by omega) (by omega) (by omega)
            · simp only [hf, if_false]
              rw [if_pos (by decide)]
              exact ln_in hn hN hI hkd ha wa m (b + 1) m' _ _ _ (by omega) (by omega) (by omega) (by omega)
      · have hw' : nwB lp lq lr b = false := by simpa using hw
        have wb' : f_X6_isNew lp lq lr (nI b) = 0 := by unfold nwB at hw'; simpa using hw'
        rw [if_pos wb', nI_1 b]
        rw [hw'] at s1
        have s1' : fb_ct (nwB lp lq lr) (b + 1) = fb_ct (nwB lp lq lr) b := by simpa using s1
        rw [← s1']
        exact ln_in hn hN hI hkd ha wa m (b + 1) m' v8 v9 v10 (by omega) (by omega) (by omega) (by omega)
def lnF (p2 x3 x4 x5 x6 x7 : Int32) : Int32 × Int32 := (if p2 = 0 then (x3, (0 : Int32)) else (if p2 = 1 then (x4, (0 : Int32)) else (if p2 = 2 then ((((1 : Int32) + x3) + x5), (0 : Int32)) else (if p2 = 3 then ((x3 + x7), (0 : Int32)) else (if p2 = 4 then (if x4 = 0 then ((0 : Int32), (0 : Int32)) else (((((1 : Int32) + x3) + x5) - ((2 : Int32) * x3)), (0 : Int32))) else (x6, (0 : Int32)))))))
theorem ln_out {kp0 kp : Nat → Int32} {v0 v7 u7 u8 u9 u10 n p2 : Int32} {N : Nat} (hn : n = nI N) (hN : N ≤ 12) (hI : kdI lp lq lr kp N) (hkd : f_X1_keepDifferent kp0 lp lq lr u7 n = (kp, nI (fb_ct (nwB lp lq lr) N))) : ∀ (m a m' : Nat) (v8 v9 v10 : Int32), a ≤ N → N < a + m → fb_ct (nwB lp lq lr) N < fb_ct (nwB lp lq lr) a + m' → ∃ w8 w9 w10 : Int32, f_X1_survey_L22 kp0 lp lq lr u7 u8 u9 u10 n m' (nI (fb_ct (nwB lp lq lr) a)) v8 v9 v10 = (kp, nI (fb_ct (nwB lp lq lr) N), w8, w9, w10) ∧ f_X6_lines_L46 lp lq lr v0 v7 n p2 m (nI (fb_ct (nwB lp lq lr) a)) v8 (v10 - v8) v9 v10 (nI a) = lnF p2 (nI (fb_ct (nwB lp lq lr) N)) w8 (w10 - w8) w9 w10
  | 0, a, m', v8, v9, v10, h1, h2, h3 => by omega
  | m + 1, a, m', v8, v9, v10, h1, h2, h3 => by
    have hbN := fb_ct_le (nwB lp lq lr) N
    have hba := fb_ct_le (nwB lp lq lr) a
    rw [f_X6_lines_L46]
    by_cases h : N ≤ a
    · have : a = N := by omega
      subst this
      rw [if_pos (by rw [hn]; exact nI_le (Nat.le_refl _) (by omega))]
      cases m' with
      | zero => omega
      | succ m' =>
        rw [f_X1_survey_L22, hkd]
        rw [if_pos (nI_le (Nat.le_refl _) (by omega))]
        exact ⟨v8, v9, v10, rfl, rfl⟩
    · rw [if_neg (by rw [hn]; exact nI_ge (by omega) (by omega))]
      have s1 := fb_ct_succ (nwB lp lq lr) a
      unfold f_X6_lines_J69
      by_cases hw : nwB lp lq lr a = true
      · have wa' : ¬ f_X6_isNew lp lq lr (nI a) = 0 := by unfold nwB at hw; simpa using hw
        rw [if_neg wa', nI_1 a]
        rw [if_pos hw] at s1
        have hlt := ct_lt hw (show a < N by omega)
        cases m' with
        | zero => omega
        | succ m' =>
          rw [f_X1_survey_L22, hkd]
          simp only []
          rw [if_neg (nI_ge hlt (by omega)), nI_1 (fb_ct (nwB lp lq lr) a), ← s1]
          obtain ⟨w8, w9, w10, e1, e2⟩ := ln_in (lp := lp) (lq := lq) (lr := lr) (kp0 := kp0) (kp := kp) (v0 := v0) (v7 := v7) (u7 := u7) (u8 := u8) (u9 := u9) (u10 := u10) (p2 := p2) (x3 := nI (fb_ct (nwB lp lq lr) (a + 1))) (Km := fun x3_46 x4_46 x5_46 x6_46 x7_46 x8_46 => f_X6_lines_L46 lp lq lr v0 v7 n p2 m x3_46 x4_46 x5_46 x6_46 x7_46 x8_46) (Kc := fun x2_22 v8_22 v9_22 v10_22 => f_X1_survey_L22 kp0 lp lq lr u7 u8 u9 u10 n m' x2_22 v8_22 v9_22 v10_22) hn hN hI hkd (show a < N by omega) hw 25 (a + 1) 25 v8 v9 v10 (by omega) (by omega) (by omega) (by omega)
          rw [e1, e2]
          show ∃ w8' w9' w10' : Int32, f_X1_survey_L22 kp0 lp lq lr u7 u8 u9 u10 n m' (nI (fb_ct (nwB lp lq lr) a) + 1) w8 w9 w10 = _ ∧ f_X6_lines_L46 lp lq lr v0 v7 n p2 m (nI (fb_ct (nwB lp lq lr) (a + 1))) w8 (w10 - w8) w9 w10 (nI a + 1) = _
          rw [nI_1 (fb_ct (nwB lp lq lr) a), ← s1, nI_1 a]
          exact ln_out hn hN hI hkd m (a + 1) m' w8 w9 w10 (by omega) (by omega) (by omega)
      · have hw' : nwB lp lq lr a = false := by simpa using hw
        have wa' : f_X6_isNew lp lq lr (nI a) = 0 := by unfold nwB at hw'; simpa using hw'
        rw [if_pos wa', Int32.add_zero, nI_1 a]
        rw [ln_skip hn hN wa' 25 (a + 1) _ _ _ _ (by omega) (by omega) (by omega) (by omega)]
        show ∃ w8' w9' w10' : Int32, _ ∧ f_X6_lines_L46 lp lq lr v0 v7 n p2 m (nI (fb_ct (nwB lp lq lr) a)) v8 (v10 - v8) v9 v10 (nI a + 1) = _
        rw [hw'] at s1
        have s1' : fb_ct (nwB lp lq lr) (a + 1) = fb_ct (nwB lp lq lr) a := by simpa using s1
        rw [← s1', nI_1 a]
        exact ln_out hn hN hI hkd m (a + 1) m' v8 v9 v10 (by omega) (by omega) (by omega)
theorem f_lines {kp : Nat → Int32} {ln th d7 d8 d9 d10 n p2 : Int32} (hl : ln ≤ 12) (hk : ∀ j : Nat, (j : Int) < ln.toInt → lnOk (lp j) (lq j) (lr j)) : (f_X5_lines kp lp lq lr ln d7 d8 d9 d10 n p2).1 = (f_X6_lines lp lq lr th ln n p2).1 := by
  unfold f_X5_lines f_X6_lines
  by_cases h1 : n < 0
  · rw [if_pos h1, if_pos h1]
  rw [if_neg h1, if_neg h1]
  by_cases h2 : ln < n
  · rw [if_pos h2, if_pos h2]
  rw [if_neg h2, if_neg h2]
  by_cases h3 : p2 < 0
  · rw [if_pos h3, if_pos h3]
  rw [if_neg h3, if_neg h3]
  by_cases h4 : p2 ≤ 5
  case neg => rw [if_neg h4, if_neg h4]
  rw [if_pos h4, if_pos h4]
  have hnl := Int32.not_lt.mp h2
  obtain ⟨N, hN, hn⟩ := nI_of2 (x := n) (M := 12) (n := 12) rfl h1 (Int32.le_trans hnl hl)
  have hk' : ∀ j, j < N → lnOk (lp j) (lq j) (lr j) := fun j hj => hk j (by
    rw [Int32.le_iff_toInt_le, hn, nI_toInt (by omega)] at hnl; omega)
  obtain ⟨kp', e1, e2⟩ := kd_L (lp := lp) (lq := lq) (lr := lr) (kp0 := kp) (v7 := d7) hn hN hk' 25 0 kp (by omega) (by omega) (fun c hc => absurd hc (Nat.not_lt_zero _))
  have hb := fb_ct_le (nwB lp lq lr) N
  obtain ⟨w8, w9, w10, e3, e4⟩ := ln_out (lp := lp) (lq := lq) (lr := lr) (v0 := th) (v7 := ln) (u7 := d7) (u8 := d8) (u9 := d9) (u10 := d10) (p2 := p2) hn hN e2 e1 25 0 25 0 0 0 (by omega) (by omega) (by omega)
  have es : f_X1_survey kp lp lq lr d7 d8 d9 d10 n = (kp', nI (fb_ct (nwB lp lq lr) N), w8, w9, w10) := e3
  have em : f_X6_lines_L46 lp lq lr th ln n p2 25 0 0 0 0 0 0 = lnF p2 (nI (fb_ct (nwB lp lq lr) N)) w8 (w10 - w8) w9 w10 := e4
  rw [es, em]
  unfold lnF f_X1_cells f_X1_pieces f_X1_closedCells f_X1_cells
  generalize nI (fb_ct (nwB lp lq lr) N) = D
  have x1 : 1 + D + w10 - w8 = 1 + D + (w10 - w8) := by grind
  rw [x1]
  repeat' split
  all_goals rfl
end LM
