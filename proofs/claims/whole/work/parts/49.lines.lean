/-! lines -/
section LN
variable {lp lq lr : Nat → Int64}
theorem pr_eq {x y z w : Int64} {A B : Int} (hx : -A ≤ x.toInt ∧ x.toInt ≤ A) (hy : -B ≤ y.toInt ∧ y.toInt ≤ B) (hz : -A ≤ z.toInt ∧ z.toInt ≤ A) (hw : -B ≤ w.toInt ∧ w.toInt ≤ B) (hA : A * B ≤ 4000000000000000000) : (x * y = z * w ↔ x.toInt * y.toInt = z.toInt * w.toInt) ∧ (x * y - z * w = 0 ↔ x.toInt * y.toInt = z.toInt * w.toInt) := by
  have m1 := ab_mul hx hy; have m2 := ab_mul hz hw
  have e1 : (x * y).toInt = x.toInt * y.toInt := fb_mulL (by omega) (by omega)
  have e2 : (z * w).toInt = z.toInt * w.toInt := fb_mulL (by omega) (by omega)
  have e3 : (x * y - z * w).toInt = x.toInt * y.toInt - z.toInt * w.toInt := by rw [fb_subL (by rw [e1, e2]; omega) (by rw [e1, e2]; omega), e1, e2]
  have z0 : (0 : Int64).toInt = 0 := rfl
  constructor
  · rw [← Int64.toInt_inj, e1, e2]
  · rw [← Int64.toInt_inj, e3, z0]; omega
def lnE (lp lq lr : Nat → Int64) (c d : Nat) : Prop := (lp c).toInt * (lq d).toInt = (lp d).toInt * (lq c).toInt ∧ (lp c).toInt * (lr d).toInt = (lp d).toInt * (lr c).toInt ∧ (lq c).toInt * (lr d).toInt = (lq d).toInt * (lr c).toInt
theorem on_iff {c d : Nat} (h1 : c < 24) (h2 : d < 24) (hc : lnOk (lp c) (lq c) (lr c)) (hd : lnOk (lp d) (lq d) (lr d)) : (f_X6_isOne lp lq lr (nI c) (nI d) = 0) ↔ ¬ lnE lp lq lr c d := by
  unfold f_X6_isOne f_X6_both lnE
  rw [nI_clamp (n := c) (by omega), nI_clamp (n := d) (by omega)]
  unfold lnOk at hc hd
  have q1 := (pr_eq (x := lp c) (y := lq d) (z := lp d) (w := lq c) (A := 19200) (B := 19200) (by omega) (by omega) (by omega) (by omega) (by decide)).2
  have q2 := (pr_eq (x := lp c) (y := lr d) (z := lp d) (w := lr c) (A := 19200) (B := 368640000) (by omega) (by omega) (by omega) (by omega) (by decide)).1
  have q3 := (pr_eq (x := lq c) (y := lr d) (z := lq d) (w := lr c) (A := 19200) (B := 368640000) (by omega) (by omega) (by omega) (by omega) (by decide)).1
  simp only [lg_cmp_eq, q1, q2, q3]
  by_cases h3 : (lp c).toInt * (lq d).toInt = (lp d).toInt * (lq c).toInt <;> by_cases h4 : (lp c).toInt * (lr d).toInt = (lp d).toInt * (lr c).toInt <;> by_cases h5 : (lq c).toInt * (lr d).toInt = (lq d).toInt * (lr c).toInt <;> simp only [h3, h4, h5, if_true, if_false] <;> simp
theorem lnE_refl (c : Nat) : lnE lp lq lr c c := ⟨rfl, rfl, rfl⟩
theorem lnE_symm {c d : Nat} (h : lnE lp lq lr c d) : lnE lp lq lr d c := ⟨h.1.symm, h.2.1.symm, h.2.2.symm⟩
theorem lnE_trans {a b c : Nat} (hb : lnOk (lp b) (lq b) (lr b)) (h1 : lnE lp lq lr a b) (h2 : lnE lp lq lr b c) : lnE lp lq lr a c := by
  have hz : ¬ ((lp b).toInt = 0 ∧ (lq b).toInt = 0) := fun h => hb.1 ⟨Int64.toInt_inj.mp h.1, Int64.toInt_inj.mp h.2⟩
  unfold lnE at *
  obtain ⟨a1, a2, a3⟩ := h1
  obtain ⟨b1, b2, b3⟩ := h2
  generalize (lp a).toInt = pa at *
  generalize (lp b).toInt = pb at *
  generalize (lp c).toInt = pc at *
  generalize (lq a).toInt = qa at *
  generalize (lq b).toInt = qb at *
  generalize (lq c).toInt = qc at *
  generalize (lr a).toInt = ra at *
  generalize (lr b).toInt = rb at *
  generalize (lr c).toInt = rc at *
  by_cases hp : pb = 0
  · have hq : qb ≠ 0 := fun h => hz ⟨hp, h⟩
    subst hp
    rw [Int.zero_mul] at a1 b1
    have pa0 : pa = 0 := by rcases Int.mul_eq_zero.mp a1 with h | h
                            · exact h
                            · exact absurd h hq
    have pc0 : pc = 0 := by rcases Int.mul_eq_zero.mp b1.symm with h | h
                            · exact h
                            · exact absurd h hq
    subst pa0 pc0
    refine ⟨by simp, by simp, ?_⟩
    apply Int.eq_of_mul_eq_mul_left hq
    grind
  · refine ⟨?_, ?_, ?_⟩
    · apply Int.eq_of_mul_eq_mul_left hp; grind
    · apply Int.eq_of_mul_eq_mul_left hp; grind
    · apply Int.eq_of_mul_eq_mul_left hp; grind
/-! new lines -/
def nwB (lp lq lr : Nat → Int64) (i : Nat) : Bool := !decide (f_X6_isNew lp lq lr (nI i) = 0)
theorem nw_0 {p1 : Int32} : ∀ (m : Nat) (k : Int32), f_X6_isNew_L4 lp lq lr p1 m 0 k = 0
  | 0, _ => rfl
  | m + 1, k => by
    rw [f_X6_isNew_L4]
    split
    · rfl
    · rw [if_pos rfl]; exact nw_0 m _
theorem nw_L {i : Nat} (hi : i ≤ 24) : ∀ (m k : Nat), k ≤ i → i < k + m → ((∀ c, k ≤ c → c < i → f_X6_isOne lp lq lr (nI i) (nI c) = 0) ∧ f_X6_isNew_L4 lp lq lr (nI i) m 1 (nI k) = 1) ∨ ((∃ c, k ≤ c ∧ c < i ∧ ¬ f_X6_isOne lp lq lr (nI i) (nI c) = 0) ∧ f_X6_isNew_L4 lp lq lr (nI i) m 1 (nI k) = 0)
  | 0, k, h1, h2 => by omega
  | m + 1, k, h1, h2 => by
    rw [f_X6_isNew_L4]
    by_cases h : i ≤ k
    · rw [if_pos (nI_le h (by omega))]
      left; exact ⟨fun c h3 h4 => by omega, rfl⟩
    · rw [if_neg (nI_ge (by omega) (by omega)), if_neg (by decide)]
      by_cases h3 : f_X6_isOne lp lq lr (nI i) (nI k) = 0
      · rw [if_pos h3, nI_1]
        rcases nw_L hi m (k + 1) (by omega) (by omega) with ⟨q1, q2⟩ | ⟨⟨c, c1, c2, c3⟩, q2⟩
        · left
          refine ⟨fun c h4 h5 => ?_, q2⟩
          by_cases h6 : c = k
          · subst h6; exact h3
          · exact q1 c (by omega) h5
        · right; exact ⟨⟨c, by omega, c2, c3⟩, q2⟩
      · rw [if_neg h3]; right
        exact ⟨⟨k, Nat.le_refl _, by omega, h3⟩, nw_0 m _⟩
theorem nw_iff {i : Nat} (hi : i ≤ 24) : nwB lp lq lr i = true ↔ ∀ c, c < i → f_X6_isOne lp lq lr (nI i) (nI c) = 0 := by
  unfold nwB f_X6_isNew
  rcases nw_L (lp := lp) (lq := lq) (lr := lr) hi 25 0 (by omega) (by omega) with ⟨q1, q2⟩ | ⟨⟨c, c1, c2, c3⟩, q2⟩
  · rw [show (0 : Int32) = nI 0 from rfl, q2]
    constructor
    · intro _ c hc; exact q1 c (Nat.zero_le _) hc
    · intro _; decide
  · rw [show (0 : Int32) = nI 0 from rfl, q2]
    constructor
    · intro h; exact absurd h (by decide)
    · intro h; exact absurd (h c c2) c3
theorem nw_rep {N : Nat} (hN : N ≤ 12) (hk : ∀ j, j < N → lnOk (lp j) (lq j) (lr j)) : ∀ (n c : Nat), c < n → c < N → ∃ r, r ≤ c ∧ nwB lp lq lr r = true ∧ lnE lp lq lr r c
  | 0, _, h, _ => absurd h (Nat.not_lt_zero _)
  | n + 1, c, h, hc => by
    by_cases h1 : nwB lp lq lr c = true
    · exact ⟨c, Nat.le_refl _, h1, lnE_refl c⟩
    · rw [nw_iff (by omega)] at h1
      have : ∃ k, k < c ∧ ¬ f_X6_isOne lp lq lr (nI c) (nI k) = 0 := by
        rcases Classical.em (∃ k, k < c ∧ ¬ f_X6_isOne lp lq lr (nI c) (nI k) = 0) with h2 | h2
        · exact h2
        · exfalso; apply h1; intro k hk
          rcases Classical.em (f_X6_isOne lp lq lr (nI c) (nI k) = 0) with h3 | h3
          · exact h3
          · exact absurd ⟨k, hk, h3⟩ h2
      obtain ⟨k, k1, k2⟩ := this
      rw [on_iff (by omega) (by omega) (hk c hc) (hk k (by omega)), Classical.not_not] at k2
      obtain ⟨r, r1, r2, r3⟩ := nw_rep hN hk n k (by omega) (by omega)
      exact ⟨r, by omega, r2, lnE_trans (hk k (by omega)) r3 (lnE_symm k2)⟩
/-! what the class keeps -/
theorem kn_L {kp : Nat → Int32} {D : Nat} {i : Int32} (hD : D ≤ 24) : ∀ (m t : Nat), t ≤ D → D < t + m → ((∀ s, t ≤ s → s < D → f_X6_isOne lp lq lr (kp s) i = 0) ∧ f_X1_isNew_L2 kp lp lq lr (nI D) i m (nI t) = 1) ∨ ((∃ s, t ≤ s ∧ s < D ∧ ¬ f_X6_isOne lp lq lr (kp s) i = 0) ∧ f_X1_isNew_L2 kp lp lq lr (nI D) i m (nI t) = 0)
  | 0, t, h1, h2 => by omega
  | m + 1, t, h1, h2 => by
    rw [f_X1_isNew_L2]
    by_cases h : D ≤ t
    · rw [if_pos (nI_le h (by omega))]
      left; exact ⟨fun c h3 h4 => by omega, rfl⟩
    · rw [if_neg (nI_ge (by omega) (by omega)), nI_clamp (n := t) (by omega)]
      show (_ ∧ (if f_X6_isOne lp lq lr (kp t) i = 0 then _ else _) = _) ∨ (_ ∧ (if f_X6_isOne lp lq lr (kp t) i = 0 then _ else _) = _)
      by_cases h3 : f_X6_isOne lp lq lr (kp t) i = 0
      · rw [if_pos h3, nI_1]
        rcases kn_L hD m (t + 1) (by omega) (by omega) with ⟨q1, q2⟩ | ⟨⟨c, c1, c2, c3⟩, q2⟩
        · left
          refine ⟨fun c h4 h5 => ?_, q2⟩
          by_cases h6 : c = t
          · subst h6; exact h3
          · exact q1 c (by omega) h5
        · right; exact ⟨⟨c, by omega, c2, c3⟩, q2⟩
      · rw [if_neg h3]; right
        exact ⟨⟨t, Nat.le_refl _, by omega, h3⟩, rfl⟩
def kdI (lp lq lr : Nat → Int64) (kp : Nat → Int32) (i : Nat) : Prop := ∀ c, c < i → nwB lp lq lr c = true → kp (fb_ct (nwB lp lq lr) c) = nI c
theorem ct_lt {p : Nat → Bool} {c i : Nat} (h : p c = true) (hc : c < i) : fb_ct p c < fb_ct p i := by
  have := fb_ct_mono p (show c + 1 ≤ i by omega)
  rw [fb_ct_succ, if_pos h] at this; omega
theorem kn_iff {kp : Nat → Int32} {N i : Nat} (hN : N ≤ 12) (hk : ∀ j, j < N → lnOk (lp j) (lq j) (lr j)) (hi : i < N) (hI : kdI lp lq lr kp i) : (f_X1_isNew kp lp lq lr (nI (fb_ct (nwB lp lq lr) i)) (nI i) = 0) ↔ nwB lp lq lr i = false := by
  have hb := fb_ct_le (nwB lp lq lr) i
  unfold f_X1_isNew
  rcases kn_L (lp := lp) (lq := lq) (lr := lr) (kp := kp) (i := nI i) (D := fb_ct (nwB lp lq lr) i) (by omega) 25 0 (by omega) (by omega) with ⟨q1, q2⟩ | ⟨⟨s, s1, s2, s3⟩, q2⟩
  · rw [show (0 : Int32) = nI 0 from rfl, q2]
    constructor
    · intro h; exact absurd h (by decide)
    · intro h
      exfalso
      obtain ⟨r, r1, r2, r3⟩ := nw_rep hN hk (i + 1) i (by omega) hi
      have hri : r ≠ i := fun e => by rw [e, h] at r2; exact absurd r2 (by decide)
      have k := q1 (fb_ct (nwB lp lq lr) r) (Nat.zero_le _) (ct_lt r2 (by omega))
      rw [hI r (by omega) r2, on_iff (by omega) (by omega) (hk r (by omega)) (hk i hi)] at k
      exact k r3
  · rw [show (0 : Int32) = nI 0 from rfl, q2]
    refine ⟨fun _ => ?_, fun _ => rfl⟩
    obtain ⟨c, c1, c2, c3⟩ := fb_ct_kth s2
    rw [← c3, hI c c1 c2, on_iff (by omega) (by omega) (hk c (by omega)) (hk i hi), Classical.not_not] at s3
    cases h : nwB lp lq lr i
    · rfl
    · have := (nw_iff (by omega)).mp h c c1
      rw [on_iff (by omega) (by omega) (hk i hi) (hk c (by omega))] at this
      exact absurd (lnE_symm s3) this
theorem kd_L {kp0 : Nat → Int32} {v7 n : Int32} {N : Nat} (hn : n = nI N) (hN : N ≤ 12) (hk : ∀ j, j < N → lnOk (lp j) (lq j) (lr j)) : ∀ (m i : Nat) (kp : Nat → Int32), i ≤ N → N < i + m → kdI lp lq lr kp i → ∃ kp', f_X1_keepDifferent_L7 kp0 lp lq lr v7 n m (nI i) kp (nI (fb_ct (nwB lp lq lr) i)) = (kp', nI (fb_ct (nwB lp lq lr) N)) ∧ kdI lp lq lr kp' N
  | 0, i, kp, h1, h2, _ => by omega
  | m + 1, i, kp, h1, h2, hI => by
    rw [f_X1_keepDifferent_L7]
    by_cases h : N ≤ i
    · have : i = N := by omega
      subst this
      rw [if_pos (by rw [hn]; exact nI_le (Nat.le_refl _) (by omega))]
      exact ⟨kp, rfl, hI⟩
    · rw [if_neg (by rw [hn]; exact nI_ge (by omega) (by omega))]
      have q := kn_iff hN hk (by omega) hI
      have hb := fb_ct_le (nwB lp lq lr) i
      have cs := fb_ct_succ (nwB lp lq lr) i
      by_cases h3 : nwB lp lq lr i = false
      · rw [if_pos (q.mpr h3), nI_1]
        rw [h3] at cs
        have cs' : fb_ct (nwB lp lq lr) (i + 1) = fb_ct (nwB lp lq lr) i := by simpa using cs
        rw [← cs']
        refine kd_L hn hN hk m (i + 1) kp (by omega) (by omega) (fun c hc hw => ?_)
        by_cases h4 : c = i
        · subst h4; rw [h3] at hw; exact absurd hw (by decide)
        · exact hI c (by omega) hw
      · rw [if_neg (fun h9 => h3 (q.mp h9)), nI_1, nI_1, nI_clamp (by omega)]
        have h3' : nwB lp lq lr i = true := by simpa using h3
        rw [if_pos h3'] at cs
        rw [← cs]
        refine kd_L hn hN hk m (i + 1) _ (by omega) (by omega) (fun c hc hw => ?_)
        unfold upd
        by_cases h4 : c = i
        · subst h4; rw [if_pos rfl]
        · have := ct_lt hw (show c < i by omega)
          rw [if_neg (by omega)]
          exact hI c (by omega) hw
/-! through a meet -/
theorem th_1 (i k : Int32) : f_X6_isThrough lp lq lr i k i = 1 := by
  unfold f_X6_isThrough f_X6_both
  rw [if_pos]
  rw [lg_cmp_eq]; grind
theorem th_2 (i k : Int32) : f_X6_isThrough lp lq lr i k k = 1 := by
  unfold f_X6_isThrough f_X6_both
  rw [if_pos]
  rw [lg_cmp_eq]; grind
def thB (lp lq lr : Nat → Int64) (a b c : Nat) : Bool := nwB lp lq lr c && !decide (f_X6_isThrough lp lq lr (nI a) (nI b) (nI c) = 0)
def pfB (lp lq lr : Nat → Int64) (a b c : Nat) : Bool := thB lp lq lr a b c && decide (c < b ∧ c ≠ a)
def pmB (lp lq lr : Nat → Int64) (a b c : Nat) : Bool := thB lp lq lr a b c && decide (c ≠ a ∧ c ≠ b)
theorem ct_1 (a : Nat) : ∀ n, fb_ct (fun k => decide (k = a)) n = if a < n then 1 else 0
  | 0 => rfl
  | n + 1 => by
    rw [fb_ct_succ, ct_1 a n]
    by_cases h : n = a
    · subst h; simp
    · by_cases h2 : a < n
      · have h3 : a < n + 1 := by omega
        rw [if_pos h2, if_pos h3]; simp [h]
      · have h3 : ¬ a < n + 1 := by omega
        rw [if_neg h2, if_neg h3]; simp [h]
theorem pt_pm {N a b : Nat} (ha : a < N) (hb : b < N) (hab : a ≠ b) (wa : nwB lp lq lr a = true) (wb : nwB lp lq lr b = true) : fb_ct (thB lp lq lr a b) N = fb_ct (pmB lp lq lr a b) N + 2 := by
  have e : fb_ct (thB lp lq lr a b) N = fb_ct (fun k => (pmB lp lq lr a b k || decide (k = a)) || decide (k = b)) N := by
    apply fb_ct_cong
    intro k _
    unfold pmB
    have t1 := th_1 (lp := lp) (lq := lq) (lr := lr) (nI a) (nI b)
    have t2 := th_2 (lp := lp) (lq := lq) (lr := lr) (nI a) (nI b)
    by_cases h1 : k = a
    · subst h1; unfold thB; rw [wa, t1]; simp
    · by_cases h2 : k = b
      · subst h2; unfold thB; rw [wb, t2]; simp
      · simp [h1, h2]
  rw [e, fb_ct_or, fb_ct_or, ct_1, ct_1, if_pos ha, if_pos hb]
  · intro k _; unfold pmB; simp; intro _ h1 _ h2; exact h1 h2
  · intro k _; unfold pmB; simp only [Bool.or_eq_true, Bool.and_eq_true, decide_eq_true_eq]; rintro ⟨h1 | h1, h2⟩
    · exact h1.2.2 h2
    · omega
theorem tm_L {kp : Nat → Int32} {N a b : Nat} (hN : N ≤ 12) (hI : kdI lp lq lr kp N) (ha : a < N) (hb : b < N) (wa : nwB lp lq lr a = true) (wb : nwB lp lq lr b = true) : ∀ (d c m : Nat), c + d = N → fb_ct (nwB lp lq lr) N < fb_ct (nwB lp lq lr) c + m → fb_ct (pfB lp lq lr a b) c = 0 → f_X1_throughMeet_L28 kp lp lq lr (nI (fb_ct (nwB lp lq lr) N)) (nI (fb_ct (nwB lp lq lr) a)) (nI (fb_ct (nwB lp lq lr) b)) m (nI (2 + fb_ct (pmB lp lq lr a b) c)) (nI (fb_ct (nwB lp lq lr) c)) = if fb_ct (pfB lp lq lr a b) N = 0 then nI (2 + fb_ct (pmB lp lq lr a b) N) else 0
  | 0, c, m, h1, h2, h3 => by
    have : c = N := by omega
    subst this
    have hb9 := fb_ct_le (nwB lp lq lr) c
    cases m with
    | zero => omega
    | succ m =>
      rw [f_X1_throughMeet_L28, if_pos (nI_le (Nat.le_refl _) (by omega)), if_pos h3]
  | d + 1, c, m, h1, h2, h3 => by
    have hbN := fb_ct_le (nwB lp lq lr) N
    have hbc := fb_ct_le (nwB lp lq lr) c
    have hba := fb_ct_le (nwB lp lq lr) a
    have hbb := fb_ct_le (nwB lp lq lr) b
    have s1 := fb_ct_succ (nwB lp lq lr) c
    have s2 := fb_ct_succ (pmB lp lq lr a b) c
    have s3 := fb_ct_succ (pfB lp lq lr a b) c
    by_cases hw : nwB lp lq lr c = true
    · have hlt := ct_lt hw (show c < N by omega)
      cases m with
      | zero => omega
      | succ m =>
        rw [if_pos hw] at s1
        rw [f_X1_throughMeet_L28, if_neg (nI_ge hlt (by omega)), nI_1 (fb_ct (nwB lp lq lr) c), ← s1, nI_clamp (n := fb_ct (nwB lp lq lr) c) (by omega), nI_clamp (n := fb_ct (nwB lp lq lr) a) (by omega), nI_clamp (n := fb_ct (nwB lp lq lr) b) (by omega), hI c (by omega) hw, hI a ha wa, hI b hb wb]
        simp only [nI_eq (a := fb_ct (nwB lp lq lr) c) (b := fb_ct (nwB lp lq lr) a) (by omega) (by omega), nI_eq (a := fb_ct (nwB lp lq lr) c) (b := fb_ct (nwB lp lq lr) b) (by omega) (by omega), nI_leI (a := fb_ct (nwB lp lq lr) b) (b := fb_ct (nwB lp lq lr) c) (by omega) (by omega)]
        have ea : fb_ct (nwB lp lq lr) c = fb_ct (nwB lp lq lr) a ↔ c = a := ⟨fun h => fb_ct_kth_one hw wa h, fun h => by rw [h]⟩
        have eb : fb_ct (nwB lp lq lr) c = fb_ct (nwB lp lq lr) b ↔ c = b := ⟨fun h => fb_ct_kth_one hw wb h, fun h => by rw [h]⟩
        simp only [ea, eb]
        have ih := fun q => tm_L hN hI ha hb wa wb d (c + 1) m (by omega) (by omega) q
        by_cases h4 : c = a
        · have e2 : pmB lp lq lr a b c = false := by unfold pmB; simp [h4]
          have e3 : pfB lp lq lr a b c = false := by unfold pfB; simp [h4]
          rw [e2] at s2; rw [e3] at s3
          rw [if_pos h4]
          have ih := ih (by simpa [h3] using s3)
          rw [show fb_ct (pmB lp lq lr a b) (c + 1) = fb_ct (pmB lp lq lr a b) c by simpa using s2] at ih
          exact ih
        rw [if_neg h4]
        by_cases h5 : c = b
        · have e2 : pmB lp lq lr a b c = false := by unfold pmB; simp [h5]
          have e3 : pfB lp lq lr a b c = false := by unfold pfB; simp [h5]
          rw [e2] at s2; rw [e3] at s3
          rw [if_pos h5]
          have ih := ih (by simpa [h3] using s3)
          rw [show fb_ct (pmB lp lq lr a b) (c + 1) = fb_ct (pmB lp lq lr a b) c by simpa using s2] at ih
          exact ih
        rw [if_neg h5]
        show (if f_X6_isThrough lp lq lr (nI a) (nI b) (nI c) = 0 then _ else _) = _
        by_cases h6 : f_X6_isThrough lp lq lr (nI a) (nI b) (nI c) = 0
        · have e2 : pmB lp lq lr a b c = false := by unfold pmB thB; simp [h6]
          have e3 : pfB lp lq lr a b c = false := by unfold pfB thB; simp [h6]
          rw [e2] at s2; rw [e3] at s3
          rw [if_pos h6]
          have ih := ih (by simpa [h3] using s3)
          rw [show fb_ct (pmB lp lq lr a b) (c + 1) = fb_ct (pmB lp lq lr a b) c by simpa using s2] at ih
          exact ih
        rw [if_neg h6]
        have e1 : thB lp lq lr a b c = true := by unfold thB; simp [h6, hw]
        by_cases h7 : fb_ct (nwB lp lq lr) b ≤ fb_ct (nwB lp lq lr) c
        · have h8 : ¬ c < b := fun h9 => by have := ct_lt hw h9; omega
          have e2 : pmB lp lq lr a b c = true := by unfold pmB; simp [e1, h4, h5]
          have e3 : pfB lp lq lr a b c = false := by unfold pfB; simp [h8]
          rw [if_pos e2] at s2; rw [e3] at s3
          rw [if_pos h7, nI_1]
          have ih := ih (by simpa [h3] using s3)
          rw [s2, ← Nat.add_assoc] at ih
          exact ih
        · have h8 : c < b := by
            rcases Nat.lt_or_ge c b with h9 | h9
            · exact h9
            · exact absurd (fb_ct_mono (nwB lp lq lr) h9) h7
          have e3 : pfB lp lq lr a b c = true := by unfold pfB; simp [e1, h4, h8]
          rw [if_neg h7, if_neg]
          intro h9
          have := fb_ct_zero.mp h9 c (by omega)
          rw [e3] at this; exact absurd this (by decide)
    · have hw' : nwB lp lq lr c = false := by simpa using hw
      have e2 : pmB lp lq lr a b c = false := by unfold pmB thB; simp [hw']
      have e3 : pfB lp lq lr a b c = false := by unfold pfB thB; simp [hw']
      rw [hw'] at s1; rw [e2] at s2; rw [e3] at s3
      have s1' : fb_ct (nwB lp lq lr) (c + 1) = fb_ct (nwB lp lq lr) c := by simpa using s1
      have ih := tm_L hN hI ha hb wa wb d (c + 1) m (by omega) (by omega) (by simpa [h3] using s3)
      rw [show fb_ct (pmB lp lq lr a b) (c + 1) = fb_ct (pmB lp lq lr a b) c by simpa using s2, s1'] at ih
      exact ih
theorem mt_L {v0 v7 n p2 x3 x4 x5 x6 x7 : Int32} {K : Int32 → Int32 → Int32 → Int32 → Int32 → (Int32 × Int32)} {N a b : Nat} (hn : n = nI N) (hN : N ≤ 12) (ha : a < N) (hb : b < N) : ∀ (m c : Nat), c ≤ N → N < c + m → f_X6_lines_L124 lp lq lr v0 v7 n p2 K x3 x4 x5 x6 x7 (nI a) (nI b) m (nI (fb_ct (pfB lp lq lr a b) c)) (nI (fb_ct (thB lp lq lr a b) c)) (nI c) = (if fb_ct (pfB lp lq lr a b) N = 0 then (if nI (fb_ct (thB lp lq lr a b) N) ≤ x6 then K (x4 + 1) (x5 + (nI (fb_ct (thB lp lq lr a b) N) - 1)) x6 (x7 + nI (fb_ct (thB lp lq lr a b) N)) (nI (b + 1)) else K (x4 + 1) (x5 + (nI (fb_ct (thB lp lq lr a b) N) - 1)) (nI (fb_ct (thB lp lq lr a b) N)) (x7 + nI (fb_ct (thB lp lq lr a b) N)) (nI (b + 1))) else K x4 x5 x6 x7 (nI (b + 1)))
  | 0, c, h1, h2 => by omega
  | m + 1, c, h1, h2 => by
    have hbf := fb_ct_le (pfB lp lq lr a b) N
    rw [f_X6_lines_L124]
    by_cases h : N ≤ c
    · have : c = N := by omega
      subst this
      rw [if_pos (by rw [hn]; exact nI_le (Nat.le_refl _) (by omega))]
      have e : (nI (fb_ct (pfB lp lq lr a b) c) = 0) ↔ fb_ct (pfB lp lq lr a b) c = 0 := nI_eq (a := fb_ct (pfB lp lq lr a b) c) (b := 0) (by omega) (by omega)
      simp only [e, nI_1]
    · rw [if_neg (by rw [hn]; exact nI_ge (by omega) (by omega))]
      have s2 := fb_ct_succ (thB lp lq lr a b) c
      have s3 := fb_ct_succ (pfB lp lq lr a b) c
      have ih := mt_L (v0 := v0) (v7 := v7) (p2 := p2) (x3 := x3) (x4 := x4) (x5 := x5) (x6 := x6) (x7 := x7) (K := K) hn hN ha hb m (c + 1) (by omega) (by omega)
      simp only [Int32.add_zero, nI_1, nI_leI (a := b) (b := c) (show b < 2 ^ 31 by omega) (show c < 2 ^ 31 by omega), nI_eq (a := c) (b := a) (show c < 2 ^ 31 by omega) (show a < 2 ^ 31 by omega)]
      by_cases hw : f_X6_isNew lp lq lr (nI c) = 0
      · have e2 : thB lp lq lr a b c = false := by unfold thB nwB; simp [hw]
        have e3 : pfB lp lq lr a b c = false := by unfold pfB; simp [e2]
        rw [e2] at s2; rw [e3] at s3
        rw [if_pos hw]
        rw [show fb_ct (thB lp lq lr a b) (c + 1) = fb_ct (thB lp lq lr a b) c by simpa using s2, show fb_ct (pfB lp lq lr a b) (c + 1) = fb_ct (pfB lp lq lr a b) c by simpa using s3] at ih
        exact ih
      rw [if_neg hw]
      by_cases h6 : f_X6_isThrough lp lq lr (nI a) (nI b) (nI c) = 0
      · have e2 : thB lp lq lr a b c = false := by unfold thB; simp [h6]
        have e3 : pfB lp lq lr a b c = false := by unfold pfB; simp [e2]
        rw [e2] at s2; rw [e3] at s3
        rw [if_pos h6]
        rw [show fb_ct (thB lp lq lr a b) (c + 1) = fb_ct (thB lp lq lr a b) c by simpa using s2, show fb_ct (pfB lp lq lr a b) (c + 1) = fb_ct (pfB lp lq lr a b) c by simpa using s3] at ih
        exact ih
      rw [if_neg h6]
      have e1 : thB lp lq lr a b c = true := by unfold thB nwB; simp [h6, hw]
      rw [if_pos e1] at s2
      by_cases h7 : b ≤ c
      · have e3 : pfB lp lq lr a b c = false := by unfold pfB; simp; intro _ h9; omega
        rw [e3] at s3
        rw [if_pos h7]
        rw [s2, show fb_ct (pfB lp lq lr a b) (c + 1) = fb_ct (pfB lp lq lr a b) c by simpa using s3] at ih
        exact ih
      rw [if_neg h7]
      by_cases h8 : c = a
      · have e3 : pfB lp lq lr a b c = false := by unfold pfB; simp [h8]
        rw [e3] at s3
        rw [if_pos h8]
        rw [s2, show fb_ct (pfB lp lq lr a b) (c + 1) = fb_ct (pfB lp lq lr a b) c by simpa using s3] at ih
        exact ih
      · have e3 : pfB lp lq lr a b c = true := by unfold pfB; simp [e1, h8]; omega
        rw [if_pos e3] at s3
        rw [if_neg h8]
        rw [s2, s3] at ih
        exact ih
end LN
