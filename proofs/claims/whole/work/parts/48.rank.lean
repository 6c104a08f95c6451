/-! places by rank -/
theorem rk_str {p q : Nat → Bool} {a : Nat} (ha : q a = true) (hb : p a = false) : ∀ {n : Nat}, a < n → (∀ k, k < n → p k = true → q k = true) → fb_ct p n < fb_ct q n
  | 0, h, _ => absurd h (Nat.not_lt_zero _)
  | n + 1, h, hs => by
    rw [fb_ct_succ, fb_ct_succ]
    by_cases h1 : a = n
    · subst h1
      have := fb_ct_sub (p := p) (q := q) (n := a) (fun k hk => hs k (by omega))
      rw [ha, hb]; simp; omega
    · have := rk_str ha hb (n := n) (by omega) (fun k hk => hs k (by omega))
      have h2 := hs n (by omega)
      cases hp : p n <;> cases hq : q n <;> simp_all <;> omega
theorem rk_one {N : Nat} {lt : Nat → Nat → Bool} (hi : ∀ a, a < N → lt a a = false) (ht : ∀ a b c, a < N → b < N → c < N → lt a b = true → lt b c = true → lt a c = true) (hc : ∀ a b, a < N → b < N → a ≠ b → lt a b = true ∨ lt b a = true) {i : Nat} (hiN : i < N) : ∃ q0, q0 < N ∧ ∀ q, q < N → (fb_ct (fun j => lt j q) N = i ↔ q = q0) := by
  have mono : ∀ a b, a < N → b < N → lt a b = true → fb_ct (fun j => lt j a) N < fb_ct (fun j => lt j b) N := fun a b ha hb h => rk_str (a := a) (by exact h) (by exact hi a ha) ha (fun k hk h2 => ht k a b hk ha hb h2 h)
  have inj : ∀ a b, a < N → b < N → a ≠ b → fb_ct (fun j => lt j a) N ≠ fb_ct (fun j => lt j b) N := fun a b ha hb h => by
    rcases hc a b ha hb h with h1 | h1
    · have := mono a b ha hb h1; omega
    · have := mono b a hb ha h1; omega
  have bd : ∀ a, a < N → fb_ct (fun j => lt j a) N < N := fun a ha => by
    have h1 := fb_ct_le (fun j => lt j a) N
    rcases Nat.lt_or_eq_of_le h1 with h2 | h2
    · exact h2
    · have := fb_ct_all.mp h2 a ha
      rw [hi a ha] at this; exact absurd this (by decide)
  obtain ⟨q0, h0, h1⟩ := fb_onto (f := fun a => fb_ct (fun j => lt j a) N) bd (fun a b h1 h2 => inj a b (by omega) h2 (by omega)) hiN
  refine ⟨q0, h0, fun q hq => ⟨fun h2 => ?_, fun h2 => by rw [h2]; exact h1⟩⟩
  by_cases h3 : q = q0
  · exact h3
  · exact absurd (h2.trans h1.symm) (inj q q0 hq h0 h3)
section RK
variable {xs ys pl : Nat → Int32}
theorem ol_cnt {n pl2 : Int32} {N : Nat} (hn : n = nI N) (hN : N ≤ 24) (p : Nat → Bool) (hp : ∀ j, j < N → (p j = false ↔ 0 ≤ f_X4_compareAlong xs ys pl (nI j) pl2)) : ∀ (m j : Nat), j ≤ N → N < j + m → f_X4_aheadAlong_L5 xs ys pl n pl2 m (nI (fb_ct p j)) (nI j) = nI (fb_ct p N)
  | 0, j, h1, h2 => by omega
  | m + 1, j, h1, h2 => by
    rw [f_X4_aheadAlong_L5]
    by_cases h : N ≤ j
    · have : j = N := by omega
      subst this
      rw [if_pos (by rw [hn]; exact nI_le (Nat.le_refl _) (by omega))]
    · rw [if_neg (by rw [hn]; exact nI_ge (by omega) (by omega))]
      have hq := hp j (by omega)
      by_cases h3 : p j = false
      · rw [if_pos (hq.mp h3)]
        have k := ol_cnt hn hN p hp m (j + 1) (by omega) (by omega)
        rw [fb_ct_succ, h3] at k
        rw [nI_1]; exact k
      · rw [if_neg (fun h9 => h3 (hq.mpr h9))]
        have k := ol_cnt hn hN p hp m (j + 1) (by omega) (by omega)
        rw [fb_ct_succ, if_pos (by simpa using h3)] at k
        rw [nI_1, nI_1]; exact k
theorem ol_fst {n i0 : Int32} {N q0 : Nat} (hn : n = nI N) (hN : N ≤ 24) (hq : q0 < N) (hu : ∀ q, q < N → (f_X4_aheadAlong xs ys pl n (nI q) = i0 ↔ q = q0)) : ∀ (m k : Nat), k ≤ q0 → N < k + m → f_X4_placeAlong_L2 xs ys pl n i0 m (nI k) = nI q0
  | 0, k, h1, h2 => by omega
  | m + 1, k, h1, h2 => by
    rw [f_X4_placeAlong_L2, if_neg (by rw [hn]; exact nI_ge (by omega) (by omega))]
    by_cases h : k = q0
    · subst h
      rw [if_pos ((hu k hq).mpr rfl)]
    · rw [if_neg (fun h9 => h ((hu k (by omega)).mp h9)), nI_1]
      exact ol_fst hn hN hq hu m (k + 1) (by omega) (by omega)
theorem ol_min {v0 v2 n i0 is : Int32} {N k : Nat} (hn : n = nI N) (hN : N ≤ 24) (hk : k < N) (K : Int32 → Int32 → (Int32 × Int32)) (p : Nat → Bool) (hp : ∀ j, j < N → (p j = false ↔ (j = k ∨ f_X6_isLess xs ys pl (nI j) (nI k) = 0))) : ∀ (m j : Nat), j ≤ N → N < j + m → f_X6_order_L54 xs ys pl v0 v2 n i0 K is (nI k) m (nI (fb_ct p j)) (nI j) = if nI (fb_ct p N) = i0 then K (nI k) (nI k + 1) else K is (nI k + 1)
  | 0, j, h1, h2 => by omega
  | m + 1, j, h1, h2 => by
    rw [f_X6_order_L54]
    by_cases h : N ≤ j
    · have : j = N := by omega
      subst this
      rw [if_pos (by rw [hn]; exact nI_le (Nat.le_refl _) (by omega))]
    · rw [if_neg (by rw [hn]; exact nI_ge (by omega) (by omega))]
      have hq := hp j (by omega)
      have ih := ol_min (v0 := v0) (v2 := v2) (i0 := i0) (is := is) hn hN hk K p hp m (j + 1) (by omega) (by omega)
      rw [fb_ct_succ] at ih
      simp only [nI_eq (a := j) (b := k) (by omega) (by omega)]
      by_cases h3 : p j = false
      · rw [h3] at ih
        rcases hq.mp h3 with h4 | h4
        · rw [if_pos h4, Int32.add_zero, nI_1]; exact ih
        · by_cases h5 : j = k
          · rw [if_pos h5, Int32.add_zero, nI_1]; exact ih
          · rw [if_neg h5, if_pos h4, Int32.add_zero, nI_1]; exact ih
      · rw [if_pos (by simpa using h3)] at ih
        have h4 : ¬ j = k := fun h9 => h3 (hq.mpr (Or.inl h9))
        have h5 : ¬ f_X6_isLess xs ys pl (nI j) (nI k) = 0 := fun h9 => h3 (hq.mpr (Or.inr h9))
        rw [if_neg h4, if_neg h5, nI_1, nI_1]; exact ih
theorem ol_mout {v0 v2 n i0 : Int32} {N q0 : Nat} (hn : n = nI N) (hN : N ≤ 24) (hq : q0 < N) (lt : Nat → Nat → Bool) (hlt : ∀ j k, j < N → k < N → (lt j k = false ↔ (j = k ∨ f_X6_isLess xs ys pl (nI j) (nI k) = 0))) (hu : ∀ q, q < N → (nI (fb_ct (fun j => lt j q) N) = i0 ↔ q = q0)) : ∀ (m k : Nat) (is : Int32), k ≤ N → N < k + m → (f_X6_order_L42 xs ys pl v0 v2 n i0 m is (nI k)).1 = if k ≤ q0 then nI q0 else is
  | 0, k, is, h1, h2 => by omega
  | m + 1, k, is, h1, h2 => by
    rw [f_X6_order_L42]
    by_cases h : N ≤ k
    · rw [if_pos (by rw [hn]; exact nI_le h (by omega)), if_neg (by omega)]
    · rw [if_neg (by rw [hn]; exact nI_ge (by omega) (by omega))]
      have e := ol_min (xs := xs) (ys := ys) (pl := pl) (v0 := v0) (v2 := v2) (i0 := i0) (is := is) (k := k)  hn hN (by omega) (fun a b => f_X6_order_L42 xs ys pl v0 v2 n i0 m a b) (fun j => lt j k) (fun j hj => hlt j k hj (by omega)) 25 0 (by omega) (by omega)
      have e0 : nI (fb_ct (fun j => lt j k) 0) = 0 := rfl
      rw [e0] at e
      have e := (congrArg Prod.fst e)
      refine Eq.trans e ?_
      by_cases h3 : k = q0
      · subst h3
        rw [if_pos ((hu k (by omega)).mpr rfl), if_pos (Nat.le_refl _)]
        show (f_X6_order_L42 xs ys pl v0 v2 n i0 m (nI k) (nI k + 1)).1 = _
        rw [nI_1, ol_mout (v0 := v0) (v2 := v2) hn hN hq lt hlt hu m (k + 1) (nI k) (by omega) (by omega), if_neg (by omega)]
      · rw [if_neg (fun h9 => h3 ((hu k (by omega)).mp h9))]
        show (f_X6_order_L42 xs ys pl v0 v2 n i0 m is (nI k + 1)).1 = _
        rw [nI_1, ol_mout (v0 := v0) (v2 := v2) hn hN hq lt hlt hu m (k + 1) is (by omega) (by omega)]
        by_cases h4 : k ≤ q0
        · rw [if_pos h4, if_pos (by omega)]
        · rw [if_neg h4, if_neg (by omega)]
theorem ol_fin {v0 v2 n i0 : Int32} {N : Nat} (hn : n = nI N) (hN : N ≤ 24) (h0 : 0 ≤ i0) (hi0 : i0 < n) (lt : Nat → Nat → Bool) (h1 : ∀ j k, j < N → k < N → (lt j k = false ↔ 0 ≤ f_X4_compareAlong xs ys pl (nI j) (nI k))) (h2 : ∀ j k, j < N → k < N → (lt j k = false ↔ (j = k ∨ f_X6_isLess xs ys pl (nI j) (nI k) = 0))) (hi : ∀ a, a < N → lt a a = false) (ht : ∀ a b c, a < N → b < N → c < N → lt a b = true → lt b c = true → lt a c = true) (hc : ∀ a b, a < N → b < N → a ≠ b → lt a b = true ∨ lt b a = true) : f_X4_placeAlong_L2 xs ys pl n i0 25 0 = (f_X6_order_L42 xs ys pl v0 v2 n i0 25 (-1) 0).1 := by
  obtain ⟨I, hI, rfl⟩ := nI_of (x := i0) (Int32.not_lt.mpr h0)
  have hIN : I < N := by rw [hn] at hi0; exact (nI_ltI hI (by omega)).mp hi0
  obtain ⟨q0, hq, hu⟩ := rk_one hi ht hc hIN
  have hb : ∀ q, fb_ct (fun j => lt j q) N ≤ N := fun q => fb_ct_le _ _
  have hu2 : ∀ q, q < N → (nI (fb_ct (fun j => lt j q) N) = nI I ↔ q = q0) := fun q hq9 => by
    rw [nI_eq (by have := hb q; omega) hI]; exact hu q hq9
  have e1 : ∀ q, q < N → f_X4_aheadAlong xs ys pl n (nI q) = nI (fb_ct (fun j => lt j q) N) := fun q hq9 => ol_cnt hn hN (fun j => lt j q) (fun j hj => h1 j q hj hq9) 25 0 (by omega) (by omega)
  rw [show (0 : Int32) = nI 0 from rfl, ol_fst hn hN hq (fun q hq9 => by rw [e1 q hq9]; exact hu2 q hq9) 25 0 (by omega) (by omega), ol_mout (v0 := v0) (v2 := v2) hn hN hq lt h2 hu2 25 0 (-1) (by omega) (by omega), if_pos (Nat.zero_le _)]
theorem rd_cnt {n pl2 ce : Int32} {N : Nat} (hn : n = nI N) (hN : N ≤ 24) (p : Nat → Bool) (hp : ∀ j, j < N → (p j = false ↔ 0 ≤ f_X4_compareRound xs ys pl ce (nI j) pl2)) : ∀ (m j : Nat), j ≤ N → N < j + m → f_X4_aheadRound_L6 xs ys pl ce n pl2 m (nI (fb_ct p j)) (nI j) = nI (fb_ct p N)
  | 0, j, h1, h2 => by omega
  | m + 1, j, h1, h2 => by
    rw [f_X4_aheadRound_L6]
    by_cases h : N ≤ j
    · have : j = N := by omega
      subst this
      rw [if_pos (by rw [hn]; exact nI_le (Nat.le_refl _) (by omega))]
    · rw [if_neg (by rw [hn]; exact nI_ge (by omega) (by omega))]
      have hq := hp j (by omega)
      by_cases h3 : p j = false
      · rw [if_pos (hq.mp h3)]
        have k := rd_cnt hn hN p hp m (j + 1) (by omega) (by omega)
        rw [fb_ct_succ, h3] at k
        rw [nI_1]; exact k
      · rw [if_neg (fun h9 => h3 (hq.mpr h9))]
        have k := rd_cnt hn hN p hp m (j + 1) (by omega) (by omega)
        rw [fb_ct_succ, if_pos (by simpa using h3)] at k
        rw [nI_1, nI_1]; exact k
theorem rd_fst {n i0 ce : Int32} {N q0 : Nat} (hn : n = nI N) (hN : N ≤ 24) (hq : q0 < N) (hu : ∀ q, q < N → (f_X4_aheadRound xs ys pl ce n (nI q) = i0 ↔ q = q0)) : ∀ (m k : Nat), k ≤ q0 → N < k + m → f_X4_placeRound_L3 xs ys pl ce n i0 m (nI k) = nI q0
  | 0, k, h1, h2 => by omega
  | m + 1, k, h1, h2 => by
    rw [f_X4_placeRound_L3, if_neg (by rw [hn]; exact nI_ge (by omega) (by omega))]
    by_cases h : k = q0
    · subst h
      rw [if_pos ((hu k hq).mpr rfl)]
    · rw [if_neg (fun h9 => h ((hu k (by omega)).mp h9)), nI_1]
      exact rd_fst hn hN hq hu m (k + 1) (by omega) (by omega)
theorem rd_min {v0 v1 v2 n i0 is ce : Int32} {N k : Nat} (hn : n = nI N) (hN : N ≤ 24) (hk : k < N) (K : Int32 → Int32 → (Int32 × Int32)) (p : Nat → Bool) (hp : ∀ j, j < N → (p j = false ↔ (j = k ∨ f_X6_isAhead xs ys pl ce (nI j) (nI k) = 0))) : ∀ (m j : Nat), j ≤ N → N < j + m → f_X6_around_L63 xs ys pl v0 v1 v2 ce n i0 K is (nI k) m (nI (fb_ct p j)) (nI j) = if nI (fb_ct p N) = i0 then K (nI k) (nI k + 1) else K is (nI k + 1)
  | 0, j, h1, h2 => by omega
  | m + 1, j, h1, h2 => by
    rw [f_X6_around_L63]
    by_cases h : N ≤ j
    · have : j = N := by omega
      subst this
      rw [if_pos (by rw [hn]; exact nI_le (Nat.le_refl _) (by omega))]
    · rw [if_neg (by rw [hn]; exact nI_ge (by omega) (by omega))]
      have hq := hp j (by omega)
      have ih := rd_min (v0 := v0) (v1 := v1) (v2 := v2) (i0 := i0) (is := is) hn hN hk K p hp m (j + 1) (by omega) (by omega)
      rw [fb_ct_succ] at ih
      simp only [nI_eq (a := j) (b := k) (by omega) (by omega)]
      by_cases h3 : p j = false
      · rw [h3] at ih
        rcases hq.mp h3 with h4 | h4
        · rw [if_pos h4, Int32.add_zero, nI_1]; exact ih
        · by_cases h5 : j = k
          · rw [if_pos h5, Int32.add_zero, nI_1]; exact ih
          · rw [if_neg h5, if_pos h4, Int32.add_zero, nI_1]; exact ih
      · rw [if_pos (by simpa using h3)] at ih
        have h4 : ¬ j = k := fun h9 => h3 (hq.mpr (Or.inl h9))
        have h5 : ¬ f_X6_isAhead xs ys pl ce (nI j) (nI k) = 0 := fun h9 => h3 (hq.mpr (Or.inr h9))
        rw [if_neg h4, if_neg h5, nI_1, nI_1]; exact ih
theorem rd_mout {v0 v1 v2 n i0 ce : Int32} {N q0 : Nat} (hn : n = nI N) (hN : N ≤ 24) (hq : q0 < N) (lt : Nat → Nat → Bool) (hlt : ∀ j k, j < N → k < N → (lt j k = false ↔ (j = k ∨ f_X6_isAhead xs ys pl ce (nI j) (nI k) = 0))) (hu : ∀ q, q < N → (nI (fb_ct (fun j => lt j q) N) = i0 ↔ q = q0)) : ∀ (m k : Nat) (is : Int32), k ≤ N → N < k + m → (f_X6_around_L51 xs ys pl v0 v1 v2 ce n i0 m is (nI k)).1 = if k ≤ q0 then nI q0 else is
  | 0, k, is, h1, h2 => by omega
  | m + 1, k, is, h1, h2 => by
    rw [f_X6_around_L51]
    by_cases h : N ≤ k
    · rw [if_pos (by rw [hn]; exact nI_le h (by omega)), if_neg (by omega)]
    · rw [if_neg (by rw [hn]; exact nI_ge (by omega) (by omega))]
      have e := rd_min (xs := xs) (ys := ys) (pl := pl) (v0 := v0) (v1 := v1) (v2 := v2) (i0 := i0) (is := is) (k := k) (ce := ce) hn hN (by omega) (fun a b => f_X6_around_L51 xs ys pl v0 v1 v2 ce n i0 m a b) (fun j => lt j k) (fun j hj => hlt j k hj (by omega)) 25 0 (by omega) (by omega)
      have e0 : nI (fb_ct (fun j => lt j k) 0) = 0 := rfl
      rw [e0] at e
      have e := (congrArg Prod.fst e)
      refine Eq.trans e ?_
      by_cases h3 : k = q0
      · subst h3
        rw [if_pos ((hu k (by omega)).mpr rfl), if_pos (Nat.le_refl _)]
        show (f_X6_around_L51 xs ys pl v0 v1 v2 ce n i0 m (nI k) (nI k + 1)).1 = _
        rw [nI_1, rd_mout (v0 := v0) (v1 := v1) (v2 := v2) hn hN hq lt hlt hu m (k + 1) (nI k) (by omega) (by omega), if_neg (by omega)]
      · rw [if_neg (fun h9 => h3 ((hu k (by omega)).mp h9))]
        show (f_X6_around_L51 xs ys pl v0 v1 v2 ce n i0 m is (nI k + 1)).1 = _
        rw [nI_1, rd_mout (v0 := v0) (v1 := v1) (v2 := v2) hn hN hq lt hlt hu m (k + 1) is (by omega) (by omega)]
        by_cases h4 : k ≤ q0
        · rw [if_pos h4, if_pos (by omega)]
        · rw [if_neg h4, if_neg (by omega)]
theorem rd_fin {v0 v1 v2 n i0 ce : Int32} {N : Nat} (hn : n = nI N) (hN : N ≤ 24) (h0 : 0 ≤ i0) (hi0 : i0 < n) (lt : Nat → Nat → Bool) (h1 : ∀ j k, j < N → k < N → (lt j k = false ↔ 0 ≤ f_X4_compareRound xs ys pl ce (nI j) (nI k))) (h2 : ∀ j k, j < N → k < N → (lt j k = false ↔ (j = k ∨ f_X6_isAhead xs ys pl ce (nI j) (nI k) = 0))) (hi : ∀ a, a < N → lt a a = false) (ht : ∀ a b c, a < N → b < N → c < N → lt a b = true → lt b c = true → lt a c = true) (hc : ∀ a b, a < N → b < N → a ≠ b → lt a b = true ∨ lt b a = true) : f_X4_placeRound_L3 xs ys pl ce n i0 25 0 = (f_X6_around_L51 xs ys pl v0 v1 v2 ce n i0 25 (-1) 0).1 := by
  obtain ⟨I, hI, rfl⟩ := nI_of (x := i0) (Int32.not_lt.mpr h0)
  have hIN : I < N := by rw [hn] at hi0; exact (nI_ltI hI (by omega)).mp hi0
  obtain ⟨q0, hq, hu⟩ := rk_one hi ht hc hIN
  have hb : ∀ q, fb_ct (fun j => lt j q) N ≤ N := fun q => fb_ct_le _ _
  have hu2 : ∀ q, q < N → (nI (fb_ct (fun j => lt j q) N) = nI I ↔ q = q0) := fun q hq9 => by
    rw [nI_eq (by have := hb q; omega) hI]; exact hu q hq9
  have e1 : ∀ q, q < N → f_X4_aheadRound xs ys pl ce n (nI q) = nI (fb_ct (fun j => lt j q) N) := fun q hq9 => rd_cnt hn hN (fun j => lt j q) (fun j hj => h1 j q hj hq9) 25 0 (by omega) (by omega)
  rw [show (0 : Int32) = nI 0 from rfl, rd_fst hn hN hq (fun q hq9 => by rw [e1 q hq9]; exact hu2 q hq9) 25 0 (by omega) (by omega), rd_mout (v0 := v0) (v1 := v1) (v2 := v2) hn hN hq lt h2 hu2 25 0 (-1) (by omega) (by omega), if_pos (Nat.zero_le _)]
/-! order -/
theorem ca_key (hx : gB xs) (hy : gB ys) {N j k : Nat} (hN : N ≤ 24) (hj : j < N) (hk : k < N) : (0 ≤ f_X4_compareAlong xs ys pl (nI j) (nI k)) ↔ ¬ (gK xs ys (pl j) * 100 + j < gK xs ys (pl k) * 100 + k) := by
  unfold f_X4_compareAlong
  rw [nI_clamp (n := j) (by omega), nI_clamp (n := k) (by omega), cp_key hx hy, ge_cmp, nI_toInt (n := j) (by omega), nI_toInt (n := k) (by omega)]
  simp only [sg_0]
  by_cases h1 : gK xs ys (pl j) - gK xs ys (pl k) = 0
  · rw [if_pos h1]
    repeat' split
    all_goals (constructor <;> intro h <;> first | omega | decide | exact absurd h (by decide))
  · rw [if_neg h1, sg_ge]; omega
theorem il_key (hx : gB xs) (hy : gB ys) {N j k : Nat} (hN : N ≤ 24) (hj : j < N) (hk : k < N) : (f_X6_isLess xs ys pl (nI j) (nI k) = 0) ↔ ¬ (gK xs ys (pl j) * 100 + j < gK xs ys (pl k) * 100 + k) := by
  have y1 := gx_b hy (pl j); have y2 := gx_b hy (pl k)
  have kk := gK_lex (x := gx xs (pl j)) (z := gx xs (pl k)) y1 y2
  unfold f_X6_isLess
  rw [nI_clamp (n := j) (by omega), nI_clamp (n := k) (by omega)]
  simp only [Int32.le_iff_toInt_le, ← Int32.toInt_inj, nI_toInt (n := j) (show j < 2 ^ 31 by omega), nI_toInt (n := k) (show k < 2 ^ 31 by omega)]
  unfold gK
  unfold gx at *
  repeat' split
  all_goals (constructor <;> intro h <;> first | omega | rfl | exact absurd h (by decide))
theorem f_order {v5 th n i0 : Int32} (hx : gB xs) (hy : gB ys) (hv : v5 ≤ 24) : f_X5_order xs ys pl v5 n i0 = (f_X6_order xs ys pl th v5 n i0).1 := by
  unfold f_X5_order f_X6_order
  rcases fa_eq (pl := pl) (n := n) (least := 1) hv with ⟨q1, q2⟩ | ⟨q1, q2, q3⟩ | ⟨q1, q2, q3, q4, q5, q6⟩
  · rw [q1, if_pos q2]; repeat' split
    all_goals first | rfl | (rename_i h; exact absurd h (by decide))
  · rw [q1, if_neg q2]
    by_cases h1 : i0 < 0
    · rw [if_pos h1, if_pos h1]
    · rw [if_neg h1, if_neg h1]
      by_cases h2 : n ≤ i0
      · rw [if_pos h2, if_neg (Int32.not_lt.mpr h2)]
      · rw [if_neg h2, if_pos (Int32.not_le.mp h2), if_pos q3]; rfl
  · rw [q1, if_neg q2]
    by_cases h1 : i0 < 0
    · rw [if_pos h1, if_pos h1]
    · rw [if_neg h1, if_neg h1]
      by_cases h2 : n ≤ i0
      · rw [if_pos h2, if_neg (Int32.not_lt.mpr h2)]
      · rw [if_neg h2, if_pos (Int32.not_le.mp h2), if_neg q3, if_pos rfl]
        obtain ⟨N, hN, hn⟩ := nI_of2 (x := n) (M := 24) (n := 24) rfl (by rw [Int32.not_lt]; exact Int32.le_trans (by decide) q4) (Int32.le_trans q5 hv)
        refine ol_fin hn hN (Int32.not_lt.mp h1) (Int32.not_le.mp h2) (fun j k => decide (gK xs ys (pl j) * 100 + j < gK xs ys (pl k) * 100 + k)) ?_ ?_ ?_ ?_ ?_
        · intro j k hj hk; rw [ca_key hx hy hN hj hk]; exact decide_eq_false_iff_not
        · intro j k hj hk; rw [il_key hx hy hN hj hk, decide_eq_false_iff_not]
          constructor
          · intro h; exact Or.inr h
          · rintro (h | h)
            · subst h; omega
            · exact h
        · intro a _; exact decide_eq_false (by omega)
        · intro a b c _ _ _ h3 h4
          rw [decide_eq_true_iff] at *; omega
        · intro a b ha hb h3
          rw [decide_eq_true_iff, decide_eq_true_iff]; omega
/-! around -/
/-- directions in one half of the round -/
def gU (x y : Int) : Prop := 0 < y ∨ (y = 0 ∧ 0 < x)
theorem an_tr {ux u2 vx v2 wx w2 : Int} (hu : gU ux u2) (hv : gU vx v2) (hw : gU wx w2) (h1 : 0 ≤ ux * v2 - u2 * vx) (h2 : 0 ≤ vx * w2 - v2 * wx) : 0 ≤ ux * w2 - u2 * wx ∧ (ux * w2 - u2 * wx = 0 → ux * v2 - u2 * vx = 0 ∧ vx * w2 - v2 * wx = 0) := by
  have ey : (ux * w2 - u2 * wx) * v2 = (vx * w2 - v2 * wx) * u2 + (ux * v2 - u2 * vx) * w2 := by grind
  unfold gU at *
  rcases hv with hv | ⟨hv, hv'⟩
  · -- v above
    have hu2 : 0 ≤ u2 := by omega
    have hw2 : 0 ≤ w2 := by omega
    have m1 := Int.mul_nonneg h2 hu2
    have m2 := Int.mul_nonneg h1 hw2
    have hn : 0 ≤ ux * w2 - u2 * wx := by
      rcases Int.lt_or_le (ux * w2 - u2 * wx) 0 with h9 | h9
      · have := Int.mul_neg_of_neg_of_pos h9 hv; omega
      · exact h9
    refine ⟨hn, fun h0 => ?_⟩
    rw [h0, Int.zero_mul] at ey
    have z1 : (vx * w2 - v2 * wx) * u2 = 0 := by omega
    have z2 : (ux * v2 - u2 * vx) * w2 = 0 := by omega
    rcases Int.mul_eq_zero.mp z1 with a1 | a1
    · rcases Int.mul_eq_zero.mp z2 with a2 | a2
      · exact ⟨a2, a1⟩
      · -- w along the ray
        have hwx : 0 < wx := by omega
        rw [a2, Int.mul_zero] at a1
        have := Int.mul_pos hv hwx; omega
    · have hux : 0 < ux := by omega
      rw [a1, Int.zero_mul] at h0
      have : ux * w2 = 0 := by omega
      rcases Int.mul_eq_zero.mp this with a3 | a3
      · omega
      · have hwx : 0 < wx := by omega
        have := Int.mul_pos hv hwx
        rw [a3, Int.mul_zero] at h2; omega
  · -- v along the ray
    subst hv
    rw [Int.mul_zero] at h1
    have hu2 : u2 = 0 := by
      rcases hu with hu | hu
      · have := Int.mul_pos hu hv'; omega
      · exact hu.1
    subst hu2
    have hux : 0 < ux := by omega
    rw [Int.zero_mul] at *
    simp only [Int.mul_zero, Int.zero_mul, Int.sub_zero, Int.sub_self] at *
    have hw2 : 0 ≤ w2 := by omega
    refine ⟨Int.mul_nonneg (by omega) hw2, fun h0 => ⟨trivial, ?_⟩⟩
    rcases Int.mul_eq_zero.mp h0 with a | a
    · omega
    · rw [a, Int.mul_zero]
def gP (xs ys : Nat → Int32) (c p : Int32) : Int := if gx xs p = gx xs c ∧ gx ys p = gx ys c then 0 else if gx ys c < gx ys p ∨ (gx ys p = gx ys c ∧ gx xs c < gx xs p) then 1 else 2
theorem pt_eq (hx : gB xs) (hy : gB ys) (c p : Int32) : (f_X4_partOfTurn xs ys c p).toInt = gP xs ys c p := by
  have xa := gx_b hx c; have xb := gx_b hx p
  have ya := gx_b hy c; have yb := gx_b hy p
  unfold f_X4_partOfTurn gP
  unfold gx at *
  have e1 := fb_subI (x := xs (Int32.toNatClampNeg p)) (y := xs (Int32.toNatClampNeg c)) (by omega) (by omega)
  have e2 := fb_subI (x := ys (Int32.toNatClampNeg p)) (y := ys (Int32.toNatClampNeg c)) (by omega) (by omega)
  have z : (0 : Int32).toInt = 0 := rfl
  simp only [← Int32.toInt_inj, Int32.lt_iff_toInt_lt, Int32.le_iff_toInt_le, e1, e2, z]
  repeat' split
  all_goals first | rfl | (exfalso; omega)
/-- the order round c, of places -/
def gL (xs ys pl : Nat → Int32) (c : Int32) (j k : Nat) : Prop := gP xs ys c (pl j) < gP xs ys c (pl k) ∨ (gP xs ys c (pl j) = gP xs ys c (pl k) ∧ (0 < gT xs ys c (pl j) (pl k) ∨ (gT xs ys c (pl j) (pl k) = 0 ∧ (gA xs ys c (pl j) (pl j) < gA xs ys c (pl k) (pl k) ∨ (gA xs ys c (pl j) (pl j) = gA xs ys c (pl k) (pl k) ∧ j < k)))))
theorem j13_ge (x y : Int64) : (0 ≤ f_J13_compare_74951 x y ↔ y.toInt ≤ x.toInt) ∧ (f_J13_compare_74951 x y = 0 ↔ x.toInt = y.toInt) := by
  unfold f_J13_compare_74951
  simp only [lg_cmp_ge, lg_cmp_eq, Int64.le_iff_toInt_le, ← Int64.toInt_inj]
  repeat' split
  all_goals (constructor <;> constructor <;> intro h <;> first | omega | decide | exact absurd h (by decide))
theorem cr_key (hx : gB xs) (hy : gB ys) {c : Int32} {N j k : Nat} (hN : N ≤ 24) (hj : j < N) (hk : k < N) : (0 ≤ f_X4_compareRound xs ys pl c (nI j) (nI k)) ↔ ¬ gL xs ys pl c j k := by
  unfold f_X4_compareRound gL
  rw [nI_clamp (n := j) (by omega), nI_clamp (n := k) (by omega)]
  have p1 := pt_eq hx hy c (pl j); have p2 := pt_eq hx hy c (pl k)
  have d1 : (f_X2_distance xs ys c (pl j)).toInt = gA xs ys c (pl j) (pl j) := by rw [di_eq hx hy]; exact gA_eq hx hy _ _ _
  have d2 : (f_X2_distance xs ys c (pl k)).toInt = gA xs ys c (pl k) (pl k) := by rw [di_eq hx hy]; exact gA_eq hx hy _ _ _
  simp only [ge_turn, gT_eq hx hy, sg_0, sg_neg]
  have q := j13_ge (f_X2_distance xs ys c (pl j)) (f_X2_distance xs ys c (pl k))
  rw [d1, d2] at q
  simp only [← Int32.toInt_inj (x := f_X4_partOfTurn xs ys c (pl j)), p1, p2]
  by_cases h1 : gP xs ys c (pl j) = gP xs ys c (pl k)
  · rw [if_pos h1]
    by_cases h2 : gT xs ys c (pl j) (pl k) = 0
    · rw [if_pos h2]
      by_cases h3 : gA xs ys c (pl j) (pl j) = gA xs ys c (pl k) (pl k)
      · rw [if_pos (q.2.mpr h3), ge_cmp, nI_toInt (n := j) (by omega), nI_toInt (n := k) (by omega)]
        repeat' split
        all_goals (constructor <;> intro h <;> first | omega | decide | exact absurd h (by decide))
      · rw [if_neg (fun h9 => h3 (q.2.mp h9)), q.1]; omega
    · rw [if_neg h2, sg_ge]; omega
  · rw [if_neg h1, ge_cmp, p1, p2]
    repeat' split
    all_goals (constructor <;> intro h <;> first | omega | decide | exact absurd h (by decide))
theorem hf_eq (c p : Int32) (h : ¬ (gx xs p = gx xs c ∧ gx ys p = gx ys c)) : (f_X6_half xs ys c p).toInt = gP xs ys c p - 1 := by
  unfold f_X6_half gP
  rw [if_neg h]
  simp only [← Int32.toInt_inj, Int32.lt_iff_toInt_lt, Int32.le_iff_toInt_le]
  unfold gx at *
  repeat' split
  all_goals first | rfl | (exfalso; omega)
theorem ia_key (hx : gB xs) (hy : gB ys) {c : Int32} {N j k : Nat} (hN : N ≤ 24) (hj : j < N) (hk : k < N) : (f_X6_isAhead xs ys pl c (nI j) (nI k) = 0) ↔ ¬ gL xs ys pl c j k := by
  unfold f_X6_isAhead gL
  rw [nI_clamp (n := j) (by omega), nI_clamp (n := k) (by omega)]
  have d1 : (f_X6_far xs ys c (pl j)).toInt = gA xs ys c (pl j) (pl j) := gA_eq hx hy _ _ _
  have d2 : (f_X6_far xs ys c (pl k)).toInt = gA xs ys c (pl k) (pl k) := gA_eq hx hy _ _ _
  have eI : (nI k ≤ nI j) ↔ k ≤ j := nI_leI (by omega) (by omega)
  simp only [gE_0, gT_eq hx hy, sg_0, sg_le, lg_cmp_eq, lg_cmp_ge, Int64.le_iff_toInt_le, ← Int64.toInt_inj, d1, d2, eI]
  have P0 : ∀ p, (gx xs c = gx xs p ∧ gx ys c = gx ys p) → gP xs ys c p = 0 := fun p h => by unfold gP; rw [if_pos (by omega)]
  have P1 : ∀ p, ¬ (gx xs c = gx xs p ∧ gx ys c = gx ys p) → 1 ≤ gP xs ys c p := fun p h => by
    unfold gP; rw [if_neg (by omega)]; split <;> omega
  by_cases h1 : gx xs c = gx xs (pl j) ∧ gx ys c = gx ys (pl j)
  · rw [if_neg (not_not_intro h1)]
    have e1 := P0 _ h1
    by_cases h2 : gx xs c = gx xs (pl k) ∧ gx ys c = gx ys (pl k)
    · rw [if_neg (not_not_intro h2)]
      have e2 := P0 _ h2
      have t0 : gT xs ys c (pl j) (pl k) = 0 := by unfold gT; rw [← h1.1, ← h1.2]; simp
      have a0 : gA xs ys c (pl j) (pl j) = 0 := by unfold gA; rw [← h1.1, ← h1.2]; simp
      have a1 : gA xs ys c (pl k) (pl k) = 0 := by unfold gA; rw [← h2.1, ← h2.2]; simp
      split
      all_goals (constructor <;> intro h <;> first | omega | decide | rfl | exact absurd h (by decide))
    · rw [if_pos h2]
      have e2 := P1 _ h2
      constructor <;> intro h <;> first | omega | exact absurd h (by decide)
  · rw [if_pos h1]
    have e1 := P1 _ h1
    by_cases h2 : gx xs c = gx xs (pl k) ∧ gx ys c = gx ys (pl k)
    · rw [if_neg (not_not_intro h2)]
      have e2 := P0 _ h2
      constructor <;> intro h <;> first | omega | rfl
    · rw [if_pos h2]
      have f1 := hf_eq (xs := xs) (ys := ys) c (pl j) (by omega)
      have f2 := hf_eq (xs := xs) (ys := ys) c (pl k) (by omega)
      simp only [← Int32.toInt_inj (x := f_X6_half xs ys c (pl j)), Int32.le_iff_toInt_le, f1, f2]
      repeat' split
      all_goals (constructor <;> intro h <;> first | omega | decide | rfl | exact absurd h (by decide))
theorem gL_tr {c : Int32} {a b d : Nat} (h1 : gL xs ys pl c a b) (h2 : gL xs ys pl c b d) : gL xs ys pl c a d := by
  unfold gL at *
  rcases h1 with h1 | ⟨e1, h1⟩
  · rcases h2 with h2 | ⟨e2, _⟩
    · left; omega
    · left; omega
  rcases h2 with h2 | ⟨e2, h2⟩
  · left; omega
  right
  refine ⟨e1.trans e2, ?_⟩
  have key : (0 ≤ gT xs ys c (pl a) (pl b) → 0 ≤ gT xs ys c (pl b) (pl d) → 0 ≤ gT xs ys c (pl a) (pl d) ∧ (gT xs ys c (pl a) (pl d) = 0 → gT xs ys c (pl a) (pl b) = 0 ∧ gT xs ys c (pl b) (pl d) = 0)) := by
    intro g1 g2
    have tri : gP xs ys c (pl a) = 0 ∨ gP xs ys c (pl a) = 1 ∨ gP xs ys c (pl a) = 2 := by unfold gP; split; · simp
                                                                                           split <;> simp
    have z0 : ∀ p, gP xs ys c p = 0 → gx xs p - gx xs c = 0 ∧ gx ys p - gx ys c = 0 := fun p h => by
      unfold gP at h; split at h
      · omega
      · split at h <;> omega
    have z1 : ∀ p, gP xs ys c p = 1 → gU (gx xs p - gx xs c) (gx ys p - gx ys c) := fun p h => by
      unfold gP at h; unfold gU; split at h
      · omega
      · split at h <;> omega
    have z2 : ∀ p, gP xs ys c p = 2 → gU (-(gx xs p - gx xs c)) (-(gx ys p - gx ys c)) := fun p h => by
      unfold gP at h; unfold gU; split at h
      · omega
      · split at h <;> omega
    unfold gT at *
    rcases tri with t | t | t
    · have a1 := z0 _ t; have a2 := z0 _ (e1 ▸ t); have a3 := z0 _ (e2 ▸ e1 ▸ t)
      rw [a1.1, a1.2, a2.1, a2.2, a3.1, a3.2]; simp
    · exact an_tr (z1 _ t) (z1 _ (e1 ▸ t)) (z1 _ (e2 ▸ e1 ▸ t)) g1 g2
    · have q := an_tr (z2 _ t) (z2 _ (e1 ▸ t)) (z2 _ (e2 ▸ e1 ▸ t)) (by rw [Int.neg_mul_neg, Int.neg_mul_neg]; exact g1) (by rw [Int.neg_mul_neg, Int.neg_mul_neg]; exact g2)
      simp only [Int.neg_mul_neg] at q
      exact q
  omega
theorem f_around {v0 v5 th c n i0 : Int32} (hx : gB xs) (hy : gB ys) (hv : v5 ≤ 24) : f_X5_around xs ys pl v0 v5 c n i0 = (f_X6_around xs ys pl th v0 v5 c n i0).1 := by
  unfold f_X5_around f_X6_around
  show (if f_X6_isPoint v0 c = 0 then _ else _) = _
  by_cases h0 : f_X6_isPoint v0 c = 0
  · rw [if_pos h0, if_pos h0]
  rw [if_neg h0, if_neg h0]
  rcases fa_eq (pl := pl) (n := n) (least := 1) hv with ⟨q1, q2⟩ | ⟨q1, q2, q3⟩ | ⟨q1, q2, q3, q4, q5, q6⟩
  · rw [q1, if_pos q2]; repeat' split
    all_goals first | rfl | (rename_i h; exact absurd h (by decide))
  · rw [q1, if_neg q2]
    by_cases h1 : i0 < 0
    · rw [if_pos h1, if_pos h1]
    · rw [if_neg h1, if_neg h1]
      by_cases h2 : n ≤ i0
      · rw [if_pos h2, if_neg (Int32.not_lt.mpr h2)]
      · rw [if_neg h2, if_pos (Int32.not_le.mp h2), if_pos q3]; rfl
  · rw [q1, if_neg q2]
    by_cases h1 : i0 < 0
    · rw [if_pos h1, if_pos h1]
    · rw [if_neg h1, if_neg h1]
      by_cases h2 : n ≤ i0
      · rw [if_pos h2, if_neg (Int32.not_lt.mpr h2)]
      · rw [if_neg h2, if_pos (Int32.not_le.mp h2), if_neg q3, if_pos rfl]
        obtain ⟨N, hN, hn⟩ := nI_of2 (x := n) (M := 24) (n := 24) rfl (by rw [Int32.not_lt]; exact Int32.le_trans (by decide) q4) (Int32.le_trans q5 hv)
        refine rd_fin hn hN (Int32.not_lt.mp h1) (Int32.not_le.mp h2) (fun j k => @decide (gL xs ys pl c j k) (Classical.propDecidable _)) ?_ ?_ ?_ ?_ ?_
        · intro j k hj hk; rw [cr_key hx hy hN hj hk]; exact decide_eq_false_iff_not
        · intro j k hj hk; rw [ia_key hx hy hN hj hk, decide_eq_false_iff_not]
          constructor
          · intro h; exact Or.inr h
          · rintro (h | h)
            · subst h; unfold gL
              have : gT xs ys c (pl j) (pl j) = 0 := by unfold gT; grind
              omega
            · exact h
        · intro a _
          rw [decide_eq_false_iff_not]; unfold gL
          have : gT xs ys c (pl a) (pl a) = 0 := by unfold gT; grind
          omega
        · intro a b d _ _ _ h3 h4
          exact @decide_eq_true _ (Classical.propDecidable _) (gL_tr (@of_decide_eq_true _ (Classical.propDecidable _) h3) (@of_decide_eq_true _ (Classical.propDecidable _) h4))
        · intro a b ha hb h3
          refine Or.imp (@decide_eq_true _ (Classical.propDecidable _)) (@decide_eq_true _ (Classical.propDecidable _)) ?_
          unfold gL
          have := gT_swap (xs := xs) (ys := ys) c (pl a) (pl b)
          omega
end RK
