/-! convex -/
section CV
variable {xs ys pl : Nat → Int32}
theorem cv_in {n : Int32} {N : Nat} (hn : n = nI N) (hN : N ≤ 24) (K : Int32 → Int32) (y : Int32) (e : Nat) : ∀ (m s : Nat), s ≤ N → N < s + m → s ≤ 26 → ((∀ j, s ≤ j → j < N → f_X4_sideOfOther xs ys pl (nI e) (nI j) n = y) ∧ f_X4_convexity_L18 xs ys pl n K y (nI e) m (nI s) = K (nI e + 1)) ∨ ((∃ j, s ≤ j ∧ j < N ∧ ¬ f_X4_sideOfOther xs ys pl (nI e) (nI j) n = y) ∧ f_X4_convexity_L18 xs ys pl n K y (nI e) m (nI s) = 0)
  | 0, s, h0, h, _ => by
    left
    refine ⟨fun j h1 h2 => by omega, ?_⟩
    exfalso; omega
  | m + 1, s, h0, h, h26 => by
    rw [f_X4_convexity_L18]
    by_cases h1 : N ≤ s
    · left
      refine ⟨fun j h2 h3 => by omega, ?_⟩
      rw [if_pos (by rw [hn]; exact nI_le h1 (by omega))]
    · rw [if_neg (by rw [hn]; exact nI_ge (by omega) (by omega))]
      by_cases h2 : f_X4_sideOfOther xs ys pl (nI e) (nI s) n = y
      · rw [if_pos h2, nI_1]
        rcases cv_in hn hN K y e m (s + 1) (by omega) (by omega) (by omega) with ⟨q1, q2⟩ | ⟨⟨j, j1, j2, j3⟩, q2⟩
        · left
          refine ⟨fun j h3 h4 => ?_, q2⟩
          by_cases h5 : j = s
          · subst h5; exact h2
          · exact q1 j (by omega) h4
        · right; exact ⟨⟨j, by omega, j2, j3⟩, q2⟩
      · right
        rw [if_neg h2]
        exact ⟨⟨s, Nat.le_refl _, by omega, h2⟩, rfl⟩
theorem cv_out {n : Int32} {N : Nat} (hn : n = nI N) (hN : N ≤ 24) (y : Int32) (h3' : 3 ≤ N) : ∀ (m e : Nat), e ≤ N → N < e + m → ((∀ i j, e ≤ i → i < N → 2 ≤ j → j < N → f_X4_sideOfOther xs ys pl (nI i) (nI j) n = y) ∧ f_X4_convexity_L10 xs ys pl n y m (nI e) = y) ∨ ((∃ i j, e ≤ i ∧ i < N ∧ 2 ≤ j ∧ j < N ∧ ¬ f_X4_sideOfOther xs ys pl (nI i) (nI j) n = y) ∧ f_X4_convexity_L10 xs ys pl n y m (nI e) = 0)
  | 0, e, h0, h => by omega
  | m + 1, e, h0, h => by
    rw [f_X4_convexity_L10]
    by_cases h1 : N ≤ e
    · left
      refine ⟨fun i j h2 h3 => by omega, ?_⟩
      rw [if_pos (by rw [hn]; exact nI_le h1 (by omega))]
    · rw [if_neg (by rw [hn]; exact nI_ge (by omega) (by omega))]
      have e2 : (2 : Int32) = nI 2 := rfl
      rw [e2]
      rcases cv_in (xs := xs) (ys := ys) (pl := pl) hn hN (fun x3_10 => f_X4_convexity_L10 xs ys pl n y m x3_10) y e 25 2 (by omega) (by omega) (by omega) with ⟨q1, q2⟩ | ⟨⟨j, j1, j2, j3⟩, q2⟩
      · rw [q2]
        show ((_ ∧ f_X4_convexity_L10 xs ys pl n y m (nI e + 1) = y) ∨ (_ ∧ f_X4_convexity_L10 xs ys pl n y m (nI e + 1) = 0))
        rw [nI_1]
        rcases cv_out hn hN y h3' m (e + 1) (by omega) (by omega) with ⟨r1, r2⟩ | ⟨⟨i, j, j1, j2, j3, j4, j5⟩, r2⟩
        · left
          refine ⟨fun i j h3 h4 h5 h6 => ?_, r2⟩
          by_cases h7 : i = e
          · subst h7; exact q1 j h5 h6
          · exact r1 i j (by omega) h4 h5 h6
        · right; exact ⟨⟨i, j, by omega, j2, j3, j4, j5⟩, r2⟩
      · right
        rw [q2]
        exact ⟨⟨e, j, Nat.le_refl _, by omega, j1, j2, j3⟩, rfl⟩
theorem cv_j {v0 v2 p1 l r i j x6 x7 : Int32} (K : Int32 → Int32 → Int32 → (Int32 × Int32)) : f_X6_convex_J111 xs ys pl v0 v2 p1 K l r i j x6 x7 = K (if ¬ l = 0 ∧ (¬ x6 = 0 ∨ x7 = 1) then 1 else 0) (if ¬ r = 0 ∧ (¬ x6 = 0 ∨ x7 = -1) then 1 else 0) (j + 1) := by
  unfold f_X6_convex_J111
  by_cases h1 : l = 0 <;> by_cases h2 : r = 0 <;> by_cases h3 : x6 = 0 <;> by_cases h4 : x7 = 1 <;> by_cases h5 : x7 = -1 <;> simp [h1, h2, h3, h4, h5]
def mTurn (xs ys pl : Nat → Int32) (n : Int32) (i j : Nat) : Int32 := f_X6_turn xs ys (pl i) (f_X6_next pl (nI i) n) (pl j)
def cvOk (xs ys pl : Nat → Int32) (n : Int32) (N : Nat) (t : Int32) (i j : Nat) : Prop := j = i ∨ j = (i + 1) % N ∨ mTurn xs ys pl n i j = t
theorem bI_ite (q : Prop) [Decidable q] : (((if q then 1 else 0 : Int32) = 0) ∨ ((if q then 1 else 0 : Int32) = 1)) ∧ (((if q then 1 else 0 : Int32) = 1) ↔ q) := by
  by_cases h : q
  · rw [if_pos h]; exact ⟨Or.inr rfl, ⟨fun _ => h, fun _ => rfl⟩⟩
  · rw [if_neg h]; exact ⟨Or.inl rfl, ⟨fun h9 => absurd h9 (by decide), fun h9 => absurd h9 h⟩⟩
theorem b01_ne {x : Int32} (h : x = 0 ∨ x = 1) : ¬ x = 0 ↔ x = 1 := by
  rcases h with rfl | rfl <;> decide
theorem mv_in {v0 v2 n : Int32} {N : Nat} (hn : n = nI N) (h0 : 0 < N) (hN : N ≤ 24) (K : Int32 → Int32 → Int32 → (Int32 × Int32)) (i : Nat) (hi : i < N) : ∀ (m k : Nat) (l r : Int32), (l = 0 ∨ l = 1) → (r = 0 ∨ r = 1) → k ≤ N → N < k + m → ∃ l' r' : Int32, f_X6_convex_L44 xs ys pl v0 v2 n K (nI i) m l r (nI k) = K l' r' (nI i + 1) ∧ (l' = 0 ∨ l' = 1) ∧ (r' = 0 ∨ r' = 1) ∧ (l' = 1 ↔ (l = 1 ∧ ∀ j, k ≤ j → j < N → cvOk xs ys pl n N 1 i j)) ∧ (r' = 1 ↔ (r = 1 ∧ ∀ j, k ≤ j → j < N → cvOk xs ys pl n N (-1) i j))
  | 0, k, l, r, _, _, hk, hf => by omega
  | m + 1, k, l, r, hl, hr, hk, hf => by
    rw [f_X6_convex_L44]
    by_cases h1 : N ≤ k
    · rw [if_pos (by rw [hn]; exact nI_le h1 (by omega))]
      exact ⟨l, r, rfl, hl, hr, ⟨fun h => ⟨h, fun j h2 h3 => by omega⟩, fun h => h.1⟩, ⟨fun h => ⟨h, fun j h2 h3 => by omega⟩, fun h => h.1⟩⟩
    · rw [if_neg (by rw [hn]; exact nI_ge (by omega) (by omega))]
      have em : nI i + 1 - (nI i + 1) / n * n = nI ((i + 1) % N) := by rw [nI_1, hn]; exact pk_rem (by omega) h0 (by omega)
      have hmod : (i + 1) % N < N := Nat.mod_lt _ h0
      rw [em]
      simp only [nI_eq (a := k) (b := i) (by omega) (by omega), nI_eq (a := k) (b := (i + 1) % N) (by omega) (by omega)]
      -- the three ways into the join
      have go : ∀ x6 x7 : Int32, ((¬ x6 = 0 ∨ x7 = 1) ↔ cvOk xs ys pl n N 1 i k) → ((¬ x6 = 0 ∨ x7 = -1) ↔ cvOk xs ys pl n N (-1) i k) → ∃ l' r' : Int32, f_X6_convex_L44 xs ys pl v0 v2 n K (nI i) m (if ¬ l = 0 ∧ (¬ x6 = 0 ∨ x7 = 1) then 1 else 0) (if ¬ r = 0 ∧ (¬ x6 = 0 ∨ x7 = -1) then 1 else 0) (nI k + 1) = K l' r' (nI i + 1) ∧ (l' = 0 ∨ l' = 1) ∧ (r' = 0 ∨ r' = 1) ∧ (l' = 1 ↔ (l = 1 ∧ ∀ j, k ≤ j → j < N → cvOk xs ys pl n N 1 i j)) ∧ (r' = 1 ↔ (r = 1 ∧ ∀ j, k ≤ j → j < N → cvOk xs ys pl n N (-1) i j)) := by
        intro x6 x7 g1 g2
        rw [nI_1]
        have b1 := bI_ite (¬ l = 0 ∧ (¬ x6 = 0 ∨ x7 = 1))
        have b2 := bI_ite (¬ r = 0 ∧ (¬ x6 = 0 ∨ x7 = -1))
        obtain ⟨l', r', e1, e2, e3, e4, e5⟩ := mv_in hn h0 hN K i hi m (k + 1) _ _ b1.1 b2.1 (by omega) (by omega)
        refine ⟨l', r', e1, e2, e3, ?_, ?_⟩
        · rw [e4, b1.2, b01_ne hl, g1]
          constructor
          · rintro ⟨⟨a1, a2⟩, a3⟩
            refine ⟨a1, fun j h2 h3 => ?_⟩
            by_cases h4 : j = k
            · subst h4; exact a2
            · exact a3 j (by omega) h3
          · rintro ⟨a1, a2⟩
            exact ⟨⟨a1, a2 k (Nat.le_refl _) (by omega)⟩, fun j h2 h3 => a2 j (by omega) h3⟩
        · rw [e5, b2.2, b01_ne hr, g2]
          constructor
          · rintro ⟨⟨a1, a2⟩, a3⟩
            refine ⟨a1, fun j h2 h3 => ?_⟩
            by_cases h4 : j = k
            · subst h4; exact a2
            · exact a3 j (by omega) h3
          · rintro ⟨a1, a2⟩
            exact ⟨⟨a1, a2 k (Nat.le_refl _) (by omega)⟩, fun j h2 h3 => a2 j (by omega) h3⟩
      by_cases h2 : k = i
      · rw [if_pos h2, cv_j]
        exact go 1 0 ⟨fun _ => Or.inl h2, fun _ => Or.inl (by decide)⟩ ⟨fun _ => Or.inl h2, fun _ => Or.inl (by decide)⟩
      · rw [if_neg h2]
        by_cases h3 : k = (i + 1) % N
        · rw [if_pos h3, cv_j]
          exact go 1 0 ⟨fun _ => Or.inr (Or.inl h3), fun _ => Or.inl (by decide)⟩ ⟨fun _ => Or.inr (Or.inl h3), fun _ => Or.inl (by decide)⟩
        · rw [if_neg h3, cv_j, nI_clamp (n := i) (by omega), nI_clamp (n := k) (by omega)]
          refine go 0 (mTurn xs ys pl n i k) ⟨fun h => ?_, fun h => ?_⟩ ⟨fun h => ?_, fun h => ?_⟩
          · rcases h with h | h
            · exact absurd rfl h
            · exact Or.inr (Or.inr h)
          · rcases h with h | h | h
            · exact absurd h h2
            · exact absurd h h3
            · exact Or.inr h
          · rcases h with h | h
            · exact absurd rfl h
            · exact Or.inr (Or.inr h)
          · rcases h with h | h | h
            · exact absurd h h2
            · exact absurd h h3
            · exact Or.inr h
theorem mv_out {v0 v2 n : Int32} {N : Nat} (hn : n = nI N) (h0 : 0 < N) (hN : N ≤ 24) : ∀ (m i : Nat) (l r : Int32), (l = 0 ∨ l = 1) → (r = 0 ∨ r = 1) → i ≤ N → N < i + m → ∃ l' r' : Int32, (f_X6_convex_L35 xs ys pl v0 v2 n m l r (nI i)).1 = (if l' = 0 then if r' = 0 then 0 else -1 else 1) ∧ (l' = 0 ∨ l' = 1) ∧ (r' = 0 ∨ r' = 1) ∧ (l' = 1 ↔ (l = 1 ∧ ∀ e j, i ≤ e → e < N → j < N → cvOk xs ys pl n N 1 e j)) ∧ (r' = 1 ↔ (r = 1 ∧ ∀ e j, i ≤ e → e < N → j < N → cvOk xs ys pl n N (-1) e j))
  | 0, i, l, r, _, _, hk, hf => by omega
  | m + 1, i, l, r, hl, hr, hk, hf => by
    rw [f_X6_convex_L35]
    by_cases h1 : N ≤ i
    · rw [if_pos (by rw [hn]; exact nI_le h1 (by omega))]
      refine ⟨l, r, ?_, hl, hr, ⟨fun h => ⟨h, fun e j h2 h3 => by omega⟩, fun h => h.1⟩, ⟨fun h => ⟨h, fun e j h2 h3 => by omega⟩, fun h => h.1⟩⟩
      repeat' split
      all_goals rfl
    · rw [if_neg (by rw [hn]; exact nI_ge (by omega) (by omega))]
      obtain ⟨l1, r1, e1, e2, e3, e4, e5⟩ := mv_in (xs := xs) (ys := ys) (pl := pl) (v0 := v0) (v2 := v2) hn h0 hN (fun x2_35 x3_35 x4_35 => f_X6_convex_L35 xs ys pl v0 v2 n m x2_35 x3_35 x4_35) i (by omega) 25 0 l r hl hr (by omega) (by omega)
      rw [show (0 : Int32) = nI 0 from rfl, e1]
      show ∃ l' r' : Int32, (f_X6_convex_L35 xs ys pl v0 v2 n m l1 r1 (nI i + 1)).1 = _ ∧ _
      rw [nI_1]
      obtain ⟨l2, r2, g1, g2, g3, g4, g5⟩ := mv_out (v0 := v0) (v2 := v2) hn h0 hN m (i + 1) l1 r1 e2 e3 (by omega) (by omega)
      refine ⟨l2, r2, g1, g2, g3, ?_, ?_⟩
      · rw [g4, e4]
        constructor
        · rintro ⟨⟨a1, a2⟩, a3⟩
          refine ⟨a1, fun e j h2 h3 h4 => ?_⟩
          by_cases h5 : e = i
          · subst h5; exact a2 j (Nat.zero_le _) h4
          · exact a3 e j (by omega) h3 h4
        · rintro ⟨a1, a2⟩
          exact ⟨⟨a1, fun j _ h3 => a2 i j (Nat.le_refl _) (by omega) h3⟩, fun e j h2 h3 h4 => a2 e j (by omega) h3 h4⟩
      · rw [g5, e5]
        constructor
        · rintro ⟨⟨a1, a2⟩, a3⟩
          refine ⟨a1, fun e j h2 h3 h4 => ?_⟩
          by_cases h5 : e = i
          · subst h5; exact a2 j (Nat.zero_le _) h4
          · exact a3 e j (by omega) h3 h4
        · rintro ⟨a1, a2⟩
          exact ⟨⟨a1, fun j _ h3 => a2 i j (Nat.le_refl _) (by omega) h3⟩, fun e j h2 h3 h4 => a2 e j (by omega) h3 h4⟩
theorem so_eq {n : Int32} {N : Nat} (hn : n = nI N) (hN : N ≤ 24) {e s : Nat} (he : e < N) (hs : s < N) : f_X4_sideOfOther xs ys pl (nI e) (nI s) n = mTurn xs ys pl n e (if N ≤ e + s then e + s - N else e + s) := by
  unfold f_X4_sideOfOther mTurn
  have h1 : ¬ n ≤ nI e := by rw [hn]; exact nI_ge he (by omega)
  rw [nx_eq h1, nI_clamp (n := e) (by omega), nI_add, ge_turn, ge_turn]
  by_cases h : N ≤ e + s
  · rw [if_pos h, if_pos (by rw [hn]; exact nI_le h (by omega)), hn, pk_sub h, nI_clamp (by omega)]
  · rw [if_neg h, if_neg (by rw [hn]; exact nI_ge (by omega) (by omega)), nI_clamp (by omega)]
theorem cv_all {n t : Int32} {N : Nat} (hn : n = nI N) (h3 : 3 ≤ N) (hN : N ≤ 24) : (∀ i j, 0 ≤ i → i < N → 2 ≤ j → j < N → f_X4_sideOfOther xs ys pl (nI i) (nI j) n = t) ↔ (∀ e j, 0 ≤ e → e < N → j < N → cvOk xs ys pl n N t e j) := by
  constructor
  · intro h e j _ he hj
    unfold cvOk
    by_cases h1 : j = e
    · exact Or.inl h1
    by_cases h2 : j = (e + 1) % N
    · exact Or.inr (Or.inl h2)
    right; right
    have hm : (e + 1) % N = if e + 1 = N then 0 else e + 1 := by
      split
      · rename_i h9; rw [h9, Nat.mod_self]
      · rw [Nat.mod_eq_of_lt (by omega)]
    rw [hm] at h2
    have k := h e (if e ≤ j then j - e else j + N - e) (Nat.zero_le _) he (by split at h2 <;> split <;> omega) (by split <;> omega)
    rw [so_eq hn hN he (by split <;> omega)] at k
    have ej : (if N ≤ e + (if e ≤ j then j - e else j + N - e) then e + (if e ≤ j then j - e else j + N - e) - N else e + (if e ≤ j then j - e else j + N - e)) = j := by
      split <;> split <;> omega
    rw [ej] at k; exact k
  · intro h i j _ hi hj hj2
    rw [so_eq hn hN hi hj2]
    have hm : (i + 1) % N = if i + 1 = N then 0 else i + 1 := by
      split
      · rename_i h9; rw [h9, Nat.mod_self]
      · rw [Nat.mod_eq_of_lt (by omega)]
    have k := h i (if N ≤ i + j then i + j - N else i + j) (Nat.zero_le _) hi (by split <;> omega)
    unfold cvOk at k
    rw [hm] at k
    rcases k with k | k | k
    · split at k <;> omega
    · split at k <;> split at k <;> omega
    · exact k
theorem f_convex {v5 th n : Int32} (hx : gB xs) (hy : gB ys) (hv : v5 ≤ 24) : f_X5_convex xs ys pl v5 n = (f_X6_convex xs ys pl th v5 n).1 := by
  unfold f_X5_convex f_X6_convex
  rcases fa_eq (pl := pl) (n := n) (least := 3) hv with ⟨q1, q2⟩ | ⟨q1, q2, q3⟩ | ⟨q1, q2, q3, q4, q5, q6⟩
  · rw [q1, if_pos q2]; rfl
  · rw [q1, if_neg q2, if_pos q3]; rfl
  · rw [q1, if_neg q2, if_neg q3, if_pos rfl]
    have hn24 : n ≤ 24 := Int32.le_trans q5 hv
    obtain ⟨N, hN, hn⟩ := nI_of2 (x := n) (M := 24) (n := 24) rfl (by rw [Int32.not_lt]; exact Int32.le_trans (by decide) q4) hn24
    have h3 : 3 ≤ N := by
      rw [hn] at q4
      exact (nI_leI (a := 3) (b := N) (by omega) (by omega)).mp q4
    unfold f_X4_convexity
    have c3 : f_X4_sideOfOther xs ys pl 0 2 n = sg (gT xs ys (pl 0) (f_X6_next pl (nI 0) n) (pl 2)) := by
      have := so_eq (xs := xs) (ys := ys) (pl := pl) hn hN (e := 0) (s := 2) (by omega) (by omega)
      rw [if_neg (by omega)] at this
      rw [show (0 : Int32) = nI 0 from rfl, show (2 : Int32) = nI 2 from rfl, this]
      unfold mTurn; rw [gT_eq hx hy]
    have c3' := sg_cases (gT xs ys (pl 0) (f_X6_next pl (nI 0) n) (pl 2))
    rw [← c3] at c3'
    obtain ⟨l, r, m1, m2, m3, m4, m5⟩ := mv_out (xs := xs) (ys := ys) (pl := pl) (v0 := th) (v2 := v5) hn (by omega) hN 25 0 1 1 (Or.inr rfl) (Or.inr rfl) (by omega) (by omega)
    rw [← cv_all hn h3 hN] at m4 m5
    have s02 : ∀ t, (∀ i j, 0 ≤ i → i < N → 2 ≤ j → j < N → f_X4_sideOfOther xs ys pl (nI i) (nI j) n = t) → f_X4_sideOfOther xs ys pl 0 2 n = t := fun t h => h 0 2 (by omega) (by omega) (by omega) (by omega)
    show f_X4_convexity_L10 xs ys pl n _ 25 (nI 0) = (f_X6_convex_L35 xs ys pl th v5 n 25 1 1 (nI 0)).1
    rw [m1]
    rcases cv_out (xs := xs) (ys := ys) (pl := pl) hn hN (f_X4_sideOfOther xs ys pl 0 2 n) h3 25 0 (by omega) (by omega) with ⟨a1, a2⟩ | ⟨⟨i, j, b1, b2, b3, b4, b5⟩, a2⟩
    · rw [a2]
      rcases c3' with ⟨_, c⟩ | ⟨_, c⟩ | ⟨_, c⟩
      · rw [c] at a1 ⊢
        have hr : r = 1 := m5.mpr ⟨rfl, a1⟩
        have hl : ¬ l = 1 := fun h => by have := s02 1 (m4.mp h).2; rw [c] at this; exact absurd this (by decide)
        have hl0 : l = 0 := by rcases m2 with h | h
                               · exact h
                               · exact absurd h hl
        rw [hl0, hr]; rfl
      · rw [c]
        have hl : ¬ l = 1 := fun h => by have := s02 1 (m4.mp h).2; rw [c] at this; exact absurd this (by decide)
        have hr : ¬ r = 1 := fun h => by have := s02 (-1) (m5.mp h).2; rw [c] at this; exact absurd this (by decide)
        have hl0 : l = 0 := by rcases m2 with h | h
                               · exact h
                               · exact absurd h hl
        have hr0 : r = 0 := by rcases m3 with h | h
                               · exact h
                               · exact absurd h hr
        rw [hl0, hr0]; rfl
      · rw [c] at a1 ⊢
        have hl : l = 1 := m4.mpr ⟨rfl, a1⟩
        rw [hl]; rfl
    · rw [a2]
      have hl : ¬ l = 1 := fun h => by
        have k := (m4.mp h).2
        exact b5 ((k i j b1 b2 b3 b4).trans (s02 1 k).symm)
      have hr : ¬ r = 1 := fun h => by
        have k := (m5.mp h).2
        exact b5 ((k i j b1 b2 b3 b4).trans (s02 (-1) k).symm)
      have hl0 : l = 0 := by rcases m2 with h | h
                             · exact h
                             · exact absurd h hl
      have hr0 : r = 0 := by rcases m3 with h | h
                             · exact h
                             · exact absurd h hr
      rw [hl0, hr0]; rfl
end CV
