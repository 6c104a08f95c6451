/-! the law: what holds between its two objects -/
def lnOk (p q r : Int64) : Prop := ¬ (p = 0 ∧ q = 0) ∧ p.toInt.natAbs ≤ 19200 ∧ q.toInt.natAbs ≤ 19200 ∧ r.toInt.natAbs ≤ 368640000
def Inv (xs ys pl pm : Nat → Int32) (lp lq lr : Nat → Int64) (P on rh ln : Int32) : Prop :=
  (0 ≤ P ∧ P ≤ 60) ∧ (0 ≤ rh ∧ rh ≤ 24) ∧ (0 ≤ ln ∧ ln ≤ 12) ∧ (on = 0 ∨ on = 1) ∧ (∀ j : Nat, (xs j).toInt.natAbs ≤ 9600) ∧ (∀ j : Nat, (ys j).toInt.natAbs ≤ 9600) ∧ (∀ j : Nat, pl j = -1 ∨ vp_in (pl j) 60) ∧ (∀ j : Nat, pm j = -1 ∨ vp_in (pm j) 60) ∧
  (∀ j : Nat, (j : Int) < rh.toInt → pl j = -1 ∨ (0 ≤ pl j ∧ pl j < P)) ∧ ((pl = pm ∨ rh = 0) ∧ ∀ j : Nat, 24 ≤ j → pl j = pm j) ∧ (∀ j : Nat, (j : Int) < ln.toInt → lnOk (lp j) (lq j) (lr j))
