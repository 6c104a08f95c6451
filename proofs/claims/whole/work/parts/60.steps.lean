set_option maxHeartbeats 4000000 in
theorem st_point {xs ys pl pm : Nat → Int32} {lp lq lr : Nat → Int64} {P on rh ln : Int32} (hI : Inv xs ys pl pm lp lq lr P on rh ln) (th : Int32) (p1 p2 p3 : Int64) : (f_X5_point xs ys P p1 p2 p3).1 = (f_X6_point xs ys th P p1 p2 p3).1 ∧ (f_X6_point xs ys th P p1 p2 p3).2.2.1 = (f_X5_point xs ys P p1 p2 p3).2.1 ∧ (f_X6_point xs ys th P p1 p2 p3).2.2.2.1 = (f_X5_point xs ys P p1 p2 p3).2.2.1 ∧ (f_X6_point xs ys th P p1 p2 p3).2.2.2.2 = (f_X5_point xs ys P p1 p2 p3).2.2.2 ∧ Inv (f_X5_point xs ys P p1 p2 p3).2.1 (f_X5_point xs ys P p1 p2 p3).2.2.1 pl pm lp lq lr (f_X5_point xs ys P p1 p2 p3).2.2.2 on rh ln := by
  sorry
set_option maxHeartbeats 4000000 in
theorem st_size {xs ys pl pm : Nat → Int32} {lp lq lr : Nat → Int64} {P on rh ln : Int32} (hI : Inv xs ys pl pm lp lq lr P on rh ln) (th p1 : Int32) : (f_X6_size pm th rh p1).2.1 = (f_X5_size pl rh p1).1 ∧ ((f_X5_size pl rh p1).1 = 0 → (f_X5_size pl rh p1).2.1 = (f_X6_size pm th rh p1).1) ∧ (f_X6_size pm th rh p1).2.2.1 = (f_X5_size pl rh p1).2.2.2 ∧ Inv xs ys (f_X5_size pl rh p1).2.2.1 (f_X6_size pm th rh p1).2.2.2 lp lq lr P on (f_X5_size pl rh p1).2.2.2 ln := by
  sorry
set_option maxHeartbeats 4000000 in
theorem st_of {xs ys pl pm : Nat → Int32} {lp lq lr : Nat → Int64} {P on rh ln : Int32} (hI : Inv xs ys pl pm lp lq lr P on rh ln) (th p1 p2 : Int32) : (f_X6_of pm th P rh p1 p2).2.1 = (f_X5_of pl P rh p1 p2).1 ∧ ((f_X5_of pl P rh p1 p2).1 = 0 → (f_X5_of pl P rh p1 p2).2.1 = (f_X6_of pm th P rh p1 p2).1) ∧ Inv xs ys (f_X5_of pl P rh p1 p2).2.2 (f_X6_of pm th P rh p1 p2).2.2 lp lq lr P on rh ln := by
  sorry
set_option maxHeartbeats 4000000 in
theorem st_at {xs ys pl pm : Nat → Int32} {lp lq lr : Nat → Int64} {P on rh ln : Int32} (hI : Inv xs ys pl pm lp lq lr P on rh ln) (th p1 p2 : Int32) : (f_X6_at xs ys pm th rh p1 p2).2 = (f_X5_at xs ys pl P rh p1 p2).1 ∧ ((f_X5_at xs ys pl P rh p1 p2).1 = 0 → (f_X5_at xs ys pl P rh p1 p2).2 = (f_X6_at xs ys pm th rh p1 p2).1) := by
  sorry
set_option maxHeartbeats 4000000 in
theorem st_area {xs ys pl pm : Nat → Int32} {lp lq lr : Nat → Int64} {P on rh ln : Int32} (hI : Inv xs ys pl pm lp lq lr P on rh ln) (th p1 : Int32) (p2 : Int64) : (f_X6_area xs ys pm th rh p1 p2).2 = (f_X5_area xs ys pl rh p1 p2).1 ∧ ((f_X5_area xs ys pl rh p1 p2).1 = 0 → (f_X5_area xs ys pl rh p1 p2).2 = (f_X6_area xs ys pm th rh p1 p2).1) := by
  sorry
set_option maxHeartbeats 4000000 in
theorem st_side {xs ys pl pm : Nat → Int32} {lp lq lr : Nat → Int64} {P on rh ln : Int32} (hI : Inv xs ys pl pm lp lq lr P on rh ln) (th c1 c2 c3 p1 p2 p3 : Int32) : (f_X5_side xs ys P on c1 c2 c3 p1 p2 p3).1 = (f_X6_side xs ys th P on c1 c2 c3 p1 p2 p3).1 ∧ (f_X6_side xs ys th P on c1 c2 c3 p1 p2 p3).2.2.1 = (f_X5_side xs ys P on c1 c2 c3 p1 p2 p3).2.1 ∧ (f_X6_side xs ys th P on c1 c2 c3 p1 p2 p3).2.2.2.1 = (f_X5_side xs ys P on c1 c2 c3 p1 p2 p3).2.2.1 ∧ (f_X6_side xs ys th P on c1 c2 c3 p1 p2 p3).2.2.2.2 = (f_X5_side xs ys P on c1 c2 c3 p1 p2 p3).2.2.2 := by
  sorry
set_option maxHeartbeats 4000000 in
theorem st_circle {xs ys pl pm : Nat → Int32} {lp lq lr : Nat → Int64} {P on rh ln : Int32} (hI : Inv xs ys pl pm lp lq lr P on rh ln) (th c1 c2 c3 p1 p2 p3 p4 : Int32) : (f_X5_circle xs ys P on c1 c2 c3 p1 p2 p3 p4).1 = (f_X6_circle xs ys th P on c1 c2 c3 p1 p2 p3 p4).1 ∧ (f_X6_circle xs ys th P on c1 c2 c3 p1 p2 p3 p4).2.2.1 = (f_X5_circle xs ys P on c1 c2 c3 p1 p2 p3 p4).2.1 ∧ (f_X6_circle xs ys th P on c1 c2 c3 p1 p2 p3 p4).2.2.2.1 = (f_X5_circle xs ys P on c1 c2 c3 p1 p2 p3 p4).2.2.1 ∧ (f_X6_circle xs ys th P on c1 c2 c3 p1 p2 p3 p4).2.2.2.2 = (f_X5_circle xs ys P on c1 c2 c3 p1 p2 p3 p4).2.2.2 := by
  sorry
set_option maxHeartbeats 4000000 in
theorem st_filter {xs ys pl pm : Nat → Int32} {lp lq lr : Nat → Int64} {P on rh ln : Int32} (hI : Inv xs ys pl pm lp lq lr P on rh ln) (th : Int32) {p1 : Int32} (hz : p1 = 0 ∨ p1 = 1) : (f_X5_filter on p1).1 = (f_X6_filter th on p1).1 ∧ (f_X6_filter th on p1).2.2 = (f_X5_filter on p1).2 ∧ Inv xs ys pl pm lp lq lr P (f_X5_filter on p1).2 rh ln := by
  sorry
set_option maxHeartbeats 4000000 in
theorem st_decided {xs ys pl pm : Nat → Int32} {lp lq lr : Nat → Int64} {P on rh ln : Int32} (hI : Inv xs ys pl pm lp lq lr P on rh ln) (th c1 c2 c3 p1 : Int32) : f_X5_decided c1 c2 c3 p1 = (f_X6_decided th c1 c2 c3 p1).1 := by
  sorry
set_option maxHeartbeats 4000000 in
theorem st_between {xs ys pl pm : Nat → Int32} {lp lq lr : Nat → Int64} {P on rh ln : Int32} (hI : Inv xs ys pl pm lp lq lr P on rh ln) (th p1 p2 p3 : Int32) : f_X5_between xs ys P p1 p2 p3 = (f_X6_between xs ys th P p1 p2 p3).1 := by
  sorry
set_option maxHeartbeats 4000000 in
theorem st_inside {xs ys pl pm : Nat → Int32} {lp lq lr : Nat → Int64} {P on rh ln : Int32} (hI : Inv xs ys pl pm lp lq lr P on rh ln) (th p1 p2 p3 p4 : Int32) : f_X5_inside xs ys P p1 p2 p3 p4 = (f_X6_inside xs ys th P p1 p2 p3 p4).1 := by
  sorry
set_option maxHeartbeats 4000000 in
theorem st_cross {xs ys pl pm : Nat → Int32} {lp lq lr : Nat → Int64} {P on rh ln : Int32} (hI : Inv xs ys pl pm lp lq lr P on rh ln) (th p1 p2 p3 p4 : Int32) : f_X5_cross xs ys P p1 p2 p3 p4 = (f_X6_cross xs ys th P p1 p2 p3 p4).1 := by
  sorry
set_option maxHeartbeats 4000000 in
theorem st_separated {xs ys pl pm : Nat → Int32} {lp lq lr : Nat → Int64} {P on rh ln : Int32} (hI : Inv xs ys pl pm lp lq lr P on rh ln) (th p1 p2 p3 p4 : Int32) : f_X5_separated xs ys P p1 p2 p3 p4 = (f_X6_separated xs ys th P p1 p2 p3 p4).1 := by
  sorry
set_option maxHeartbeats 4000000 in
theorem st_convex {xs ys pl pm : Nat → Int32} {lp lq lr : Nat → Int64} {P on rh ln : Int32} (hI : Inv xs ys pl pm lp lq lr P on rh ln) (th p1 : Int32) : f_X5_convex xs ys pl rh p1 = (f_X6_convex xs ys pm th rh p1).1 := by
  sorry
set_option maxHeartbeats 4000000 in
theorem st_polygon {xs ys pl pm : Nat → Int32} {lp lq lr : Nat → Int64} {P on rh ln : Int32} (hI : Inv xs ys pl pm lp lq lr P on rh ln) (th p1 p2 : Int32) : f_X5_polygon xs ys pl P rh p1 p2 = (f_X6_polygon xs ys pm th P rh p1 p2).1 := by
  sorry
set_option maxHeartbeats 4000000 in
theorem st_winding {xs ys pl pm : Nat → Int32} {lp lq lr : Nat → Int64} {P on rh ln : Int32} (hI : Inv xs ys pl pm lp lq lr P on rh ln) (th p1 p2 : Int32) : f_X5_winding xs ys pl P rh p1 p2 = (f_X6_winding xs ys pm th P rh p1 p2).1 := by
  sorry
set_option maxHeartbeats 4000000 in
theorem st_nearest {xs ys pl pm : Nat → Int32} {lp lq lr : Nat → Int64} {P on rh ln : Int32} (hI : Inv xs ys pl pm lp lq lr P on rh ln) (th p1 p2 : Int32) : f_X5_nearest xs ys pl P rh p1 p2 = (f_X6_nearest xs ys pm th P rh p1 p2).1 := by
  sorry
set_option maxHeartbeats 4000000 in
theorem st_around {xs ys pl pm : Nat → Int32} {lp lq lr : Nat → Int64} {P on rh ln : Int32} (hI : Inv xs ys pl pm lp lq lr P on rh ln) (th p1 p2 p3 : Int32) : f_X5_around xs ys pl P rh p1 p2 p3 = (f_X6_around xs ys pm th P rh p1 p2 p3).1 := by
  sorry
set_option maxHeartbeats 4000000 in
theorem st_order {xs ys pl pm : Nat → Int32} {lp lq lr : Nat → Int64} {P on rh ln : Int32} (hI : Inv xs ys pl pm lp lq lr P on rh ln) (th p1 p2 : Int32) : f_X5_order xs ys pl rh p1 p2 = (f_X6_order xs ys pm th rh p1 p2).1 := by
  sorry
set_option maxHeartbeats 4000000 in
theorem st_line {xs ys pl pm : Nat → Int32} {lp lq lr : Nat → Int64} {P on rh ln : Int32} (hI : Inv xs ys pl pm lp lq lr P on rh ln) (th p1 p2 : Int32) : (f_X5_line xs ys lp lq lr P ln p1 p2).1 = (f_X6_line xs ys lp lq lr th P ln p1 p2).1 ∧ (f_X6_line xs ys lp lq lr th P ln p1 p2).2.2.1 = (f_X5_line xs ys lp lq lr P ln p1 p2).2.1 ∧ (f_X6_line xs ys lp lq lr th P ln p1 p2).2.2.2.1 = (f_X5_line xs ys lp lq lr P ln p1 p2).2.2.1 ∧ (f_X6_line xs ys lp lq lr th P ln p1 p2).2.2.2.2.1 = (f_X5_line xs ys lp lq lr P ln p1 p2).2.2.2.1 ∧ (f_X6_line xs ys lp lq lr th P ln p1 p2).2.2.2.2.2 = (f_X5_line xs ys lp lq lr P ln p1 p2).2.2.2.2 ∧ Inv xs ys pl pm (f_X5_line xs ys lp lq lr P ln p1 p2).2.1 (f_X5_line xs ys lp lq lr P ln p1 p2).2.2.1 (f_X5_line xs ys lp lq lr P ln p1 p2).2.2.2.1 P on rh (f_X5_line xs ys lp lq lr P ln p1 p2).2.2.2.2 := by
  sorry
set_option maxHeartbeats 4000000 in
theorem st_lines {xs ys pl pm : Nat → Int32} {lp lq lr : Nat → Int64} {P on rh ln : Int32} (hI : Inv xs ys pl pm lp lq lr P on rh ln) (kp : Nat → Int32) (th d7 d8 d9 d10 p1 p2 : Int32) : (f_X5_lines kp lp lq lr ln d7 d8 d9 d10 p1 p2).1 = (f_X6_lines lp lq lr th ln p1 p2).1 := by
  sorry
set_option maxHeartbeats 4000000 in
theorem st_count {xs ys pl pm : Nat → Int32} {lp lq lr : Nat → Int64} {P on rh ln : Int32} (hI : Inv xs ys pl pm lp lq lr P on rh ln) (th p1 : Int32) : f_X5_count P on rh ln p1 = (f_X6_count th P rh on ln p1).1 := by
  sorry
