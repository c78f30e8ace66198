theorem dkL_cell : inL_cell.all (ax_dec cL_cell) = true := by decide +kernel
theorem skL_cell : inL_cell.all (ax_stc 94) = true := by decide +kernel
theorem nkL_cell : (inL_cell.flatMap (ax_need 94)).map some = ([] : List Nat).map (fun p => lw_tbl[p]?) := by decide +kernel
theorem dkL_stop : inL_stop.all (ax_dec cL_stop) = true := by decide +kernel
theorem skL_stop : inL_stop.all (ax_stc 95) = true := by decide +kernel
theorem nkL_stop : (inL_stop.flatMap (ax_need 95)).map some = ([263, 264, 265, 40] : List Nat).map (fun p => lw_tbl[p]?) := by decide +kernel
theorem dkL_closed : inL_closed.all (ax_dec cL_closed) = true := by decide +kernel
theorem skL_closed : inL_closed.all (ax_stc 96) = true := by decide +kernel
theorem nkL_closed : (inL_closed.flatMap (ax_need 96)).map some = ([406, 407, 408, 40] : List Nat).map (fun p => lw_tbl[p]?) := by decide +kernel
theorem dkL_walk : inL_walk.all (ax_dec cL_walk) = true := by decide +kernel
theorem skL_walk : inL_walk.all (ax_stc 97) = true := by decide +kernel
theorem nkL_walk : (inL_walk.flatMap (ax_need 97)).map some = ([418, 419, 420, 40] : List Nat).map (fun p => lw_tbl[p]?) := by decide +kernel
theorem dkL_step : inL_step.all (ax_dec cL_step) = true := by decide +kernel
theorem skL_step : inL_step.all (ax_stc 98) = true := by decide +kernel
theorem nkL_step : (inL_step.flatMap (ax_need 98)).map some = ([548, 549, 550, 40] : List Nat).map (fun p => lw_tbl[p]?) := by decide +kernel
theorem dkL_go : inL_go.all (ax_dec cL_go) = true := by decide +kernel
theorem skL_go : inL_go.all (ax_stc 99) = true := by decide +kernel
theorem nkL_go : (inL_go.flatMap (ax_need 99)).map some = ([576, 577, 578, 40] : List Nat).map (fun p => lw_tbl[p]?) := by decide +kernel
theorem dkL_missing : inL_missing.all (ax_dec cL_missing) = true := by decide +kernel
theorem skL_missing : inL_missing.all (ax_stc 100) = true := by decide +kernel
theorem nkL_missing : (inL_missing.flatMap (ax_need 100)).map some = ([589, 590, 591, 40] : List Nat).map (fun p => lw_tbl[p]?) := by decide +kernel
theorem dkL_cart : inL_cart.all (ax_dec cL_cart) = true := by decide +kernel
theorem skL_cart : inL_cart.all (ax_stc 101) = true := by decide +kernel
theorem nkL_cart : (inL_cart.flatMap (ax_need 101)).map some = ([602, 603, 604, 40] : List Nat).map (fun p => lw_tbl[p]?) := by decide +kernel
theorem dkL_share : inL_share.all (ax_dec cL_share) = true := by decide +kernel
theorem skL_share : inL_share.all (ax_stc 102) = true := by decide +kernel
theorem nkL_share : (inL_share.flatMap (ax_need 102)).map some = ([611, 612, 613, 40] : List Nat).map (fun p => lw_tbl[p]?) := by decide +kernel
theorem dkL_far : inL_far.all (ax_dec cL_far) = true := by decide +kernel
theorem skL_far : inL_far.all (ax_stc 103) = true := by decide +kernel
theorem nkL_far : (inL_far.flatMap (ax_need 103)).map some = ([634, 635, 636, 40] : List Nat).map (fun p => lw_tbl[p]?) := by decide +kernel
theorem dkL_told : inL_told.all (ax_dec cL_told) = true := by decide +kernel
theorem skL_told : inL_told.all (ax_stc 104) = true := by decide +kernel
theorem nkL_told : (inL_told.flatMap (ax_need 104)).map some = ([641, 642, 643, 40] : List Nat).map (fun p => lw_tbl[p]?) := by decide +kernel
theorem dkL_law_0 : ((inL_law.drop 0).take 120).all (ax_dec cL_law) = true := by decide +kernel
theorem dkL_law_1 : ((inL_law.drop 120).take 120).all (ax_dec cL_law) = true := by decide +kernel
theorem dkL_law_2 : ((inL_law.drop 240).take 120).all (ax_dec cL_law) = true := by decide +kernel
theorem dkL_law_3 : ((inL_law.drop 360).take 120).all (ax_dec cL_law) = true := by decide +kernel
theorem ax_allc {α : Type} {f : α → Bool} {l : List α} {s n : Nat} (h1 : ((l.drop s).take n).all f = true) (h2 : (l.drop (s + n)).all f = true) : (l.drop s).all f = true := by
  rw [← List.take_append_drop n (l.drop s), List.all_append, h1, List.drop_drop, h2]
  rfl
theorem dkL_law : inL_law.all (ax_dec cL_law) = true := (ax_allc (s := 0) (n := 120) dkL_law_0 (ax_allc (s := 120) (n := 120) dkL_law_1 (ax_allc (s := 240) (n := 120) dkL_law_2 (ax_allc (s := 360) (n := 120) dkL_law_3 (by rfl)))))
theorem skL_law : inL_law.all (ax_stc 105) = true := by decide +kernel
theorem nkL_law : (inL_law.flatMap (ax_need 105)).map some = ([58, 59, 40, 254, 255, 39, 254, 255, 39, 60, 61, 40, 646, 647, 47, 254, 255, 39, 254, 255, 39, 648, 649, 47, 842, 257, 258, 39, 711, 712, 713, 47, 707, 708, 709, 47, 403, 404, 39, 722, 723, 724, 47, 707, 708, 709, 47, 414, 415, 39, 726, 727, 728, 47, 707, 708, 709, 47, 544, 545, 39, 790, 791, 792, 47, 707, 708, 709, 47, 573, 574, 39, 794, 795, 796, 47, 707, 708, 709, 47, 586, 587, 39, 802, 803, 804, 47, 707, 708, 709, 47, 216, 217, 218, 40, 810, 811, 812, 47, 228, 229, 230, 40, 814, 815, 816, 47, 599, 600, 39, 818, 819, 820, 47, 707, 708, 709, 47, 237, 238, 239, 40, 822, 823, 824, 47, 607, 608, 39, 826, 827, 828, 47, 707, 708, 709, 47, 631, 632, 39, 830, 831, 832, 47, 707, 708, 709, 47, 638, 639, 39, 834, 835, 836, 47, 707, 708, 709, 47, 241, 242, 243, 40, 838, 839, 840, 47] : List Nat).map (fun p => lw_tbl[p]?) := by decide +kernel
