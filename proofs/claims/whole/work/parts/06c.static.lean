theorem dkX6_init : inX6_init.all (ax_dec cX6_init) = true := by decide +kernel
theorem skX6_init : inX6_init.all (ax_stc 59) = true := by decide +kernel
theorem nkX6_init : (inX6_init.flatMap (ax_need 59)).map some = ([651, 64, 65, 655, 657, 111, 658, 83, 660, 83, 661, 83, 662, 83, 663, 83, 665, 111, 666, 111, 667, 83, 668, 83, 669, 653, 654] : List Nat).map (fun p => lw_tbl[p]?) := by decide +kernel
theorem dkX6_thrown : inX6_thrown.all (ax_dec cX6_thrown) = true := by decide +kernel
theorem skX6_thrown : inX6_thrown.all (ax_stc 60) = true := by decide +kernel
theorem nkX6_thrown : (inX6_thrown.flatMap (ax_need 60)).map some = ([652] : List Nat).map (fun p => lw_tbl[p]?) := by decide +kernel
theorem dkX6_in : inX6_in.all (ax_dec cX6_in) = true := by decide +kernel
theorem skX6_in : inX6_in.all (ax_stc 61) = true := by decide +kernel
theorem nkX6_in : (inX6_in.flatMap (ax_need 61)).map some = ([] : List Nat).map (fun p => lw_tbl[p]?) := by decide +kernel
theorem dkX6_isStop : inX6_isStop.all (ax_dec cX6_isStop) = true := by decide +kernel
theorem skX6_isStop : inX6_isStop.all (ax_stc 62) = true := by decide +kernel
theorem nkX6_isStop : (inX6_isStop.flatMap (ax_need 62)).map some = ([659, 719, 720, 47] : List Nat).map (fun p => lw_tbl[p]?) := by decide +kernel
theorem dkX6_isAisle : inX6_isAisle.all (ax_dec cX6_isAisle) = true := by decide +kernel
theorem skX6_isAisle : inX6_isAisle.all (ax_stc 63) = true := by decide +kernel
theorem nkX6_isAisle : (inX6_isAisle.flatMap (ax_need 63)).map some = ([653, 719, 720, 47] : List Nat).map (fun p => lw_tbl[p]?) := by decide +kernel
theorem dkX6_stop : inX6_stop.all (ax_dec cX6_stop) = true := by decide +kernel
theorem skX6_stop : inX6_stop.all (ax_stc 64) = true := by decide +kernel
theorem nkX6_stop : (inX6_stop.flatMap (ax_need 64)).map some = ([715, 717, 22, 47, 654, 719, 720, 47, 719, 720, 47, 659, 652, 652, 660, 659, 661, 659, 662, 659, 659, 659, 659] : List Nat).map (fun p => lw_tbl[p]?) := by decide +kernel
theorem dkX6_closed : inX6_closed.all (ax_dec cX6_closed) = true := by decide +kernel
theorem skX6_closed : inX6_closed.all (ax_stc 65) = true := by decide +kernel
theorem nkX6_closed : (inX6_closed.flatMap (ax_need 65)).map some = ([715, 717, 22, 47, 652, 652, 658, 659, 660, 663] : List Nat).map (fun p => lw_tbl[p]?) := by decide +kernel
theorem dkX6_isWalked : inX6_isWalked.all (ax_dec cX6_isWalked) = true := by decide +kernel
theorem skX6_isWalked : inX6_isWalked.all (ax_stc 66) = true := by decide +kernel
theorem nkX6_isWalked : (inX6_isWalked.flatMap (ax_need 66)).map some = ([663, 662, 658, 660] : List Nat).map (fun p => lw_tbl[p]?) := by decide +kernel
theorem dkX6_walked : inX6_walked.all (ax_dec cX6_walked) = true := by decide +kernel
theorem skX6_walked : inX6_walked.all (ax_stc 67) = true := by decide +kernel
theorem nkX6_walked : (inX6_walked.flatMap (ax_need 67)).map some = ([659, 734, 736, 24, 47] : List Nat).map (fun p => lw_tbl[p]?) := by decide +kernel
theorem dkX6_apart : inX6_apart.all (ax_dec cX6_apart) = true := by decide +kernel
theorem skX6_apart : inX6_apart.all (ax_stc 68) = true := by decide +kernel
theorem nkX6_apart : (inX6_apart.flatMap (ax_need 68)).map some = ([] : List Nat).map (fun p => lw_tbl[p]?) := by decide +kernel
theorem dkX6_aisleOf : inX6_aisleOf.all (ax_dec cX6_aisleOf) = true := by decide +kernel
theorem skX6_aisleOf : inX6_aisleOf.all (ax_stc 69) = true := by decide +kernel
theorem nkX6_aisleOf : (inX6_aisleOf.flatMap (ax_need 69)).map some = ([660] : List Nat).map (fun p => lw_tbl[p]?) := by decide +kernel
theorem dkX6_depthOf : inX6_depthOf.all (ax_dec cX6_depthOf) = true := by decide +kernel
theorem skX6_depthOf : inX6_depthOf.all (ax_stc 70) = true := by decide +kernel
theorem nkX6_depthOf : (inX6_depthOf.flatMap (ax_need 70)).map some = ([661, 661] : List Nat).map (fun p => lw_tbl[p]?) := by decide +kernel
theorem dkX6_way : inX6_way.all (ax_dec cX6_way) = true := by decide +kernel
theorem skX6_way : inX6_way.all (ax_stc 71) = true := by decide +kernel
theorem nkX6_way : (inX6_way.flatMap (ax_need 71)).map some = ([774, 776, 34, 47, 774, 776, 34, 47, 762, 764, 31, 47, 762, 764, 31, 47, 778, 779, 47, 781, 654, 762, 764, 31, 47, 778, 779, 47, 774, 776, 34, 47, 774, 776, 34, 47, 778, 779, 47, 762, 764, 31, 47, 778, 779, 47] : List Nat).map (fun p => lw_tbl[p]?) := by decide +kernel
theorem dkX6_length : inX6_length.all (ax_dec cX6_length) = true := by decide +kernel
theorem skX6_length : inX6_length.all (ax_stc 72) = true := by decide +kernel
theorem nkX6_length : (inX6_length.flatMap (ax_need 72)).map some = ([657, 664, 665, 770, 772, 33, 47, 665, 770, 772, 33, 47] : List Nat).map (fun p => lw_tbl[p]?) := by decide +kernel
theorem dkX6_add : inX6_add.all (ax_dec cX6_add) = true := by decide +kernel
theorem skX6_add : inX6_add.all (ax_stc 73) = true := by decide +kernel
theorem nkX6_add : (inX6_add.flatMap (ax_need 73)).map some = ([665, 664, 664, 664, 666] : List Nat).map (fun p => lw_tbl[p]?) := by decide +kernel
theorem dkX6_addAisle : inX6_addAisle.all (ax_dec cX6_addAisle) = true := by decide +kernel
theorem skX6_addAisle : inX6_addAisle.all (ax_stc 74) = true := by decide +kernel
theorem nkX6_addAisle : (inX6_addAisle.flatMap (ax_need 74)).map some = ([659, 666, 660, 667, 661, 661, 661, 661, 750, 752, 28, 47] : List Nat).map (fun p => lw_tbl[p]?) := by decide +kernel
theorem dkX6_hasLeft : inX6_hasLeft.all (ax_dec cX6_hasLeft) = true := by decide +kernel
theorem skX6_hasLeft : inX6_hasLeft.all (ax_stc 75) = true := by decide +kernel
theorem nkX6_hasLeft : (inX6_hasLeft.flatMap (ax_need 75)).map some = ([659, 666, 660] : List Nat).map (fun p => lw_tbl[p]?) := by decide +kernel
theorem dkX6_through : inX6_through.all (ax_dec cX6_through) = true := by decide +kernel
theorem skX6_through : inX6_through.all (ax_stc 76) = true := by decide +kernel
theorem nkX6_through : (inX6_through.flatMap (ax_need 76)).map some = ([653, 742, 744, 26, 47, 746, 748, 27, 47] : List Nat).map (fun p => lw_tbl[p]?) := by decide +kernel
theorem dkX6_gap : inX6_gap.all (ax_dec cX6_gap) = true := by decide +kernel
theorem skX6_gap : inX6_gap.all (ax_stc 77) = true := by decide +kernel
theorem nkX6_gap : (inX6_gap.flatMap (ax_need 77)).map some = ([654, 654, 659, 666, 660, 762, 764, 31, 47, 762, 764, 31, 47, 762, 764, 31, 47] : List Nat).map (fun p => lw_tbl[p]?) := by decide +kernel
theorem dkX6_gaps : inX6_gaps.all (ax_dec cX6_gaps) = true := by decide +kernel
theorem skX6_gaps : inX6_gaps.all (ax_stc 78) = true := by decide +kernel
theorem nkX6_gaps : (inX6_gaps.flatMap (ax_need 78)).map some = ([653, 742, 744, 26, 47, 653, 758, 760, 30, 47, 659, 660, 667, 762, 764, 31, 47, 746, 748, 27, 47, 746, 748, 27, 47, 746, 748, 27, 47, 746, 748, 27, 47] : List Nat).map (fun p => lw_tbl[p]?) := by decide +kernel
theorem dkX6_nearest : inX6_nearest.all (ax_dec cX6_nearest) = true := by decide +kernel
theorem skX6_nearest : inX6_nearest.all (ax_stc 79) = true := by decide +kernel
theorem nkX6_nearest : (inX6_nearest.flatMap (ax_need 79)).map some = ([657, 659, 666, 770, 772, 33, 47, 770, 772, 33, 47, 750, 752, 28, 47] : List Nat).map (fun p => lw_tbl[p]?) := by decide +kernel
theorem dkX6_least : inX6_least.all (ax_dec cX6_least) = true := by decide +kernel
theorem skX6_least : inX6_least.all (ax_stc 80) = true := by decide +kernel
theorem nkX6_least : (inX6_least.flatMap (ax_need 80)).map some = ([659, 666, 668, 668, 770, 772, 33, 47, 781, 668, 668, 770, 772, 33, 47, 669, 669, 657, 781, 668, 770, 772, 33, 47, 669, 668, 750, 752, 28, 47, 668] : List Nat).map (fun p => lw_tbl[p]?) := by decide +kernel
theorem dkX6_walk : inX6_walk.all (ax_dec cX6_walk) = true := by decide +kernel
theorem skX6_walk : inX6_walk.all (ax_stc 81) = true := by decide +kernel
theorem nkX6_walk : (inX6_walk.flatMap (ax_need 81)).map some = ([719, 720, 47, 730, 732, 23, 47, 652, 652, 664, 659, 666, 734, 736, 24, 47, 667, 730, 732, 23, 47, 738, 740, 25, 47, 653, 746, 748, 27, 47, 754, 756, 29, 47, 766, 768, 32, 47, 782, 784, 35, 47, 786, 788, 36, 47] : List Nat).map (fun p => lw_tbl[p]?) := by decide +kernel
theorem dkX6_step : inX6_step.all (ax_dec cX6_step) = true := by decide +kernel
theorem skX6_step : inX6_step.all (ax_stc 82) = true := by decide +kernel
theorem nkX6_step : (inX6_step.flatMap (ax_need 82)).map some = ([664, 719, 720, 47, 652, 652, 665] : List Nat).map (fun p => lw_tbl[p]?) := by decide +kernel
theorem dkX6_remove : inX6_remove.all (ax_dec cX6_remove) = true := by decide +kernel
theorem skX6_remove : inX6_remove.all (ax_stc 83) = true := by decide +kernel
theorem nkX6_remove : (inX6_remove.flatMap (ax_need 83)).map some = ([664, 664, 664, 665, 665] : List Nat).map (fun p => lw_tbl[p]?) := by decide +kernel
theorem dkX6_go : inX6_go.all (ax_dec cX6_go) = true := by decide +kernel
theorem skX6_go : inX6_go.all (ax_stc 84) = true := by decide +kernel
theorem nkX6_go : (inX6_go.flatMap (ax_need 84)).map some = ([664, 652, 652, 658, 660, 665, 652, 652, 665, 656, 657, 770, 772, 33, 47, 656, 657, 663, 798, 800, 37, 47] : List Nat).map (fun p => lw_tbl[p]?) := by decide +kernel
theorem dkX6_missing : inX6_missing.all (ax_dec cX6_missing) = true := by decide +kernel
theorem skX6_missing : inX6_missing.all (ax_stc 85) = true := by decide +kernel
theorem nkX6_missing : (inX6_missing.flatMap (ax_need 85)).map some = ([806, 808, 38, 47, 652, 652, 663, 652, 652, 663, 664, 665, 798, 800, 37, 47, 786, 788, 36, 47] : List Nat).map (fun p => lw_tbl[p]?) := by decide +kernel
theorem dkX6_left : inX6_left.all (ax_dec cX6_left) = true := by decide +kernel
theorem skX6_left : inX6_left.all (ax_stc 86) = true := by decide +kernel
theorem nkX6_left : (inX6_left.flatMap (ax_need 86)).map some = ([652, 786, 788, 36, 47] : List Nat).map (fun p => lw_tbl[p]?) := by decide +kernel
theorem dkX6_bound : inX6_bound.all (ax_dec cX6_bound) = true := by decide +kernel
theorem skX6_bound : inX6_bound.all (ax_stc 87) = true := by decide +kernel
theorem nkX6_bound : (inX6_bound.flatMap (ax_need 87)).map some = ([652, 659, 734, 736, 24, 47, 657, 770, 772, 33, 47, 770, 772, 33, 47, 657, 770, 772, 33, 47, 770, 772, 33, 47] : List Nat).map (fun p => lw_tbl[p]?) := by decide +kernel
theorem dkX6_cart : inX6_cart.all (ax_dec cX6_cart) = true := by decide +kernel
theorem skX6_cart : inX6_cart.all (ax_stc 88) = true := by decide +kernel
theorem nkX6_cart : (inX6_cart.flatMap (ax_need 88)).map some = ([719, 720, 47, 652, 652, 655] : List Nat).map (fun p => lw_tbl[p]?) := by decide +kernel
theorem dkX6_full : inX6_full.all (ax_dec cX6_full) = true := by decide +kernel
theorem skX6_full : inX6_full.all (ax_stc 89) = true := by decide +kernel
theorem nkX6_full : (inX6_full.flatMap (ax_need 89)).map some = ([652, 657, 664, 662, 665, 655, 770, 772, 33, 47, 665, 770, 772, 33, 47, 665, 662, 665, 770, 772, 33, 47] : List Nat).map (fun p => lw_tbl[p]?) := by decide +kernel
theorem dkX6_share : inX6_share.all (ax_dec cX6_share) = true := by decide +kernel
theorem skX6_share : inX6_share.all (ax_stc 90) = true := by decide +kernel
theorem nkX6_share : (inX6_share.flatMap (ax_need 90)).map some = ([806, 808, 38, 47, 656, 652, 652, 657, 770, 772, 33, 47, 656] : List Nat).map (fun p => lw_tbl[p]?) := by decide +kernel
theorem dkX6_far : inX6_far.all (ax_dec cX6_far) = true := by decide +kernel
theorem skX6_far : inX6_far.all (ax_stc 91) = true := by decide +kernel
theorem nkX6_far : (inX6_far.flatMap (ax_need 91)).map some = ([806, 808, 38, 47, 806, 808, 38, 47, 652, 652, 770, 772, 33, 47] : List Nat).map (fun p => lw_tbl[p]?) := by decide +kernel
theorem dkX6_told : inX6_told.all (ax_dec cX6_told) = true := by decide +kernel
theorem skX6_told : inX6_told.all (ax_stc 92) = true := by decide +kernel
theorem nkX6_told : (inX6_told.flatMap (ax_need 92)).map some = ([806, 808, 38, 47, 719, 720, 47, 652, 652, 660, 661, 662, 663, 734, 736, 24, 47] : List Nat).map (fun p => lw_tbl[p]?) := by decide +kernel
theorem dkX6_count : inX6_count.all (ax_dec cX6_count) = true := by decide +kernel
theorem skX6_count : inX6_count.all (ax_stc 93) = true := by decide +kernel
theorem nkX6_count : (inX6_count.flatMap (ax_need 93)).map some = ([652, 659, 730, 732, 23, 47, 664, 653, 654, 656, 657, 659, 663] : List Nat).map (fun p => lw_tbl[p]?) := by decide +kernel
