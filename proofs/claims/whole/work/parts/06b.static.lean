theorem dkX4_init : inX4_init.all (ax_dec cX4_init) = true := by decide +kernel
theorem skX4_init : inX4_init.all (ax_stc 33) = true := by decide +kernel
theorem nkX4_init : (inX4_init.flatMap (ax_need 33)).map some = ([117, 64, 65, 83, 118, 83, 121, 83, 124, 83, 126, 83, 128, 130, 83, 135, 134] : List Nat).map (fun p => lw_tbl[p]?) := by decide +kernel
theorem dkX4_add : inX4_add.all (ax_dec cX4_add) = true := by decide +kernel
theorem skX4_add : inX4_add.all (ax_stc 34) = true := by decide +kernel
theorem nkX4_add : (inX4_add.flatMap (ax_need 34)).map some = ([130, 118, 121, 124, 134, 387, 388, 389, 42, 126, 128, 391, 393, 3, 44, 391, 393, 3, 44, 130, 130] : List Nat).map (fun p => lw_tbl[p]?) := by decide +kernel
theorem dkX4_measure : inX4_measure.all (ax_dec cX4_measure) = true := by decide +kernel
theorem skX4_measure : inX4_measure.all (ax_stc 35) = true := by decide +kernel
theorem nkX4_measure : (inX4_measure.flatMap (ax_need 35)).map some = ([134, 118, 124, 118, 124, 395, 396, 397, 42, 135, 135] : List Nat).map (fun p => lw_tbl[p]?) := by decide +kernel
theorem dkX4_way : inX4_way.all (ax_dec cX4_way) = true := by decide +kernel
theorem skX4_way : inX4_way.all (ax_stc 36) = true := by decide +kernel
theorem nkX4_way : (inX4_way.flatMap (ax_need 36)).map some = ([135] : List Nat).map (fun p => lw_tbl[p]?) := by decide +kernel
theorem dkX4_isWalked : inX4_isWalked.all (ax_dec cX4_isWalked) = true := by decide +kernel
theorem skX4_isWalked : inX4_isWalked.all (ax_stc 37) = true := by decide +kernel
theorem nkX4_isWalked : (inX4_isWalked.flatMap (ax_need 37)).map some = ([128, 126, 134, 103, 118] : List Nat).map (fun p => lw_tbl[p]?) := by decide +kernel
theorem dkX4_walkedOnes : inX4_walkedOnes.all (ax_dec cX4_walkedOnes) = true := by decide +kernel
theorem skX4_walkedOnes : inX4_walkedOnes.all (ax_stc 38) = true := by decide +kernel
theorem nkX4_walkedOnes : (inX4_walkedOnes.flatMap (ax_need 38)).map some = ([130, 249, 233, 234, 44] : List Nat).map (fun p => lw_tbl[p]?) := by decide +kernel
theorem dkX4_doneOnes : inX4_doneOnes.all (ax_dec cX4_doneOnes) = true := by decide +kernel
theorem skX4_doneOnes : inX4_doneOnes.all (ax_stc 39) = true := by decide +kernel
theorem nkX4_doneOnes : (inX4_doneOnes.flatMap (ax_need 39)).map some = ([130, 128] : List Nat).map (fun p => lw_tbl[p]?) := by decide +kernel
theorem dkX4_openIn : inX4_openIn.all (ax_dec cX4_openIn) = true := by decide +kernel
theorem skX4_openIn : inX4_openIn.all (ax_stc 40) = true := by decide +kernel
theorem nkX4_openIn : (inX4_openIn.flatMap (ax_need 40)).map some = ([130, 118, 128] : List Nat).map (fun p => lw_tbl[p]?) := by decide +kernel
theorem dkX5_init : inX5_init.all (ax_dec cX5_init) = true := by decide +kernel
theorem skX5_init : inX5_init.all (ax_stc 41) = true := by decide +kernel
theorem nkX5_init : (inX5_init.flatMap (ax_need 41)).map some = ([63, 64, 65, 66, 67, 41, 68, 69, 41, 197, 198, 199, 200, 84, 85, 42, 86, 87, 42, 194, 112, 113, 44, 194, 114, 115, 44, 195, 153, 154, 45, 194, 195, 155, 156, 45, 196] : List Nat).map (fun p => lw_tbl[p]?) := by decide +kernel
theorem dkX5_stop : inX5_stop.all (ax_dec cX5_stop) = true := by decide +kernel
theorem skX5_stop : inX5_stop.all (ax_stc 42) = true := by decide +kernel
theorem nkX5_stop : (inX5_stop.flatMap (ax_need 42)).map some = ([267, 269, 1, 40, 194, 346, 347, 348, 42, 350, 52, 350, 52, 195, 132, 367, 53, 195, 383, 384, 385, 44] : List Nat).map (fun p => lw_tbl[p]?) := by decide +kernel
theorem dkX5_closed : inX5_closed.all (ax_dec cX5_closed) = true := by decide +kernel
theorem skX5_closed : inX5_closed.all (ax_stc 43) = true := by decide +kernel
theorem nkX5_closed : (inX5_closed.flatMap (ax_need 43)).map some = ([267, 269, 1, 40, 194, 102, 195, 410, 411, 412, 44] : List Nat).map (fun p => lw_tbl[p]?) := by decide +kernel
theorem dkX5_walk : inX5_walk.all (ax_dec cX5_walk) = true := by decide +kernel
theorem skX5_walk : inX5_walk.all (ax_stc 44) = true := by decide +kernel
theorem nkX5_walk : (inX5_walk.flatMap (ax_need 44)).map some = ([350, 52, 195, 245, 246, 247, 44, 423, 54, 196, 198, 197, 439, 440, 441, 45, 220, 222, 0, 40] : List Nat).map (fun p => lw_tbl[p]?) := by decide +kernel
theorem dkX5_step : inX5_step.all (ax_dec cX5_step) = true := by decide +kernel
theorem skX5_step : inX5_step.all (ax_stc 45) = true := by decide +kernel
theorem nkX5_step : (inX5_step.flatMap (ax_need 45)).map some = ([197, 76, 552, 56, 197, 73] : List Nat).map (fun p => lw_tbl[p]?) := by decide +kernel
theorem dkX5_go : inX5_go.all (ax_dec cX5_go) = true := by decide +kernel
theorem skX5_go : inX5_go.all (ax_stc 46) = true := by decide +kernel
theorem nkX5_go : (inX5_go.flatMap (ax_need 46)).map some = ([197, 76, 423, 54, 197, 73, 194, 102, 195, 120, 423, 54, 199, 195, 198, 224, 225, 226, 44, 199, 195, 129, 198, 197, 582, 583, 584, 41] : List Nat).map (fun p => lw_tbl[p]?) := by decide +kernel
theorem dkX5_missing : inX5_missing.all (ax_dec cX5_missing) = true := by decide +kernel
theorem skX5_missing : inX5_missing.all (ax_stc 47) = true := by decide +kernel
theorem nkX5_missing : (inX5_missing.flatMap (ax_need 47)).map some = ([593, 595, 21, 40, 195, 129, 423, 54, 195, 129, 197, 582, 583, 584, 41, 220, 222, 0, 40] : List Nat).map (fun p => lw_tbl[p]?) := by decide +kernel
theorem dkX5_left : inX5_left.all (ax_dec cX5_left) = true := by decide +kernel
theorem skX5_left : inX5_left.all (ax_stc 48) = true := by decide +kernel
theorem nkX5_left : (inX5_left.flatMap (ax_need 48)).map some = ([220, 222, 0, 40] : List Nat).map (fun p => lw_tbl[p]?) := by decide +kernel
theorem dkX5_bound : inX5_bound.all (ax_dec cX5_bound) = true := by decide +kernel
theorem skX5_bound : inX5_bound.all (ax_stc 49) = true := by decide +kernel
theorem nkX5_bound : (inX5_bound.flatMap (ax_need 49)).map some = ([195, 132, 195, 232, 233, 234, 44, 195, 198, 224, 225, 226, 44, 195, 224, 225, 226, 44, 236, 94, 43, 95] : List Nat).map (fun p => lw_tbl[p]?) := by decide +kernel
theorem dkX5_cart : inX5_cart.all (ax_dec cX5_cart) = true := by decide +kernel
theorem skX5_cart : inX5_cart.all (ax_stc 50) = true := by decide +kernel
theorem nkX5_cart : (inX5_cart.flatMap (ax_need 50)).map some = ([350, 52, 200] : List Nat).map (fun p => lw_tbl[p]?) := by decide +kernel
theorem dkX5_full : inX5_full.all (ax_dec cX5_full) = true := by decide +kernel
theorem skX5_full : inX5_full.all (ax_stc 51) = true := by decide +kernel
theorem nkX5_full : (inX5_full.flatMap (ax_need 51)).map some = ([198, 197, 76, 197, 73, 195, 127, 200, 195, 224, 225, 226, 44, 195, 224, 225, 226, 44, 195, 224, 225, 226, 44] : List Nat).map (fun p => lw_tbl[p]?) := by decide +kernel
theorem dkX5_share : inX5_share.all (ax_dec cX5_share) = true := by decide +kernel
theorem skX5_share : inX5_share.all (ax_stc 52) = true := by decide +kernel
theorem nkX5_share : (inX5_share.flatMap (ax_need 52)).map some = ([593, 595, 21, 40, 199, 615, 57, 195, 198, 224, 225, 226, 44, 199] : List Nat).map (fun p => lw_tbl[p]?) := by decide +kernel
theorem dkX5_far : inX5_far.all (ax_dec cX5_far) = true := by decide +kernel
theorem skX5_far : inX5_far.all (ax_stc 53) = true := by decide +kernel
theorem nkX5_far : (inX5_far.flatMap (ax_need 53)).map some = ([593, 595, 21, 40, 593, 595, 21, 40, 195, 224, 225, 226, 44] : List Nat).map (fun p => lw_tbl[p]?) := by decide +kernel
theorem dkX5_told : inX5_told.all (ax_dec cX5_told) = true := by decide +kernel
theorem skX5_told : inX5_told.all (ax_stc 54) = true := by decide +kernel
theorem nkX5_told : (inX5_told.flatMap (ax_need 54)).map some = ([593, 595, 21, 40, 195, 120, 195, 123, 195, 127, 195, 129, 195, 232, 233, 234, 44, 350, 52] : List Nat).map (fun p => lw_tbl[p]?) := by decide +kernel
theorem dkX5_count : inX5_count.all (ax_dec cX5_count) = true := by decide +kernel
theorem skX5_count : inX5_count.all (ax_stc 55) = true := by decide +kernel
theorem nkX5_count : (inX5_count.flatMap (ax_need 55)).map some = ([195, 132, 195, 245, 246, 247, 44, 197, 76, 194, 98, 194, 100, 199, 195, 250, 251, 252, 44, 198, 198] : List Nat).map (fun p => lw_tbl[p]?) := by decide +kernel
theorem dkX5_requireAisle : inX5_requireAisle.all (ax_dec cX5_requireAisle) = true := by decide +kernel
theorem skX5_requireAisle : inX5_requireAisle.all (ax_stc 56) = true := by decide +kernel
theorem nkX5_requireAisle : (inX5_requireAisle.flatMap (ax_need 56)).map some = ([194, 271, 272, 273, 42, 275, 51] : List Nat).map (fun p => lw_tbl[p]?) := by decide +kernel
theorem dkX5_requireStop : inX5_requireStop.all (ax_dec cX5_requireStop) = true := by decide +kernel
theorem skX5_requireStop : inX5_requireStop.all (ax_stc 57) = true := by decide +kernel
theorem nkX5_requireStop : (inX5_requireStop.flatMap (ax_need 57)).map some = ([195, 132, 275, 51] : List Nat).map (fun p => lw_tbl[p]?) := by decide +kernel
theorem dkX5_routeLength : inX5_routeLength.all (ax_dec cX5_routeLength) = true := by decide +kernel
theorem skX5_routeLength : inX5_routeLength.all (ax_stc 58) = true := by decide +kernel
theorem nkX5_routeLength : (inX5_routeLength.flatMap (ax_need 58)).map some = ([198, 197, 76, 195, 197, 73, 224, 225, 226, 44, 197, 73, 195, 224, 225, 226, 44] : List Nat).map (fun p => lw_tbl[p]?) := by decide +kernel
