set_option maxRecDepth 100000 in
theorem ckX0_init : lw_tbl[88]? = some (axCode 0) := by rfl
set_option maxRecDepth 100000 in
theorem ckX0_hasAisle : lw_tbl[274]? = some (axCode 1) := by rfl
set_option maxRecDepth 100000 in
theorem ckX0_hasPlace : lw_tbl[349]? = some (axCode 2) := by rfl
set_option maxRecDepth 100000 in
theorem ckX0_backDepth : lw_tbl[537]? = some (axCode 3) := by rfl
set_option maxRecDepth 100000 in
theorem ckX0_placeDepth : lw_tbl[390]? = some (axCode 4) := by rfl
set_option maxRecDepth 100000 in
theorem ckX0_between : lw_tbl[398]? = some (axCode 5) := by rfl
set_option maxRecDepth 100000 in
theorem ckX1_init : lw_tbl[163]? = some (axCode 6) := by rfl
set_option maxRecDepth 100000 in
theorem ckX1_lay : lw_tbl[451]? = some (axCode 7) := by rfl
set_option maxRecDepth 100000 in
theorem ckX1_gather : lw_tbl[455]? = some (axCode 8) := by rfl
set_option maxRecDepth 100000 in
theorem ckX1_fillRests : lw_tbl[460]? = some (axCode 9) := by rfl
set_option maxRecDepth 100000 in
theorem ckX1_bestNext : lw_tbl[468]? = some (axCode 10) := by rfl
set_option maxRecDepth 100000 in
theorem ckX1_isIn : lw_tbl[464]? = some (axCode 11) := by rfl
set_option maxRecDepth 100000 in
theorem ckX1_lengthBy : lw_tbl[473]? = some (axCode 12) := by rfl
set_option maxRecDepth 100000 in
theorem ckX2_init : lw_tbl[157]? = some (axCode 13) := by rfl
set_option maxRecDepth 100000 in
theorem ckX2_lay : lw_tbl[442]? = some (axCode 14) := by rfl
set_option maxRecDepth 100000 in
theorem ckX2_layNearest : lw_tbl[485]? = some (axCode 15) := by rfl
set_option maxRecDepth 100000 in
theorem ckX2_nearestFrom : lw_tbl[490]? = some (axCode 16) := by rfl
set_option maxRecDepth 100000 in
theorem ckX2_layByKeys : lw_tbl[497]? = some (axCode 17) := by rfl
set_option maxRecDepth 100000 in
theorem ckX2_keyOf : lw_tbl[501]? = some (axCode 18) := by rfl
set_option maxRecDepth 100000 in
theorem ckX2_throughKey : lw_tbl[542]? = some (axCode 19) := by rfl
set_option maxRecDepth 100000 in
theorem ckX2_gapKey : lw_tbl[505]? = some (axCode 20) := by rfl
set_option maxRecDepth 100000 in
theorem ckX2_upward : lw_tbl[517]? = some (axCode 21) := by rfl
set_option maxRecDepth 100000 in
theorem ckX2_downward : lw_tbl[525]? = some (axCode 22) := by rfl
set_option maxRecDepth 100000 in
theorem ckX2_usedAislesBelow : lw_tbl[509]? = some (axCode 23) := by rfl
set_option maxRecDepth 100000 in
theorem ckX2_isUsedAbove : lw_tbl[521]? = some (axCode 24) := by rfl
set_option maxRecDepth 100000 in
theorem ckX2_isUsed : lw_tbl[513]? = some (axCode 25) := by rfl
set_option maxRecDepth 100000 in
theorem ckX2_gapStart : lw_tbl[529]? = some (axCode 26) := by rfl
set_option maxRecDepth 100000 in
theorem ckX2_nextDepth : lw_tbl[533]? = some (axCode 27) := by rfl
set_option maxRecDepth 100000 in
theorem ckX3_init : lw_tbl[70]? = some (axCode 28) := by rfl
set_option maxRecDepth 100000 in
theorem ckX3_clear : lw_tbl[446]? = some (axCode 29) := by rfl
set_option maxRecDepth 100000 in
theorem ckX3_insert : lw_tbl[481]? = some (axCode 30) := by rfl
set_option maxRecDepth 100000 in
theorem ckX3_append : lw_tbl[477]? = some (axCode 31) := by rfl
set_option maxRecDepth 100000 in
theorem ckX3_drop : lw_tbl[585]? = some (axCode 32) := by rfl
set_option maxRecDepth 100000 in
theorem ckX4_init : lw_tbl[116]? = some (axCode 33) := by rfl
set_option maxRecDepth 100000 in
theorem ckX4_add : lw_tbl[386]? = some (axCode 34) := by rfl
set_option maxRecDepth 100000 in
theorem ckX4_measure : lw_tbl[394]? = some (axCode 35) := by rfl
set_option maxRecDepth 100000 in
theorem ckX4_way : lw_tbl[227]? = some (axCode 36) := by rfl
set_option maxRecDepth 100000 in
theorem ckX4_isWalked : lw_tbl[235]? = some (axCode 37) := by rfl
set_option maxRecDepth 100000 in
theorem ckX4_walkedOnes : lw_tbl[248]? = some (axCode 38) := by rfl
set_option maxRecDepth 100000 in
theorem ckX4_doneOnes : lw_tbl[253]? = some (axCode 39) := by rfl
set_option maxRecDepth 100000 in
theorem ckX4_openIn : lw_tbl[413]? = some (axCode 40) := by rfl
set_option maxRecDepth 100000 in
theorem ckX5_init : lw_tbl[62]? = some (axCode 41) := by rfl
set_option maxRecDepth 100000 in
theorem ckX5_stop : lw_tbl[266]? = some (axCode 42) := by rfl
set_option maxRecDepth 100000 in
theorem ckX5_closed : lw_tbl[409]? = some (axCode 43) := by rfl
set_option maxRecDepth 100000 in
theorem ckX5_walk : lw_tbl[421]? = some (axCode 44) := by rfl
set_option maxRecDepth 100000 in
theorem ckX5_step : lw_tbl[551]? = some (axCode 45) := by rfl
set_option maxRecDepth 100000 in
theorem ckX5_go : lw_tbl[579]? = some (axCode 46) := by rfl
set_option maxRecDepth 100000 in
theorem ckX5_missing : lw_tbl[592]? = some (axCode 47) := by rfl
set_option maxRecDepth 100000 in
theorem ckX5_left : lw_tbl[219]? = some (axCode 48) := by rfl
set_option maxRecDepth 100000 in
theorem ckX5_bound : lw_tbl[231]? = some (axCode 49) := by rfl
set_option maxRecDepth 100000 in
theorem ckX5_cart : lw_tbl[605]? = some (axCode 50) := by rfl
set_option maxRecDepth 100000 in
theorem ckX5_full : lw_tbl[240]? = some (axCode 51) := by rfl
set_option maxRecDepth 100000 in
theorem ckX5_share : lw_tbl[614]? = some (axCode 52) := by rfl
set_option maxRecDepth 100000 in
theorem ckX5_far : lw_tbl[637]? = some (axCode 53) := by rfl
set_option maxRecDepth 100000 in
theorem ckX5_told : lw_tbl[644]? = some (axCode 54) := by rfl
set_option maxRecDepth 100000 in
theorem ckX5_count : lw_tbl[244]? = some (axCode 55) := by rfl
set_option maxRecDepth 100000 in
theorem ckX5_requireAisle : lw_tbl[270]? = some (axCode 56) := by rfl
set_option maxRecDepth 100000 in
theorem ckX5_requireStop : lw_tbl[596]? = some (axCode 57) := by rfl
set_option maxRecDepth 100000 in
theorem ckX5_routeLength : lw_tbl[223]? = some (axCode 58) := by rfl
set_option maxRecDepth 100000 in
theorem ckX6_init : lw_tbl[650]? = some (axCode 59) := by rfl
set_option maxRecDepth 100000 in
theorem ckX6_thrown : lw_tbl[710]? = some (axCode 60) := by rfl
set_option maxRecDepth 100000 in
theorem ckX6_in : lw_tbl[721]? = some (axCode 61) := by rfl
set_option maxRecDepth 100000 in
theorem ckX6_isStop : lw_tbl[809]? = some (axCode 62) := by rfl
set_option maxRecDepth 100000 in
theorem ckX6_isAisle : lw_tbl[718]? = some (axCode 63) := by rfl
set_option maxRecDepth 100000 in
theorem ckX6_stop : lw_tbl[714]? = some (axCode 64) := by rfl
set_option maxRecDepth 100000 in
theorem ckX6_closed : lw_tbl[725]? = some (axCode 65) := by rfl
set_option maxRecDepth 100000 in
theorem ckX6_isWalked : lw_tbl[737]? = some (axCode 66) := by rfl
set_option maxRecDepth 100000 in
theorem ckX6_walked : lw_tbl[733]? = some (axCode 67) := by rfl
set_option maxRecDepth 100000 in
theorem ckX6_apart : lw_tbl[780]? = some (axCode 68) := by rfl
set_option maxRecDepth 100000 in
theorem ckX6_aisleOf : lw_tbl[777]? = some (axCode 69) := by rfl
set_option maxRecDepth 100000 in
theorem ckX6_depthOf : lw_tbl[765]? = some (axCode 70) := by rfl
set_option maxRecDepth 100000 in
theorem ckX6_way : lw_tbl[773]? = some (axCode 71) := by rfl
set_option maxRecDepth 100000 in
theorem ckX6_length : lw_tbl[789]? = some (axCode 72) := by rfl
set_option maxRecDepth 100000 in
theorem ckX6_add : lw_tbl[753]? = some (axCode 73) := by rfl
set_option maxRecDepth 100000 in
theorem ckX6_addAisle : lw_tbl[749]? = some (axCode 74) := by rfl
set_option maxRecDepth 100000 in
theorem ckX6_hasLeft : lw_tbl[745]? = some (axCode 75) := by rfl
set_option maxRecDepth 100000 in
theorem ckX6_through : lw_tbl[741]? = some (axCode 76) := by rfl
set_option maxRecDepth 100000 in
theorem ckX6_gap : lw_tbl[761]? = some (axCode 77) := by rfl
set_option maxRecDepth 100000 in
theorem ckX6_gaps : lw_tbl[757]? = some (axCode 78) := by rfl
set_option maxRecDepth 100000 in
theorem ckX6_nearest : lw_tbl[769]? = some (axCode 79) := by rfl
set_option maxRecDepth 100000 in
theorem ckX6_least : lw_tbl[785]? = some (axCode 80) := by rfl
set_option maxRecDepth 100000 in
theorem ckX6_walk : lw_tbl[729]? = some (axCode 81) := by rfl
set_option maxRecDepth 100000 in
theorem ckX6_step : lw_tbl[793]? = some (axCode 82) := by rfl
set_option maxRecDepth 100000 in
theorem ckX6_remove : lw_tbl[801]? = some (axCode 83) := by rfl
set_option maxRecDepth 100000 in
theorem ckX6_go : lw_tbl[797]? = some (axCode 84) := by rfl
set_option maxRecDepth 100000 in
theorem ckX6_missing : lw_tbl[805]? = some (axCode 85) := by rfl
set_option maxRecDepth 100000 in
theorem ckX6_left : lw_tbl[813]? = some (axCode 86) := by rfl
set_option maxRecDepth 100000 in
theorem ckX6_bound : lw_tbl[817]? = some (axCode 87) := by rfl
set_option maxRecDepth 100000 in
theorem ckX6_cart : lw_tbl[821]? = some (axCode 88) := by rfl
set_option maxRecDepth 100000 in
theorem ckX6_full : lw_tbl[825]? = some (axCode 89) := by rfl
set_option maxRecDepth 100000 in
theorem ckX6_share : lw_tbl[829]? = some (axCode 90) := by rfl
set_option maxRecDepth 100000 in
theorem ckX6_far : lw_tbl[833]? = some (axCode 91) := by rfl
set_option maxRecDepth 100000 in
theorem ckX6_told : lw_tbl[837]? = some (axCode 92) := by rfl
set_option maxRecDepth 100000 in
theorem ckX6_count : lw_tbl[841]? = some (axCode 93) := by rfl
set_option maxRecDepth 100000 in
theorem ckL_cell : lw_tbl[256]? = some (axCode 94) := by rfl
set_option maxRecDepth 100000 in
theorem ckL_stop : lw_tbl[259]? = some (axCode 95) := by rfl
set_option maxRecDepth 100000 in
theorem ckL_closed : lw_tbl[405]? = some (axCode 96) := by rfl
set_option maxRecDepth 100000 in
theorem ckL_walk : lw_tbl[416]? = some (axCode 97) := by rfl
set_option maxRecDepth 100000 in
theorem ckL_step : lw_tbl[546]? = some (axCode 98) := by rfl
set_option maxRecDepth 100000 in
theorem ckL_go : lw_tbl[575]? = some (axCode 99) := by rfl
set_option maxRecDepth 100000 in
theorem ckL_missing : lw_tbl[588]? = some (axCode 100) := by rfl
set_option maxRecDepth 100000 in
theorem ckL_cart : lw_tbl[601]? = some (axCode 101) := by rfl
set_option maxRecDepth 100000 in
theorem ckL_share : lw_tbl[609]? = some (axCode 102) := by rfl
set_option maxRecDepth 100000 in
theorem ckL_far : lw_tbl[633]? = some (axCode 103) := by rfl
set_option maxRecDepth 100000 in
theorem ckL_told : lw_tbl[640]? = some (axCode 104) := by rfl
theorem ax_dk : ∀ i, i < 106 → (axT i).all (ax_dec (axB i)) = true := fun i hi => match i, hi with
  | 0, _ => dkX0_init
  | 1, _ => dkX0_hasAisle
  | 2, _ => dkX0_hasPlace
  | 3, _ => dkX0_backDepth
  | 4, _ => dkX0_placeDepth
  | 5, _ => dkX0_between
  | 6, _ => dkX1_init
  | 7, _ => dkX1_lay
  | 8, _ => dkX1_gather
  | 9, _ => dkX1_fillRests
  | 10, _ => dkX1_bestNext
  | 11, _ => dkX1_isIn
  | 12, _ => dkX1_lengthBy
  | 13, _ => dkX2_init
  | 14, _ => dkX2_lay
  | 15, _ => dkX2_layNearest
  | 16, _ => dkX2_nearestFrom
  | 17, _ => dkX2_layByKeys
  | 18, _ => dkX2_keyOf
  | 19, _ => dkX2_throughKey
  | 20, _ => dkX2_gapKey
  | 21, _ => dkX2_upward
  | 22, _ => dkX2_downward
  | 23, _ => dkX2_usedAislesBelow
  | 24, _ => dkX2_isUsedAbove
  | 25, _ => dkX2_isUsed
  | 26, _ => dkX2_gapStart
  | 27, _ => dkX2_nextDepth
  | 28, _ => dkX3_init
  | 29, _ => dkX3_clear
  | 30, _ => dkX3_insert
  | 31, _ => dkX3_append
  | 32, _ => dkX3_drop
  | 33, _ => dkX4_init
  | 34, _ => dkX4_add
  | 35, _ => dkX4_measure
  | 36, _ => dkX4_way
  | 37, _ => dkX4_isWalked
  | 38, _ => dkX4_walkedOnes
  | 39, _ => dkX4_doneOnes
  | 40, _ => dkX4_openIn
  | 41, _ => dkX5_init
  | 42, _ => dkX5_stop
  | 43, _ => dkX5_closed
  | 44, _ => dkX5_walk
  | 45, _ => dkX5_step
  | 46, _ => dkX5_go
  | 47, _ => dkX5_missing
  | 48, _ => dkX5_left
  | 49, _ => dkX5_bound
  | 50, _ => dkX5_cart
  | 51, _ => dkX5_full
  | 52, _ => dkX5_share
  | 53, _ => dkX5_far
  | 54, _ => dkX5_told
  | 55, _ => dkX5_count
  | 56, _ => dkX5_requireAisle
  | 57, _ => dkX5_requireStop
  | 58, _ => dkX5_routeLength
  | 59, _ => dkX6_init
  | 60, _ => dkX6_thrown
  | 61, _ => dkX6_in
  | 62, _ => dkX6_isStop
  | 63, _ => dkX6_isAisle
  | 64, _ => dkX6_stop
  | 65, _ => dkX6_closed
  | 66, _ => dkX6_isWalked
  | 67, _ => dkX6_walked
  | 68, _ => dkX6_apart
  | 69, _ => dkX6_aisleOf
  | 70, _ => dkX6_depthOf
  | 71, _ => dkX6_way
  | 72, _ => dkX6_length
  | 73, _ => dkX6_add
  | 74, _ => dkX6_addAisle
  | 75, _ => dkX6_hasLeft
  | 76, _ => dkX6_through
  | 77, _ => dkX6_gap
  | 78, _ => dkX6_gaps
  | 79, _ => dkX6_nearest
  | 80, _ => dkX6_least
  | 81, _ => dkX6_walk
  | 82, _ => dkX6_step
  | 83, _ => dkX6_remove
  | 84, _ => dkX6_go
  | 85, _ => dkX6_missing
  | 86, _ => dkX6_left
  | 87, _ => dkX6_bound
  | 88, _ => dkX6_cart
  | 89, _ => dkX6_full
  | 90, _ => dkX6_share
  | 91, _ => dkX6_far
  | 92, _ => dkX6_told
  | 93, _ => dkX6_count
  | 94, _ => dkL_cell
  | 95, _ => dkL_stop
  | 96, _ => dkL_closed
  | 97, _ => dkL_walk
  | 98, _ => dkL_step
  | 99, _ => dkL_go
  | 100, _ => dkL_missing
  | 101, _ => dkL_cart
  | 102, _ => dkL_share
  | 103, _ => dkL_far
  | 104, _ => dkL_told
  | 105, _ => dkL_law
  | n + 106, h => absurd h (by omega)
theorem ax_sk : ∀ i, i < 106 → (axT i).all (ax_stc i) = true := fun i hi => match i, hi with
  | 0, _ => skX0_init
  | 1, _ => skX0_hasAisle
  | 2, _ => skX0_hasPlace
  | 3, _ => skX0_backDepth
  | 4, _ => skX0_placeDepth
  | 5, _ => skX0_between
  | 6, _ => skX1_init
  | 7, _ => skX1_lay
  | 8, _ => skX1_gather
  | 9, _ => skX1_fillRests
  | 10, _ => skX1_bestNext
  | 11, _ => skX1_isIn
  | 12, _ => skX1_lengthBy
  | 13, _ => skX2_init
  | 14, _ => skX2_lay
  | 15, _ => skX2_layNearest
  | 16, _ => skX2_nearestFrom
  | 17, _ => skX2_layByKeys
  | 18, _ => skX2_keyOf
  | 19, _ => skX2_throughKey
  | 20, _ => skX2_gapKey
  | 21, _ => skX2_upward
  | 22, _ => skX2_downward
  | 23, _ => skX2_usedAislesBelow
  | 24, _ => skX2_isUsedAbove
  | 25, _ => skX2_isUsed
  | 26, _ => skX2_gapStart
  | 27, _ => skX2_nextDepth
  | 28, _ => skX3_init
  | 29, _ => skX3_clear
  | 30, _ => skX3_insert
  | 31, _ => skX3_append
  | 32, _ => skX3_drop
  | 33, _ => skX4_init
  | 34, _ => skX4_add
  | 35, _ => skX4_measure
  | 36, _ => skX4_way
  | 37, _ => skX4_isWalked
  | 38, _ => skX4_walkedOnes
  | 39, _ => skX4_doneOnes
  | 40, _ => skX4_openIn
  | 41, _ => skX5_init
  | 42, _ => skX5_stop
  | 43, _ => skX5_closed
  | 44, _ => skX5_walk
  | 45, _ => skX5_step
  | 46, _ => skX5_go
  | 47, _ => skX5_missing
  | 48, _ => skX5_left
  | 49, _ => skX5_bound
  | 50, _ => skX5_cart
  | 51, _ => skX5_full
  | 52, _ => skX5_share
  | 53, _ => skX5_far
  | 54, _ => skX5_told
  | 55, _ => skX5_count
  | 56, _ => skX5_requireAisle
  | 57, _ => skX5_requireStop
  | 58, _ => skX5_routeLength
  | 59, _ => skX6_init
  | 60, _ => skX6_thrown
  | 61, _ => skX6_in
  | 62, _ => skX6_isStop
  | 63, _ => skX6_isAisle
  | 64, _ => skX6_stop
  | 65, _ => skX6_closed
  | 66, _ => skX6_isWalked
  | 67, _ => skX6_walked
  | 68, _ => skX6_apart
  | 69, _ => skX6_aisleOf
  | 70, _ => skX6_depthOf
  | 71, _ => skX6_way
  | 72, _ => skX6_length
  | 73, _ => skX6_add
  | 74, _ => skX6_addAisle
  | 75, _ => skX6_hasLeft
  | 76, _ => skX6_through
  | 77, _ => skX6_gap
  | 78, _ => skX6_gaps
  | 79, _ => skX6_nearest
  | 80, _ => skX6_least
  | 81, _ => skX6_walk
  | 82, _ => skX6_step
  | 83, _ => skX6_remove
  | 84, _ => skX6_go
  | 85, _ => skX6_missing
  | 86, _ => skX6_left
  | 87, _ => skX6_bound
  | 88, _ => skX6_cart
  | 89, _ => skX6_full
  | 90, _ => skX6_share
  | 91, _ => skX6_far
  | 92, _ => skX6_told
  | 93, _ => skX6_count
  | 94, _ => skL_cell
  | 95, _ => skL_stop
  | 96, _ => skL_closed
  | 97, _ => skL_walk
  | 98, _ => skL_step
  | 99, _ => skL_go
  | 100, _ => skL_missing
  | 101, _ => skL_cart
  | 102, _ => skL_share
  | 103, _ => skL_far
  | 104, _ => skL_told
  | 105, _ => skL_law
  | n + 106, h => absurd h (by omega)
theorem ax_nk : ∀ i, i < 106 → ∃ ps : List Nat, ((axT i).flatMap (ax_need i)).map some = ps.map (fun p => lw_tbl[p]?) := fun i hi => match i, hi with
  | 0, _ => ⟨_, nkX0_init⟩
  | 1, _ => ⟨_, nkX0_hasAisle⟩
  | 2, _ => ⟨_, nkX0_hasPlace⟩
  | 3, _ => ⟨_, nkX0_backDepth⟩
  | 4, _ => ⟨_, nkX0_placeDepth⟩
  | 5, _ => ⟨_, nkX0_between⟩
  | 6, _ => ⟨_, nkX1_init⟩
  | 7, _ => ⟨_, nkX1_lay⟩
  | 8, _ => ⟨_, nkX1_gather⟩
  | 9, _ => ⟨_, nkX1_fillRests⟩
  | 10, _ => ⟨_, nkX1_bestNext⟩
  | 11, _ => ⟨_, nkX1_isIn⟩
  | 12, _ => ⟨_, nkX1_lengthBy⟩
  | 13, _ => ⟨_, nkX2_init⟩
  | 14, _ => ⟨_, nkX2_lay⟩
  | 15, _ => ⟨_, nkX2_layNearest⟩
  | 16, _ => ⟨_, nkX2_nearestFrom⟩
  | 17, _ => ⟨_, nkX2_layByKeys⟩
  | 18, _ => ⟨_, nkX2_keyOf⟩
  | 19, _ => ⟨_, nkX2_throughKey⟩
  | 20, _ => ⟨_, nkX2_gapKey⟩
  | 21, _ => ⟨_, nkX2_upward⟩
  | 22, _ => ⟨_, nkX2_downward⟩
  | 23, _ => ⟨_, nkX2_usedAislesBelow⟩
  | 24, _ => ⟨_, nkX2_isUsedAbove⟩
  | 25, _ => ⟨_, nkX2_isUsed⟩
  | 26, _ => ⟨_, nkX2_gapStart⟩
  | 27, _ => ⟨_, nkX2_nextDepth⟩
  | 28, _ => ⟨_, nkX3_init⟩
  | 29, _ => ⟨_, nkX3_clear⟩
  | 30, _ => ⟨_, nkX3_insert⟩
  | 31, _ => ⟨_, nkX3_append⟩
  | 32, _ => ⟨_, nkX3_drop⟩
  | 33, _ => ⟨_, nkX4_init⟩
  | 34, _ => ⟨_, nkX4_add⟩
  | 35, _ => ⟨_, nkX4_measure⟩
  | 36, _ => ⟨_, nkX4_way⟩
  | 37, _ => ⟨_, nkX4_isWalked⟩
  | 38, _ => ⟨_, nkX4_walkedOnes⟩
  | 39, _ => ⟨_, nkX4_doneOnes⟩
  | 40, _ => ⟨_, nkX4_openIn⟩
  | 41, _ => ⟨_, nkX5_init⟩
  | 42, _ => ⟨_, nkX5_stop⟩
  | 43, _ => ⟨_, nkX5_closed⟩
  | 44, _ => ⟨_, nkX5_walk⟩
  | 45, _ => ⟨_, nkX5_step⟩
  | 46, _ => ⟨_, nkX5_go⟩
  | 47, _ => ⟨_, nkX5_missing⟩
  | 48, _ => ⟨_, nkX5_left⟩
  | 49, _ => ⟨_, nkX5_bound⟩
  | 50, _ => ⟨_, nkX5_cart⟩
  | 51, _ => ⟨_, nkX5_full⟩
  | 52, _ => ⟨_, nkX5_share⟩
  | 53, _ => ⟨_, nkX5_far⟩
  | 54, _ => ⟨_, nkX5_told⟩
  | 55, _ => ⟨_, nkX5_count⟩
  | 56, _ => ⟨_, nkX5_requireAisle⟩
  | 57, _ => ⟨_, nkX5_requireStop⟩
  | 58, _ => ⟨_, nkX5_routeLength⟩
  | 59, _ => ⟨_, nkX6_init⟩
  | 60, _ => ⟨_, nkX6_thrown⟩
  | 61, _ => ⟨_, nkX6_in⟩
  | 62, _ => ⟨_, nkX6_isStop⟩
  | 63, _ => ⟨_, nkX6_isAisle⟩
  | 64, _ => ⟨_, nkX6_stop⟩
  | 65, _ => ⟨_, nkX6_closed⟩
  | 66, _ => ⟨_, nkX6_isWalked⟩
  | 67, _ => ⟨_, nkX6_walked⟩
  | 68, _ => ⟨_, nkX6_apart⟩
  | 69, _ => ⟨_, nkX6_aisleOf⟩
  | 70, _ => ⟨_, nkX6_depthOf⟩
  | 71, _ => ⟨_, nkX6_way⟩
  | 72, _ => ⟨_, nkX6_length⟩
  | 73, _ => ⟨_, nkX6_add⟩
  | 74, _ => ⟨_, nkX6_addAisle⟩
  | 75, _ => ⟨_, nkX6_hasLeft⟩
  | 76, _ => ⟨_, nkX6_through⟩
  | 77, _ => ⟨_, nkX6_gap⟩
  | 78, _ => ⟨_, nkX6_gaps⟩
  | 79, _ => ⟨_, nkX6_nearest⟩
  | 80, _ => ⟨_, nkX6_least⟩
  | 81, _ => ⟨_, nkX6_walk⟩
  | 82, _ => ⟨_, nkX6_step⟩
  | 83, _ => ⟨_, nkX6_remove⟩
  | 84, _ => ⟨_, nkX6_go⟩
  | 85, _ => ⟨_, nkX6_missing⟩
  | 86, _ => ⟨_, nkX6_left⟩
  | 87, _ => ⟨_, nkX6_bound⟩
  | 88, _ => ⟨_, nkX6_cart⟩
  | 89, _ => ⟨_, nkX6_full⟩
  | 90, _ => ⟨_, nkX6_share⟩
  | 91, _ => ⟨_, nkX6_far⟩
  | 92, _ => ⟨_, nkX6_told⟩
  | 93, _ => ⟨_, nkX6_count⟩
  | 94, _ => ⟨_, nkL_cell⟩
  | 95, _ => ⟨_, nkL_stop⟩
  | 96, _ => ⟨_, nkL_closed⟩
  | 97, _ => ⟨_, nkL_walk⟩
  | 98, _ => ⟨_, nkL_step⟩
  | 99, _ => ⟨_, nkL_go⟩
  | 100, _ => ⟨_, nkL_missing⟩
  | 101, _ => ⟨_, nkL_cart⟩
  | 102, _ => ⟨_, nkL_share⟩
  | 103, _ => ⟨_, nkL_far⟩
  | 104, _ => ⟨_, nkL_told⟩
  | 105, _ => ⟨_, nkL_law⟩
  | n + 106, h => absurd h (by omega)
theorem ax_ck : ∀ i, i < 105 → ∃ p : Nat, lw_tbl[p]? = some (axCode i) := fun i hi => match i, hi with
  | 0, _ => ⟨_, ckX0_init⟩
  | 1, _ => ⟨_, ckX0_hasAisle⟩
  | 2, _ => ⟨_, ckX0_hasPlace⟩
  | 3, _ => ⟨_, ckX0_backDepth⟩
  | 4, _ => ⟨_, ckX0_placeDepth⟩
  | 5, _ => ⟨_, ckX0_between⟩
  | 6, _ => ⟨_, ckX1_init⟩
  | 7, _ => ⟨_, ckX1_lay⟩
  | 8, _ => ⟨_, ckX1_gather⟩
  | 9, _ => ⟨_, ckX1_fillRests⟩
  | 10, _ => ⟨_, ckX1_bestNext⟩
  | 11, _ => ⟨_, ckX1_isIn⟩
  | 12, _ => ⟨_, ckX1_lengthBy⟩
  | 13, _ => ⟨_, ckX2_init⟩
  | 14, _ => ⟨_, ckX2_lay⟩
  | 15, _ => ⟨_, ckX2_layNearest⟩
  | 16, _ => ⟨_, ckX2_nearestFrom⟩
  | 17, _ => ⟨_, ckX2_layByKeys⟩
  | 18, _ => ⟨_, ckX2_keyOf⟩
  | 19, _ => ⟨_, ckX2_throughKey⟩
  | 20, _ => ⟨_, ckX2_gapKey⟩
  | 21, _ => ⟨_, ckX2_upward⟩
  | 22, _ => ⟨_, ckX2_downward⟩
  | 23, _ => ⟨_, ckX2_usedAislesBelow⟩
  | 24, _ => ⟨_, ckX2_isUsedAbove⟩
  | 25, _ => ⟨_, ckX2_isUsed⟩
  | 26, _ => ⟨_, ckX2_gapStart⟩
  | 27, _ => ⟨_, ckX2_nextDepth⟩
  | 28, _ => ⟨_, ckX3_init⟩
  | 29, _ => ⟨_, ckX3_clear⟩
  | 30, _ => ⟨_, ckX3_insert⟩
  | 31, _ => ⟨_, ckX3_append⟩
  | 32, _ => ⟨_, ckX3_drop⟩
  | 33, _ => ⟨_, ckX4_init⟩
  | 34, _ => ⟨_, ckX4_add⟩
  | 35, _ => ⟨_, ckX4_measure⟩
  | 36, _ => ⟨_, ckX4_way⟩
  | 37, _ => ⟨_, ckX4_isWalked⟩
  | 38, _ => ⟨_, ckX4_walkedOnes⟩
  | 39, _ => ⟨_, ckX4_doneOnes⟩
  | 40, _ => ⟨_, ckX4_openIn⟩
  | 41, _ => ⟨_, ckX5_init⟩
  | 42, _ => ⟨_, ckX5_stop⟩
  | 43, _ => ⟨_, ckX5_closed⟩
  | 44, _ => ⟨_, ckX5_walk⟩
  | 45, _ => ⟨_, ckX5_step⟩
  | 46, _ => ⟨_, ckX5_go⟩
  | 47, _ => ⟨_, ckX5_missing⟩
  | 48, _ => ⟨_, ckX5_left⟩
  | 49, _ => ⟨_, ckX5_bound⟩
  | 50, _ => ⟨_, ckX5_cart⟩
  | 51, _ => ⟨_, ckX5_full⟩
  | 52, _ => ⟨_, ckX5_share⟩
  | 53, _ => ⟨_, ckX5_far⟩
  | 54, _ => ⟨_, ckX5_told⟩
  | 55, _ => ⟨_, ckX5_count⟩
  | 56, _ => ⟨_, ckX5_requireAisle⟩
  | 57, _ => ⟨_, ckX5_requireStop⟩
  | 58, _ => ⟨_, ckX5_routeLength⟩
  | 59, _ => ⟨_, ckX6_init⟩
  | 60, _ => ⟨_, ckX6_thrown⟩
  | 61, _ => ⟨_, ckX6_in⟩
  | 62, _ => ⟨_, ckX6_isStop⟩
  | 63, _ => ⟨_, ckX6_isAisle⟩
  | 64, _ => ⟨_, ckX6_stop⟩
  | 65, _ => ⟨_, ckX6_closed⟩
  | 66, _ => ⟨_, ckX6_isWalked⟩
  | 67, _ => ⟨_, ckX6_walked⟩
  | 68, _ => ⟨_, ckX6_apart⟩
  | 69, _ => ⟨_, ckX6_aisleOf⟩
  | 70, _ => ⟨_, ckX6_depthOf⟩
  | 71, _ => ⟨_, ckX6_way⟩
  | 72, _ => ⟨_, ckX6_length⟩
  | 73, _ => ⟨_, ckX6_add⟩
  | 74, _ => ⟨_, ckX6_addAisle⟩
  | 75, _ => ⟨_, ckX6_hasLeft⟩
  | 76, _ => ⟨_, ckX6_through⟩
  | 77, _ => ⟨_, ckX6_gap⟩
  | 78, _ => ⟨_, ckX6_gaps⟩
  | 79, _ => ⟨_, ckX6_nearest⟩
  | 80, _ => ⟨_, ckX6_least⟩
  | 81, _ => ⟨_, ckX6_walk⟩
  | 82, _ => ⟨_, ckX6_step⟩
  | 83, _ => ⟨_, ckX6_remove⟩
  | 84, _ => ⟨_, ckX6_go⟩
  | 85, _ => ⟨_, ckX6_missing⟩
  | 86, _ => ⟨_, ckX6_left⟩
  | 87, _ => ⟨_, ckX6_bound⟩
  | 88, _ => ⟨_, ckX6_cart⟩
  | 89, _ => ⟨_, ckX6_full⟩
  | 90, _ => ⟨_, ckX6_share⟩
  | 91, _ => ⟨_, ckX6_far⟩
  | 92, _ => ⟨_, ckX6_told⟩
  | 93, _ => ⟨_, ckX6_count⟩
  | 94, _ => ⟨_, ckL_cell⟩
  | 95, _ => ⟨_, ckL_stop⟩
  | 96, _ => ⟨_, ckL_closed⟩
  | 97, _ => ⟨_, ckL_walk⟩
  | 98, _ => ⟨_, ckL_step⟩
  | 99, _ => ⟨_, ckL_go⟩
  | 100, _ => ⟨_, ckL_missing⟩
  | 101, _ => ⟨_, ckL_cart⟩
  | 102, _ => ⟨_, ckL_share⟩
  | 103, _ => ⟨_, ckL_far⟩
  | 104, _ => ⟨_, ckL_told⟩
  | n + 105, h => absurd h (by omega)
