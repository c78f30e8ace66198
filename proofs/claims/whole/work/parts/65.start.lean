/-! The objects are made -/
section V4
variable {L : Nat} {xs : Nat → Int32} {d a b : Nat} {A B : Int}
set_option maxHeartbeats 4000000 in
theorem c_route : bE L xs d MX3_init (0, [(0, bR 2)], [], [.inr (5, [bN, bN, bN, bN, bI 0, bI 0, bI 0]), .inr (3, [bN, bI 0])], a, b) (rV [.inr (5, [bN, bN, bN, bN, bI 0, bI 0, bI 0]), .inr (3, [bR 3, bI 0]), .inl (0, 10, fun _ => 0)] (a + 1) (b + 10)) := by
  exact go [] [] rfl (by omega) (rtv rfl rfl rfl)
set_option maxHeartbeats 4000000 in
theorem c_floor : bE L xs d MX0_init (0, [(0, bR 4), (1, bI A), (2, bI B)], [], [.inr (5, [bN, bN, bN, bR 2, bI 10, bI 0, bI 100]), .inr (3, [bR 3, bI 0]), .inl (0, 10, fun _ => 0), .inr (0, [bI 0, bI 0, bN])], a, b) (rV [.inr (5, [bN, bN, bN, bR 2, bI 10, bI 0, bI 100]), .inr (3, [bR 3, bI 0]), .inl (0, 10, fun _ => 0), .inr (0, [bI (max 1 (min 8 A)), bI (max 1 (min 3 B)), bR 5]), .inl (1, 8, fun _ => 0)] (a + 1) (b + 8)) := by
  exact go [] [] rfl (by omega) (rtv rfl rfl rfl)
set_option maxHeartbeats 4000000 in
theorem c_stops : bE L xs d MX4_init (0, [(0, bR 6), (1, bR 4)], [], [.inr (5, [bR 4, bN, bN, bR 2, bI 10, bI 0, bI 100]), .inr (3, [bR 3, bI 0]), .inl (0, 10, fun _ => 0), .inr (0, [bI (max 1 (min 8 A)), bI (max 1 (min 3 B)), bR 5]), .inl (1, 8, fun _ => 0), .inr (4, [bN, bN, bN, bN, bN, bI 0, bN, bN])], a, b) (rV [.inr (5, [bR 4, bN, bN, bR 2, bI 10, bI 0, bI 100]), .inr (3, [bR 3, bI 0]), .inl (0, 10, fun _ => 0), .inr (0, [bI (max 1 (min 8 A)), bI (max 1 (min 3 B)), bR 5]), .inl (1, 8, fun _ => 0), .inr (4, [bR 7, bR 8, bR 9, bR 10, bR 11, bI 0, bR 4, bR 12]), .inl (0, 11, fun _ => 0), .inl (0, 11, fun _ => 0), .inl (0, 11, fun _ => 0), .inl (0, 11, fun _ => 0), .inl (0, 11, fun _ => 0), .inl (0, 121, fun _ => 0)] (a + 6) (b + 176)) := by
  exact go [] [] rfl (by omega) (rtv rfl rfl rfl)
set_option maxHeartbeats 4000000 in
theorem c_least : bE L xs d MX1_init (0, [(0, bR 16), (1, bR 6)], [], [.inr (5, [bR 4, bR 6, bN, bR 2, bI 10, bI 0, bI 100]), .inr (3, [bR 3, bI 0]), .inl (0, 10, fun _ => 0), .inr (0, [bI (max 1 (min 8 A)), bI (max 1 (min 3 B)), bR 5]), .inl (1, 8, fun _ => 0), .inr (4, [bR 7, bR 8, bR 9, bR 10, bR 11, bI 0, bR 4, bR 12]), .inl (0, 11, fun _ => 0), .inl (0, 11, fun _ => 0), .inl (0, 11, fun _ => 0), .inl (0, 11, fun _ => 0), .inl (0, 11, fun _ => 0), .inl (0, 121, fun _ => 0), .inr (2, [bR 4, bR 6, bN, bR 14, bR 15]), .inl (0, 10, fun _ => 0), .inl (1, 10, fun _ => 0), .inr (1, [bN, bN, bI 0, bN])], a, b) (rV [.inr (5, [bR 4, bR 6, bN, bR 2, bI 10, bI 0, bI 100]), .inr (3, [bR 3, bI 0]), .inl (0, 10, fun _ => 0), .inr (0, [bI (max 1 (min 8 A)), bI (max 1 (min 3 B)), bR 5]), .inl (1, 8, fun _ => 0), .inr (4, [bR 7, bR 8, bR 9, bR 10, bR 11, bI 0, bR 4, bR 12]), .inl (0, 11, fun _ => 0), .inl (0, 11, fun _ => 0), .inl (0, 11, fun _ => 0), .inl (0, 11, fun _ => 0), .inl (0, 11, fun _ => 0), .inl (0, 121, fun _ => 0), .inr (2, [bR 4, bR 6, bN, bR 14, bR 15]), .inl (0, 10, fun _ => 0), .inl (1, 10, fun _ => 0), .inr (1, [bR 6, bR 17, bI 0, bR 18]), .inl (0, 8, fun _ => 0), .inl (0, 2048, fun _ => 0)] (a + 2) (b + 2056)) := by
  exact go [] [] rfl (by omega) (rtv rfl rfl rfl)
set_option maxHeartbeats 4000000 in
theorem c_planner (hd : 2 ≤ d) : bE L xs d MX2_init (0, [(0, bR 13), (1, bR 4), (2, bR 6)], [], [.inr (5, [bR 4, bR 6, bN, bR 2, bI 10, bI 0, bI 100]), .inr (3, [bR 3, bI 0]), .inl (0, 10, fun _ => 0), .inr (0, [bI (max 1 (min 8 A)), bI (max 1 (min 3 B)), bR 5]), .inl (1, 8, fun _ => 0), .inr (4, [bR 7, bR 8, bR 9, bR 10, bR 11, bI 0, bR 4, bR 12]), .inl (0, 11, fun _ => 0), .inl (0, 11, fun _ => 0), .inl (0, 11, fun _ => 0), .inl (0, 11, fun _ => 0), .inl (0, 11, fun _ => 0), .inl (0, 121, fun _ => 0), .inr (2, [bN, bN, bN, bN, bN])], a, b) (rV [.inr (5, [bR 4, bR 6, bN, bR 2, bI 10, bI 0, bI 100]), .inr (3, [bR 3, bI 0]), .inl (0, 10, fun _ => 0), .inr (0, [bI (max 1 (min 8 A)), bI (max 1 (min 3 B)), bR 5]), .inl (1, 8, fun _ => 0), .inr (4, [bR 7, bR 8, bR 9, bR 10, bR 11, bI 0, bR 4, bR 12]), .inl (0, 11, fun _ => 0), .inl (0, 11, fun _ => 0), .inl (0, 11, fun _ => 0), .inl (0, 11, fun _ => 0), .inl (0, 11, fun _ => 0), .inl (0, 121, fun _ => 0), .inr (2, [bR 4, bR 6, bR 16, bR 14, bR 15]), .inl (0, 10, fun _ => 0), .inl (1, 10, fun _ => 0), .inr (1, [bR 6, bR 17, bI 0, bR 18]), .inl (0, 8, fun _ => 0), .inl (0, 2048, fun _ => 0)] (a + 5) (b + 2080)) := by
  refine go [] [] rfl (by omega) (bc rfl hd c_least (fun _ => rfl) ?_)
  exact go [] [] rfl (by omega) (rtv rfl rfl rfl)
set_option maxHeartbeats 4000000 in
theorem c_pick (hd : 3 ≤ d) : bE L xs d MX5_init (0, [(0, bR 1), (1, bI A), (2, bI B)], [], [.inr (5, [bN, bN, bN, bN, bI 0, bI 0, bI 0])], a, b) (rV [.inr (5, [bR 4, bR 6, bR 13, bR 2, bI 10, bI 0, bI 100]), .inr (3, [bR 3, bI 0]), .inl (0, 10, fun _ => 0), .inr (0, [bI (max 1 (min 8 A)), bI (max 1 (min 3 B)), bR 5]), .inl (1, 8, fun _ => 0), .inr (4, [bR 7, bR 8, bR 9, bR 10, bR 11, bI 0, bR 4, bR 12]), .inl (0, 11, fun _ => 0), .inl (0, 11, fun _ => 0), .inl (0, 11, fun _ => 0), .inl (0, 11, fun _ => 0), .inl (0, 11, fun _ => 0), .inl (0, 121, fun _ => 0), .inr (2, [bR 4, bR 6, bR 16, bR 14, bR 15]), .inl (0, 10, fun _ => 0), .inl (1, 10, fun _ => 0), .inr (1, [bR 6, bR 17, bI 0, bR 18]), .inl (0, 8, fun _ => 0), .inl (0, 2048, fun _ => 0)] (a + 17) (b + 2292)) := by
  refine go [] [] rfl (by omega) (bc rfl (by omega) c_route (fun _ => rfl) ?_)
  refine go [] [] rfl (by omega) (bc rfl (by omega) c_floor (fun _ => rfl) ?_)
  refine go [] [] rfl (by omega) (bc rfl (by omega) c_stops (fun _ => rfl) ?_)
  refine go [] [] rfl (by omega) (bc rfl (by omega) (c_planner (by omega)) (fun _ => rfl) ?_)
  exact go [] [] rfl (by omega) (rtv rfl rfl rfl)
set_option maxHeartbeats 4000000 in
theorem c_model {p q : Int} : bE L xs d MX6_init (0, [(0, bR 19), (1, bI A), (2, bI B)], [], [.inr (5, [bR 4, bR 6, bR 13, bR 2, bI 10, bI 0, bI 100]), .inr (3, [bR 3, bI 0]), .inl (0, 10, fun _ => 0), .inr (0, [bI p, bI q, bR 5]), .inl (1, 8, fun _ => 0), .inr (4, [bR 7, bR 8, bR 9, bR 10, bR 11, bI 0, bR 4, bR 12]), .inl (0, 11, fun _ => 0), .inl (0, 11, fun _ => 0), .inl (0, 11, fun _ => 0), .inl (0, 11, fun _ => 0), .inl (0, 11, fun _ => 0), .inl (0, 121, fun _ => 0), .inr (2, [bR 4, bR 6, bR 16, bR 14, bR 15]), .inl (0, 10, fun _ => 0), .inl (1, 10, fun _ => 0), .inr (1, [bR 6, bR 17, bI 0, bR 18]), .inl (0, 8, fun _ => 0), .inl (0, 2048, fun _ => 0), .inr (6, [bI 0, bI 0, bI 0, bI 0, bI 0, bI 0, bN, bI 0, bN, bN, bN, bN, bI 0, bN, bN, bN, bN, bN])], a, b) (rV [.inr (5, [bR 4, bR 6, bR 13, bR 2, bI 10, bI 0, bI 100]), .inr (3, [bR 3, bI 0]), .inl (0, 10, fun _ => 0), .inr (0, [bI p, bI q, bR 5]), .inl (1, 8, fun _ => 0), .inr (4, [bR 7, bR 8, bR 9, bR 10, bR 11, bI 0, bR 4, bR 12]), .inl (0, 11, fun _ => 0), .inl (0, 11, fun _ => 0), .inl (0, 11, fun _ => 0), .inl (0, 11, fun _ => 0), .inl (0, 11, fun _ => 0), .inl (0, 121, fun _ => 0), .inr (2, [bR 4, bR 6, bR 16, bR 14, bR 15]), .inl (0, 10, fun _ => 0), .inl (1, 10, fun _ => 0), .inr (1, [bR 6, bR 17, bI 0, bR 18]), .inl (0, 8, fun _ => 0), .inl (0, 2048, fun _ => 0), .inr (6, [bI 0, bI (max 1 (min 8 A)), bI (max 1 (min 3 B)), bI 100, bI 0, bI (-1), bR 20, bI 0, bR 21, bR 22, bR 23, bR 24, bI 0, bR 25, bR 26, bR 27, bR 28, bR 29]), .inl (1, 8, fun _ => 0), .inl (0, 10, fun _ => 0), .inl (0, 10, fun _ => 0), .inl (0, 10, fun _ => 0), .inl (0, 10, fun _ => 0), .inl (0, 10, fun _ => 0), .inl (1, 10, fun _ => 0), .inl (1, 10, fun _ => 0), .inl (0, 8, fun _ => 0), .inl (0, 2048, fun _ => 0)] (a + 10) (b + 2134)) := by
  refine go [15] [] rfl (by omega) ?_
  show bE L xs d MX6_init (15, [(0, bR 19), (1, bI A), (2, bI B)], [], [.inr (5, [bR 4, bR 6, bR 13, bR 2, bI 10, bI 0, bI 100]), .inr (3, [bR 3, bI 0]), .inl (0, 10, fun _ => 0), .inr (0, [bI p, bI q, bR 5]), .inl (1, 8, fun _ => 0), .inr (4, [bR 7, bR 8, bR 9, bR 10, bR 11, bI 0, bR 4, bR 12]), .inl (0, 11, fun _ => 0), .inl (0, 11, fun _ => 0), .inl (0, 11, fun _ => 0), .inl (0, 11, fun _ => 0), .inl (0, 11, fun _ => 0), .inl (0, 121, fun _ => 0), .inr (2, [bR 4, bR 6, bR 16, bR 14, bR 15]), .inl (0, 10, fun _ => 0), .inl (1, 10, fun _ => 0), .inr (1, [bR 6, bR 17, bI 0, bR 18]), .inl (0, 8, fun _ => 0), .inl (0, 2048, fun _ => 0), .inr (6, [bI 0, bI 0, bI 0, bI 100, bI 0, bI (-1), bN, bI 0, bN, bN, bN, bN, bI 0, bN, bN, bN, bN, bN])], a, b) _
  refine go [23] [] rfl (by omega) ?_
  show bE L xs d MX6_init (23, [(0, bR 19), (1, bI A), (2, bI B)], [], [.inr (5, [bR 4, bR 6, bR 13, bR 2, bI 10, bI 0, bI 100]), .inr (3, [bR 3, bI 0]), .inl (0, 10, fun _ => 0), .inr (0, [bI p, bI q, bR 5]), .inl (1, 8, fun _ => 0), .inr (4, [bR 7, bR 8, bR 9, bR 10, bR 11, bI 0, bR 4, bR 12]), .inl (0, 11, fun _ => 0), .inl (0, 11, fun _ => 0), .inl (0, 11, fun _ => 0), .inl (0, 11, fun _ => 0), .inl (0, 11, fun _ => 0), .inl (0, 121, fun _ => 0), .inr (2, [bR 4, bR 6, bR 16, bR 14, bR 15]), .inl (0, 10, fun _ => 0), .inl (1, 10, fun _ => 0), .inr (1, [bR 6, bR 17, bI 0, bR 18]), .inl (0, 8, fun _ => 0), .inl (0, 2048, fun _ => 0), .inr (6, [bI 0, bI 0, bI 0, bI 100, bI 0, bI (-1), bR 20, bI 0, bN, bN, bN, bN, bI 0, bN, bN, bN, bN, bN]), .inl (1, 8, fun _ => 0)], a + 1, b + 8) _
  refine go [31] [] rfl (by omega) ?_
  show bE L xs d MX6_init (31, [(0, bR 19), (1, bI A), (2, bI B)], [], [.inr (5, [bR 4, bR 6, bR 13, bR 2, bI 10, bI 0, bI 100]), .inr (3, [bR 3, bI 0]), .inl (0, 10, fun _ => 0), .inr (0, [bI p, bI q, bR 5]), .inl (1, 8, fun _ => 0), .inr (4, [bR 7, bR 8, bR 9, bR 10, bR 11, bI 0, bR 4, bR 12]), .inl (0, 11, fun _ => 0), .inl (0, 11, fun _ => 0), .inl (0, 11, fun _ => 0), .inl (0, 11, fun _ => 0), .inl (0, 11, fun _ => 0), .inl (0, 121, fun _ => 0), .inr (2, [bR 4, bR 6, bR 16, bR 14, bR 15]), .inl (0, 10, fun _ => 0), .inl (1, 10, fun _ => 0), .inr (1, [bR 6, bR 17, bI 0, bR 18]), .inl (0, 8, fun _ => 0), .inl (0, 2048, fun _ => 0), .inr (6, [bI 0, bI 0, bI 0, bI 100, bI 0, bI (-1), bR 20, bI 0, bR 21, bN, bN, bN, bI 0, bN, bN, bN, bN, bN]), .inl (1, 8, fun _ => 0), .inl (0, 10, fun _ => 0)], a + 2, b + 18) _
  refine go [39] [] rfl (by omega) ?_
  show bE L xs d MX6_init (39, [(0, bR 19), (1, bI A), (2, bI B)], [], [.inr (5, [bR 4, bR 6, bR 13, bR 2, bI 10, bI 0, bI 100]), .inr (3, [bR 3, bI 0]), .inl (0, 10, fun _ => 0), .inr (0, [bI p, bI q, bR 5]), .inl (1, 8, fun _ => 0), .inr (4, [bR 7, bR 8, bR 9, bR 10, bR 11, bI 0, bR 4, bR 12]), .inl (0, 11, fun _ => 0), .inl (0, 11, fun _ => 0), .inl (0, 11, fun _ => 0), .inl (0, 11, fun _ => 0), .inl (0, 11, fun _ => 0), .inl (0, 121, fun _ => 0), .inr (2, [bR 4, bR 6, bR 16, bR 14, bR 15]), .inl (0, 10, fun _ => 0), .inl (1, 10, fun _ => 0), .inr (1, [bR 6, bR 17, bI 0, bR 18]), .inl (0, 8, fun _ => 0), .inl (0, 2048, fun _ => 0), .inr (6, [bI 0, bI 0, bI 0, bI 100, bI 0, bI (-1), bR 20, bI 0, bR 21, bR 22, bN, bN, bI 0, bN, bN, bN, bN, bN]), .inl (1, 8, fun _ => 0), .inl (0, 10, fun _ => 0), .inl (0, 10, fun _ => 0)], a + 3, b + 28) _
  refine go [47] [] rfl (by omega) ?_
  show bE L xs d MX6_init (47, [(0, bR 19), (1, bI A), (2, bI B)], [], [.inr (5, [bR 4, bR 6, bR 13, bR 2, bI 10, bI 0, bI 100]), .inr (3, [bR 3, bI 0]), .inl (0, 10, fun _ => 0), .inr (0, [bI p, bI q, bR 5]), .inl (1, 8, fun _ => 0), .inr (4, [bR 7, bR 8, bR 9, bR 10, bR 11, bI 0, bR 4, bR 12]), .inl (0, 11, fun _ => 0), .inl (0, 11, fun _ => 0), .inl (0, 11, fun _ => 0), .inl (0, 11, fun _ => 0), .inl (0, 11, fun _ => 0), .inl (0, 121, fun _ => 0), .inr (2, [bR 4, bR 6, bR 16, bR 14, bR 15]), .inl (0, 10, fun _ => 0), .inl (1, 10, fun _ => 0), .inr (1, [bR 6, bR 17, bI 0, bR 18]), .inl (0, 8, fun _ => 0), .inl (0, 2048, fun _ => 0), .inr (6, [bI 0, bI 0, bI 0, bI 100, bI 0, bI (-1), bR 20, bI 0, bR 21, bR 22, bR 23, bN, bI 0, bN, bN, bN, bN, bN]), .inl (1, 8, fun _ => 0), .inl (0, 10, fun _ => 0), .inl (0, 10, fun _ => 0), .inl (0, 10, fun _ => 0)], a + 4, b + 38) _
  refine go [55] [] rfl (by omega) ?_
  show bE L xs d MX6_init (55, [(0, bR 19), (1, bI A), (2, bI B)], [], [.inr (5, [bR 4, bR 6, bR 13, bR 2, bI 10, bI 0, bI 100]), .inr (3, [bR 3, bI 0]), .inl (0, 10, fun _ => 0), .inr (0, [bI p, bI q, bR 5]), .inl (1, 8, fun _ => 0), .inr (4, [bR 7, bR 8, bR 9, bR 10, bR 11, bI 0, bR 4, bR 12]), .inl (0, 11, fun _ => 0), .inl (0, 11, fun _ => 0), .inl (0, 11, fun _ => 0), .inl (0, 11, fun _ => 0), .inl (0, 11, fun _ => 0), .inl (0, 121, fun _ => 0), .inr (2, [bR 4, bR 6, bR 16, bR 14, bR 15]), .inl (0, 10, fun _ => 0), .inl (1, 10, fun _ => 0), .inr (1, [bR 6, bR 17, bI 0, bR 18]), .inl (0, 8, fun _ => 0), .inl (0, 2048, fun _ => 0), .inr (6, [bI 0, bI 0, bI 0, bI 100, bI 0, bI (-1), bR 20, bI 0, bR 21, bR 22, bR 23, bR 24, bI 0, bN, bN, bN, bN, bN]), .inl (1, 8, fun _ => 0), .inl (0, 10, fun _ => 0), .inl (0, 10, fun _ => 0), .inl (0, 10, fun _ => 0), .inl (0, 10, fun _ => 0)], a + 5, b + 48) _
  refine go [63] [] rfl (by omega) ?_
  show bE L xs d MX6_init (63, [(0, bR 19), (1, bI A), (2, bI B)], [], [.inr (5, [bR 4, bR 6, bR 13, bR 2, bI 10, bI 0, bI 100]), .inr (3, [bR 3, bI 0]), .inl (0, 10, fun _ => 0), .inr (0, [bI p, bI q, bR 5]), .inl (1, 8, fun _ => 0), .inr (4, [bR 7, bR 8, bR 9, bR 10, bR 11, bI 0, bR 4, bR 12]), .inl (0, 11, fun _ => 0), .inl (0, 11, fun _ => 0), .inl (0, 11, fun _ => 0), .inl (0, 11, fun _ => 0), .inl (0, 11, fun _ => 0), .inl (0, 121, fun _ => 0), .inr (2, [bR 4, bR 6, bR 16, bR 14, bR 15]), .inl (0, 10, fun _ => 0), .inl (1, 10, fun _ => 0), .inr (1, [bR 6, bR 17, bI 0, bR 18]), .inl (0, 8, fun _ => 0), .inl (0, 2048, fun _ => 0), .inr (6, [bI 0, bI 0, bI 0, bI 100, bI 0, bI (-1), bR 20, bI 0, bR 21, bR 22, bR 23, bR 24, bI 0, bR 25, bN, bN, bN, bN]), .inl (1, 8, fun _ => 0), .inl (0, 10, fun _ => 0), .inl (0, 10, fun _ => 0), .inl (0, 10, fun _ => 0), .inl (0, 10, fun _ => 0), .inl (0, 10, fun _ => 0)], a + 6, b + 58) _
  refine go [71] [] rfl (by omega) ?_
  show bE L xs d MX6_init (71, [(0, bR 19), (1, bI A), (2, bI B)], [], [.inr (5, [bR 4, bR 6, bR 13, bR 2, bI 10, bI 0, bI 100]), .inr (3, [bR 3, bI 0]), .inl (0, 10, fun _ => 0), .inr (0, [bI p, bI q, bR 5]), .inl (1, 8, fun _ => 0), .inr (4, [bR 7, bR 8, bR 9, bR 10, bR 11, bI 0, bR 4, bR 12]), .inl (0, 11, fun _ => 0), .inl (0, 11, fun _ => 0), .inl (0, 11, fun _ => 0), .inl (0, 11, fun _ => 0), .inl (0, 11, fun _ => 0), .inl (0, 121, fun _ => 0), .inr (2, [bR 4, bR 6, bR 16, bR 14, bR 15]), .inl (0, 10, fun _ => 0), .inl (1, 10, fun _ => 0), .inr (1, [bR 6, bR 17, bI 0, bR 18]), .inl (0, 8, fun _ => 0), .inl (0, 2048, fun _ => 0), .inr (6, [bI 0, bI 0, bI 0, bI 100, bI 0, bI (-1), bR 20, bI 0, bR 21, bR 22, bR 23, bR 24, bI 0, bR 25, bR 26, bN, bN, bN]), .inl (1, 8, fun _ => 0), .inl (0, 10, fun _ => 0), .inl (0, 10, fun _ => 0), .inl (0, 10, fun _ => 0), .inl (0, 10, fun _ => 0), .inl (0, 10, fun _ => 0), .inl (1, 10, fun _ => 0)], a + 7, b + 68) _
  refine go [79] [] rfl (by omega) ?_
  show bE L xs d MX6_init (79, [(0, bR 19), (1, bI A), (2, bI B)], [], [.inr (5, [bR 4, bR 6, bR 13, bR 2, bI 10, bI 0, bI 100]), .inr (3, [bR 3, bI 0]), .inl (0, 10, fun _ => 0), .inr (0, [bI p, bI q, bR 5]), .inl (1, 8, fun _ => 0), .inr (4, [bR 7, bR 8, bR 9, bR 10, bR 11, bI 0, bR 4, bR 12]), .inl (0, 11, fun _ => 0), .inl (0, 11, fun _ => 0), .inl (0, 11, fun _ => 0), .inl (0, 11, fun _ => 0), .inl (0, 11, fun _ => 0), .inl (0, 121, fun _ => 0), .inr (2, [bR 4, bR 6, bR 16, bR 14, bR 15]), .inl (0, 10, fun _ => 0), .inl (1, 10, fun _ => 0), .inr (1, [bR 6, bR 17, bI 0, bR 18]), .inl (0, 8, fun _ => 0), .inl (0, 2048, fun _ => 0), .inr (6, [bI 0, bI 0, bI 0, bI 100, bI 0, bI (-1), bR 20, bI 0, bR 21, bR 22, bR 23, bR 24, bI 0, bR 25, bR 26, bR 27, bN, bN]), .inl (1, 8, fun _ => 0), .inl (0, 10, fun _ => 0), .inl (0, 10, fun _ => 0), .inl (0, 10, fun _ => 0), .inl (0, 10, fun _ => 0), .inl (0, 10, fun _ => 0), .inl (1, 10, fun _ => 0), .inl (1, 10, fun _ => 0)], a + 8, b + 78) _
  refine go [87] [] rfl (by omega) ?_
  show bE L xs d MX6_init (87, [(0, bR 19), (1, bI A), (2, bI B)], [], [.inr (5, [bR 4, bR 6, bR 13, bR 2, bI 10, bI 0, bI 100]), .inr (3, [bR 3, bI 0]), .inl (0, 10, fun _ => 0), .inr (0, [bI p, bI q, bR 5]), .inl (1, 8, fun _ => 0), .inr (4, [bR 7, bR 8, bR 9, bR 10, bR 11, bI 0, bR 4, bR 12]), .inl (0, 11, fun _ => 0), .inl (0, 11, fun _ => 0), .inl (0, 11, fun _ => 0), .inl (0, 11, fun _ => 0), .inl (0, 11, fun _ => 0), .inl (0, 121, fun _ => 0), .inr (2, [bR 4, bR 6, bR 16, bR 14, bR 15]), .inl (0, 10, fun _ => 0), .inl (1, 10, fun _ => 0), .inr (1, [bR 6, bR 17, bI 0, bR 18]), .inl (0, 8, fun _ => 0), .inl (0, 2048, fun _ => 0), .inr (6, [bI 0, bI 0, bI 0, bI 100, bI 0, bI (-1), bR 20, bI 0, bR 21, bR 22, bR 23, bR 24, bI 0, bR 25, bR 26, bR 27, bR 28, bN]), .inl (1, 8, fun _ => 0), .inl (0, 10, fun _ => 0), .inl (0, 10, fun _ => 0), .inl (0, 10, fun _ => 0), .inl (0, 10, fun _ => 0), .inl (0, 10, fun _ => 0), .inl (1, 10, fun _ => 0), .inl (1, 10, fun _ => 0), .inl (0, 8, fun _ => 0)], a + 9, b + 86) _
  refine go [96] [] rfl (by omega) ?_
  show bE L xs d MX6_init (96, [(0, bR 19), (1, bI A), (2, bI B)], [], [.inr (5, [bR 4, bR 6, bR 13, bR 2, bI 10, bI 0, bI 100]), .inr (3, [bR 3, bI 0]), .inl (0, 10, fun _ => 0), .inr (0, [bI p, bI q, bR 5]), .inl (1, 8, fun _ => 0), .inr (4, [bR 7, bR 8, bR 9, bR 10, bR 11, bI 0, bR 4, bR 12]), .inl (0, 11, fun _ => 0), .inl (0, 11, fun _ => 0), .inl (0, 11, fun _ => 0), .inl (0, 11, fun _ => 0), .inl (0, 11, fun _ => 0), .inl (0, 121, fun _ => 0), .inr (2, [bR 4, bR 6, bR 16, bR 14, bR 15]), .inl (0, 10, fun _ => 0), .inl (1, 10, fun _ => 0), .inr (1, [bR 6, bR 17, bI 0, bR 18]), .inl (0, 8, fun _ => 0), .inl (0, 2048, fun _ => 0), .inr (6, [bI 0, bI 0, bI 0, bI 100, bI 0, bI (-1), bR 20, bI 0, bR 21, bR 22, bR 23, bR 24, bI 0, bR 25, bR 26, bR 27, bR 28, bR 29]), .inl (1, 8, fun _ => 0), .inl (0, 10, fun _ => 0), .inl (0, 10, fun _ => 0), .inl (0, 10, fun _ => 0), .inl (0, 10, fun _ => 0), .inl (0, 10, fun _ => 0), .inl (1, 10, fun _ => 0), .inl (1, 10, fun _ => 0), .inl (0, 8, fun _ => 0), .inl (0, 2048, fun _ => 0)], a + 10, b + 2134) _
  have fin : ∀ z : Int, bE L xs d MX6_init (121, [(0, bR 19), (1, bI A), (2, bI B)], [], [.inr (5, [bR 4, bR 6, bR 13, bR 2, bI 10, bI 0, bI 100]), .inr (3, [bR 3, bI 0]), .inl (0, 10, fun _ => 0), .inr (0, [bI p, bI q, bR 5]), .inl (1, 8, fun _ => 0), .inr (4, [bR 7, bR 8, bR 9, bR 10, bR 11, bI 0, bR 4, bR 12]), .inl (0, 11, fun _ => 0), .inl (0, 11, fun _ => 0), .inl (0, 11, fun _ => 0), .inl (0, 11, fun _ => 0), .inl (0, 11, fun _ => 0), .inl (0, 121, fun _ => 0), .inr (2, [bR 4, bR 6, bR 16, bR 14, bR 15]), .inl (0, 10, fun _ => 0), .inl (1, 10, fun _ => 0), .inr (1, [bR 6, bR 17, bI 0, bR 18]), .inl (0, 8, fun _ => 0), .inl (0, 2048, fun _ => 0), .inr (6, [bI 0, bI z, bI 0, bI 100, bI 0, bI (-1), bR 20, bI 0, bR 21, bR 22, bR 23, bR 24, bI 0, bR 25, bR 26, bR 27, bR 28, bR 29]), .inl (1, 8, fun _ => 0), .inl (0, 10, fun _ => 0), .inl (0, 10, fun _ => 0), .inl (0, 10, fun _ => 0), .inl (0, 10, fun _ => 0), .inl (0, 10, fun _ => 0), .inl (1, 10, fun _ => 0), .inl (1, 10, fun _ => 0), .inl (0, 8, fun _ => 0), .inl (0, 2048, fun _ => 0)], a + 10, b + 2134) (rV [.inr (5, [bR 4, bR 6, bR 13, bR 2, bI 10, bI 0, bI 100]), .inr (3, [bR 3, bI 0]), .inl (0, 10, fun _ => 0), .inr (0, [bI p, bI q, bR 5]), .inl (1, 8, fun _ => 0), .inr (4, [bR 7, bR 8, bR 9, bR 10, bR 11, bI 0, bR 4, bR 12]), .inl (0, 11, fun _ => 0), .inl (0, 11, fun _ => 0), .inl (0, 11, fun _ => 0), .inl (0, 11, fun _ => 0), .inl (0, 11, fun _ => 0), .inl (0, 121, fun _ => 0), .inr (2, [bR 4, bR 6, bR 16, bR 14, bR 15]), .inl (0, 10, fun _ => 0), .inl (1, 10, fun _ => 0), .inr (1, [bR 6, bR 17, bI 0, bR 18]), .inl (0, 8, fun _ => 0), .inl (0, 2048, fun _ => 0), .inr (6, [bI 0, bI z, bI (max 1 (min 3 B)), bI 100, bI 0, bI (-1), bR 20, bI 0, bR 21, bR 22, bR 23, bR 24, bI 0, bR 25, bR 26, bR 27, bR 28, bR 29]), .inl (1, 8, fun _ => 0), .inl (0, 10, fun _ => 0), .inl (0, 10, fun _ => 0), .inl (0, 10, fun _ => 0), .inl (0, 10, fun _ => 0), .inl (0, 10, fun _ => 0), .inl (1, 10, fun _ => 0), .inl (1, 10, fun _ => 0), .inl (0, 8, fun _ => 0), .inl (0, 2048, fun _ => 0)] (a + 10) (b + 2134)) := by
    intro z
    by_cases b1 : B < 1
    · have e2 : max 1 (min 3 B) = 1 := by omega
      rw [e2]
      exact go [] [1] rfl (by omega) (rtv rfl rfl rfl)
    · by_cases b2 : 3 < B
      · have e2 : max 1 (min 3 B) = 3 := by omega
        rw [e2]
        exact go [] [0, 1] rfl (by omega) (rtv rfl rfl rfl)
      · have e2 : max 1 (min 3 B) = B := by omega
        rw [e2]
        exact go [] [0, 0] rfl (by omega) (rtv rfl rfl rfl)
  by_cases a1 : A < 1
  · have e1 : max 1 (min 8 A) = 1 := by omega
    rw [e1]
    exact go [121] [1] rfl (by omega) (fin 1)
  · by_cases a2 : 8 < A
    · have e1 : max 1 (min 8 A) = 8 := by omega
      rw [e1]
      exact go [121] [0, 1] rfl (by omega) (fin 8)
    · have e1 : max 1 (min 8 A) = A := by omega
      rw [e1]
      exact go [121] [0, 0] rfl (by omega) (fin A)
/-- the first cells -/
def X0 (A B : Int) : Nat → Int := fun k => match k with
  | 0 => 10
  | 2 => 100
  | 4 => max 1 (min 8 A)
  | 5 => max 1 (min 3 B)
  | _ => 0
def M0 (A B : Int) : Nat → Int := fun k => match k with
  | 1 => max 1 (min 8 A)
  | 2 => max 1 (min 3 B)
  | 3 => 100
  | 5 => -1
  | _ => 0
theorem inv_0 (A B : Int) : INV 0 (X0 A B) (fun _ _ => 0) (M0 A B) (fun _ _ => 0) := by
  refine ⟨⟨?_, ?_, ?_, ⟨rfl, rfl⟩, ?_, ?_⟩, ⟨?_, ?_, ?_⟩, ⟨?_, ?_, ?_, ?_⟩, ⟨rfl, ?_⟩, ?_, ?_⟩
  · show 1 ≤ max 1 (min 8 A) ∧ max 1 (min 8 A) ≤ 8 ∧ 1 ≤ max 1 (min 3 B) ∧ max 1 (min 3 B) ≤ 3 ∧ (0 : Int) ≤ 0 ∧ (0 : Int) ≤ 10 ∧ (0 : Int) ≤ 10 ∧ ((10 : Int) < 0 ∨ (10 : Int) = 10) ∧ (1 : Int) ≤ 100 ∧ (100 : Int) ≤ 1000
    omega
  · intro j h0 h1
    have h1 : j < 0 := h1
    omega
  · intro j
    show (0 : Int) ≤ 0 ∧ (0 : Int) ≤ 1
    omega
  · intro p q hp hq
    show (0 : Int) = wy _ 0 0 0 0
    unfold wy
    rw [if_pos rfl]
    decide
  · intro p _ _; rfl
  · show (0 : Int) ≤ 0 ∧ (0 : Int) ≤ 10
    omega
  · intro i h0 h1
    have h1 : i < 0 := h1
    omega
  · intro i j h0 h1 h2
    have h2 : j < 0 := h2
    omega
  · exact ⟨rfl, rfl, rfl, rfl, rfl, rfl⟩
  · intro j _ _; rfl
  · intro j h0 h1
    have h1 : j < 0 := h1
    omega
  · intro j _ _; rfl
  · intro i h0 h1
    have h1 : i < 0 := h1
    omega
  · show (0 : Int) ≤ 0
    omega
  · show (0 : Int) ≤ 200 * 0
    omega
theorem l_cell (k : Int) (hk : 0 ≤ k) : ∃ z : Int, ∀ (d a b : Nat) (w : BW), bE L xs d ML_cell (0, [(0, bR 0), (1, bI k)], [], w, a, b) (rI w z a b) := by
  by_cases h : k < (L : Int)
  · exact ⟨_, fun d a b w => l_cell1 k ⟨hk, h⟩⟩
  · exact ⟨_, fun d a b w => l_cell2 k (by omega)⟩
theorem law_all (hL : L ≤ 2050) : bE L xs 10 ML_law (0, [(0, bR 0)], [], [], 0, 0) QL := by
  obtain ⟨A, hA⟩ := l_cell (L := L) (xs := xs) 0 (by omega)
  obtain ⟨B, hB⟩ := l_cell (L := L) (xs := xs) 1 (by omega)
  refine goT hTLs [] [] rfl (by omega) (bcT hTLs rfl (by omega) (hA _ _ _ _) (fun h => by cases h) ?_)
  refine goT hTLs [] [] rfl (by omega) (bcT hTLs rfl (by omega) (hB _ _ _ _) (fun h => by cases h) ?_)
  refine bcT hTLs rfl (by omega) (c_pick (by omega)) (fun _ => rfl) ?_
  refine goT hTLs [] [] rfl (by omega) (bcT hTLs rfl (by omega) (hA _ _ _ _) (fun h => by cases h) ?_)
  refine goT hTLs [] [] rfl (by omega) (bcT hTLs rfl (by omega) (hB _ _ _ _) (fun h => by cases h) ?_)
  refine bcT hTLs rfl (by omega) c_model (fun _ => rfl) ?_
  refine goT hTLs [43] [] rfl (by omega) ?_
  exact law_loop hL (L + 4) 0 (X0 A B) (fun _ _ => 0) (M0 A B) (fun _ _ => 0) (fun _ => 0) _ _ _ (by omega) (by omega) (by omega) (inv_0 A B) (Or.inl rfl) (by decide) (by decide)
theorem pure_all : ax_Pure := by
  intro L xs hL
  obtain ⟨r, ⟨n, h1⟩, h2, w, a, b, rfl, h3, h4⟩ := law_all (xs := xs) hL hL ⟨(fun q hq => by rcases List.mem_cons.mp hq with h | h; (rw [h]; trivial); (cases h)), (fun v hv => by cases hv), (fun e he => by cases he)⟩
  exact ⟨n, w.map b_e, a, b, h1, h3, h4⟩
end V4
