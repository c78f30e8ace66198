/-! The cells of the class, of the reference, and the law's row. -/
/-- changed at one place -/
def un {α : Type} (f : Nat → α) (k : Nat) (v : α) : Nat → α := fun j => cond (Nat.beq j k) v (f j)
/-- X: here, metres, cartRoom, route size, aisles, blocks, stops size, least size; F: row, shut, aisle, place, depth, pieces, state, ways, keys, waiting, members, rests;
M: code, aisles, blocks, cart, metres, here, stops, size; G: shut, aisle, place, pieces, state, walk, left, isFront, few, costs; O: the law's row -/
def WD (X : Nat → Int) (F : Nat → Int → Int) (M : Nat → Int) (G : Nat → Int → Int) (O : Int → Int) : BW := [
  .inr (5, [bR 4, bR 6, bR 13, bR 2, bI (X 0), bI (X 1), bI (X 2)]),
  .inr (3, [bR 3, bI (X 3)]),
  .inl (0, 10, F 0),
  .inr (0, [bI (X 4), bI (X 5), bR 5]),
  .inl (1, 8, F 1),
  .inr (4, [bR 7, bR 8, bR 9, bR 10, bR 11, bI (X 6), bR 4, bR 12]),
  .inl (0, 11, F 2),
  .inl (0, 11, F 3),
  .inl (0, 11, F 4),
  .inl (0, 11, F 5),
  .inl (0, 11, F 6),
  .inl (0, 121, F 7),
  .inr (2, [bR 4, bR 6, bR 16, bR 14, bR 15]),
  .inl (0, 10, F 8),
  .inl (1, 10, F 9),
  .inr (1, [bR 6, bR 17, bI (X 7), bR 18]),
  .inl (0, 8, F 10),
  .inl (0, 2048, F 11),
  .inr (6, [bI (M 0), bI (M 1), bI (M 2), bI (M 3), bI (M 4), bI (M 5), bR 20, bI (M 6), bR 21, bR 22, bR 23, bR 24, bI (M 7), bR 25, bR 26, bR 27, bR 28, bR 29]),
  .inl (1, 8, G 0),
  .inl (0, 10, G 1),
  .inl (0, 10, G 2),
  .inl (0, 10, G 3),
  .inl (0, 10, G 4),
  .inl (0, 10, G 5),
  .inl (1, 10, G 6),
  .inl (1, 10, G 7),
  .inl (0, 8, G 8),
  .inl (0, 2048, G 9),
  .inl (2, 1, O)]
section T1
variable {L : Nat} {xs : Nat → Int32} {X M : Nat → Int} {F G : Nat → Int → Int} {O : Int → Int} {d a b : Nat} {Q : BR → Prop}
theorem t_hasAisle (x : Int) : bE L xs d MX0_hasAisle (0, [(0, bR 4), (1, bI x)], [], WD X F M G O, a, b) (fun r => r = (WD X F M G O, .inl (some (bI (if 0 ≤ x ∧ x < X 4 then 1 else 0))), a, b)) := by
  by_cases h1 : x < 0
  · rw [if_neg (by omega)]
    exact go [] [0] rfl (by omega) (rtb rfl rfl (Or.inl rfl) rfl)
  · by_cases h2 : X 4 ≤ x
    · rw [if_neg (by omega)]
      exact go [] [1, 0] rfl (by omega) (rtb rfl rfl (Or.inl rfl) rfl)
    · rw [if_pos (by omega)]
      exact go [] [1, 1] rfl (by omega) (rtb rfl rfl (Or.inr rfl) rfl)
theorem t_way (p q : Int) (h : 0 ≤ p ∧ p ≤ 10 ∧ 0 ≤ q ∧ q ≤ 10) : bE L xs d MX4_way (0, [(0, bR 6), (1, bI p), (2, bI q)], [], WD X F M G O, a, b) (fun r => r = (WD X F M G O, .inl (some (bI (F 7 (p * 11 + q)))), a, b)) := by
  refine go [] [] rfl (by omega) ?_
  exact rti rfl rfl rfl
theorem t_drop0 (x : Int) : bE L xs d MX3_clear (0, [(0, bR 2)], [], WD X F M G O, a, b) (fun r => r = (WD (un X 3 0) F M G O, .inl none, a, b)) := by
  refine go [] [] rfl (by omega) ?_
  exact rtv rfl rfl rfl
theorem t_cross (p q r s : Int) : bE L xs d MX0_between (0, [(0, bR 4), (1, bI p), (2, bI q), (3, bI r), (4, bI s)], [], WD X F M G O, a, b) Q := by
  refine go [20] [0] rfl (by omega) ?_
  refine go [20] [1] rfl ?_ ?_
  · trace_state
    omega
  · trace_state
    trivial
end T1
