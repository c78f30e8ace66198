/-! The cells of the class, of the reference, and the law's row: numbers and rows by their places. -/
/-- a function, changed at one place -/
def up {α : Type} (f : Nat → α) (k : Nat) (v : α) : Nat → α := fun j => cond (Nat.beq j k) v (f j)
/-- IX: here, metres, cartRoom, route size, aisles, blocks, stops size, least size; FX: row, shut, aisle, place, depth, pieces, state, ways, keys, waiting, members, rests;
IM: code, aisles, blocks, cart, metres, here, stops, size; FM: shut, aisle, place, pieces, state, walk, left, isFront, few, costs; O: the law's row -/
def WD (IX : Nat → Int32) (FX : Nat → Nat → Int32) (IM : Nat → Int32) (FM : Nat → Nat → Int32) (O : Nat → Int64) : AxW := [
  .inr (5, [.ref 4, .ref 6, .ref 13, .ref 2, .int (IX 0), .int (IX 1), .int (IX 2)]),
  .inr (3, [.ref 3, .int (IX 3)]),
  .inl (0, 10, .inl (FX 0)),
  .inr (0, [.int (IX 4), .int (IX 5), .ref 5]),
  .inl (1, 8, .inl (FX 1)),
  .inr (4, [.ref 7, .ref 8, .ref 9, .ref 10, .ref 11, .int (IX 6), .ref 4, .ref 12]),
  .inl (0, 11, .inl (FX 2)),
  .inl (0, 11, .inl (FX 3)),
  .inl (0, 11, .inl (FX 4)),
  .inl (0, 11, .inl (FX 5)),
  .inl (0, 11, .inl (FX 6)),
  .inl (0, 121, .inl (FX 7)),
  .inr (2, [.ref 4, .ref 6, .ref 16, .ref 14, .ref 15]),
  .inl (0, 10, .inl (FX 8)),
  .inl (1, 10, .inl (FX 9)),
  .inr (1, [.ref 6, .ref 17, .int (IX 7), .ref 18]),
  .inl (0, 8, .inl (FX 10)),
  .inl (0, 2048, .inl (FX 11)),
  .inr (6, [.int (IM 0), .int (IM 1), .int (IM 2), .int (IM 3), .int (IM 4), .int (IM 5), .ref 20, .int (IM 6), .ref 21, .ref 22, .ref 23, .ref 24, .int (IM 7), .ref 25, .ref 26, .ref 27, .ref 28, .ref 29]),
  .inl (1, 8, .inl (FM 0)),
  .inl (0, 10, .inl (FM 1)),
  .inl (0, 10, .inl (FM 2)),
  .inl (0, 10, .inl (FM 3)),
  .inl (0, 10, .inl (FM 4)),
  .inl (0, 10, .inl (FM 5)),
  .inl (1, 10, .inl (FM 6)),
  .inl (1, 10, .inl (FM 7)),
  .inl (0, 8, .inl (FM 8)),
  .inl (0, 2048, .inl (FM 9)),
  .inl (2, 1, .inr (.inl O))]
section T1
variable {L : Nat} {xs : Nat → Int32} {IX IM : Nat → Int32} {FX FM : Nat → Nat → Int32} {O : Nat → Int64} {d a b : Nat}
theorem t_hasAisle (x : Int32) : ax_Ev L xs d MX0_hasAisle (0, [(0, .ref 4), (1, .int x)], [], WD IX FX IM FM O, a, b) (WD IX FX IM FM O, .inl (some (.int (if 0 ≤ x ∧ x < IX 4 then 1 else 0))), a, b) := by
  by_cases h1 : x < 0
  · rw [if_neg (by rw [Int32.le_iff_toInt_le]; rw [Int32.lt_iff_toInt_lt] at h1; omega)]
    refine ev_go 3 [0] rfl ⟨h1, trivial⟩ ?_
    exact ev_retb rfl rfl (Or.inl rfl)
  · by_cases h2 : IX 4 ≤ x
    · rw [if_neg (by rw [Int32.lt_iff_toInt_lt]; rw [Int32.le_iff_toInt_le] at h2; omega)]
      refine ev_go 7 [1, 0] rfl ⟨h1, h2, trivial⟩ ?_
      exact ev_retb rfl rfl (Or.inl rfl)
    · rw [if_pos (by rw [Int32.lt_iff_toInt_lt, Int32.le_iff_toInt_le] at *; omega)]
      refine ev_go 8 [1, 1] rfl ⟨h1, h2, trivial⟩ ?_
      exact ev_retb rfl rfl (Or.inr rfl)
theorem t_way (p q : Int32) (h : vp_in (p * 11 + q) 121) : ax_Ev L xs d MX4_way (0, [(0, .ref 6), (1, .int p), (2, .int q)], [], WD IX FX IM FM O, a, b) (WD IX FX IM FM O, .inl (some (.int (FX 7 (p * 11 + q).toNatClampNeg))), a, b) := by
  refine ev_go 8 [] rfl ⟨h, trivial⟩ ?_
  exact ev_ret rfl rfl
end T1
