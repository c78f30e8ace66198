/-! The cells of the class, of the reference, and the law's row. -/
/-- changed at one place -/
def un {α : Type} (f : Nat → α) (k : Nat) (v : α) : Nat → α := fun j => cond (Nat.beq j k) v (f j)
/-- X: here, metres, cartRoom, route size, aisles, blocks, stops size, least size; F: row, shut, aisle, place, depth, pieces, state, ways, keys, waiting, members, rests;
M: code, aisles, blocks, cart, metres, here, stops, size; G: shut, aisle, place, pieces, state, walk, left, isFront, few, costs; O: the law's row -/
def WD (X : Nat → Int) (F : Nat → Int → Int) (M : Nat → Int) (G : Nat → Int → Int) (O : Int → Int) : BW := [
  .inr (5, [bR 4, bR 6, bR 13, bR 2, bI (X 0), bI (X 1), bI (X 2)]),
  .inr (3, [bR 3, bI (X 3)]),
  .inl (0, 10, F 0),
  .inr (0, [bI (X 4), bI (X 5), bR 5]),
  .inl (1, 8, F 1),
  .inr (4, [bR 7, bR 8, bR 9, bR 10, bR 11, bI (X 6), bR 4, bR 12]),
  .inl (0, 11, F 2),
  .inl (0, 11, F 3),
  .inl (0, 11, F 4),
  .inl (0, 11, F 5),
  .inl (0, 11, F 6),
  .inl (0, 121, F 7),
  .inr (2, [bR 4, bR 6, bR 16, bR 14, bR 15]),
  .inl (0, 10, F 8),
  .inl (1, 10, F 9),
  .inr (1, [bR 6, bR 17, bI (X 7), bR 18]),
  .inl (0, 8, F 10),
  .inl (0, 2048, F 11),
  .inr (6, [bI (M 0), bI (M 1), bI (M 2), bI (M 3), bI (M 4), bI (M 5), bR 20, bI (M 6), bR 21, bR 22, bR 23, bR 24, bI (M 7), bR 25, bR 26, bR 27, bR 28, bR 29]),
  .inl (1, 8, G 0),
  .inl (0, 10, G 1),
  .inl (0, 10, G 2),
  .inl (0, 10, G 3),
  .inl (0, 10, G 4),
  .inl (0, 10, G 5),
  .inl (1, 10, G 6),
  .inl (1, 10, G 7),
  .inl (0, 8, G 8),
  .inl (0, 2048, G 9),
  .inl (2, 1, O)]
/-! Ends -/
abbrev rI (w : BW) (z : Int) (a b : Nat) : BR → Prop := fun r => r = (w, .inl (some (bI z)), a, b)
abbrev rV (w : BW) (a b : Nat) : BR → Prop := fun r => r = (w, .inl none, a, b)
abbrev rT (w : BW) (e a b : Nat) : BR → Prop := fun r => r = (w, .inr e, a, b)
/-! Mathematics: ways, counts, walks -/
def cd (x y c : Int) : Int := max (x - 11 * c) (-(x - 11 * c)) + max (y - 11 * c) (-(y - 11 * c))
def crs (x y n : Int) : Int := itr (fun c acc => min acc (cd x y c)) 1000000 n
def wy (B p x q y : Int) : Int := if p = q then max (x - y) (-(x - y)) else crs x y (B + 1) + 3 * max (p - q) (-(p - q))
theorem crs_b {x y : Int} (hx : 0 ≤ x ∧ x ≤ 40) (hy : 0 ≤ y ∧ y ≤ 40) : ∀ i, 0 ≤ i → i ≤ 4 → 0 ≤ crs x y i ∧ crs x y i ≤ 1000000 ∧ (0 < i → crs x y i ≤ 80) := by
  refine itr_ind (P := fun i z => 0 ≤ z ∧ z ≤ 1000000 ∧ (0 < i → z ≤ 80)) ⟨by omega, by omega, by omega⟩ ?_
  intro i z h0 h1 ⟨h2, h3, h4⟩
  unfold cd
  refine ⟨by omega, by omega, ?_⟩
  intro _
  by_cases h : 0 < i
  · have := h4 h; omega
  · have : i = 0 := by omega
    subst this
    omega
theorem crs_c (x y n : Int) : crs x y n = crs y x n := by
  unfold crs
  have : (fun c acc => min acc (cd x y c)) = (fun c acc => min acc (cd y x c)) := by
    funext c acc
    unfold cd
    omega
  rw [this]
theorem wy_c (B p x q y : Int) : wy B p x q y = wy B q y p x := by
  unfold wy
  rw [crs_c x y]
  by_cases h : p = q
  · rw [if_pos h, if_pos h.symm]; omega
  · rw [if_neg h, if_neg (fun g => h g.symm)]; omega
theorem wy_b {B p x q y : Int} (hB : 1 ≤ B ∧ B ≤ 3) (hp : 0 ≤ p ∧ p ≤ 8) (hq : 0 ≤ q ∧ q ≤ 8) (hx : 0 ≤ x ∧ x ≤ 40) (hy : 0 ≤ y ∧ y ≤ 40) : 0 ≤ wy B p x q y ∧ wy B p x q y ≤ 200 := by
  unfold wy
  have := crs_b hx hy (B + 1) (by omega) (by omega)
  split <;> omega
def wk (F : Nat → Int → Int) (s : Int) : Int := if F 6 s = 0 ∧ 0 < F 5 s ∧ F 1 (F 2 s) = 0 then 1 else 0
theorem wk_01 (F : Nat → Int → Int) (s : Int) : wk F s = 0 ∨ wk F s = 1 := by unfold wk; split <;> omega
def nW (F : Nat → Int → Int) (n : Int) : Int := itr (fun s acc => acc + wk F s) 0 n
def nD (F : Nat → Int → Int) (n : Int) : Int := itr (fun s acc => acc + (if F 6 s = 1 then 1 else 0)) 0 n
def nO (F : Nat → Int → Int) (A n : Int) : Int := itr (fun s acc => acc + (if F 2 s = A ∧ F 6 s = 0 then 1 else 0)) 0 n
theorem cnt_b {g : Int → Int} (hg : ∀ i, g i = 0 ∨ g i = 1) (n : Int) : ∀ i, 0 ≤ i → i ≤ n → 0 ≤ itr (fun s acc => acc + g s) 0 i ∧ itr (fun s acc => acc + g s) 0 i ≤ i := by
  refine itr_ind (P := fun i z => 0 ≤ z ∧ z ≤ i) ⟨by omega, by omega⟩ ?_
  intro i z _ _ h
  rcases hg i with e | e <;> rw [e] <;> omega
theorem nW_b (F : Nat → Int → Int) (i : Int) (h : 0 ≤ i) : 0 ≤ nW F i ∧ nW F i ≤ i := cnt_b (wk_01 F) i i h (by omega)
theorem nD_b (F : Nat → Int → Int) (i : Int) (h : 0 ≤ i) : 0 ≤ nD F i ∧ nD F i ≤ i := cnt_b (g := fun s => if F 6 s = 1 then 1 else 0) (fun s => by split <;> simp) i i h (by omega)
theorem nO_b (F : Nat → Int → Int) (A i : Int) (h : 0 ≤ i) : 0 ≤ nO F A i ∧ nO F A i ≤ i := cnt_b (g := fun s => if F 2 s = A ∧ F 6 s = 0 then 1 else 0) (fun s => by split <;> simp) i i h (by omega)
/-- a point: a stop or the depot -/
def pnt (X : Nat → Int) (p : Int) : Prop := 0 ≤ p ∧ (p < X 6 ∨ p = 10)
/-- what holds of the class's cells, but for the route -/
def SB (X : Nat → Int) (F : Nat → Int → Int) : Prop :=
  (1 ≤ X 4 ∧ X 4 ≤ 8 ∧ 1 ≤ X 5 ∧ X 5 ≤ 3 ∧ 0 ≤ X 6 ∧ X 6 ≤ 10 ∧ 0 ≤ X 0 ∧ (X 0 < X 6 ∨ X 0 = 10) ∧ 1 ≤ X 2 ∧ X 2 ≤ 1000) ∧
  (∀ j, 0 ≤ j → j < X 6 → 0 ≤ F 2 j ∧ F 2 j < X 4 ∧ 0 ≤ F 3 j ∧ F 3 j < 10 * X 5 ∧ F 4 j = 11 * (F 3 j / 10) + 1 + F 3 j % 10 ∧ 0 ≤ F 5 j ∧ F 5 j ≤ 100 ∧ 0 ≤ F 6 j ∧ F 6 j ≤ 2) ∧
  (∀ j, 0 ≤ F 1 j ∧ F 1 j ≤ 1) ∧
  (F 2 10 = 0 ∧ F 4 10 = 0) ∧
  (∀ p q, pnt X p → pnt X q → F 7 (p * 11 + q) = wy (X 5) (F 2 p) (F 4 p) (F 2 q) (F 4 q)) ∧
  (∀ p, 0 ≤ p → p ≤ 10 → F 7 (p * 11 + p) = 0)
/-- .. of the route -/
def SR (X : Nat → Int) (F : Nat → Int → Int) : Prop :=
  (0 ≤ X 3 ∧ X 3 ≤ 10) ∧ (∀ i, 0 ≤ i → i < X 3 → 0 ≤ F 0 i ∧ F 0 i < X 6 ∧ 0 < F 5 (F 0 i)) ∧ (∀ i j, 0 ≤ i → i < j → j < X 3 → F 0 i ≠ F 0 j)
theorem SB_pt {X : Nat → Int} {F : Nat → Int → Int} (h : SB X F) {p : Int} (hp : pnt X p) : 0 ≤ p ∧ p ≤ 10 ∧ 0 ≤ F 2 p ∧ F 2 p < 8 ∧ 0 ≤ F 4 p ∧ F 4 p ≤ 33 := by
  obtain ⟨h1, h2, h3, h4, h5, h6⟩ := h
  obtain ⟨g0, g | g⟩ := hp
  · have := h2 p g0 g
    omega
  · subst g
    omega
theorem SB_way {X : Nat → Int} {F : Nat → Int → Int} (h : SB X F) {p q : Int} (hp : pnt X p) (hq : pnt X q) : 0 ≤ F 7 (p * 11 + q) ∧ F 7 (p * 11 + q) ≤ 200 := by
  have a1 := SB_pt h hp
  have a2 := SB_pt h hq
  obtain ⟨h1, h2, h3, h4, h5, h6⟩ := h
  rw [h5 p q hp hq]
  exact wy_b (by omega) (by omega) (by omega) (by omega) (by omega)
theorem SB_here {X : Nat → Int} {F : Nat → Int → Int} (h : SB X F) : pnt X (X 0) := ⟨h.1.2.2.2.2.2.2.1, h.1.2.2.2.2.2.2.2.1⟩
theorem pnt_d {X : Nat → Int} : pnt X 10 := ⟨by omega, Or.inr rfl⟩
theorem pnt_s {X : Nat → Int} {s : Int} (h0 : 0 ≤ s) (h1 : s < X 6) : pnt X s := ⟨h0, Or.inl h1⟩
/-- where the walk stands ahead of its step i -/
def rat (X : Nat → Int) (F : Nat → Int → Int) (i : Int) : Int := if i = 0 then X 0 else F 0 (i - 1)
theorem SR_at {X : Nat → Int} {F : Nat → Int → Int} (h : SB X F) (hr : SR X F) {i : Int} (h0 : 0 ≤ i) (h1 : i ≤ X 3) : pnt X (rat X F i) := by
  unfold rat
  split
  · exact SB_here h
  · obtain ⟨q1, q2, q3⟩ := hr
    have := q2 (i - 1) (by omega) (by omega)
    exact pnt_s this.1 this.2.1
def rlN (X : Nat → Int) (F : Nat → Int → Int) (i : Int) : Int := itr (fun i acc => acc + F 7 (rat X F i * 11 + F 0 i)) 0 i
def rl (X : Nat → Int) (F : Nat → Int → Int) : Int := rlN X F (X 3) + F 7 (rat X F (X 3) * 11 + 10)
theorem rlN_b {X : Nat → Int} {F : Nat → Int → Int} (h : SB X F) (hr : SR X F) : ∀ i, 0 ≤ i → i ≤ X 3 → 0 ≤ rlN X F i ∧ rlN X F i ≤ 200 * i := by
  refine itr_ind (P := fun i z => 0 ≤ z ∧ z ≤ 200 * i) ⟨by omega, by omega⟩ ?_
  intro i z h0 h1 hz
  have hq := hr.2.1 i h0 h1
  have := SB_way h (SR_at h hr h0 (by omega)) (pnt_s hq.1 hq.2.1)
  omega
