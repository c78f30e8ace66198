/-! Sets of members as bits -/
def bt (s x : Int) : Int := bAnd (bShr s x) 1
def rm (s x : Int) : Int := bAnd s (bXor (bShl 1 x) (-1))
def pw (m : Int) : Int := bShl 1 m
theorem bits_1 : (List.range 256).all (fun s => (List.range 8).all (fun x => decide (bt (s : Int) (x : Int) = ((s / 2 ^ x % 2 : Nat) : Int)) && decide (rm (s : Int) (x : Int) = ((s - s / 2 ^ x % 2 * 2 ^ x : Nat) : Int)))) = true := by decide +kernel
theorem bits_2 : (List.range 256).all (fun s => (List.range 8).all (fun x => (List.range 8).all (fun y => decide ((s - s / 2 ^ x % 2 * 2 ^ x) / 2 ^ y % 2 = if y = x then 0 else s / 2 ^ y % 2)))) = true := by decide +kernel
theorem bits_3 : (List.range 256).all (fun s => (List.range 8).all (fun x => (List.range 9).all (fun m => decide (s < 2 ^ m → s / 2 ^ x % 2 = 1 → x < m)))) = true := by decide +kernel
theorem bits_4 : (List.range 9).all (fun m => decide (pw (m : Int) = ((2 ^ m : Nat) : Int)) && decide (1 ≤ 2 ^ m ∧ 2 ^ m ≤ 256) && (List.range 8).all (fun x => decide (x < m → (2 ^ m - 1) / 2 ^ x % 2 = 1))) = true := by decide +kernel
theorem bits_5 : (List.range 256).all (fun s => decide (s = 0) || (List.range 8).any (fun x => decide (s / 2 ^ x % 2 = 1))) = true := by decide +kernel
theorem bt_n {s x : Nat} (hs : s < 256) (hx : x < 8) : bt (s : Int) (x : Int) = ((s / 2 ^ x % 2 : Nat) : Int) ∧ rm (s : Int) (x : Int) = ((s - s / 2 ^ x % 2 * 2 ^ x : Nat) : Int) := by
  have h := List.all_eq_true.mp (List.all_eq_true.mp bits_1 s (List.mem_range.mpr hs)) x (List.mem_range.mpr hx)
  rw [Bool.and_eq_true, decide_eq_true_eq, decide_eq_true_eq] at h
  exact h
theorem bt_01 {s x : Int} (hs : 0 ≤ s ∧ s < 256) (hx : 0 ≤ x ∧ x < 8) : bt s x = 0 ∨ bt s x = 1 := by
  obtain ⟨k, rfl⟩ : ∃ k : Nat, s = k := ⟨s.toNat, by omega⟩
  obtain ⟨y, rfl⟩ : ∃ k : Nat, x = k := ⟨x.toNat, by omega⟩
  rw [(bt_n (s := k) (x := y) (by omega) (by omega)).1]
  omega
theorem rm_b {s x : Int} (hs : 0 ≤ s ∧ s < 256) (hx : 0 ≤ x ∧ x < 8) : 0 ≤ rm s x ∧ rm s x ≤ s ∧ (bt s x = 1 → rm s x < s) := by
  obtain ⟨k, rfl⟩ : ∃ k : Nat, s = k := ⟨s.toNat, by omega⟩
  obtain ⟨y, rfl⟩ : ∃ k : Nat, x = k := ⟨x.toNat, by omega⟩
  obtain ⟨h1, h2⟩ := bt_n (s := k) (x := y) (by omega) (by omega)
  rw [h1, h2]
  have hp : 0 < 2 ^ y := Nat.two_pow_pos y
  generalize 2 ^ y = p at *
  refine ⟨by omega, by omega, ?_⟩
  intro h
  have h' : k / p % 2 = 1 := by omega
  rw [h']
  have : 0 < k := by
    by_cases c : k = 0
    · rw [c, Nat.zero_div] at h'
      omega
    · omega
  omega
theorem bt_rm {s x y : Int} (hs : 0 ≤ s ∧ s < 256) (hx : 0 ≤ x ∧ x < 8) (hy : 0 ≤ y ∧ y < 8) : bt (rm s x) y = if y = x then 0 else bt s y := by
  have hb := rm_b hs hx
  obtain ⟨k, rfl⟩ : ∃ k : Nat, s = k := ⟨s.toNat, by omega⟩
  obtain ⟨u, rfl⟩ : ∃ k : Nat, x = k := ⟨x.toNat, by omega⟩
  obtain ⟨v, rfl⟩ : ∃ k : Nat, y = k := ⟨y.toNat, by omega⟩
  obtain ⟨h1, h2⟩ := bt_n (s := k) (x := u) (by omega) (by omega)
  have h3 := bt_n (s := k) (x := v) (by omega) (by omega)
  rw [h2] at hb ⊢
  have h4 := bt_n (s := k - k / 2 ^ u % 2 * 2 ^ u) (x := v) (by omega) (by omega)
  rw [h4.1, h3.1]
  have h := List.all_eq_true.mp (List.all_eq_true.mp (List.all_eq_true.mp bits_2 k (List.mem_range.mpr (by omega))) u (List.mem_range.mpr (by omega))) v (List.mem_range.mpr (by omega))
  rw [decide_eq_true_eq] at h
  rw [h]
  by_cases c : v = u
  · rw [if_pos c, if_pos (by omega)]; rfl
  · rw [if_neg c, if_neg (by omega)]
theorem bt_rm_eq {s x : Int} (hs : 0 ≤ s ∧ s < 256) (hx : 0 ≤ x ∧ x < 8) : bt (rm s x) x = 0 := by rw [bt_rm hs hx hx, if_pos rfl]
theorem bt_rm_ne {s x y : Int} (hs : 0 ≤ s ∧ s < 256) (hx : 0 ≤ x ∧ x < 8) (hy : 0 ≤ y ∧ y < 8) (h : y ≠ x) : bt (rm s x) y = bt s y := by rw [bt_rm hs hx hy, if_neg h]
theorem pw_b {m : Int} (hm : 0 ≤ m ∧ m ≤ 8) : 1 ≤ pw m ∧ pw m ≤ 256 := by
  obtain ⟨k, rfl⟩ : ∃ k : Nat, m = k := ⟨m.toNat, by omega⟩
  have h := List.all_eq_true.mp bits_4 k (List.mem_range.mpr (by omega))
  rw [Bool.and_eq_true, Bool.and_eq_true, decide_eq_true_eq, decide_eq_true_eq] at h
  rw [h.1.1]
  have := h.1.2
  omega
theorem bt_full {m x : Int} (hm : 0 ≤ m ∧ m ≤ 8) (hx : 0 ≤ x ∧ x < m) : bt (pw m - 1) x = 1 := by
  have hb := pw_b hm
  obtain ⟨k, rfl⟩ : ∃ k : Nat, m = k := ⟨m.toNat, by omega⟩
  obtain ⟨u, rfl⟩ : ∃ k : Nat, x = k := ⟨x.toNat, by omega⟩
  have h := List.all_eq_true.mp bits_4 k (List.mem_range.mpr (by omega))
  rw [Bool.and_eq_true, Bool.and_eq_true, decide_eq_true_eq, decide_eq_true_eq] at h
  have h2 := List.all_eq_true.mp h.2 u (List.mem_range.mpr (by omega))
  rw [decide_eq_true_eq] at h2
  have h3 := h.1.2
  have e : pw (k : Int) - 1 = ((2 ^ k - 1 : Nat) : Int) := by rw [h.1.1]; omega
  rw [e, (bt_n (s := 2 ^ k - 1) (x := u) (by omega) (by omega)).1, h2 (by omega)]
  rfl
theorem bt_lt {s m x : Int} (hm : 0 ≤ m ∧ m ≤ 8) (hs : 0 ≤ s ∧ s < pw m) (hx : 0 ≤ x ∧ x < 8) (h : bt s x = 1) : x < m := by
  have hb := pw_b hm
  obtain ⟨k, rfl⟩ : ∃ k : Nat, m = k := ⟨m.toNat, by omega⟩
  obtain ⟨u, rfl⟩ : ∃ k : Nat, x = k := ⟨x.toNat, by omega⟩
  obtain ⟨v, rfl⟩ : ∃ k : Nat, s = k := ⟨s.toNat, by omega⟩
  have h4 := List.all_eq_true.mp bits_4 k (List.mem_range.mpr (by omega))
  rw [Bool.and_eq_true, Bool.and_eq_true, decide_eq_true_eq, decide_eq_true_eq] at h4
  have h3 := List.all_eq_true.mp (List.all_eq_true.mp (List.all_eq_true.mp bits_3 v (List.mem_range.mpr (by omega))) u (List.mem_range.mpr (by omega))) k (List.mem_range.mpr (by omega))
  rw [decide_eq_true_eq] at h3
  rw [(bt_n (s := v) (x := u) (by omega) (by omega)).1] at h
  rw [h4.1.1] at hs
  have := h3 (by omega) (by omega)
  omega
theorem bt_ex {s : Int} (hs : 0 < s ∧ s < 256) : ∃ x, 0 ≤ x ∧ x < 8 ∧ bt s x = 1 := by
  obtain ⟨v, rfl⟩ : ∃ k : Nat, s = k := ⟨s.toNat, by omega⟩
  have h := List.all_eq_true.mp bits_5 v (List.mem_range.mpr (by omega))
  rw [Bool.or_eq_true, decide_eq_true_eq] at h
  rcases h with h | h
  · omega
  · obtain ⟨x, hx, hb⟩ := List.any_eq_true.mp h
    rw [decide_eq_true_eq] at hb
    have hx' := List.mem_range.mp hx
    refine ⟨x, by omega, by omega, ?_⟩
    rw [(bt_n (s := v) (x := x) (by omega) hx').1, hb]
    rfl
theorem bt_z {x : Int} (hx : 0 ≤ x ∧ x < 8) : bt 0 x = 0 := by
  obtain ⟨u, rfl⟩ : ∃ k : Nat, x = k := ⟨x.toNat, by omega⟩
  have := (bt_n (s := 0) (x := u) (by omega) (by omega)).1
  rw [Nat.zero_div] at this
  exact this
