/-! The least walk: members, rests, steps -/
section L1
variable {X : Nat → Int} {F : Nat → Int → Int}
def MEM (X : Nat → Int) (F : Nat → Int → Int) (n : Int) (mem : Int → Int) : Prop := ∀ s, 0 ≤ s → s < n → wk F s = 1 → mem (nW F s) = s
theorem nW_s {s : Int} (h : 0 ≤ s) : nW F (s + 1) = nW F s + wk F s := itr_s _ _ h
theorem nW_mono {i j : Int} (h0 : 0 ≤ i) (h : i ≤ j) : nW F i ≤ nW F j := by
  obtain ⟨k, hk⟩ : ∃ k : Nat, j = i + k := ⟨(j - i).toNat, by omega⟩
  subst hk
  clear h
  induction k with
  | zero => exact Int.le_of_eq (by congr 1; omega)
  | succ k ih =>
    have e : i + ((k + 1 : Nat) : Int) = (i + k) + 1 := by omega
    rw [e, nW_s (by omega)]
    have := wk_01 F (i + k)
    omega
theorem nW_ex {n k : Int} (hn : 0 ≤ n) (k0 : 0 ≤ k) (k1 : k < nW F n) : ∃ s, 0 ≤ s ∧ s < n ∧ wk F s = 1 ∧ nW F s = k := by
  obtain ⟨m, rfl⟩ : ∃ m : Nat, n = m := ⟨n.toNat, by omega⟩
  clear hn
  induction m with
  | zero =>
    have : nW F ((0 : Nat) : Int) = 0 := rfl
    omega
  | succ m ih =>
    have e : ((m + 1 : Nat) : Int) = (m : Int) + 1 := by omega
    rw [e] at k1 ⊢
    rw [nW_s (by omega)] at k1
    by_cases c : k < nW F m
    · obtain ⟨s, s0, s1, s2, s3⟩ := ih c
      exact ⟨s, s0, by omega, s2, s3⟩
    · have := wk_01 F m
      exact ⟨m, by omega, by omega, by omega, by omega⟩
theorem mem_k {mem : Int → Int} (hX : 0 ≤ X 6) (h : MEM X F (X 6) mem) {k : Int} (k0 : 0 ≤ k) (k1 : k < nW F (X 6)) : 0 ≤ mem k ∧ mem k < X 6 ∧ wk F (mem k) = 1 ∧ nW F (mem k) = k := by
  obtain ⟨s, s0, s1, s2, s3⟩ := nW_ex hX k0 k1
  have e := h s s0 s1 s2
  rw [s3] at e
  rw [e]
  exact ⟨s0, s1, s2, s3⟩
/-- one rest: what it is, and its bound -/
def DC (F : Nat → Int → Int) (mem : Int → Int) (m : Int) (T : Int → Int → Int) (s x : Int) : Prop :=
  (s = 0 → T s x = F 7 (mem x * 11 + 10)) ∧
  (s ≠ 0 → ∃ y, 0 ≤ y ∧ y < m ∧ bt s y = 1 ∧ T s x = F 7 (mem x * 11 + mem y) + T (rm s y) y ∧ ∀ z, 0 ≤ z → z < m → bt s z = 1 → T s x ≤ F 7 (mem x * 11 + mem z) + T (rm s z) z) ∧
  0 ≤ T s x ∧ T s x ≤ 200 * (s + 1)
theorem DC_c {mem : Int → Int} {m : Int} {T T' : Int → Int → Int} {s x : Int} (hm : 0 ≤ m ∧ m ≤ 8) (hs : 0 ≤ s ∧ s < 256) (hx : T' s x = T s x) (h : ∀ s' x', 0 ≤ s' → s' < s → 0 ≤ x' → x' < m → T' s' x' = T s' x') (hc : DC F mem m T s x) : DC F mem m T' s x := by
  obtain ⟨h1, h2, h3⟩ := hc
  refine ⟨fun e => by rw [hx]; exact h1 e, fun e => ?_, by rw [hx]; exact h3⟩
  obtain ⟨y, y0, y1, y2, y3, y4⟩ := h2 e
  have hy := rm_b hs (x := y) (by omega)
  refine ⟨y, y0, y1, y2, ?_, fun z z0 z1 z2 => ?_⟩
  · rw [hx, h _ y hy.1 (hy.2.2 y2) y0 y1]; exact y3
  · have hz := rm_b hs (x := z) (by omega)
    rw [hx, h _ z hz.1 (hz.2.2 z2) z0 z1]; exact y4 z z0 z1 z2
/-- all rests of sets below k -/
def TD (F : Nat → Int → Int) (mem : Int → Int) (m k : Int) (T : Int → Int → Int) : Prop := ∀ s x, 0 ≤ s → s < k → 0 ≤ x → x < m → bt s x = 0 → DC F mem m T s x
theorem TD_one {mem mem' : Int → Int} {m : Int} {T T' : Int → Int → Int} (hm : 0 ≤ m ∧ m ≤ 8) (hmem : ∀ k, 0 ≤ k → k < m → mem k = mem' k) (h : TD F mem m (pw m) T) (h' : TD F mem' m (pw m) T') :
    ∀ s x, 0 ≤ s → s < pw m → 0 ≤ x → x < m → bt s x = 0 → T s x = T' s x := by
  have hp := pw_b hm
  have key : ∀ k : Nat, ∀ s x : Int, 0 ≤ s → s < k → s < pw m → 0 ≤ x → x < m → bt s x = 0 → T s x = T' s x := by
    intro k
    induction k with
    | zero => intro s x s0 s1; omega
    | succ k ih =>
      intro s x s0 s1 s2 x0 x1 hb
      obtain ⟨a1, a2, a3⟩ := h s x s0 s2 x0 x1 hb
      obtain ⟨b1, b2, b3⟩ := h' s x s0 s2 x0 x1 hb
      have ex := hmem x x0 x1
      by_cases e : s = 0
      · rw [a1 e, b1 e, ex]
      · obtain ⟨y, y0, y1, y2, y3, y4⟩ := a2 e
        obtain ⟨z, z0, z1, z2, z3, z4⟩ := b2 e
        have ry := rm_b (s := s) (x := y) (by omega) (by omega)
        have rz := rm_b (s := s) (x := z) (by omega) (by omega)
        have ry2 := ry.2.2 y2
        have rz2 := rz.2.2 z2
        have e1 := ih (rm s y) y ry.1 (by omega) (by omega) y0 y1 (bt_rm_eq (by omega) (by omega))
        have e2 := ih (rm s z) z rz.1 (by omega) (by omega) z0 z1 (bt_rm_eq (by omega) (by omega))
        have l1 := y4 z z0 z1 z2
        have l2 := z4 y y0 y1 y2
        rw [← ex, ← hmem y y0 y1] at l2
        rw [← ex, ← hmem z z0 z1] at z3
        omega
  intro s x s0 s1 x0 x1 hb
  exact key (s.toNat + 1) s x s0 (by omega) s1 x0 x1 hb
/-- what is left of the set behind i steps -/
def SS (F : Nat → Int → Int) (m : Int) (row : Int → Int) (i : Int) : Int := itr (fun j acc => rm acc (nW F (row j))) (pw m - 1) i
/-- step k of the least walk -/
def GC (X : Nat → Int) (F : Nat → Int → Int) (m : Int) (mem : Int → Int) (T : Int → Int → Int) (row : Int → Int) (k : Int) : Prop :=
  ∃ y, 0 ≤ y ∧ y < m ∧ bt (SS F m row k) y = 1 ∧ row k = mem y ∧ ∀ z, 0 ≤ z → z < m → bt (SS F m row k) z = 1 → z ≠ y → lx (fun u => F 7 (at3 X row k * 11 + mem u) + T (rm (SS F m row k) u) u) y z
def WL4 (X : Nat → Int) (F : Nat → Int → Int) (n : Int) (row : Int → Int) : Prop :=
  n = nW F (X 6) ∧ ∃ mem T, MEM X F (X 6) mem ∧ TD F mem n (pw n) T ∧ ∀ k, 0 ≤ k → k < n → GC X F n mem T row k
theorem SS_s {m i : Int} {row : Int → Int} (h : 0 ≤ i) : SS F m row (i + 1) = rm (SS F m row i) (nW F (row i)) := itr_s _ _ h
theorem SS_c {m i : Int} {row row' : Int → Int} (h0 : 0 ≤ i) (h : ∀ j, 0 ≤ j → j < i → row' j = row j) : SS F m row' i = SS F m row i :=
  itr_congr (fun j x j0 j1 => by rw [h j j0 j1]) i h0 (Int.le_refl _)
theorem SS_b {m : Int} {mem row : Int → Int} {T : Int → Int → Int} (hX : 0 ≤ X 6) (hm : m = nW F (X 6)) (h8 : 0 ≤ m ∧ m ≤ 8) (hmem : MEM X F (X 6) mem) {i : Int} (h0 : 0 ≤ i) (h : ∀ k, 0 ≤ k → k < i → GC X F m mem T row k) : 0 ≤ SS F m row i ∧ SS F m row i < pw m := by
  have hp := pw_b h8
  refine itr_ind (P := fun _ z => 0 ≤ z ∧ z < pw m) (n := i) ⟨by omega, by omega⟩ ?_ i h0 (Int.le_refl _)
  intro j z j0 j1 hz
  obtain ⟨y, y0, y1, y2, y3, y4⟩ := h j j0 j1
  have e := (mem_k hX hmem y0 (by omega)).2.2.2
  rw [← y3] at e
  rw [e]
  have := rm_b (s := z) (x := y) (by omega) (by omega)
  omega
theorem WL4_one {n n' : Int} {row row' : Int → Int} (hX : 0 ≤ X 6) (h8 : nW F (X 6) ≤ 8) (h : WL4 X F n row) (h' : WL4 X F n' row') : n = n' ∧ ∀ i, 0 ≤ i → i < n → row i = row' i := by
  obtain ⟨a1, mem, T, a2, a3, a4⟩ := h
  obtain ⟨b1, mem', T', b2, b3, b4⟩ := h'
  have hn : n = n' := by rw [a1, b1]
  refine ⟨hn, ?_⟩
  subst hn
  have hnb := nW_b F (X 6) hX
  have hmem : ∀ k, 0 ≤ k → k < n → mem k = mem' k := by
    intro k k0 k1
    obtain ⟨p0, p1, p2, p3⟩ := mem_k hX a2 k0 (by omega)
    have := b2 (mem k) p0 p1 p2
    rw [p3] at this
    exact this.symm
  have hT := TD_one (F := F) (by omega) hmem a3 b3
  have hp := pw_b (m := n) (by omega)
  have key : ∀ k : Nat, ∀ i, 0 ≤ i → i < n → i < k → row i = row' i := by
    intro k
    induction k with
    | zero => intro i h0 _ h2; omega
    | succ k ih =>
      intro i h0 h1 h2
      have hj : ∀ j, 0 ≤ j → j < i → row j = row' j := fun j j0 j1 => ih j j0 (by omega) (by omega)
      have hsb := SS_b (T := T) hX a1 (by omega) a2 h0 (fun k k0 k1 => a4 k k0 (by omega))
      obtain ⟨y, y0, y1, y2, y3, y4⟩ := a4 i h0 h1
      obtain ⟨z, z0, z1, z2, z3, z4⟩ := b4 i h0 h1
      rw [← SS_c (F := F) (m := n) h0 hj] at z2 z4
      rw [← at3_c (X := X) h0 hj] at z4
      by_cases e : y = z
      · rw [y3, z3, hmem y y0 y1, e]
      · have r1 := y4 z z0 z1 z2 (fun q => e q.symm)
        have r2 := z4 y y0 y1 y2 e
        have ry := rm_b (s := SS F n row i) (x := y) (by omega) (by omega)
        have rz := rm_b (s := SS F n row i) (x := z) (by omega) (by omega)
        have t1 := hT (rm (SS F n row i) y) y ry.1 (by omega) y0 y1 (bt_rm_eq (by omega) (by omega))
        have t2 := hT (rm (SS F n row i) z) z rz.1 (by omega) z0 z1 (bt_rm_eq (by omega) (by omega))
        have r1' : F 7 (at3 X row i * 11 + mem y) + T (rm (SS F n row i) y) y < F 7 (at3 X row i * 11 + mem z) + T (rm (SS F n row i) z) z ∨ (F 7 (at3 X row i * 11 + mem y) + T (rm (SS F n row i) y) y = F 7 (at3 X row i * 11 + mem z) + T (rm (SS F n row i) z) z ∧ y < z) := r1
        have r2' : F 7 (at3 X row i * 11 + mem' z) + T' (rm (SS F n row i) z) z < F 7 (at3 X row i * 11 + mem' y) + T' (rm (SS F n row i) y) y ∨ (F 7 (at3 X row i * 11 + mem' z) + T' (rm (SS F n row i) z) z = F 7 (at3 X row i * 11 + mem' y) + T' (rm (SS F n row i) y) y ∧ z < y) := r2
        rw [← hmem y y0 y1, ← hmem z z0 z1, ← t1, ← t2] at r2'
        omega
  intro i h0 h1
  exact key (i.toNat + 1) i h0 h1 (by omega)
/-- the steps as they grow -/
def GI (X : Nat → Int) (F : Nat → Int → Int) (m : Int) (mem : Int → Int) (T : Int → Int → Int) (i set : Int) (row : Int → Int) : Prop :=
  (0 ≤ i ∧ i + itr (fun s acc => acc + bt set s) 0 m = m) ∧ (0 ≤ set ∧ set < pw m) ∧ set = SS F m row i ∧ ∀ k, 0 ≤ k → k < i → GC X F m mem T row k
theorem GI_0 {m : Int} {mem row : Int → Int} {T : Int → Int → Int} (h8 : 0 ≤ m ∧ m ≤ 8) : GI X F m mem T 0 (pw m - 1) row := by
  have hp := pw_b h8
  refine ⟨⟨Int.le_refl _, ?_⟩, ⟨by omega, by omega⟩, rfl, fun k k0 k1 => by omega⟩
  rw [Int.zero_add]
  refine itr_ind (P := fun i z => z = i) (n := m) rfl ?_ m h8.1 (Int.le_refl _)
  intro i z i0 i1 hz
  rw [hz, bt_full h8 ⟨i0, i1⟩]
theorem GC_c {m : Int} {mem : Int → Int} {T : Int → Int → Int} {row row' : Int → Int} {k : Int} (k0 : 0 ≤ k) (h : ∀ j, 0 ≤ j → j ≤ k → row' j = row j) (hc : GC X F m mem T row k) : GC X F m mem T row' k := by
  unfold GC
  rw [SS_c k0 (fun j j0 j1 => h j j0 (by omega)), at3_c k0 (fun j j0 j1 => h j j0 (by omega)), h k k0 (Int.le_refl _)]
  exact hc
theorem GI_ex {m i set : Int} {mem row : Int → Int} {T : Int → Int → Int} (h8 : 0 ≤ m ∧ m ≤ 8) (h : GI X F m mem T i set row) (hi : i < m) : ∃ y, 0 ≤ y ∧ y < m ∧ bt set y = 1 := by
  have hp := pw_b h8
  by_cases c : ∃ y, 0 ≤ y ∧ y < m ∧ bt set y = 1
  · exact c
  · have e : itr (fun s acc => acc + bt set s) 0 m = 0 := by
      refine itr_ind (P := fun _ z => z = 0) (n := m) rfl ?_ m h8.1 (Int.le_refl _)
      intro j z j0 j1 hz
      rcases bt_01 (s := set) (x := j) (by have := h.2.1; omega) (by omega) with q | q
      · rw [hz, q]; rfl
      · exact absurd ⟨j, j0, j1, q⟩ c
    have := h.1
    omega
theorem GI_z {m i set : Int} {mem row : Int → Int} {T : Int → Int → Int} (h8 : 0 ≤ m ∧ m ≤ 8) (h : GI X F m mem T i set row) (hi : set ≠ 0) : i < m := by
  have hp := pw_b h8
  have hs := h.2.1
  obtain ⟨x, x0, x1, x2⟩ := bt_ex (s := set) (by omega)
  have x3 := bt_lt h8 hs ⟨x0, x1⟩ x2
  have := cnt_pos (lf := bt set) (fun j j0 j1 => bt_01 (by omega) (by omega)) x2 x0 x3
  have := h.1
  omega
theorem GI_end {m i set : Int} {mem row : Int → Int} {T : Int → Int → Int} (h8 : 0 ≤ m ∧ m ≤ 8) (h : GI X F m mem T i set row) (hi : set = 0) : i = m := by
  have e : itr (fun s acc => acc + bt set s) 0 m = 0 := by
    refine itr_ind (P := fun _ z => z = 0) (n := m) rfl ?_ m h8.1 (Int.le_refl _)
    intro j z j0 j1 hz
    rw [hz, hi, bt_z (by omega)]
    rfl
  have := h.1
  omega
theorem GI_add {m i set y : Int} {mem row row' : Int → Int} {T : Int → Int → Int} (hX : 0 ≤ X 6) (hm : m = nW F (X 6)) (h8 : 0 ≤ m ∧ m ≤ 8) (hmem : MEM X F (X 6) mem) (h : GI X F m mem T i set row) (y0 : 0 ≤ y) (y1 : y < m) (y2 : bt set y = 1)
    (hmin : ∀ z, 0 ≤ z → z < m → bt set z = 1 → z ≠ y → lx (fun u => F 7 (at3 X row i * 11 + mem u) + T (rm set u) u) y z) (hrow : ∀ j, 0 ≤ j → j < i + 1 → row' j = up row i (mem y) j) : GI X F m mem T (i + 1) (rm set y) row' := by
  obtain ⟨⟨a0, a1⟩, a2, a3, a4⟩ := h
  have hp := pw_b h8
  have ei : row' i = mem y := by rw [hrow i a0 (by omega), up_eq]
  have ej : ∀ j, 0 ≤ j → j < i → row' j = row j := fun j j0 j1 => by rw [hrow j j0 (by omega), up_ne _ (by omega)]
  have hr := rm_b (s := set) (x := y) (by omega) (by omega)
  have hc := cnt_up (lf := bt set) y2 m (by omega)
  rw [if_pos ⟨y1, y0⟩] at hc
  have he : itr (fun s acc => acc + bt (rm set y) s) 0 m = itr (fun q acc => acc + up (bt set) y 0 q) 0 m := by
    refine itr_congr (fun j x j0 j1 => ?_) m (by omega) (Int.le_refl _)
    rw [bt_rm (by omega) (by omega) (by omega)]
    rfl
  have ey := (mem_k hX hmem y0 (by omega)).2.2.2
  refine ⟨⟨by omega, by omega⟩, ⟨hr.1, by omega⟩, ?_, ?_⟩
  · rw [SS_s a0, SS_c a0 ej, ← a3, ei, ey]
  · intro k k0 k1
    by_cases c : k = i
    · subst c
      unfold GC
      rw [SS_c k0 ej, at3_c k0 ej, ← a3]
      exact ⟨y, y0, y1, y2, ei, hmin⟩
    · exact GC_c k0 (fun j j0 j1 => ej j j0 (by omega)) (a4 k k0 (by omega))
theorem WL4_row {n : Int} {row : Int → Int} (hX : 0 ≤ X 6) (h8 : nW F (X 6) ≤ 8) (h : WL4 X F n row) : (∀ i, 0 ≤ i → i < n → 0 ≤ row i ∧ row i < X 6 ∧ wk F (row i) = 1) ∧ ∀ i j, 0 ≤ i → i < j → j < n → row i ≠ row j := by
  obtain ⟨a1, mem, T, a2, a3, a4⟩ := h
  have hnb := nW_b F (X 6) hX
  have hp := pw_b (m := n) (by omega)
  have hy : ∀ i, 0 ≤ i → i < n → 0 ≤ row i ∧ row i < X 6 ∧ wk F (row i) = 1 ∧ 0 ≤ nW F (row i) ∧ nW F (row i) < n ∧ bt (SS F n row i) (nW F (row i)) = 1 := by
    intro i i0 i1
    obtain ⟨y, y0, y1, y2, y3, y4⟩ := a4 i i0 i1
    obtain ⟨p0, p1, p2, p3⟩ := mem_k hX a2 y0 (by omega)
    rw [y3, p3]
    exact ⟨p0, p1, p2, y0, y1, y2⟩
  have hb : ∀ i, 0 ≤ i → i ≤ n → 0 ≤ SS F n row i ∧ SS F n row i < 256 := fun i i0 i1 => by
    have := SS_b (T := T) hX a1 (by omega) a2 i0 (fun k k0 k1 => a4 k k0 (by omega))
    omega
  refine ⟨fun i i0 i1 => ⟨(hy i i0 i1).1, (hy i i0 i1).2.1, (hy i i0 i1).2.2.1⟩, ?_⟩
  intro i j i0 ij j1 he
  have qi := hy i i0 (by omega)
  have zero : ∀ k : Nat, i + 1 + k ≤ n → bt (SS F n row (i + 1 + k)) (nW F (row i)) = 0 := by
    intro k
    induction k with
    | zero =>
      intro _
      have e : i + 1 + ((0 : Nat) : Int) = i + 1 := by omega
      rw [e, SS_s i0]
      exact bt_rm_eq (hb i i0 (by omega)) (by omega)
    | succ k ih =>
      intro hk
      have e : i + 1 + ((k + 1 : Nat) : Int) = (i + 1 + k) + 1 := by omega
      have q := hy (i + 1 + k) (by omega) (by omega)
      rw [e, SS_s (by omega), bt_rm (hb _ (by omega) (by omega)) (by omega) (by omega)]
      split
      · rfl
      · exact ih (by omega)
  have z := zero (j - (i + 1)).toNat (by omega)
  have e : i + 1 + (((j - (i + 1)).toNat : Nat) : Int) = j := by omega
  rw [e, he] at z
  have qj := hy j (by omega) j1
  omega
end L1
