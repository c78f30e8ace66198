/-! Walks by keys: rows in strict order, and that there is one only -/
/-- by key, then by number -/
def lx (K : Int → Int) (s t : Int) : Prop := K s < K t ∨ (K s = K t ∧ s < t)
/-- all stops that are walked, in the order of their keys -/
def WLs (K : Int → Int) (X : Nat → Int) (F : Nat → Int → Int) (n : Int) (row : Int → Int) : Prop :=
  n = nW F (X 6) ∧ (∀ i, 0 ≤ i → i < n → 0 ≤ row i ∧ row i < X 6 ∧ wk F (row i) = 1) ∧ (∀ s, 0 ≤ s → s < X 6 → wk F s = 1 → ∃ i, 0 ≤ i ∧ i < n ∧ row i = s) ∧ (∀ i j, 0 ≤ i → i < j → j < n → lx K (row i) (row j))
theorem lx_asym {K : Int → Int} {s t : Int} (h1 : lx K s t) (h2 : lx K t s) : False := by
  rcases h1 with h1 | h1 <;> rcases h2 with h2 | h2 <;> omega
theorem lx_ne {K : Int → Int} {s t : Int} (h : lx K s t) : s ≠ t := by
  rintro rfl
  exact lx_asym h h
theorem WLs_one {K : Int → Int} {X : Nat → Int} {F : Nat → Int → Int} {n n' : Int} {row row' : Int → Int} (h : WLs K X F n row) (h' : WLs K X F n' row') : n = n' ∧ ∀ i, 0 ≤ i → i < n → row i = row' i := by
  obtain ⟨a1, a2, a3, a4⟩ := h
  obtain ⟨b1, b2, b3, b4⟩ := h'
  have hn : n = n' := by rw [a1, b1]
  refine ⟨hn, ?_⟩
  subst hn
  have key : ∀ k : Nat, ∀ i, 0 ≤ i → i < n → i < k → row i = row' i := by
    intro k
    induction k with
    | zero => intro i h0 _ h2; omega
    | succ k ih =>
      intro i h0 h1 h2
      have p1 := a2 i h0 h1
      have p2 := b2 i h0 h1
      obtain ⟨j, j0, j1, j2⟩ := b3 (row i) p1.1 p1.2.1 p1.2.2
      obtain ⟨l, l0, l1, l2⟩ := a3 (row' i) p2.1 p2.2.1 p2.2.2
      by_cases hj : j < i
      · have := ih j j0 j1 (by omega)
        exact absurd (this.trans j2) (lx_ne (a4 j i j0 hj h1))
      · by_cases hl : l < i
        · have := ih l l0 l1 (by omega)
          exact absurd (this.symm.trans l2) (lx_ne (b4 l i l0 hl h1))
        · by_cases hj2 : j = i
          · rw [← j2, hj2]
          · by_cases hl2 : l = i
            · rw [← l2, hl2]
            · have q1 := b4 i j h0 (by omega) j1
              have q2 := a4 i l h0 (by omega) l1
              rw [j2] at q1
              rw [l2] at q2
              exact (lx_asym q1 q2).elim
  intro i h0 h1
  exact key (i.toNat + 1) i h0 h1 (by omega)
/-- the reference's walk as it grows: what is in it comes ahead of all that is left -/
def LI (K : Int → Int) (X : Nat → Int) (F : Nat → Int → Int) (n : Int) (row lf : Int → Int) : Prop :=
  (0 ≤ n ∧ n + itr (fun s acc => acc + lf s) 0 (X 6) = nW F (X 6)) ∧ (∀ s, 0 ≤ s → s < X 6 → lf s = 0 ∨ lf s = 1) ∧
  (∀ i, 0 ≤ i → i < n → 0 ≤ row i ∧ row i < X 6 ∧ wk F (row i) = 1 ∧ lf (row i) = 0) ∧
  (∀ s, 0 ≤ s → s < X 6 → lf s = 1 → wk F s = 1) ∧
  (∀ s, 0 ≤ s → s < X 6 → wk F s = 1 → lf s = 1 ∨ ∃ i, 0 ≤ i ∧ i < n ∧ row i = s) ∧
  (∀ i j, 0 ≤ i → i < j → j < n → lx K (row i) (row j)) ∧
  (∀ i s, 0 ≤ i → i < n → 0 ≤ s → s < X 6 → lf s = 1 → lx K (row i) s)
theorem cnt_up {lf : Int → Int} {s : Int} (hs : lf s = 1) : ∀ n, 0 ≤ n → itr (fun q acc => acc + up lf s 0 q) 0 n = itr (fun q acc => acc + lf q) 0 n - (if s < n ∧ 0 ≤ s then 1 else 0) := by
  intro n hn
  obtain ⟨k, rfl⟩ : ∃ k : Nat, n = k := ⟨n.toNat, by omega⟩
  clear hn
  induction k with
  | zero =>
    rw [if_neg (by omega)]
    rfl
  | succ k ih =>
    have e : ((k + 1 : Nat) : Int) = (k : Int) + 1 := by omega
    rw [e, itr_s _ _ (by omega), itr_s _ _ (by omega), ih]
    by_cases h : (k : Int) = s
    · subst h
      rw [up_eq, hs, if_neg (by omega), if_pos (by omega)]
      omega
    · rw [up_ne _ h]
      by_cases h2 : s < (k : Int) ∧ 0 ≤ s
      · rw [if_pos h2, if_pos (by omega)]; omega
      · rw [if_neg h2, if_neg (by omega)]; omega
theorem cnt_br {g : Int → Int} {n : Int} (hg : ∀ i, 0 ≤ i → i < n → g i = 0 ∨ g i = 1) : ∀ i, 0 ≤ i → i ≤ n → 0 ≤ itr (fun s acc => acc + g s) 0 i ∧ itr (fun s acc => acc + g s) 0 i ≤ i := by
  refine itr_ind (P := fun i z => 0 ≤ z ∧ z ≤ i) ⟨by omega, by omega⟩ ?_
  intro i z i0 i1 h
  rcases hg i i0 i1 with e | e <;> rw [e] <;> omega
theorem cnt_pos {lf : Int → Int} {s n : Int} (h01 : ∀ s, 0 ≤ s → s < n → lf s = 0 ∨ lf s = 1) (hs : lf s = 1) (h0 : 0 ≤ s) (h1 : s < n) : 1 ≤ itr (fun q acc => acc + lf q) 0 n := by
  have a1 := cnt_up hs n (by omega)
  rw [if_pos ⟨h1, h0⟩] at a1
  have a2 := cnt_br (g := up lf s 0) (n := n) (fun q q0 q1 => by unfold up; split; exact Or.inl rfl; exact h01 q q0 q1) n (by omega) (Int.le_refl _)
  omega
theorem LI_add {K : Int → Int} {X : Nat → Int} {F : Nat → Int → Int} {n : Int} {row lf : Int → Int} (h : LI K X F n row lf) {s : Int} (h0 : 0 ≤ s) (h1 : s < X 6) (hs : lf s = 1) (hmin : ∀ t, 0 ≤ t → t < X 6 → lf t = 1 → t ≠ s → lx K s t) :
    LI K X F (n + 1) (up row n s) (up lf s 0) := by
  obtain ⟨⟨a0, a1⟩, a2, a3, a4, a5, a6, a7⟩ := h
  have hc := cnt_up hs (X 6) (by omega)
  rw [if_pos ⟨h1, h0⟩] at hc
  refine ⟨⟨by omega, by omega⟩, ?_, ?_, ?_, ?_, ?_, ?_⟩
  · intro t t0 t1; unfold up; split; exact Or.inl rfl; exact a2 t t0 t1
  · intro i i0 i1
    by_cases hi : i = n
    · subst hi
      rw [up_eq, up_eq]
      exact ⟨h0, h1, a4 s h0 h1 hs, rfl⟩
    · rw [up_ne _ hi]
      obtain ⟨q1, q2, q3, q4⟩ := a3 i i0 (by omega)
      refine ⟨q1, q2, q3, ?_⟩
      rw [up_ne _ (by rintro e; rw [e] at q4; omega)]
      exact q4
  · intro t t0 t1 ht
    by_cases hts : t = s
    · subst hts; rw [up_eq] at ht; omega
    · rw [up_ne _ hts] at ht; exact a4 t t0 t1 ht
  · intro t t0 t1 ht
    by_cases hts : t = s
    · exact Or.inr ⟨n, a0, by omega, by rw [up_eq, hts]⟩
    · rw [up_ne _ hts]
      rcases a5 t t0 t1 ht with q | ⟨i, i0, i1, i2⟩
      · exact Or.inl q
      · exact Or.inr ⟨i, i0, by omega, by rw [up_ne _ (by omega)]; exact i2⟩
  · intro i j i0 ij j1
    rw [up_ne row (show i ≠ n by omega)]
    by_cases hj : j = n
    · subst hj
      rw [up_eq]
      exact a7 i s i0 ij h0 h1 hs
    · rw [up_ne _ hj]
      exact a6 i j i0 ij (by omega)
  · intro i t i0 i1 t0 t1 ht
    have hts : t ≠ s := by rintro rfl; rw [up_eq] at ht; omega
    rw [up_ne _ hts] at ht
    by_cases hi : i = n
    · subst hi
      rw [up_eq]
      exact hmin t t0 t1 ht hts
    · rw [up_ne _ hi]
      exact a7 i t i0 (by omega) t0 t1 ht
theorem LI_end {K : Int → Int} {X : Nat → Int} {F : Nat → Int → Int} {n : Int} {row lf : Int → Int} (hX : 0 ≤ X 6) (h : LI K X F n row lf) (hl : ∀ s, 0 ≤ s → s < X 6 → lf s = 0) : WLs K X F n row := by
  obtain ⟨⟨a0, a1⟩, a2, a3, a4, a5, a6, a7⟩ := h
  have e : itr (fun s acc => acc + lf s) 0 (X 6) = 0 := by
    refine itr_ind (P := fun _ z => z = 0) (n := X 6) rfl ?_ (X 6) hX (Int.le_refl _)
    intro i z i0 i1 hz
    rw [hz, hl i i0 i1]
    rfl
  refine ⟨by omega, ?_, ?_, a6⟩
  · intro i i0 i1
    obtain ⟨q1, q2, q3, q4⟩ := a3 i i0 i1
    exact ⟨q1, q2, q3⟩
  · intro s s0 s1 hs
    rcases a5 s s0 s1 hs with q | q
    · have := hl s s0 s1; omega
    · exact q
theorem LI_0 {K : Int → Int} {X : Nat → Int} {F : Nat → Int → Int} {row lf : Int → Int} (hX : 0 ≤ X 6) (hl : ∀ s, 0 ≤ s → s < X 6 → lf s = wk F s) : LI K X F 0 row lf := by
  refine ⟨⟨Int.le_refl _, ?_⟩, fun s s0 s1 => by rw [hl s s0 s1]; exact wk_01 F s, fun i i0 i1 => by omega, fun s s0 s1 hs => by rw [← hl s s0 s1]; exact hs, fun s s0 s1 hs => Or.inl (by rw [hl s s0 s1]; exact hs), fun i j i0 ij j1 => by omega, fun i s i0 i1 => by omega⟩
  rw [Int.zero_add]
  exact itr_congr (fun i x i0 i1 => by rw [hl i i0 i1]) (X 6) hX (Int.le_refl _)
theorem LI_room {K : Int → Int} {X : Nat → Int} {F : Nat → Int → Int} {n : Int} {row lf : Int → Int} (h : LI K X F n row lf) {s : Int} (h0 : 0 ≤ s) (h1 : s < X 6) (hs : lf s = 1) : n < X 6 := by
  obtain ⟨⟨a0, a1⟩, a2, _⟩ := h
  have p1 := cnt_pos a2 hs h0 h1
  have p2 := nW_b F (X 6) (by omega)
  omega
