/-! The law's loop: a call at a time -/
def INV (t : Int) (X : Nat → Int) (F : Nat → Int → Int) (M : Nat → Int) (G : Nat → Int → Int) : Prop := SB X F ∧ SR X F ∧ RB X F M G ∧ RR X F M G ∧ 0 ≤ X 1 ∧ X 1 ≤ 200 * t
def LSx (i : Int) (ls : BL) : Prop := ls = [(0, bR 0), (1, bR 1), (2, bR 19), (3, bR 30), (4, bI i)] ∨ (∃ k, ls = [(0, bR 0), (1, bR 1), (2, bR 19), (3, bR 30), (4, bI i), (5, bI k)]) ∨ (∃ k e, ls = [(0, bR 0), (1, bR 1), (2, bR 19), (3, bR 30), (4, bI i), (5, bI k), (6, bI e)])
/-- what follows the call -/
def KT (L : Nat) (xs : Nat → Int32) (Q : BR → Prop) (i t : Int) (a b : Nat) : Prop := ∀ (X : Nat → Int) (F : Nat → Int → Int) (M : Nat → Int) (G : Nat → Int → Int) (O : Int → Int) (ls : BL) (a' b' : Nat), INV (t + 1) X F M G → LSx (i + 4) ls → a' ≤ a + 1 → b' ≤ b + 6 → bE L xs 10 ML_law (43, ls, [], WD X F M G O, a', b') Q
theorem lc {o b : Int} (h : o = b) : (if b < o then (1 : Int) else if o = b then 0 else -1) = 0 := by
  rw [if_neg (by omega), if_pos h]
section V1
variable {L : Nat} {xs : Nat → Int32} {X M : Nat → Int} {F G : Nat → Int → Int} {O : Int → Int} {a b : Nat} {Q : BR → Prop} {i t : Int} {ls : BL}
theorem inv_same (h : INV t X F M G) {c : Int} (ht : 0 ≤ t) : INV (t + 1) X F (un M 0 c) G := by
  obtain ⟨hI, hr, hm, hmr, h0, h1⟩ := h
  exact ⟨hI, hr, hm, hmr, h0, by omega⟩
theorem inv_same2 (h : INV t X F M G) {c c2 : Int} (ht : 0 ≤ t) : INV (t + 1) X F (un (un M 0 c) 0 c2) G := by
  obtain ⟨hI, hr, hm, hmr, h0, h1⟩ := h
  exact ⟨hI, hr, hm, hmr, h0, by omega⟩
theorem inv_stop (h : INV t X F M G) (ht : 0 ≤ t) (hn : X 6 < 10) {A P N : Int} {V : Int → Int} (hV : SB (un X 6 (X 6 + 1)) (un (F1 F (X 6) A P N) 7 V)) :
    INV (t + 1) (un X 6 (X 6 + 1)) (un (F1 F (X 6) A P N) 7 V) (un (un M 0 0) 6 (M 6 + 1)) (un (un (un G 1 (up (G 1) (M 6) A)) 2 (up (G 2) (M 6) P)) 3 (up (G 3) (M 6) N)) := by
  obtain ⟨hI, hr, hm, hmr, h0, h1⟩ := h
  have e6 := hm.1.2.2.2.2.2
  have hX := hI.1
  refine ⟨hV, ⟨hr.1, ?_, hr.2.2⟩, ⟨?_, hm.2.1, ?_, ?_⟩, hmr, h0, ?_⟩
  · intro i i0 i1
    have q := hr.2.1 i i0 i1
    refine ⟨q.1, ?_, ?_⟩
    · show F 0 i < X 6 + 1
      omega
    · show 0 < up (F 5) (X 6) N (F 0 i)
      rw [up_ne _ (by omega)]; exact q.2.2
  · refine ⟨hm.1.1, hm.1.2.1, hm.1.2.2.1, hm.1.2.2.2.1, hm.1.2.2.2.2.1, ?_⟩
    show M 6 + 1 = X 6 + 1
    omega
  · intro j j0 j1
    have j1 : j < X 6 + 1 := j1
    show up (G 1) (M 6) A j = up (F 2) (X 6) A j ∧ up (G 2) (M 6) P j = up (F 3) (X 6) P j ∧ up (G 3) (M 6) N j = up (F 5) (X 6) N j ∧ G 4 j = up (F 6) (X 6) 0 j
    rw [e6]
    by_cases hj : j = X 6
    · subst hj
      simp only [up_eq]
      exact ⟨trivial, trivial, trivial, hm.2.2.2 _ (Int.le_refl _) hn⟩
    · simp only [up_ne _ hj]
      exact hm.2.2.1 j j0 (by omega)
  · intro j j0 j1
    have j0 : X 6 + 1 ≤ j := j0
    exact hm.2.2.2 j (by omega) j1
  · show X 1 ≤ _
    omega
theorem inv_closed (h : INV t X F M G) (ht : 0 ≤ t) {A on : Int} (ho : 0 ≤ on ∧ on ≤ 1) : INV (t + 1) X (un F 1 (up (F 1) A on)) (un M 0 0) (un G 0 (up (G 0) A on)) := by
  obtain ⟨hI, hr, hm, hmr, h0, h1⟩ := h
  refine ⟨SB_shut hI (fun j => by unfold up; split; exact ho; exact hI.2.2.1 j), hr, ⟨hm.1, ?_, hm.2.2⟩, hmr, h0, by omega⟩
  intro j j0 j1
  show up (G 0) A on j = up (F 1) A on j
  unfold up
  rw [hm.2.1 j j0 j1]
theorem inv_go (h : INV t X F M G) (ht : 0 ≤ t) (h3 : X 3 ≠ 0) {row row' : Int → Int} (hrow : ∀ j, 0 ≤ j → j < X 3 - 1 → row j = dr (F 0) 0 j) (hrow' : ∀ j, 0 ≤ j → j < M 7 - 1 → row' j = dr (G 5) 0 j) :
    INV (t + 1) (un (un (un X 1 (X 1 + F 7 (X 0 * 11 + F 0 0))) 0 (F 0 0)) 3 (X 3 - 1)) (un (un F 6 (up (F 6) (F 0 0) 1)) 0 row) (un (un (un (un (un M 0 0) 0 0) 4 (M 4 + F 7 (X 0 * 11 + F 0 0))) 5 (F 0 0)) 7 (M 7 - 1)) (un (un G 4 (up (G 4) (F 0 0) 1)) 5 row') := by
  obtain ⟨hI, hr, hm, hmr, h0, h1⟩ := h
  have hX := hI.1
  have hR := hr.1
  have e7 := hmr.1
  have q := hr.2.1 0 (by omega) (by omega)
  have hw := SB_way hI (SB_here hI) (pnt_s q.1 q.2.1)
  have hS := SB_state hI (s := F 0 0) (v := 1) (by omega)
  have hB := RB_state hI hm (s := F 0 0) (v := 1) ⟨q.1, q.2.1⟩
  refine ⟨⟨?_, hS.2⟩, SR_drop hr (k := 0) (by omega) (n := X 3 - 1) (by rw [if_pos (by omega)]) hrow rfl rfl rfl rfl, ⟨?_, hB.2⟩, RR_drop hmr (k := 0) (n := X 3 - 1) (by omega) rfl hrow (fun j j0 j1 => hrow' j j0 (by omega)) rfl (show M 7 - 1 = X 3 - 1 by omega) rfl rfl, ?_, ?_⟩
  · show 1 ≤ X 4 ∧ X 4 ≤ 8 ∧ 1 ≤ X 5 ∧ X 5 ≤ 3 ∧ 0 ≤ X 6 ∧ X 6 ≤ 10 ∧ 0 ≤ F 0 0 ∧ (F 0 0 < X 6 ∨ F 0 0 = 10) ∧ 1 ≤ X 2 ∧ X 2 ≤ 1000
    omega
  · show M 1 = X 4 ∧ M 2 = X 5 ∧ M 3 = X 2 ∧ M 4 + F 7 (X 0 * 11 + F 0 0) = X 1 + F 7 (X 0 * 11 + F 0 0) ∧ F 0 0 = mp (F 0 0) ∧ M 6 = X 6
    rw [mp_s (by omega)]
    have := hm.1
    omega
  · show 0 ≤ X 1 + F 7 (X 0 * 11 + F 0 0)
    omega
  · show X 1 + F 7 (X 0 * 11 + F 0 0) ≤ _
    omega
theorem inv_cart (h : INV t X F M G) (ht : 0 ≤ t) {c : Int} (hc : 1 ≤ c ∧ c ≤ 1000) : INV (t + 1) (un X 2 c) F (un (un M 0 0) 3 c) G := by
  obtain ⟨hI, hr, hm, hmr, h0, h1⟩ := h
  have hX := hI.1
  have hM := hm.1
  refine ⟨⟨?_, hI.2⟩, hr, ⟨?_, hm.2⟩, hmr, h0, ?_⟩
  · show 1 ≤ X 4 ∧ X 4 ≤ 8 ∧ 1 ≤ X 5 ∧ X 5 ≤ 3 ∧ 0 ≤ X 6 ∧ X 6 ≤ 10 ∧ 0 ≤ X 0 ∧ (X 0 < X 6 ∨ X 0 = 10) ∧ 1 ≤ c ∧ c ≤ 1000
    omega
  · show M 1 = X 4 ∧ M 2 = X 5 ∧ c = c ∧ M 4 = X 1 ∧ M 5 = mp (X 0) ∧ M 6 = X 6
    omega
  · show X 1 ≤ _
    omega
/-- a stop is at one place of the walk, or at none -/
theorem at_one (hr : SR X F) (s : Int) : ∃ k, (0 ≤ k ∧ k ≤ X 3) ∧ ∀ i, 0 ≤ i → i < X 3 → (F 0 i = s ↔ i = k) := by
  by_cases h : ∃ k, 0 ≤ k ∧ k < X 3 ∧ F 0 k = s
  · obtain ⟨k, k0, k1, k2⟩ := h
    refine ⟨k, ⟨k0, by omega⟩, fun i i0 i1 => ⟨fun e => ?_, fun e => by rw [e]; exact k2⟩⟩
    by_cases hik : i = k
    · exact hik
    · by_cases hlt : i < k
      · exact absurd (e.trans k2.symm) (hr.2.2 i k i0 hlt k1)
      · exact absurd (k2.trans e.symm) (hr.2.2 k i k0 (by omega) i1)
  · refine ⟨X 3, ⟨hr.1.1, Int.le_refl _⟩, fun i i0 i1 => ⟨fun e => absurd ⟨i, i0, i1, e⟩ h, fun e => by omega⟩⟩

end V1
