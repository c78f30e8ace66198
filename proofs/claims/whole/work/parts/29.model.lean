/-! The reference's calls, but for walk -/
theorem for_down {P : Int → Prop} (hend : P (-1)) (hstep : ∀ i, 0 ≤ i → P (i - 1) → P i) : ∀ i, -1 ≤ i → P i := by
  intro i h
  obtain ⟨k, hk⟩ : ∃ k : Nat, i + 1 = k := ⟨(i + 1).toNat, by omega⟩
  induction k generalizing i with
  | zero => have : i = -1 := by omega
            subst this; exact hend
  | succ k ih => exact hstep i (by omega) (ih (i - 1) (by omega) (by omega))
section N2
variable {L : Nat} {xs : Nat → Int32} {X M : Nat → Int} {F G : Nat → Int → Int} {Y : Nat → Int} {E : Nat → Int → Int} {O : Int → Int} {d a b : Nat} {Q : BR → Prop}
theorem m_thrown : bE L xs d MX6_thrown (0, [(0, bR 19)], [], WD Y E M G O, a, b) (rI (WD Y E M G O) (M 0) a b) := go [] [] rfl (by omega) (rti rfl rfl rfl)
theorem RB_code (hm : RB X F M G) {c : Int} : RB X F (un M 0 c) G := hm
theorem m_stop1 (hI : SB X F) (hm : RB X F M G) (A P N : Int) (hd : 3 ≤ d) (h : ¬ (0 ≤ A ∧ A < X 4)) : bE L xs d MX6_stop (0, [(0, bR 19), (1, bI A), (2, bI P), (3, bI N)], [], WD Y E M G O, a, b) (rI (WD Y E (un M 0 1) G O) 0 a b) := by
  refine go [] [] rfl (by omega) (bc rfl (by omega) (m_isAisle hI hm (by omega) A) (fun h => by cases h) ?_)
  rw [if_neg h]
  refine go [] [1, 1] rfl ?_ (rti rfl rfl rfl)
  show (0 : Int) = 0 ∧ (0 : Int) < 1 ∧ (0 : Int) = 0
  omega
theorem m_stop2 (hI : SB X F) (hm : RB X F M G) (A P N : Int) (hd : 3 ≤ d) (h : 0 ≤ A ∧ A < X 4) (h2 : ¬ (0 ≤ P ∧ P < 10 * X 5) ∨ ¬ (0 ≤ N ∧ N ≤ 100)) : bE L xs d MX6_stop (0, [(0, bR 19), (1, bI A), (2, bI P), (3, bI N)], [], WD Y E M G O, a, b) (rI (WD Y E (un M 0 2) G O) 0 a b) := by
  have hX := hI.1
  have h6 := hm.1
  refine go [] [] rfl (by omega) (bc rfl (by omega) (m_isAisle hI hm (by omega) A) (fun h => by cases h) ?_)
  rw [if_pos h]
  refine go [] [0] rfl (by omega) (bc rfl (by omega) (m_in _ _ _) (fun h => by cases h) ?_)
  by_cases hp : 0 ≤ P ∧ P ≤ 10 * M 2 - 1
  · rw [if_pos hp]
    refine go [] [1] rfl (by omega) (bc rfl (by omega) (m_in _ _ _) (fun h => by cases h) ?_)
    rw [if_neg (by omega)]
    refine go [] [1, 1] rfl ?_ (rti rfl rfl rfl)
    show (0 : Int) = 0 ∧ (0 : Int) < 2 ∧ (0 : Int) = 0
    omega
  · rw [if_neg hp]
    refine go [] [0, 1] rfl ?_ (rti rfl rfl rfl)
    show (0 : Int) = 0 ∧ (0 : Int) < 2 ∧ (0 : Int) = 0
    omega
theorem m_stop3 (hI : SB X F) (hm : RB X F M G) (A P N : Int) (hd : 3 ≤ d) (h : 0 ≤ A ∧ A < X 4) (h2 : 0 ≤ P ∧ P < 10 * X 5) (h3 : 0 ≤ N ∧ N ≤ 100) (h4 : 10 ≤ X 6) : bE L xs d MX6_stop (0, [(0, bR 19), (1, bI A), (2, bI P), (3, bI N)], [], WD Y E M G O, a, b) (rI (WD Y E (un M 0 3) G O) 0 a b) := by
  have hX := hI.1
  have h6 := hm.1
  refine go [] [] rfl (by omega) (bc rfl (by omega) (m_isAisle hI hm (by omega) A) (fun h => by cases h) ?_)
  rw [if_pos h]
  refine go [] [0] rfl (by omega) (bc rfl (by omega) (m_in _ _ _) (fun h => by cases h) ?_)
  rw [if_pos (by omega)]
  refine go [] [1] rfl (by omega) (bc rfl (by omega) (m_in _ _ _) (fun h => by cases h) ?_)
  rw [if_pos (by omega)]
  refine go [] [0, 1, 1] rfl ?_ (rti rfl rfl rfl)
  show (¬ (1 : Int) = 0) ∧ M 6 = 10 ∧ (0 : Int) < 3 ∧ (0 : Int) = 0
  omega
theorem m_stop4 (hI : SB X F) (hm : RB X F M G) (A P N : Int) (hd : 3 ≤ d) (h : 0 ≤ A ∧ A < X 4) (h2 : 0 ≤ P ∧ P < 10 * X 5) (h3 : 0 ≤ N ∧ N ≤ 100) (h4 : X 6 < 10) : bE L xs d MX6_stop (0, [(0, bR 19), (1, bI A), (2, bI P), (3, bI N)], [], WD Y E M G O, a, b)
      (rI (WD Y E (un (un M 0 0) 6 (M 6 + 1)) (un (un (un G 1 (up (G 1) (M 6) A)) 2 (up (G 2) (M 6) P)) 3 (up (G 3) (M 6) N)) O) (M 6 + 1 - 1) a b) := by
  have hX := hI.1
  have h6 := hm.1
  refine go [] [] rfl (by omega) (bc rfl (by omega) (m_isAisle hI hm (by omega) A) (fun h => by cases h) ?_)
  rw [if_pos h]
  refine go [] [0] rfl (by omega) (bc rfl (by omega) (m_in _ _ _) (fun h => by cases h) ?_)
  rw [if_pos (by omega)]
  refine go [] [1] rfl (by omega) (bc rfl (by omega) (m_in _ _ _) (fun h => by cases h) ?_)
  rw [if_pos (by omega)]
  refine go [70] [0, 0, 0] rfl ?_ ?_
  · show (¬ (1 : Int) = 0) ∧ (¬ M 6 = 10) ∧ (0 : Int) ≤ 0
    omega
  · refine go [] [] rfl ?_ (rti rfl rfl rfl)
    show (0 ≤ M 6 ∧ M 6 < ((10 : Nat) : Int)) ∧ (0 ≤ M 6 ∧ M 6 < ((10 : Nat) : Int)) ∧ (0 ≤ M 6 ∧ M 6 < ((10 : Nat) : Int)) ∧ (-2147483648 ≤ M 6 + 1 ∧ M 6 + 1 ≤ 2147483647) ∧ (-2147483648 ≤ M 6 + 1 - 1 ∧ M 6 + 1 - 1 ≤ 2147483647)
    omega
theorem m_closed1 (hI : SB X F) (hm : RB X F M G) (A on : Int) (hd : 3 ≤ d) (h : ¬ (0 ≤ A ∧ A < X 4)) : bE L xs d MX6_closed (0, [(0, bR 19), (1, bI A), (2, bI on)], [], WD Y E M G O, a, b) (rI (WD Y E (un M 0 1) G O) 0 a b) := by
  refine go [] [] rfl (by omega) (bc rfl (by omega) (m_isAisle hI hm (by omega) A) (fun h => by cases h) ?_)
  rw [if_neg h]
  refine go [] [0, 1] rfl ?_ (rti rfl rfl rfl)
  show (0 : Int) = 0 ∧ (0 : Int) < 1 ∧ (0 : Int) = 0
  omega
theorem m_closed2 (hI : SB X F) (hm : RB X F M G) (A on : Int) (hd : 3 ≤ d) (h : 0 ≤ A ∧ A < X 4) (ho : 0 ≤ on ∧ on ≤ 1) : bE L xs d MX6_closed (0, [(0, bR 19), (1, bI A), (2, bI on)], [], WD Y E M G O, a, b) (rI (WD Y E (un M 0 0) (un G 0 (up (G 0) A on)) O) (nO F A (X 6)) a b) := by
  have hX := hI.1
  have h6 := hm.1
  refine go [] [] rfl (by omega) (bc rfl (by omega) (m_isAisle hI hm (by omega) A) (fun h => by cases h) ?_)
  rw [if_pos h]
  refine go [26] [1, 0] rfl ?_ ?_
  · show (¬ (1 : Int) = 0) ∧ (0 : Int) ≤ 0
    omega
  refine go [38] [] rfl (by omega) (for_up (P := fun s => bE L xs d MX6_closed (38, [(0, bR 19), (1, bI A), (2, bI on), (3, bI (nO F A s)), (4, bI s)], [], WD Y E (un M 0 0) (un G 0 (up (G 0) A on)) O, a, b) (rI (WD Y E (un M 0 0) (un G 0 (up (G 0) A on)) O) (nO F A (X 6)) a b)) (X 6) ?_ ?_ 0 (by omega) (by omega))
  · refine go [] [0] rfl ?_ (rti rfl rfl rfl)
    show M 6 ≤ X 6 ∧ (0 : Int) = 0
    omega
  · intro s h0 h1 ih
    obtain ⟨g1, g2, g3, g4⟩ := hm.2.2.1 s h0 h1
    have e : nO F A (s + 1) = nO F A s + (if F 2 s = A ∧ F 6 s = 0 then 1 else 0) := itr_s _ _ h0
    have hb := nO_b F A s h0
    by_cases hw : F 2 s = A
    · by_cases hv : F 6 s = 0
      · rw [e, if_pos ⟨hw, hv⟩] at ih
        refine go [38] [1, 1, 1] rfl ?_ ih
        show s < M 6 ∧ (0 ≤ s ∧ s < ((10 : Nat) : Int)) ∧ G 1 s = A ∧ (0 ≤ s ∧ s < ((10 : Nat) : Int)) ∧ G 4 s = 0 ∧ (-2147483648 ≤ nO F A s + 1 ∧ nO F A s + 1 ≤ 2147483647) ∧ (-2147483648 ≤ s + 1 ∧ s + 1 ≤ 2147483647) ∧ (0 : Int) = 0
        omega
      · rw [e, if_neg (fun h => hv h.2)] at ih
        refine go [38] [1, 1, 0] rfl ?_ ih
        show s < M 6 ∧ (0 ≤ s ∧ s < ((10 : Nat) : Int)) ∧ G 1 s = A ∧ (0 ≤ s ∧ s < ((10 : Nat) : Int)) ∧ (¬ G 4 s = 0) ∧ (-2147483648 ≤ nO F A s + 0 ∧ nO F A s + 0 ≤ 2147483647) ∧ (-2147483648 ≤ s + 1 ∧ s + 1 ≤ 2147483647) ∧ (0 : Int) = 0
        omega
    · rw [e, if_neg (fun h => hw h.1)] at ih
      refine go [38] [1, 0] rfl ?_ ih
      show s < M 6 ∧ (0 ≤ s ∧ s < ((10 : Nat) : Int)) ∧ (¬ G 1 s = A) ∧ (-2147483648 ≤ nO F A s + 0 ∧ nO F A s + 0 ≤ 2147483647) ∧ (-2147483648 ≤ s + 1 ∧ s + 1 ≤ 2147483647) ∧ (0 : Int) = 0
      omega
theorem m_step1 (hr : SR X F) (hmr : RR X F M G) (i : Int) (hd : 3 ≤ d) (h : ¬ (0 ≤ i ∧ i < X 3)) : bE L xs d MX6_step (0, [(0, bR 19), (1, bI i)], [], WD Y E M G O, a, b) (rI (WD Y E (un M 0 1) G O) 0 a b) := by
  have h3 := hr.1
  have h7 := hmr.1
  refine go [] [] rfl (by omega) (bc rfl (by omega) (m_in _ _ _) (fun h => by cases h) ?_)
  rw [if_neg (by omega)]
  refine go [] [0, 1] rfl ?_ (rti rfl rfl rfl)
  show (0 : Int) = 0 ∧ (0 : Int) < 1 ∧ (0 : Int) = 0
  omega
theorem m_step2 (hr : SR X F) (hmr : RR X F M G) (i : Int) (hd : 3 ≤ d) (h : 0 ≤ i ∧ i < X 3) : bE L xs d MX6_step (0, [(0, bR 19), (1, bI i)], [], WD Y E M G O, a, b) (rI (WD Y E (un M 0 0) G O) (F 0 i) a b) := by
  have h3 := hr.1
  have h7 := hmr.1
  rw [← hmr.2 i h.1 h.2]
  refine go [] [] rfl (by omega) (bc rfl (by omega) (m_in _ _ _) (fun h => by cases h) ?_)
  rw [if_pos (by omega)]
  refine go [] [1, 0] rfl ?_ (rti rfl rfl rfl)
  show (¬ (1 : Int) = 0) ∧ (0 : Int) ≤ 0 ∧ (0 ≤ i ∧ i < ((10 : Nat) : Int))
  omega
theorem m_remove (k : Int) (h7 : M 7 ≤ 10) (hk : 0 ≤ k ∧ k < M 7) : bE L xs d MX6_remove (0, [(0, bR 19), (1, bI k)], [], WD Y E M G O, a, b)
    (fun r => ∃ row : Int → Int, r = (WD Y E (un M 7 (M 7 - 1)) (un G 5 row) O, .inl none, a, b) ∧ ∀ j, 0 ≤ j → j < M 7 - 1 → row j = dr (G 5) k j) := by
  have key := for_up (P := fun i => k ≤ i → ∀ V : Int → Int, (∀ j, 0 ≤ j → j < i → V j = dr (G 5) k j) → (∀ j, i ≤ j → V j = G 5 j) →
      bE L xs d MX6_remove (12, [(0, bR 19), (1, bI k), (2, bI i)], [], WD Y E (un M 7 (M 7 - 1)) (un G 5 V) O, a, b) (fun r => ∃ row : Int → Int, r = (WD Y E (un M 7 (M 7 - 1)) (un G 5 row) O, .inl none, a, b) ∧ ∀ j, 0 ≤ j → j < M 7 - 1 → row j = dr (G 5) k j)) (M 7 - 1) ?_ ?_ k (by omega) (by omega) (by omega)
  · refine go [12] [] rfl (by omega) (key (G 5) ?_ (fun j _ => rfl))
    intro j h0 h1
    unfold dr
    rw [if_pos h1]
  · intro _ V h1 h2
    refine go [] [0] rfl ?_ (rtv rfl rfl ⟨V, rfl, h1⟩)
    show M 7 - 1 ≤ M 7 - 1
    omega
  · intro i h0 h1 ih hki V g1 g2
    refine go [12] [1] rfl ?_ (ih (by omega) (up V i (V (i + 1))) ?_ ?_)
    · show i < M 7 - 1 ∧ (-2147483648 ≤ i + 1 ∧ i + 1 ≤ 2147483647) ∧ (0 ≤ i + 1 ∧ i + 1 < ((10 : Nat) : Int)) ∧ (0 ≤ i ∧ i < ((10 : Nat) : Int)) ∧ (-2147483648 ≤ i + 1 ∧ i + 1 ≤ 2147483647) ∧ (0 : Int) = 0
      omega
    · intro j q0 q1
      by_cases hj : j = i
      · subst hj
        rw [up_eq, g2 (j + 1) (by omega)]
        unfold dr
        rw [if_neg (by omega)]
      · rw [up_ne _ hj]; exact g1 j q0 (by omega)
    · intro j q
      rw [up_ne _ (by omega)]; exact g2 j (by omega)
theorem m_go1 (h7 : M 7 = 0) : bE L xs d MX6_go (0, [(0, bR 19)], [], WD Y E M G O, a, b) (rI (WD Y E (un M 0 1) G O) 0 a b) := by
  refine go [] [1, 0, 1] rfl ?_ (rti rfl rfl rfl)
  show M 7 = 0 ∧ (¬ (1 : Int) = 0) ∧ (0 : Int) < 1 ∧ (0 : Int) = 0
  omega
theorem m_go2 (hI : SB X F) (hr : SR X F) (hm : RB X F M G) (hmr : RR X F M G) (h : X 3 ≠ 0) (h2 : F 1 (F 2 (F 0 0)) ≠ 0) : bE L xs d MX6_go (0, [(0, bR 19)], [], WD Y E M G O, a, b) (rI (WD Y E (un (un M 0 0) 0 1) G O) 0 a b) := by
  have hX := hI.1
  have h3 := hr.1
  have h7 := hmr.1
  have hq := hr.2.1 0 (by omega) (by omega)
  have hp := hI.2.1 (F 0 0) hq.1 hq.2.1
  have g5 := hmr.2 0 (by omega) (by omega)
  obtain ⟨g1, g2, g3, g4⟩ := hm.2.2.1 (F 0 0) hq.1 hq.2.1
  have g0 := hm.2.1 (F 2 (F 0 0)) (by omega) (by omega)
  rw [← g5] at g1 hp hq g0 h2
  rw [← g1] at g0 hp h2
  refine go [] [0, 1, 1, 1] rfl ?_ (rti rfl rfl rfl)
  show (¬ M 7 = 0) ∧ (0 : Int) = 0 ∧ ((0 : Int) ≤ 0 ∧ (0 : Int) < ((10 : Nat) : Int)) ∧ (0 ≤ G 5 0 ∧ G 5 0 < ((10 : Nat) : Int)) ∧ (0 ≤ G 1 (G 5 0) ∧ G 1 (G 5 0) < ((8 : Nat) : Int)) ∧ (¬ G 0 (G 1 (G 5 0)) = 0) ∧ (0 : Int) < 1 ∧ (0 : Int) = 0
  omega
theorem m_go3 (hI : SB X F) (hr : SR X F) (hm : RB X F M G) (hmr : RR X F M G) (hd : 3 ≤ d) (hmt : 0 ≤ X 1 ∧ X 1 ≤ 1000000) (h : X 3 ≠ 0) (h2 : F 1 (F 2 (F 0 0)) = 0) : bE L xs d MX6_go (0, [(0, bR 19)], [], WD Y E M G O, a, b)
    (fun r => ∃ row : Int → Int, r = (WD Y E (un (un (un (un (un M 0 0) 0 0) 4 (M 4 + F 7 (X 0 * 11 + F 0 0))) 5 (F 0 0)) 7 (M 7 - 1)) (un (un G 4 (up (G 4) (F 0 0) 1)) 5 row) O, .inl (some (bI (F 0 0))), a, b) ∧ ∀ j, 0 ≤ j → j < M 7 - 1 → row j = dr (G 5) 0 j) := by
  have hX := hI.1
  have h3 := hr.1
  have h7 := hmr.1
  have h6 := hm.1
  have hq := hr.2.1 0 (by omega) (by omega)
  have hp := hI.2.1 (F 0 0) hq.1 hq.2.1
  have hw := SB_way hI (SB_here hI) (pnt_s hq.1 hq.2.1)
  have w := m_way (L := L) (xs := xs) (Y := Y) (E := E) (O := O) (d := d - 1) (a := a) (b := b) hI (RB_code (RB_code hm (c := 0)) (c := 0)) (X 0) (F 0 0) (SB_here hI) (pnt_s hq.1 hq.2.1) (by omega)
  have g5 := hmr.2 0 (by omega) (by omega)
  obtain ⟨g1, g2, g3, g4⟩ := hm.2.2.1 (F 0 0) hq.1 hq.2.1
  have g0 := hm.2.1 (F 2 (F 0 0)) (by omega) (by omega)
  rw [mp_s (s := F 0 0) (by omega), ← h6.2.2.2.2.1] at w
  rw [← g5] at w g1 hp hq hw g0 h2 ⊢
  rw [← g1] at g0 hp h2
  refine go [60] [0, 1, 0, 0] rfl ?_ ?_
  · show (¬ M 7 = 0) ∧ (0 : Int) = 0 ∧ ((0 : Int) ≤ 0 ∧ (0 : Int) < ((10 : Nat) : Int)) ∧ (0 ≤ G 5 0 ∧ G 5 0 < ((10 : Nat) : Int)) ∧ (0 ≤ G 1 (G 5 0) ∧ G 1 (G 5 0) < ((8 : Nat) : Int)) ∧ (G 0 (G 1 (G 5 0)) = 0) ∧ (0 : Int) ≤ 0
    omega
  refine go [] [] rfl (by omega) (bc rfl (by omega) w (fun h => by cases h) ?_)
  refine go [] [] rfl ?_ (bcall rfl (by omega) (m_remove (M := un (un (un (un M 0 0) 0 0) 4 (M 4 + F 7 (X 0 * 11 + G 5 0))) 5 (G 5 0)) (G := un G 4 (up (G 4) (G 5 0) 1)) 0 (show M 7 ≤ 10 by omega) (show (0 : Int) ≤ 0 ∧ 0 < M 7 by omega)) ?_)
  · show (-2147483648 ≤ M 4 + F 7 (X 0 * 11 + G 5 0) ∧ M 4 + F 7 (X 0 * 11 + G 5 0) ≤ 2147483647) ∧ (0 ≤ G 5 0 ∧ G 5 0 < ((10 : Nat) : Int)) ∧ (0 : Int) = 0
    omega
  · rintro r ⟨row, rfl, hrow⟩
    refine ⟨_, _, _, _, rfl, (fun h => by cases h), ?_⟩
    exact go [] [] rfl (by omega) (rti rfl rfl ⟨row, rfl, hrow⟩)
end N2
