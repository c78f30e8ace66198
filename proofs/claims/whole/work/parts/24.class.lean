/-! The class's small methods -/
section T2
variable {L : Nat} {xs : Nat → Int32} {X M : Nat → Int} {F G : Nat → Int → Int} {O : Int → Int} {d a b : Nat} {Q : BR → Prop}
theorem t_hasAisle (x : Int) : bE L xs d MX0_hasAisle (0, [(0, bR 4), (1, bI x)], [], WD X F M G O, a, b) (rI (WD X F M G O) (if 0 ≤ x ∧ x < X 4 then 1 else 0) a b) := by
  by_cases h1 : x < 0
  · rw [if_neg (by omega)]
    exact go [] [0] rfl (by omega) (rtb rfl rfl (Or.inl rfl) rfl)
  · by_cases h2 : X 4 ≤ x
    · rw [if_neg (by omega)]
      exact go [] [1, 0] rfl (by omega) (rtb rfl rfl (Or.inl rfl) rfl)
    · rw [if_pos (by omega)]
      exact go [] [1, 1] rfl (by omega) (rtb rfl rfl (Or.inr rfl) rfl)
theorem t_hasPlace (hI : SB X F) (x : Int) : bE L xs d MX0_hasPlace (0, [(0, bR 4), (1, bI x)], [], WD X F M G O, a, b) (rI (WD X F M G O) (if 0 ≤ x ∧ x < 10 * X 5 then 1 else 0) a b) := by
  have := hI.1
  by_cases h1 : x < 0
  · rw [if_neg (by omega)]
    exact go [] [0] rfl (by omega) (rtb rfl rfl (Or.inl rfl) rfl)
  · by_cases h2 : 10 * X 5 ≤ x
    · rw [if_neg (by omega)]
      exact go [] [1, 0] rfl (by omega) (rtb rfl rfl (Or.inl rfl) rfl)
    · rw [if_pos (by omega)]
      exact go [] [1, 1] rfl (by omega) (rtb rfl rfl (Or.inr rfl) rfl)
theorem t_backDepth (hI : SB X F) : bE L xs d MX0_backDepth (0, [(0, bR 4)], [], WD X F M G O, a, b) (rI (WD X F M G O) (11 * X 5) a b) := by
  have := hI.1
  exact go [] [] rfl (by omega) (rti rfl rfl rfl)
theorem t_placeDepth (p : Int) (h : 0 ≤ p ∧ p < 30) : bE L xs d MX0_placeDepth (0, [(0, bR 4), (1, bI p)], [], WD X F M G O, a, b) (rI (WD X F M G O) (11 * (p / 10) + 1 + p % 10) a b) :=
  go [] [] rfl (by omega) (rti rfl rfl rfl)
theorem t_between (hI : 1 ≤ X 5 ∧ X 5 ≤ 3) (p x q y : Int) (hp : 0 ≤ p ∧ p ≤ 8) (hq : 0 ≤ q ∧ q ≤ 8) (hx : 0 ≤ x ∧ x ≤ 40) (hy : 0 ≤ y ∧ y ≤ 40) :
    bE L xs d MX0_between (0, [(0, bR 4), (1, bI p), (2, bI x), (3, bI q), (4, bI y)], [], WD X F M G O, a, b) (rI (WD X F M G O) (wy (X 5) p x q y) a b) := by
  unfold wy
  by_cases h : p = q
  · rw [if_pos h]
    exact go [] [1] rfl (by omega) (rti rfl rfl rfl)
  · rw [if_neg h]
    refine go [20] [0] rfl (by omega) ?_
    refine go [26] [] rfl (by omega) ?_
    have key := for_up (P := fun c => ∀ z, bE L xs d MX0_between (20, [(0, bR 4), (1, bI p), (2, bI x), (3, bI q), (4, bI y), (5, bI (crs x y c)), (6, bI c), (7, bI z)], [], WD X F M G O, a, b) (rI (WD X F M G O) (crs x y (X 5 + 1) + 3 * max (p - q) (-(p - q))) a b)) (X 5 + 1) ?_ ?_
    · exact go [20] [1] rfl (by omega) (key 1 (by omega) (by omega) 0)
    · intro z
      have := crs_b hx hy (X 5 + 1) (by omega) (by omega)
      exact go [] [0] rfl (by omega) (rti rfl rfl rfl)
    · intro c h0 h1 ih z
      have hc := crs_b hx hy c h0 (by omega)
      have e : crs x y (c + 1) = min (crs x y c) (cd x y c) := itr_s _ _ h0
      rw [e] at ih
      exact go [20] [1] rfl (by omega) (ih (11 * c))
theorem t_way (p q : Int) (h : 0 ≤ p ∧ p ≤ 10 ∧ 0 ≤ q ∧ q ≤ 10) : bE L xs d MX4_way (0, [(0, bR 6), (1, bI p), (2, bI q)], [], WD X F M G O, a, b) (rI (WD X F M G O) (F 7 (p * 11 + q)) a b) :=
  go [] [] rfl (by omega) (rti rfl rfl rfl)
theorem t_isWalked (hI : SB X F) (s : Int) (h0 : 0 ≤ s) (h1 : s < X 6) : bE L xs d MX4_isWalked (0, [(0, bR 6), (1, bI s)], [], WD X F M G O, a, b) (rI (WD X F M G O) (wk F s) a b) := by
  have hs := hI.2.1 s h0 h1
  have hX := hI.1
  unfold wk
  by_cases c1 : F 6 s = 0
  · by_cases c2 : 0 < F 5 s
    · by_cases c3 : F 1 (F 2 s) = 0
      · rw [if_pos ⟨c1, c2, c3⟩]
        exact go [] [1, 1, 1] rfl (by omega) (rtb rfl rfl (Or.inr rfl) rfl)
      · rw [if_neg (fun h => c3 h.2.2)]
        exact go [] [1, 1, 0] rfl (by omega) (rtb rfl rfl (Or.inl rfl) rfl)
    · rw [if_neg (fun h => c2 h.2.1)]
      exact go [] [1, 0] rfl (by omega) (rtb rfl rfl (Or.inl rfl) rfl)
  · rw [if_neg (fun h => c1 h.1)]
    exact go [] [0] rfl (by omega) (rtb rfl rfl (Or.inl rfl) rfl)
theorem t_walkedOnes (hI : SB X F) (hd : 2 ≤ d) : bE L xs d MX4_walkedOnes (0, [(0, bR 6)], [], WD X F M G O, a, b) (rI (WD X F M G O) (nW F (X 6)) a b) := by
  have hX := hI.1
  refine go [4] [] rfl (by omega) (for_up (P := fun s => bE L xs d MX4_walkedOnes (4, [(0, bR 6), (1, bI (nW F s)), (2, bI s)], [], WD X F M G O, a, b) (rI (WD X F M G O) (nW F (X 6)) a b)) (X 6) ?_ ?_ 0 (by omega) (by omega))
  · exact go [] [0] rfl (by omega) (rti rfl rfl rfl)
  · intro s h0 h1 ih
    have e : nW F (s + 1) = nW F s + wk F s := itr_s _ _ h0
    have hb := nW_b F s h0
    refine go [] [1] rfl (by omega) (bc rfl hd (t_isWalked hI s h0 h1) (fun h => by cases h) ?_)
    rcases wk_01 F s with hw | hw
    · rw [e, hw, Int.add_zero] at ih
      rw [hw]
      exact go [4] [0] rfl (by omega) ih
    · rw [e, hw] at ih
      rw [hw]
      exact go [4] [1] rfl (by omega) ih
theorem t_doneOnes (hI : SB X F) : bE L xs d MX4_doneOnes (0, [(0, bR 6)], [], WD X F M G O, a, b) (rI (WD X F M G O) (nD F (X 6)) a b) := by
  have hX := hI.1
  refine go [4] [] rfl (by omega) (for_up (P := fun s => bE L xs d MX4_doneOnes (4, [(0, bR 6), (1, bI (nD F s)), (2, bI s)], [], WD X F M G O, a, b) (rI (WD X F M G O) (nD F (X 6)) a b)) (X 6) ?_ ?_ 0 (by omega) (by omega))
  · exact go [] [0] rfl (by omega) (rti rfl rfl rfl)
  · intro s h0 h1 ih
    have e : nD F (s + 1) = nD F s + (if F 6 s = 1 then 1 else 0) := itr_s _ _ h0
    have hb := nD_b F s h0
    by_cases hw : F 6 s = 1
    · rw [e, if_pos hw] at ih
      exact go [4] [1, 1] rfl (by omega) ih
    · rw [e, if_neg hw, Int.add_zero] at ih
      exact go [4] [1, 0] rfl (by omega) ih
theorem t_openIn (hI : SB X F) (A : Int) : bE L xs d MX4_openIn (0, [(0, bR 6), (1, bI A)], [], WD X F M G O, a, b) (rI (WD X F M G O) (nO F A (X 6)) a b) := by
  have hX := hI.1
  refine go [4] [] rfl (by omega) (for_up (P := fun s => bE L xs d MX4_openIn (4, [(0, bR 6), (1, bI A), (2, bI (nO F A s)), (3, bI s)], [], WD X F M G O, a, b) (rI (WD X F M G O) (nO F A (X 6)) a b)) (X 6) ?_ ?_ 0 (by omega) (by omega))
  · exact go [] [0] rfl (by omega) (rti rfl rfl rfl)
  · intro s h0 h1 ih
    have e : nO F A (s + 1) = nO F A s + (if F 2 s = A ∧ F 6 s = 0 then 1 else 0) := itr_s _ _ h0
    have hb := nO_b F A s h0
    by_cases hw : F 2 s = A
    · by_cases hv : F 6 s = 0
      · rw [e, if_pos ⟨hw, hv⟩] at ih
        exact go [4] [1, 1, 1] rfl (by omega) ih
      · rw [e, if_neg (fun h => hv h.2), Int.add_zero] at ih
        exact go [4] [1, 1, 0] rfl (by omega) ih
    · rw [e, if_neg (fun h => hw h.1), Int.add_zero] at ih
      exact go [4] [1, 0] rfl (by omega) ih
theorem t_requireAisle (x : Int) (hd : 7 ≤ d) : bE L xs d MX5_requireAisle (0, [(0, bR 1), (1, bI x)], [], WD X F M G O, a, b) (fun r => (0 ≤ x ∧ x < X 4 ∧ r = (WD X F M G O, .inl none, a, b)) ∨ (¬ (0 ≤ x ∧ x < X 4) ∧ r = (WD X F M G O, .inr 0, a + 1, b + 6))) := by
  refine go [] [] rfl (by omega) (bc rfl (by omega) (t_hasAisle x) (fun h => by cases h) ?_)
  by_cases h : 0 ≤ x ∧ x < X 4
  · rw [if_pos h]
    exact go [] [0] rfl (by omega) (rtv rfl rfl (Or.inl ⟨h.1, h.2, rfl⟩))
  · rw [if_neg h]
    exact go [] [1] rfl (by omega) (thr rfl rfl hd rfl (Or.inr ⟨h, rfl⟩))
theorem t_requireStop (x : Int) (hd : 7 ≤ d) : bE L xs d MX5_requireStop (0, [(0, bR 1), (1, bI x)], [], WD X F M G O, a, b) (fun r => (0 ≤ x ∧ x < X 6 ∧ r = (WD X F M G O, .inl none, a, b)) ∨ (¬ (0 ≤ x ∧ x < X 6) ∧ r = (WD X F M G O, .inr 0, a + 1, b + 6))) := by
  by_cases h1 : x < 0
  · exact go [] [0] rfl (by omega) (thr rfl rfl hd rfl (Or.inr ⟨by omega, rfl⟩))
  · by_cases h2 : x < X 6
    · exact go [] [1, 0] rfl (by omega) (rtv rfl rfl (Or.inl ⟨by omega, by omega, rfl⟩))
    · exact go [] [1, 1] rfl (by omega) (thr rfl rfl hd rfl (Or.inr ⟨by omega, rfl⟩))
theorem t_routeLength (hI : SB X F) (hr : SR X F) (hd : 2 ≤ d) : bE L xs d MX5_routeLength (0, [(0, bR 1)], [], WD X F M G O, a, b) (rI (WD X F M G O) (rl X F) a b) := by
  have hX := hI.1
  have hR := hr.1
  have e0 : rat X F 0 = X 0 := rfl
  have key := for_up (P := fun i => bE L xs d MX5_routeLength (9, [(0, bR 1), (1, bI (rlN X F i)), (2, bI (rat X F i)), (3, bI i)], [], WD X F M G O, a, b) (rI (WD X F M G O) (rl X F) a b)) (X 3) ?_ ?_ 0 (by omega) (by omega)
  · exact go [9] [] rfl (by omega) key
  · have p1 := SR_at hI hr hR.1 (Int.le_refl _)
    have p2 := SB_way hI p1 pnt_d
    have p3 := rlN_b hI hr (X 3) (by omega) (by omega)
    have p4 := SB_pt hI p1
    refine go [] [0] rfl (by omega) (bc rfl hd (t_way _ 10 (by omega)) (fun h => by cases h) ?_)
    exact go [] [] rfl (by omega) (rti rfl rfl rfl)
  · intro i h0 h1 ih
    have p1 := SR_at hI hr h0 (by omega)
    have hq := hr.2.1 i h0 h1
    have p2 := SB_way hI p1 (pnt_s hq.1 hq.2.1)
    have p3 := rlN_b hI hr i (by omega) (by omega)
    have p4 := SB_pt hI p1
    have e : rlN X F (i + 1) = rlN X F i + F 7 (rat X F i * 11 + F 0 i) := itr_s _ _ h0
    have e2 : rat X F (i + 1) = F 0 i := by
      unfold rat
      rw [if_neg (by omega)]
      congr 1; omega
    rw [e, e2] at ih
    refine go [] [1] rfl (by omega) (bc rfl hd (t_way _ _ (by omega)) (fun h => by cases h) ?_)
    exact go [9] [] rfl (by omega) ih
end T2
