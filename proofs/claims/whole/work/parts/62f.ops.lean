/-! A call at a time -/
section V2
variable {L : Nat} {xs : Nat → Int32} {X M : Nat → Int} {F G : Nat → Int → Int} {O : Int → Int} {a b : Nat} {Q : BR → Prop} {i t : Int} {ls : BL}
set_option maxHeartbeats 8000000 in
theorem op7 (hK : KT L xs Q i t a b) (inv : INV t X F M G) (hls : LSx i ls) (ht : 0 ≤ t ∧ t ≤ 1000) (hi : 2 ≤ i ∧ i ≤ (L : Int) - 4) (hL : L ≤ 2050) (hop : bAnd (xs i.toNat).toInt 15 = 7) : bE L xs 10 ML_law (43, ls, [], WD X F M G O, a, b) Q := by
  have inv0 := inv
  obtain ⟨hI, hr, hm, hmr, hx0, hx1⟩ := inv0
  have hX := hI.1
  have hM := hm.1
  have hR := hr.1
  have ht := ht.1
  have g0 : -2147483648 ≤ (L : Int) - 4 ∧ (L : Int) - 4 ≤ 2147483647 := by omega
  have gi : 0 ≤ i ∧ i < (L : Int) := by omega
  have r1 : -2147483648 ≤ i + 1 ∧ i + 1 ≤ 2147483647 := by omega
  have x1 : 0 ≤ i + 1 ∧ i + 1 < (L : Int) := by omega
  have r2 : -2147483648 ≤ i + 2 ∧ i + 2 ≤ 2147483647 := by omega
  have x2 : 0 ≤ i + 2 ∧ i + 2 < (L : Int) := by omega
  have r3 : -2147483648 ≤ i + 3 ∧ i + 3 ≤ 2147483647 := by omega
  have x3 : 0 ≤ i + 3 ∧ i + 3 < (L : Int) := by omega
  have r4 : -2147483648 ≤ i + 4 ∧ i + 4 ≤ 2147483647 := by omega
  rcases hls with rfl | ⟨k, rfl⟩ | ⟨k, e, rfl⟩
  all_goals
    refine goT hTL7 [] [1, 8] rfl ⟨g0, hi.2, gi, hop, rfl⟩ (bcT hTL7 rfl (by decide) (t_bound hI (by decide)) (fun h => by cases h) ?_)
    refine goT hTL7 [] [] rfl rfl (bcT hTL7 rfl (by decide) (m_bound hI hm (by decide)) (fun h => by cases h) ?_)
    exact goT hTL7 [43] [0] rfl ⟨rfl, r4, rfl⟩ (hK _ _ _ _ _ _ _ _ (inv_same inv ht) (by first | exact Or.inl rfl | exact Or.inr (Or.inl ⟨_, rfl⟩) | exact Or.inr (Or.inr ⟨_, _, rfl⟩)) (Nat.le_add_right _ _) (Nat.le_add_right _ _))
set_option maxHeartbeats 8000000 in
theorem op8 (hK : KT L xs Q i t a b) (inv : INV t X F M G) (hls : LSx i ls) (ht : 0 ≤ t ∧ t ≤ 1000) (hi : 2 ≤ i ∧ i ≤ (L : Int) - 4) (hL : L ≤ 2050) (hop : bAnd (xs i.toNat).toInt 15 = 8) : bE L xs 10 ML_law (43, ls, [], WD X F M G O, a, b) Q := by
  have inv0 := inv
  obtain ⟨hI, hr, hm, hmr, hx0, hx1⟩ := inv0
  have hX := hI.1
  have hM := hm.1
  have hR := hr.1
  have ht := ht.1
  have g0 : -2147483648 ≤ (L : Int) - 4 ∧ (L : Int) - 4 ≤ 2147483647 := by omega
  have gi : 0 ≤ i ∧ i < (L : Int) := by omega
  have r1 : -2147483648 ≤ i + 1 ∧ i + 1 ≤ 2147483647 := by omega
  have x1 : 0 ≤ i + 1 ∧ i + 1 < (L : Int) := by omega
  have r2 : -2147483648 ≤ i + 2 ∧ i + 2 ≤ 2147483647 := by omega
  have x2 : 0 ≤ i + 2 ∧ i + 2 < (L : Int) := by omega
  have r3 : -2147483648 ≤ i + 3 ∧ i + 3 ≤ 2147483647 := by omega
  have x3 : 0 ≤ i + 3 ∧ i + 3 < (L : Int) := by omega
  have r4 : -2147483648 ≤ i + 4 ∧ i + 4 ≤ 2147483647 := by omega
  rcases hls with rfl | ⟨k, rfl⟩ | ⟨k, e, rfl⟩
  all_goals
    by_cases c1 : 1 ≤ (xs (i + 1).toNat).toInt ∧ (xs (i + 1).toNat).toInt ≤ 1000
    · refine goT hTL8 [] [1, 9] rfl ⟨g0, hi.2, gi, hop, r1, x1⟩ (bcT hTL8 rfl (by decide) (l_cart2 (xs (i + 1).toNat).toInt (by decide) c1) (fun h => by cases h) ?_)
      refine goT hTL8 [] [] rfl ⟨r1, x1⟩ (bcT hTL8 rfl (by decide) (m_cart2 (xs (i + 1).toNat).toInt (by decide) c1) (fun h => by cases h) ?_)
      refine goT hTL8 [] [] rfl rfl (bcT hTL8 rfl (by decide) m_thrown (fun h => by cases h) ?_)
      exact goT hTL8 [43] [0] rfl ⟨rfl, r4, rfl⟩ (hK _ _ _ _ _ _ _ _ (inv_cart inv ht c1) (by first | exact Or.inr (Or.inl ⟨_, rfl⟩) | exact Or.inr (Or.inr ⟨_, _, rfl⟩)) (Nat.le_add_right _ _) (Nat.le_add_right _ _))
    · refine goT hTL8 [] [1, 9] rfl ⟨g0, hi.2, gi, hop, r1, x1⟩ (bcT hTL8 rfl (by decide) (l_cart1 (xs (i + 1).toNat).toInt (by decide) c1) (fun h => by cases h) ?_)
      refine goT hTL8 [] [] rfl ⟨r1, x1⟩ (bcT hTL8 rfl (by decide) (m_cart1 (xs (i + 1).toNat).toInt (by decide) c1) (fun h => by cases h) ?_)
      refine goT hTL8 [] [] rfl rfl (bcT hTL8 rfl (by decide) m_thrown (fun h => by cases h) ?_)
      exact goT hTL8 [43] [0] rfl ⟨rfl, r4, rfl⟩ (hK _ _ _ _ _ _ _ _ (inv_same inv ht) (by first | exact Or.inr (Or.inl ⟨_, rfl⟩) | exact Or.inr (Or.inr ⟨_, _, rfl⟩)) (Nat.le_refl _) (Nat.le_refl _))
set_option maxHeartbeats 8000000 in
theorem op9 (hK : KT L xs Q i t a b) (inv : INV t X F M G) (hls : LSx i ls) (ht : 0 ≤ t ∧ t ≤ 1000) (hi : 2 ≤ i ∧ i ≤ (L : Int) - 4) (hL : L ≤ 2050) (hop : bAnd (xs i.toNat).toInt 15 = 9) : bE L xs 10 ML_law (43, ls, [], WD X F M G O, a, b) Q := by
  have inv0 := inv
  obtain ⟨hI, hr, hm, hmr, hx0, hx1⟩ := inv0
  have hX := hI.1
  have hM := hm.1
  have hR := hr.1
  have ht := ht.1
  have g0 : -2147483648 ≤ (L : Int) - 4 ∧ (L : Int) - 4 ≤ 2147483647 := by omega
  have gi : 0 ≤ i ∧ i < (L : Int) := by omega
  have r1 : -2147483648 ≤ i + 1 ∧ i + 1 ≤ 2147483647 := by omega
  have x1 : 0 ≤ i + 1 ∧ i + 1 < (L : Int) := by omega
  have r2 : -2147483648 ≤ i + 2 ∧ i + 2 ≤ 2147483647 := by omega
  have x2 : 0 ≤ i + 2 ∧ i + 2 < (L : Int) := by omega
  have r3 : -2147483648 ≤ i + 3 ∧ i + 3 ≤ 2147483647 := by omega
  have x3 : 0 ≤ i + 3 ∧ i + 3 < (L : Int) := by omega
  have r4 : -2147483648 ≤ i + 4 ∧ i + 4 ≤ 2147483647 := by omega
  rcases hls with rfl | ⟨k, rfl⟩ | ⟨k, e, rfl⟩
  all_goals
    refine goT hTL9 [] [1, 10] rfl ⟨g0, hi.2, gi, hop, rfl⟩ (bcT hTL9 rfl (by decide) (t_full hI hr (by decide)) (fun h => by cases h) ?_)
    refine goT hTL9 [] [] rfl rfl (bcT hTL9 rfl (by decide) (m_full hI hr hm hmr (by decide)) (fun h => by cases h) ?_)
    exact goT hTL9 [43] [0] rfl ⟨rfl, r4, rfl⟩ (hK _ _ _ _ _ _ _ _ (inv_same inv ht) (by first | exact Or.inl rfl | exact Or.inr (Or.inl ⟨_, rfl⟩) | exact Or.inr (Or.inr ⟨_, _, rfl⟩)) (Nat.le_add_right _ _) (Nat.le_add_right _ _))
end V2
