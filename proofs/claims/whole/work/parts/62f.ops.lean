/-! A call at a time -/
section V2
variable {L : Nat} {xs : Nat → Int32} {X M : Nat → Int} {F G : Nat → Int → Int} {O : Int → Int} {a b : Nat} {Q : BR → Prop} {i t : Int} {ls : BL}
theorem op7 (hK : KT L xs Q i t a b) (inv : INV t X F M G) (hls : LSx i ls) (ht : 0 ≤ t ∧ t ≤ 1000) (hi : 2 ≤ i ∧ i ≤ (L : Int) - 4) (hL : L ≤ 2050) (hop : bAnd (xs i.toNat).toInt 15 = 7) : bE L xs 10 ML_law (43, ls, [], WD X F M G O, a, b) Q := by
  have inv0 := inv
  obtain ⟨hI, hr, hm, hmr, hx0, hx1⟩ := inv0
  have hX := hI.1
  have hM := hm.1
  have hR := hr.1
  have ht := ht.1
  rcases hls with rfl | ⟨k, rfl⟩ | ⟨k, e, rfl⟩
  all_goals
    refine goT hTL7 [] [1, 8] rfl (by omega) (bcT hTL7 rfl (by omega) (t_bound hI (by omega)) (fun h => by cases h) ?_)
    refine goT hTL7 [] [] rfl (by omega) (bcT hTL7 rfl (by omega) (m_bound hI hm (by omega)) (fun h => by cases h) ?_)
    exact goT hTL7 [43] [0] rfl ⟨rfl, ⟨by omega, by omega⟩, rfl⟩ (hK _ _ _ _ _ _ _ _ (inv_same inv ht) (by first | exact Or.inl rfl | exact Or.inr (Or.inl ⟨_, rfl⟩) | exact Or.inr (Or.inr ⟨_, _, rfl⟩)) (by omega) (by omega))
theorem op8 (hK : KT L xs Q i t a b) (inv : INV t X F M G) (hls : LSx i ls) (ht : 0 ≤ t ∧ t ≤ 1000) (hi : 2 ≤ i ∧ i ≤ (L : Int) - 4) (hL : L ≤ 2050) (hop : bAnd (xs i.toNat).toInt 15 = 8) : bE L xs 10 ML_law (43, ls, [], WD X F M G O, a, b) Q := by
  have inv0 := inv
  obtain ⟨hI, hr, hm, hmr, hx0, hx1⟩ := inv0
  have hX := hI.1
  have hM := hm.1
  have hR := hr.1
  have ht := ht.1
  rcases hls with rfl | ⟨k, rfl⟩ | ⟨k, e, rfl⟩
  all_goals
    by_cases c1 : 1 ≤ (xs (i + 1).toNat).toInt ∧ (xs (i + 1).toNat).toInt ≤ 1000
    · refine goT hTL8 [] [1, 9] rfl (by omega) (bcT hTL8 rfl (by omega) (l_cart2 (xs (i + 1).toNat).toInt (by omega) c1) (fun h => by cases h) ?_)
      refine goT hTL8 [] [] rfl (by omega) (bcT hTL8 rfl (by omega) (m_cart2 (xs (i + 1).toNat).toInt (by omega) c1) (fun h => by cases h) ?_)
      refine goT hTL8 [] [] rfl rfl (bcT hTL8 rfl (by omega) m_thrown (fun h => by cases h) ?_)
      exact goT hTL8 [43] [0] rfl ⟨rfl, ⟨by omega, by omega⟩, rfl⟩ (hK _ _ _ _ _ _ _ _ (inv_cart inv ht c1) (by first | exact Or.inr (Or.inl ⟨_, rfl⟩) | exact Or.inr (Or.inr ⟨_, _, rfl⟩)) (by omega) (by omega))
    · refine goT hTL8 [] [1, 9] rfl (by omega) (bcT hTL8 rfl (by omega) (l_cart1 (xs (i + 1).toNat).toInt (by omega) c1) (fun h => by cases h) ?_)
      refine goT hTL8 [] [] rfl (by omega) (bcT hTL8 rfl (by omega) (m_cart1 (xs (i + 1).toNat).toInt (by omega) c1) (fun h => by cases h) ?_)
      refine goT hTL8 [] [] rfl rfl (bcT hTL8 rfl (by omega) m_thrown (fun h => by cases h) ?_)
      exact goT hTL8 [43] [0] rfl ⟨rfl, ⟨by omega, by omega⟩, rfl⟩ (hK _ _ _ _ _ _ _ _ (inv_same inv ht) (by first | exact Or.inr (Or.inl ⟨_, rfl⟩) | exact Or.inr (Or.inr ⟨_, _, rfl⟩)) (by omega) (by omega))
theorem op9 (hK : KT L xs Q i t a b) (inv : INV t X F M G) (hls : LSx i ls) (ht : 0 ≤ t ∧ t ≤ 1000) (hi : 2 ≤ i ∧ i ≤ (L : Int) - 4) (hL : L ≤ 2050) (hop : bAnd (xs i.toNat).toInt 15 = 9) : bE L xs 10 ML_law (43, ls, [], WD X F M G O, a, b) Q := by
  have inv0 := inv
  obtain ⟨hI, hr, hm, hmr, hx0, hx1⟩ := inv0
  have hX := hI.1
  have hM := hm.1
  have hR := hr.1
  have ht := ht.1
  rcases hls with rfl | ⟨k, rfl⟩ | ⟨k, e, rfl⟩
  all_goals
    refine goT hTL9 [] [1, 10] rfl (by omega) (bcT hTL9 rfl (by omega) (t_full hI hr (by omega)) (fun h => by cases h) ?_)
    refine goT hTL9 [] [] rfl (by omega) (bcT hTL9 rfl (by omega) (m_full hI hr hm hmr (by omega)) (fun h => by cases h) ?_)
    exact goT hTL9 [43] [0] rfl ⟨rfl, ⟨by omega, by omega⟩, rfl⟩ (hK _ _ _ _ _ _ _ _ (inv_same inv ht) (by first | exact Or.inl rfl | exact Or.inr (Or.inl ⟨_, rfl⟩) | exact Or.inr (Or.inr ⟨_, _, rfl⟩)) (by omega) (by omega))
end V2
