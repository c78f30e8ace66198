/-! A call at a time -/
section V2
variable {L : Nat} {xs : Nat → Int32} {X M : Nat → Int} {F G : Nat → Int → Int} {O : Int → Int} {a b : Nat} {Q : BR → Prop} {i t : Int} {ls : BL}
set_option maxHeartbeats 8000000 in
theorem op10 (hK : KT L xs Q i t a b) (inv : INV t X F M G) (hls : LSx i ls) (ht : 0 ≤ t ∧ t ≤ 1000) (hi : 2 ≤ i ∧ i ≤ (L : Int) - 4) (hL : L ≤ 2050) (hop : bAnd (xs i.toNat).toInt 15 = 10) : bE L xs 10 ML_law (43, ls, [], WD X F M G O, a, b) Q := by
  have inv0 := inv
  obtain ⟨hI, hr, hm, hmr, hx0, hx1⟩ := inv0
  have hX := hI.1
  have hM := hm.1
  have hR := hr.1
  have ht := ht.1
  have g0 : -2147483648 ≤ (L : Int) - 4 ∧ (L : Int) - 4 ≤ 2147483647 := by omega
  have gi : 0 ≤ i ∧ i < (L : Int) := by omega
  have r1 : -2147483648 ≤ i + 1 ∧ i + 1 ≤ 2147483647 := by omega
  have x1 : 0 ≤ i + 1 ∧ i + 1 < (L : Int) := by omega
  have r2 : -2147483648 ≤ i + 2 ∧ i + 2 ≤ 2147483647 := by omega
  have x2 : 0 ≤ i + 2 ∧ i + 2 < (L : Int) := by omega
  have r3 : -2147483648 ≤ i + 3 ∧ i + 3 ≤ 2147483647 := by omega
  have x3 : 0 ≤ i + 3 ∧ i + 3 < (L : Int) := by omega
  have r4 : -2147483648 ≤ i + 4 ∧ i + 4 ≤ 2147483647 := by omega
  rcases hls with rfl | ⟨k, rfl⟩ | ⟨k, e, rfl⟩
  all_goals
    by_cases c1 : 0 ≤ (xs (i + 1).toNat).toInt ∧ (xs (i + 1).toNat).toInt < X 6
    · by_cases c2 : X 1 = 0
      · refine goT hTL10 [] [1, 11] rfl ⟨g0, hi.2, gi, hop, r1, x1, rfl⟩ (bcT hTL10 rfl (by decide) (l_share2 (xs (i + 1).toNat).toInt (by decide) c1 c2) (fun h => by cases h) ?_)
        refine goT hTL10 [] [] rfl ⟨r1, x1⟩ (bcT hTL10 rfl (by decide) (m_share2 hI hm (xs (i + 1).toNat).toInt (by decide) c1 c2) (fun h => by cases h) ?_)
        refine goT hTL10 [] [] rfl rfl (bcT hTL10 rfl (by decide) m_thrown (fun h => by cases h) ?_)
        exact goT hTL10 [43] [0, 0] rfl ⟨rfl, by decide, r4, rfl⟩ (hK _ _ _ _ _ _ _ _ (inv_same inv ht) (Or.inr (Or.inr ⟨_, _, rfl⟩)) (Nat.le_refl _) (Nat.le_refl _))
      · refine goT hTL10 [] [1, 11] rfl ⟨g0, hi.2, gi, hop, r1, x1, rfl⟩ (bcT hTL10 rfl (by decide) (l_share3 hI (xs (i + 1).toNat).toInt (by decide) c1 (by omega)) (fun h => by cases h) ?_)
        refine goT hTL10 [] [] rfl ⟨r1, x1⟩ (bcT hTL10 rfl (by decide) (m_share3 hI hm (xs (i + 1).toNat).toInt (by decide) c1 (by omega)) (fun h => by cases h) ?_)
        refine goT hTL10 [] [] rfl rfl (bcT hTL10 rfl (by decide) m_thrown (fun h => by cases h) ?_)
        exact goT hTL10 [43] [0, 1, 0] rfl ⟨rfl, rfl, ⟨by decide, by decide⟩, lc (by rw [up_eq]), r4, rfl⟩ (hK _ _ _ _ _ _ _ _ (inv_same inv ht) (Or.inr (Or.inr ⟨_, _, rfl⟩)) (Nat.le_add_right _ _) (Nat.le_add_right _ _))
    · refine goT hTL10 [] [1, 11] rfl ⟨g0, hi.2, gi, hop, r1, x1, rfl⟩ (bcT hTL10 rfl (by decide) (l_share1 (xs (i + 1).toNat).toInt (by decide) c1) (fun h => by cases h) ?_)
      refine goT hTL10 [] [] rfl ⟨r1, x1⟩ (bcT hTL10 rfl (by decide) (m_share1 hI hm (xs (i + 1).toNat).toInt (by decide) c1) (fun h => by cases h) ?_)
      refine goT hTL10 [] [] rfl rfl (bcT hTL10 rfl (by decide) m_thrown (fun h => by cases h) ?_)
      exact goT hTL10 [43] [0, 0] rfl ⟨rfl, by decide, r4, rfl⟩ (hK _ _ _ _ _ _ _ _ (inv_same inv ht) (Or.inr (Or.inr ⟨_, _, rfl⟩)) (Nat.le_refl _) (Nat.le_refl _))
set_option maxHeartbeats 8000000 in
theorem op11 (hK : KT L xs Q i t a b) (inv : INV t X F M G) (hls : LSx i ls) (ht : 0 ≤ t ∧ t ≤ 1000) (hi : 2 ≤ i ∧ i ≤ (L : Int) - 4) (hL : L ≤ 2050) (hop : bAnd (xs i.toNat).toInt 15 = 11) : bE L xs 10 ML_law (43, ls, [], WD X F M G O, a, b) Q := by
  have inv0 := inv
  obtain ⟨hI, hr, hm, hmr, hx0, hx1⟩ := inv0
  have hX := hI.1
  have hM := hm.1
  have hR := hr.1
  have ht := ht.1
  have g0 : -2147483648 ≤ (L : Int) - 4 ∧ (L : Int) - 4 ≤ 2147483647 := by omega
  have gi : 0 ≤ i ∧ i < (L : Int) := by omega
  have r1 : -2147483648 ≤ i + 1 ∧ i + 1 ≤ 2147483647 := by omega
  have x1 : 0 ≤ i + 1 ∧ i + 1 < (L : Int) := by omega
  have r2 : -2147483648 ≤ i + 2 ∧ i + 2 ≤ 2147483647 := by omega
  have x2 : 0 ≤ i + 2 ∧ i + 2 < (L : Int) := by omega
  have r3 : -2147483648 ≤ i + 3 ∧ i + 3 ≤ 2147483647 := by omega
  have x3 : 0 ≤ i + 3 ∧ i + 3 < (L : Int) := by omega
  have r4 : -2147483648 ≤ i + 4 ∧ i + 4 ≤ 2147483647 := by omega
  rcases hls with rfl | ⟨k, rfl⟩ | ⟨k, e, rfl⟩
  all_goals
    by_cases c1 : 0 ≤ (xs (i + 1).toNat).toInt ∧ (xs (i + 1).toNat).toInt < X 6
    · by_cases c2 : 0 ≤ (xs (i + 2).toNat).toInt ∧ (xs (i + 2).toNat).toInt < X 6
      · refine goT hTL11 [] [1, 12] rfl ⟨g0, hi.2, gi, hop, r1, x1, r2, x2, rfl⟩ (bcT hTL11 rfl (by decide) (l_far3 hI (xs (i + 1).toNat).toInt (xs (i + 2).toNat).toInt (by decide) c1 c2) (fun h => by cases h) ?_)
        refine goT hTL11 [] [] rfl ⟨r1, x1, r2, x2⟩ (bcT hTL11 rfl (by decide) (m_far3 hI hm (xs (i + 1).toNat).toInt (xs (i + 2).toNat).toInt (by decide) c1 c2) (fun h => by cases h) ?_)
        refine goT hTL11 [] [] rfl rfl (bcT hTL11 rfl (by decide) m_thrown (fun h => by cases h) ?_)
        exact goT hTL11 [43] [0, 1, 0] rfl ⟨rfl, rfl, ⟨by decide, by decide⟩, lc (by rw [up_eq]), r4, rfl⟩ (hK _ _ _ _ _ _ _ _ (inv_same inv ht) (Or.inr (Or.inr ⟨_, _, rfl⟩)) (Nat.le_add_right _ _) (Nat.le_add_right _ _))
      · refine goT hTL11 [] [1, 12] rfl ⟨g0, hi.2, gi, hop, r1, x1, r2, x2, rfl⟩ (bcT hTL11 rfl (by decide) (l_far2 (xs (i + 1).toNat).toInt (xs (i + 2).toNat).toInt (by decide) c1 c2) (fun h => by cases h) ?_)
        refine goT hTL11 [] [] rfl ⟨r1, x1, r2, x2⟩ (bcT hTL11 rfl (by decide) (m_far2 hI hm (xs (i + 1).toNat).toInt (xs (i + 2).toNat).toInt (by decide) c1 c2) (fun h => by cases h) ?_)
        refine goT hTL11 [] [] rfl rfl (bcT hTL11 rfl (by decide) m_thrown (fun h => by cases h) ?_)
        exact goT hTL11 [43] [0, 0] rfl ⟨rfl, by decide, r4, rfl⟩ (hK _ _ _ _ _ _ _ _ (inv_same inv ht) (Or.inr (Or.inr ⟨_, _, rfl⟩)) (Nat.le_refl _) (Nat.le_refl _))
    · refine goT hTL11 [] [1, 12] rfl ⟨g0, hi.2, gi, hop, r1, x1, r2, x2, rfl⟩ (bcT hTL11 rfl (by decide) (l_far1 (xs (i + 1).toNat).toInt (xs (i + 2).toNat).toInt (by decide) c1) (fun h => by cases h) ?_)
      refine goT hTL11 [] [] rfl ⟨r1, x1, r2, x2⟩ (bcT hTL11 rfl (by decide) (m_far1 hI hm (xs (i + 1).toNat).toInt (xs (i + 2).toNat).toInt (by decide) c1) (fun h => by cases h) ?_)
      refine goT hTL11 [] [] rfl rfl (bcT hTL11 rfl (by decide) m_thrown (fun h => by cases h) ?_)
      exact goT hTL11 [43] [0, 0] rfl ⟨rfl, by decide, r4, rfl⟩ (hK _ _ _ _ _ _ _ _ (inv_same inv ht) (Or.inr (Or.inr ⟨_, _, rfl⟩)) (Nat.le_refl _) (Nat.le_refl _))
end V2
