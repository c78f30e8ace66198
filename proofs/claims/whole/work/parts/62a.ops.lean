/-! A call at a time -/
section V2
variable {L : Nat} {xs : Nat → Int32} {X M : Nat → Int} {F G : Nat → Int → Int} {O : Int → Int} {a b : Nat} {Q : BR → Prop} {i t : Int} {ls : BL}
set_option maxHeartbeats 8000000 in
theorem op0 (hK : KT L xs Q i t a b) (inv : INV t X F M G) (hls : LSx i ls) (ht : 0 ≤ t ∧ t ≤ 1000) (hi : 2 ≤ i ∧ i ≤ (L : Int) - 4) (hL : L ≤ 2050) (hop : bAnd (xs i.toNat).toInt 15 = 0) : bE L xs 10 ML_law (43, ls, [], WD X F M G O, a, b) Q := by
  have inv0 := inv
  obtain ⟨hI, hr, hm, hmr, hx0, hx1⟩ := inv0
  have hX := hI.1
  have hM := hm.1
  have hR := hr.1
  have ht := ht.1
  have g0 : -2147483648 ≤ (L : Int) - 4 ∧ (L : Int) - 4 ≤ 2147483647 := by omega
  have gi : 0 ≤ i ∧ i < (L : Int) := by omega
  have r1 : -2147483648 ≤ i + 1 ∧ i + 1 ≤ 2147483647 := by omega
  have x1 : 0 ≤ i + 1 ∧ i + 1 < (L : Int) := by omega
  have r2 : -2147483648 ≤ i + 2 ∧ i + 2 ≤ 2147483647 := by omega
  have x2 : 0 ≤ i + 2 ∧ i + 2 < (L : Int) := by omega
  have r3 : -2147483648 ≤ i + 3 ∧ i + 3 ≤ 2147483647 := by omega
  have x3 : 0 ≤ i + 3 ∧ i + 3 < (L : Int) := by omega
  have r4 : -2147483648 ≤ i + 4 ∧ i + 4 ≤ 2147483647 := by omega
  rcases hls with rfl | ⟨k, rfl⟩ | ⟨k, e, rfl⟩
  all_goals
    by_cases c1 : 0 ≤ (xs (i + 1).toNat).toInt ∧ (xs (i + 1).toNat).toInt < X 4
    · by_cases c2 : (0 ≤ (xs (i + 2).toNat).toInt ∧ (xs (i + 2).toNat).toInt < 10 * X 5) ∧ (0 ≤ (xs (i + 3).toNat).toInt ∧ (xs (i + 3).toNat).toInt ≤ 100)
      · by_cases c3 : X 6 < 10
        · refine goT hTL0 [] [1, 1] rfl ⟨g0, hi.2, gi, hop, r1, x1, r2, x2, r3, x3, rfl⟩ (bcallT hTL0 rfl (by decide) (l_stop4 hI (xs (i + 1).toNat).toInt (xs (i + 2).toNat).toInt (xs (i + 3).toNat).toInt (by decide) c1 c2.1 c2.2 c3) ?_)
          rintro r ⟨V, rfl, hV⟩
          refine ⟨_, _, _, _, rfl, (fun h => by cases h), ?_⟩
          refine goT hTL0 [] [] rfl ⟨r1, x1, r2, x2, r3, x3⟩ (bcT hTL0 rfl (by decide) (m_stop4 hI hm (xs (i + 1).toNat).toInt (xs (i + 2).toNat).toInt (xs (i + 3).toNat).toInt (by decide) c1 c2.1 c2.2 c3) (fun h => by cases h) ?_)
          refine goT hTL0 [] [] rfl rfl (bcT hTL0 rfl (by decide) m_thrown (fun h => by cases h) ?_)
          exact goT hTL0 [43] [0, 1, 0] rfl ⟨rfl, rfl, ⟨by decide, by decide⟩, lc (by rw [up_eq]; omega), r4, rfl⟩ (hK _ _ _ _ _ _ _ _ (inv_stop inv ht c3 hV) (Or.inr (Or.inr ⟨_, _, rfl⟩)) (Nat.le_add_right _ _) (Nat.le_add_right _ _))
        · refine goT hTL0 [] [1, 1] rfl ⟨g0, hi.2, gi, hop, r1, x1, r2, x2, r3, x3, rfl⟩ (bcT hTL0 rfl (by decide) (l_stop3 hI (xs (i + 1).toNat).toInt (xs (i + 2).toNat).toInt (xs (i + 3).toNat).toInt (by decide) c1 c2.1 c2.2 (by omega)) (fun h => by cases h) ?_)
          refine goT hTL0 [] [] rfl ⟨r1, x1, r2, x2, r3, x3⟩ (bcT hTL0 rfl (by decide) (m_stop3 hI hm (xs (i + 1).toNat).toInt (xs (i + 2).toNat).toInt (xs (i + 3).toNat).toInt (by decide) c1 c2.1 c2.2 (by omega)) (fun h => by cases h) ?_)
          refine goT hTL0 [] [] rfl rfl (bcT hTL0 rfl (by decide) m_thrown (fun h => by cases h) ?_)
          exact goT hTL0 [43] [0, 0] rfl ⟨rfl, by decide, r4, rfl⟩ (hK _ _ _ _ _ _ _ _ (inv_same inv ht) (Or.inr (Or.inr ⟨_, _, rfl⟩)) (Nat.le_refl _) (Nat.le_refl _))
      · have c3 : ¬ (0 ≤ (xs (i + 2).toNat).toInt ∧ (xs (i + 2).toNat).toInt < 10 * X 5) ∨ ¬ (0 ≤ (xs (i + 3).toNat).toInt ∧ (xs (i + 3).toNat).toInt ≤ 100) := by omega
        refine goT hTL0 [] [1, 1] rfl ⟨g0, hi.2, gi, hop, r1, x1, r2, x2, r3, x3, rfl⟩ (bcT hTL0 rfl (by decide) (l_stop2 hI (xs (i + 1).toNat).toInt (xs (i + 2).toNat).toInt (xs (i + 3).toNat).toInt (by decide) c1 c3) (fun h => by cases h) ?_)
        refine goT hTL0 [] [] rfl ⟨r1, x1, r2, x2, r3, x3⟩ (bcT hTL0 rfl (by decide) (m_stop2 hI hm (xs (i + 1).toNat).toInt (xs (i + 2).toNat).toInt (xs (i + 3).toNat).toInt (by decide) c1 c3) (fun h => by cases h) ?_)
        refine goT hTL0 [] [] rfl rfl (bcT hTL0 rfl (by decide) m_thrown (fun h => by cases h) ?_)
        exact goT hTL0 [43] [0, 0] rfl ⟨rfl, by decide, r4, rfl⟩ (hK _ _ _ _ _ _ _ _ (inv_same inv ht) (Or.inr (Or.inr ⟨_, _, rfl⟩)) (Nat.le_refl _) (Nat.le_refl _))
    · refine goT hTL0 [] [1, 1] rfl ⟨g0, hi.2, gi, hop, r1, x1, r2, x2, r3, x3, rfl⟩ (bcT hTL0 rfl (by decide) (l_stop1 (xs (i + 1).toNat).toInt (xs (i + 2).toNat).toInt (xs (i + 3).toNat).toInt (by decide) c1) (fun h => by cases h) ?_)
      refine goT hTL0 [] [] rfl ⟨r1, x1, r2, x2, r3, x3⟩ (bcT hTL0 rfl (by decide) (m_stop1 hI hm (xs (i + 1).toNat).toInt (xs (i + 2).toNat).toInt (xs (i + 3).toNat).toInt (by decide) c1) (fun h => by cases h) ?_)
      refine goT hTL0 [] [] rfl rfl (bcT hTL0 rfl (by decide) m_thrown (fun h => by cases h) ?_)
      exact goT hTL0 [43] [0, 0] rfl ⟨rfl, by decide, r4, rfl⟩ (hK _ _ _ _ _ _ _ _ (inv_same inv ht) (Or.inr (Or.inr ⟨_, _, rfl⟩)) (Nat.le_refl _) (Nat.le_refl _))
end V2
