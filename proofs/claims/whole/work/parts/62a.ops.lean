/-! A call at a time -/
section V2
variable {L : Nat} {xs : Nat → Int32} {X M : Nat → Int} {F G : Nat → Int → Int} {O : Int → Int} {a b : Nat} {Q : BR → Prop} {i t : Int} {ls : BL}
theorem op0 (hK : KT L xs Q i t a b) (inv : INV t X F M G) (hls : LSx i ls) (ht : 0 ≤ t ∧ t ≤ 1000) (hi : 2 ≤ i ∧ i ≤ (L : Int) - 4) (hL : L ≤ 2050) (hop : bAnd (xs i.toNat).toInt 15 = 0) : bE L xs 10 ML_law (43, ls, [], WD X F M G O, a, b) Q := by
  have inv0 := inv
  obtain ⟨hI, hr, hm, hmr, hx0, hx1⟩ := inv0
  have hX := hI.1
  have hM := hm.1
  have hR := hr.1
  have ht := ht.1
  rcases hls with rfl | ⟨k, rfl⟩ | ⟨k, e, rfl⟩
  all_goals
    by_cases c1 : 0 ≤ (xs (i + 1).toNat).toInt ∧ (xs (i + 1).toNat).toInt < X 4
    · by_cases c2 : (0 ≤ (xs (i + 2).toNat).toInt ∧ (xs (i + 2).toNat).toInt < 10 * X 5) ∧ (0 ≤ (xs (i + 3).toNat).toInt ∧ (xs (i + 3).toNat).toInt ≤ 100)
      · by_cases c3 : X 6 < 10
        · refine goT hTL0 [] [1, 1] rfl (by omega) (bcallT hTL0 rfl (by omega) (l_stop4 hI (xs (i + 1).toNat).toInt (xs (i + 2).toNat).toInt (xs (i + 3).toNat).toInt (by omega) c1 c2.1 c2.2 c3) ?_)
          rintro r ⟨V, rfl, hV⟩
          refine ⟨_, _, _, _, rfl, (fun h => by cases h), ?_⟩
          refine goT hTL0 [] [] rfl (by omega) (bcT hTL0 rfl (by omega) (m_stop4 hI hm (xs (i + 1).toNat).toInt (xs (i + 2).toNat).toInt (xs (i + 3).toNat).toInt (by omega) c1 c2.1 c2.2 c3) (fun h => by cases h) ?_)
          refine goT hTL0 [] [] rfl rfl (bcT hTL0 rfl (by omega) m_thrown (fun h => by cases h) ?_)
          exact goT hTL0 [43] [0, 1, 0] rfl ⟨rfl, rfl, ⟨by decide, by decide⟩, lc (by rw [up_eq]; omega), ⟨by omega, by omega⟩, rfl⟩ (hK _ _ _ _ _ _ _ _ (inv_stop inv ht c3 hV) (Or.inr (Or.inr ⟨_, _, rfl⟩)) (by omega) (by omega))
        · refine goT hTL0 [] [1, 1] rfl (by omega) (bcT hTL0 rfl (by omega) (l_stop3 hI (xs (i + 1).toNat).toInt (xs (i + 2).toNat).toInt (xs (i + 3).toNat).toInt (by omega) c1 c2.1 c2.2 (by omega)) (fun h => by cases h) ?_)
          refine goT hTL0 [] [] rfl (by omega) (bcT hTL0 rfl (by omega) (m_stop3 hI hm (xs (i + 1).toNat).toInt (xs (i + 2).toNat).toInt (xs (i + 3).toNat).toInt (by omega) c1 c2.1 c2.2 (by omega)) (fun h => by cases h) ?_)
          refine goT hTL0 [] [] rfl rfl (bcT hTL0 rfl (by omega) m_thrown (fun h => by cases h) ?_)
          exact goT hTL0 [43] [0, 0] rfl ⟨rfl, by decide, ⟨by omega, by omega⟩, rfl⟩ (hK _ _ _ _ _ _ _ _ (inv_same inv ht) (Or.inr (Or.inr ⟨_, _, rfl⟩)) (by omega) (by omega))
      · have c3 : ¬ (0 ≤ (xs (i + 2).toNat).toInt ∧ (xs (i + 2).toNat).toInt < 10 * X 5) ∨ ¬ (0 ≤ (xs (i + 3).toNat).toInt ∧ (xs (i + 3).toNat).toInt ≤ 100) := by omega
        refine goT hTL0 [] [1, 1] rfl (by omega) (bcT hTL0 rfl (by omega) (l_stop2 hI (xs (i + 1).toNat).toInt (xs (i + 2).toNat).toInt (xs (i + 3).toNat).toInt (by omega) c1 c3) (fun h => by cases h) ?_)
        refine goT hTL0 [] [] rfl (by omega) (bcT hTL0 rfl (by omega) (m_stop2 hI hm (xs (i + 1).toNat).toInt (xs (i + 2).toNat).toInt (xs (i + 3).toNat).toInt (by omega) c1 c3) (fun h => by cases h) ?_)
        refine goT hTL0 [] [] rfl rfl (bcT hTL0 rfl (by omega) m_thrown (fun h => by cases h) ?_)
        exact goT hTL0 [43] [0, 0] rfl ⟨rfl, by decide, ⟨by omega, by omega⟩, rfl⟩ (hK _ _ _ _ _ _ _ _ (inv_same inv ht) (Or.inr (Or.inr ⟨_, _, rfl⟩)) (by omega) (by omega))
    · refine goT hTL0 [] [1, 1] rfl (by omega) (bcT hTL0 rfl (by omega) (l_stop1 (xs (i + 1).toNat).toInt (xs (i + 2).toNat).toInt (xs (i + 3).toNat).toInt (by omega) c1) (fun h => by cases h) ?_)
      refine goT hTL0 [] [] rfl (by omega) (bcT hTL0 rfl (by omega) (m_stop1 hI hm (xs (i + 1).toNat).toInt (xs (i + 2).toNat).toInt (xs (i + 3).toNat).toInt (by omega) c1) (fun h => by cases h) ?_)
      refine goT hTL0 [] [] rfl rfl (bcT hTL0 rfl (by omega) m_thrown (fun h => by cases h) ?_)
      exact goT hTL0 [43] [0, 0] rfl ⟨rfl, by decide, ⟨by omega, by omega⟩, rfl⟩ (hK _ _ _ _ _ _ _ _ (inv_same inv ht) (Or.inr (Or.inr ⟨_, _, rfl⟩)) (by omega) (by omega))
end V2
