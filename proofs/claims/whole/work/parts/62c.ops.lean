/-! A call at a time -/
section V2
variable {L : Nat} {xs : Nat → Int32} {X M : Nat → Int} {F G : Nat → Int → Int} {O : Int → Int} {a b : Nat} {Q : BR → Prop} {i t : Int} {ls : BL}
set_option maxHeartbeats 8000000 in
theorem op2 (hK : KT L xs Q i t a b) (inv : INV t X F M G) (hls : LSx i ls) (ht : 0 ≤ t ∧ t ≤ 1000) (hi : 2 ≤ i ∧ i ≤ (L : Int) - 4) (hL : L ≤ 2050) (hop : bAnd (xs i.toNat).toInt 15 = 2) : bE L xs 10 ML_law (43, ls, [], WD X F M G O, a, b) Q := by
  have inv0 := inv
  obtain ⟨hI, hr, hm, hmr, hx0, hx1⟩ := inv0
  have hX := hI.1
  have hM := hm.1
  have hR := hr.1
  have ht := ht.1
  have g0 : -2147483648 ≤ (L : Int) - 4 ∧ (L : Int) - 4 ≤ 2147483647 := by omega
  have gi : 0 ≤ i ∧ i < (L : Int) := by omega
  have r1 : -2147483648 ≤ i + 1 ∧ i + 1 ≤ 2147483647 := by omega
  have x1 : 0 ≤ i + 1 ∧ i + 1 < (L : Int) := by omega
  have r2 : -2147483648 ≤ i + 2 ∧ i + 2 ≤ 2147483647 := by omega
  have x2 : 0 ≤ i + 2 ∧ i + 2 < (L : Int) := by omega
  have r3 : -2147483648 ≤ i + 3 ∧ i + 3 ≤ 2147483647 := by omega
  have x3 : 0 ≤ i + 3 ∧ i + 3 < (L : Int) := by omega
  have r4 : -2147483648 ≤ i + 4 ∧ i + 4 ≤ 2147483647 := by omega
  rcases hls with rfl | ⟨k, rfl⟩ | ⟨k, e, rfl⟩
  all_goals
    by_cases c1 : 0 ≤ (xs (i + 1).toNat).toInt ∧ (xs (i + 1).toNat).toInt ≤ 4
    · by_cases c2 : (xs (i + 1).toNat).toInt = 4 ∧ 8 < nW F (X 6)
      · refine goT hTL2 [] [1, 3] rfl ⟨g0, hi.2, gi, hop, r1, x1, rfl⟩ (bcT hTL2 rfl (by decide) (l_walk2 hI (xs (i + 1).toNat).toInt c2.1 c2.2 (by decide)) (fun h => by cases h) ?_)
        refine goT hTL2 [] [] rfl ⟨r1, x1⟩ (bcT hTL2 rfl (by decide) (m_walk2 hI hm (xs (i + 1).toNat).toInt c2.1 c2.2 (by decide)) (fun h => by cases h) ?_)
        refine goT hTL2 [] [] rfl rfl (bcT hTL2 rfl (by decide) m_thrown (fun h => by cases h) ?_)
        exact goT hTL2 [43] [0, 0] rfl ⟨rfl, by decide, r4, rfl⟩ (hK _ _ _ _ _ _ _ _ (inv_same inv ht) (Or.inr (Or.inr ⟨_, _, rfl⟩)) (Nat.le_refl _) (Nat.le_refl _))
      · have c3 : (xs (i + 1).toNat).toInt = 4 → nW F (X 6) ≤ 8 := fun h => by omega
        refine goT hTL2 [] [1, 3] rfl ⟨g0, hi.2, gi, hop, r1, x1, rfl⟩ (bcallT hTL2 rfl (by decide) (l_walk3 hI (xs (i + 1).toNat).toInt c1 c3 (by decide)) ?_)
        rintro r ⟨X', F', rfl, hV⟩
        refine ⟨_, _, _, _, rfl, (fun h => by cases h), ?_⟩
        refine goT hTL2 [] [] rfl ⟨r1, x1⟩ (bcallT hTL2 rfl (by decide) (m_walk3 hI hm (xs (i + 1).toNat).toInt c1 c3 (by decide) hV) ?_)
        rintro r ⟨M', G', rfl, q0, q1, q2⟩
        refine ⟨_, _, _, _, rfl, (fun h => by cases h), ?_⟩
        have inv2 : INV (t + 1) X' F' M' G' := ⟨SB_walk hI hV, hV.2.2.1, q1, q2, by rw [hV.1.2.1]; omega, by rw [hV.1.2.1]; omega⟩
        refine goT hTL2 [] [] rfl rfl (bcT hTL2 rfl (by decide) m_thrown (fun h => by cases h) ?_)
        exact goT hTL2 [43] [0, 1, 0] rfl ⟨q0, rfl, ⟨by decide, by decide⟩, lc (by rw [up_eq]), r4, rfl⟩ (hK _ _ _ _ _ _ _ _ inv2 (Or.inr (Or.inr ⟨_, _, rfl⟩)) (Nat.le_add_right _ _) (Nat.le_add_right _ _))
    · refine goT hTL2 [] [1, 3] rfl ⟨g0, hi.2, gi, hop, r1, x1, rfl⟩ (bcT hTL2 rfl (by decide) (l_walk1 (xs (i + 1).toNat).toInt c1 (by decide)) (fun h => by cases h) ?_)
      refine goT hTL2 [] [] rfl ⟨r1, x1⟩ (bcT hTL2 rfl (by decide) (m_walk1 (xs (i + 1).toNat).toInt c1 (by decide)) (fun h => by cases h) ?_)
      refine goT hTL2 [] [] rfl rfl (bcT hTL2 rfl (by decide) m_thrown (fun h => by cases h) ?_)
      exact goT hTL2 [43] [0, 0] rfl ⟨rfl, by decide, r4, rfl⟩ (hK _ _ _ _ _ _ _ _ (inv_same inv ht) (Or.inr (Or.inr ⟨_, _, rfl⟩)) (Nat.le_refl _) (Nat.le_refl _))
end V2
