/-! A call at a time -/
section V2
variable {L : Nat} {xs : Nat → Int32} {X M : Nat → Int} {F G : Nat → Int → Int} {O : Int → Int} {a b : Nat} {Q : BR → Prop} {i t : Int} {ls : BL}
theorem op12 (hK : KT L xs Q i t a b) (inv : INV t X F M G) (hls : LSx i ls) (ht : 0 ≤ t ∧ t ≤ 1000) (hi : 2 ≤ i ∧ i ≤ (L : Int) - 4) (hL : L ≤ 2050) (hop : bAnd (xs i.toNat).toInt 15 = 12) : bE L xs 10 ML_law (43, ls, [], WD X F M G O, a, b) Q := by
  have inv0 := inv
  obtain ⟨hI, hr, hm, hmr, hx0, hx1⟩ := inv0
  have hX := hI.1
  have hM := hm.1
  have hR := hr.1
  have ht := ht.1
  rcases hls with rfl | ⟨k, rfl⟩ | ⟨k, e, rfl⟩
  all_goals
    by_cases c1 : 0 ≤ (xs (i + 1).toNat).toInt ∧ (xs (i + 1).toNat).toInt < X 6
    · by_cases c2 : 0 ≤ (xs (i + 2).toNat).toInt ∧ (xs (i + 2).toNat).toInt ≤ 4
      · refine goT hTL12 [] [1, 13] rfl (by omega) (bcT hTL12 rfl (by omega) (l_told3 hI (xs (i + 1).toNat).toInt (xs (i + 2).toNat).toInt (by omega) c1 c2) (fun h => by cases h) ?_)
        refine goT hTL12 [] [] rfl (by omega) (bcT hTL12 rfl (by omega) (m_told3 hI hm (xs (i + 1).toNat).toInt (xs (i + 2).toNat).toInt (by omega) c1 c2) (fun h => by cases h) ?_)
        refine goT hTL12 [] [] rfl rfl (bcT hTL12 rfl (by omega) m_thrown (fun h => by cases h) ?_)
        exact goT hTL12 [43] [0, 1, 0] rfl ⟨rfl, rfl, ⟨by decide, by decide⟩, lc (by rw [up_eq]), ⟨by omega, by omega⟩, rfl⟩ (hK _ _ _ _ _ _ _ _ (inv_same inv ht) (Or.inr (Or.inr ⟨_, _, rfl⟩)) (by omega) (by omega))
      · refine goT hTL12 [] [1, 13] rfl (by omega) (bcT hTL12 rfl (by omega) (l_told2 (xs (i + 1).toNat).toInt (xs (i + 2).toNat).toInt (by omega) c1 c2) (fun h => by cases h) ?_)
        refine goT hTL12 [] [] rfl (by omega) (bcT hTL12 rfl (by omega) (m_told2 hI hm (xs (i + 1).toNat).toInt (xs (i + 2).toNat).toInt (by omega) c1 c2) (fun h => by cases h) ?_)
        refine goT hTL12 [] [] rfl rfl (bcT hTL12 rfl (by omega) m_thrown (fun h => by cases h) ?_)
        exact goT hTL12 [43] [0, 0] rfl ⟨rfl, by decide, ⟨by omega, by omega⟩, rfl⟩ (hK _ _ _ _ _ _ _ _ (inv_same inv ht) (Or.inr (Or.inr ⟨_, _, rfl⟩)) (by omega) (by omega))
    · refine goT hTL12 [] [1, 13] rfl (by omega) (bcT hTL12 rfl (by omega) (l_told1 (xs (i + 1).toNat).toInt (xs (i + 2).toNat).toInt (by omega) c1) (fun h => by cases h) ?_)
      refine goT hTL12 [] [] rfl (by omega) (bcT hTL12 rfl (by omega) (m_told1 hI hm (xs (i + 1).toNat).toInt (xs (i + 2).toNat).toInt (by omega) c1) (fun h => by cases h) ?_)
      refine goT hTL12 [] [] rfl rfl (bcT hTL12 rfl (by omega) m_thrown (fun h => by cases h) ?_)
      exact goT hTL12 [43] [0, 0] rfl ⟨rfl, by decide, ⟨by omega, by omega⟩, rfl⟩ (hK _ _ _ _ _ _ _ _ (inv_same inv ht) (Or.inr (Or.inr ⟨_, _, rfl⟩)) (by omega) (by omega))
theorem op13 (hK : KT L xs Q i t a b) (inv : INV t X F M G) (hls : LSx i ls) (ht : 0 ≤ t ∧ t ≤ 1000) (hi : 2 ≤ i ∧ i ≤ (L : Int) - 4) (hL : L ≤ 2050) (hop : bAnd (xs i.toNat).toInt 15 = 13) : bE L xs 10 ML_law (43, ls, [], WD X F M G O, a, b) Q := by
  have inv0 := inv
  obtain ⟨hI, hr, hm, hmr, hx0, hx1⟩ := inv0
  have hX := hI.1
  have hM := hm.1
  have hR := hr.1
  have ht := ht.1
  rcases hls with rfl | ⟨k, rfl⟩ | ⟨k, e, rfl⟩
  all_goals
    refine goT hTL13 [] [1, 14] rfl (by omega) (bcT hTL13 rfl (by omega) (t_count hI (xs (i + 1).toNat).toInt (by omega)) (fun h => by cases h) ?_)
    refine goT hTL13 [] [] rfl (by omega) (bcT hTL13 rfl (by omega) (m_count hI hm hmr (xs (i + 1).toNat).toInt (by omega)) (fun h => by cases h) ?_)
    exact goT hTL13 [43] [0] rfl ⟨rfl, ⟨by omega, by omega⟩, rfl⟩ (hK _ _ _ _ _ _ _ _ (inv_same inv ht) (by first | exact Or.inl rfl | exact Or.inr (Or.inl ⟨_, rfl⟩) | exact Or.inr (Or.inr ⟨_, _, rfl⟩)) (by omega) (by omega))
end V2
