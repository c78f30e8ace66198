/-! A call at a time -/
section V2
variable {L : Nat} {xs : Nat → Int32} {X M : Nat → Int} {F G : Nat → Int → Int} {O : Int → Int} {a b : Nat} {Q : BR → Prop} {i t : Int} {ls : BL}
set_option maxHeartbeats 8000000 in
theorem op5 (hK : KT L xs Q i t a b) (inv : INV t X F M G) (hls : LSx i ls) (ht : 0 ≤ t ∧ t ≤ 1000) (hi : 2 ≤ i ∧ i ≤ (L : Int) - 4) (hL : L ≤ 2050) (hop : bAnd (xs i.toNat).toInt 15 = 5) : bE L xs 10 ML_law (43, ls, [], WD X F M G O, a, b) Q := by
  have inv0 := inv
  obtain ⟨hI, hr, hm, hmr, hx0, hx1⟩ := inv0
  have hX := hI.1
  have hM := hm.1
  have hR := hr.1
  have ht := ht.1
  have g0 : -2147483648 ≤ (L : Int) - 4 ∧ (L : Int) - 4 ≤ 2147483647 := by omega
  have gi : 0 ≤ i ∧ i < (L : Int) := by omega
  have r1 : -2147483648 ≤ i + 1 ∧ i + 1 ≤ 2147483647 := by omega
  have x1 : 0 ≤ i + 1 ∧ i + 1 < (L : Int) := by omega
  have r2 : -2147483648 ≤ i + 2 ∧ i + 2 ≤ 2147483647 := by omega
  have x2 : 0 ≤ i + 2 ∧ i + 2 < (L : Int) := by omega
  have r3 : -2147483648 ≤ i + 3 ∧ i + 3 ≤ 2147483647 := by omega
  have x3 : 0 ≤ i + 3 ∧ i + 3 < (L : Int) := by omega
  have r4 : -2147483648 ≤ i + 4 ∧ i + 4 ≤ 2147483647 := by omega
  rcases hls with rfl | ⟨k, rfl⟩ | ⟨k, e, rfl⟩
  all_goals
    by_cases c1 : 0 ≤ (xs (i + 1).toNat).toInt ∧ (xs (i + 1).toNat).toInt < X 6
    · by_cases c2 : F 6 (xs (i + 1).toNat).toInt = 0
      · obtain ⟨k9, hk, hx⟩ := at_one hr (xs (i + 1).toNat).toInt
        refine goT hTL5 [] [1, 6] rfl ⟨g0, hi.2, gi, hop, r1, x1, rfl⟩ (bcallT hTL5 rfl (by decide) (l_missing3 hI hr (xs (i + 1).toNat).toInt k9 (by decide) c1 c2 hk hx) ?_)
        rintro r ⟨V, rfl, hV⟩
        refine ⟨_, _, _, _, rfl, (fun h => by cases h), ?_⟩
        refine goT hTL5 [] [] rfl ⟨r1, x1⟩ (bcallT hTL5 rfl (by decide) (m_missing3 hI hr hm hmr (xs (i + 1).toNat).toInt k9 (by decide) c1 c2 hk hx hV) ?_)
        rintro r ⟨M', G', rfl, q0, q1, q2⟩
        refine ⟨_, _, _, _, rfl, (fun h => by cases h), ?_⟩
        have inv2 : INV (t + 1) (un X 3 (if k9 < X 3 then X 3 - 1 else X 3)) (un (un F 6 (up (F 6) (xs (i + 1).toNat).toInt 2)) 0 V) M' G' := ⟨SB_row (SB_state hI (by omega)), SR_drop hr hk rfl hV rfl rfl rfl rfl, q1, q2, hx0, by show X 1 ≤ _; omega⟩
        refine goT hTL5 [] [] rfl rfl (bcT hTL5 rfl (by decide) m_thrown (fun h => by cases h) ?_)
        exact goT hTL5 [43] [0, 1, 0] rfl ⟨q0, rfl, ⟨by decide, by decide⟩, lc (by rw [up_eq]), r4, rfl⟩ (hK _ _ _ _ _ _ _ _ inv2 (Or.inr (Or.inr ⟨_, _, rfl⟩)) (Nat.le_add_right _ _) (Nat.le_add_right _ _))
      · refine goT hTL5 [] [1, 6] rfl ⟨g0, hi.2, gi, hop, r1, x1, rfl⟩ (bcT hTL5 rfl (by decide) (l_missing2 hI (xs (i + 1).toNat).toInt (by decide) c1 c2) (fun h => by cases h) ?_)
        refine goT hTL5 [] [] rfl ⟨r1, x1⟩ (bcT hTL5 rfl (by decide) (m_missing2 hI hm (xs (i + 1).toNat).toInt (by decide) c1 c2) (fun h => by cases h) ?_)
        refine goT hTL5 [] [] rfl rfl (bcT hTL5 rfl (by decide) m_thrown (fun h => by cases h) ?_)
        exact goT hTL5 [43] [0, 0] rfl ⟨rfl, by decide, r4, rfl⟩ (hK _ _ _ _ _ _ _ _ (inv_same2 inv ht) (Or.inr (Or.inr ⟨_, _, rfl⟩)) (Nat.le_refl _) (Nat.le_refl _))
    · refine goT hTL5 [] [1, 6] rfl ⟨g0, hi.2, gi, hop, r1, x1, rfl⟩ (bcT hTL5 rfl (by decide) (l_missing1 (xs (i + 1).toNat).toInt (by decide) c1) (fun h => by cases h) ?_)
      refine goT hTL5 [] [] rfl ⟨r1, x1⟩ (bcT hTL5 rfl (by decide) (m_missing1 hI hm (xs (i + 1).toNat).toInt (by decide) c1) (fun h => by cases h) ?_)
      refine goT hTL5 [] [] rfl rfl (bcT hTL5 rfl (by decide) m_thrown (fun h => by cases h) ?_)
      exact goT hTL5 [43] [0, 0] rfl ⟨rfl, by decide, r4, rfl⟩ (hK _ _ _ _ _ _ _ _ (inv_same inv ht) (Or.inr (Or.inr ⟨_, _, rfl⟩)) (Nat.le_refl _) (Nat.le_refl _))
set_option maxHeartbeats 8000000 in
theorem op6 (hK : KT L xs Q i t a b) (inv : INV t X F M G) (hls : LSx i ls) (ht : 0 ≤ t ∧ t ≤ 1000) (hi : 2 ≤ i ∧ i ≤ (L : Int) - 4) (hL : L ≤ 2050) (hop : bAnd (xs i.toNat).toInt 15 = 6) : bE L xs 10 ML_law (43, ls, [], WD X F M G O, a, b) Q := by
  have inv0 := inv
  obtain ⟨hI, hr, hm, hmr, hx0, hx1⟩ := inv0
  have hX := hI.1
  have hM := hm.1
  have hR := hr.1
  have ht := ht.1
  have g0 : -2147483648 ≤ (L : Int) - 4 ∧ (L : Int) - 4 ≤ 2147483647 := by omega
  have gi : 0 ≤ i ∧ i < (L : Int) := by omega
  have r1 : -2147483648 ≤ i + 1 ∧ i + 1 ≤ 2147483647 := by omega
  have x1 : 0 ≤ i + 1 ∧ i + 1 < (L : Int) := by omega
  have r2 : -2147483648 ≤ i + 2 ∧ i + 2 ≤ 2147483647 := by omega
  have x2 : 0 ≤ i + 2 ∧ i + 2 < (L : Int) := by omega
  have r3 : -2147483648 ≤ i + 3 ∧ i + 3 ≤ 2147483647 := by omega
  have x3 : 0 ≤ i + 3 ∧ i + 3 < (L : Int) := by omega
  have r4 : -2147483648 ≤ i + 4 ∧ i + 4 ≤ 2147483647 := by omega
  rcases hls with rfl | ⟨k, rfl⟩ | ⟨k, e, rfl⟩
  all_goals
    refine goT hTL6 [] [1, 7] rfl ⟨g0, hi.2, gi, hop, rfl⟩ (bcT hTL6 rfl (by decide) (t_left hI hr (by decide)) (fun h => by cases h) ?_)
    refine goT hTL6 [] [] rfl rfl (bcT hTL6 rfl (by decide) (m_left hI hr hm hmr (by decide)) (fun h => by cases h) ?_)
    exact goT hTL6 [43] [0] rfl ⟨rfl, r4, rfl⟩ (hK _ _ _ _ _ _ _ _ (inv_same inv ht) (by first | exact Or.inl rfl | exact Or.inr (Or.inl ⟨_, rfl⟩) | exact Or.inr (Or.inr ⟨_, _, rfl⟩)) (Nat.le_add_right _ _) (Nat.le_add_right _ _))
end V2
