/-! A call at a time -/
section V2
variable {L : Nat} {xs : Nat → Int32} {X M : Nat → Int} {F G : Nat → Int → Int} {O : Int → Int} {a b : Nat} {Q : BR → Prop} {i t : Int} {ls : BL}
set_option maxHeartbeats 8000000 in
theorem op3 (hK : KT L xs Q i t a b) (inv : INV t X F M G) (hls : LSx i ls) (ht : 0 ≤ t ∧ t ≤ 1000) (hi : 2 ≤ i ∧ i ≤ (L : Int) - 4) (hL : L ≤ 2050) (hop : bAnd (xs i.toNat).toInt 15 = 3) : bE L xs 10 ML_law (43, ls, [], WD X F M G O, a, b) Q := by
  have inv0 := inv
  obtain ⟨hI, hr, hm, hmr, hx0, hx1⟩ := inv0
  have hX := hI.1
  have hM := hm.1
  have hR := hr.1
  have ht := ht.1
  have g0 : -2147483648 ≤ (L : Int) - 4 ∧ (L : Int) - 4 ≤ 2147483647 := by omega
  have gi : 0 ≤ i ∧ i < (L : Int) := by omega
  have r1 : -2147483648 ≤ i + 1 ∧ i + 1 ≤ 2147483647 := by omega
  have x1 : 0 ≤ i + 1 ∧ i + 1 < (L : Int) := by omega
  have r2 : -2147483648 ≤ i + 2 ∧ i + 2 ≤ 2147483647 := by omega
  have x2 : 0 ≤ i + 2 ∧ i + 2 < (L : Int) := by omega
  have r3 : -2147483648 ≤ i + 3 ∧ i + 3 ≤ 2147483647 := by omega
  have x3 : 0 ≤ i + 3 ∧ i + 3 < (L : Int) := by omega
  have r4 : -2147483648 ≤ i + 4 ∧ i + 4 ≤ 2147483647 := by omega
  rcases hls with rfl | ⟨k, rfl⟩ | ⟨k, e, rfl⟩
  all_goals
    by_cases c1 : 0 ≤ (xs (i + 1).toNat).toInt ∧ (xs (i + 1).toNat).toInt < X 3
    · refine goT hTL3 [] [1, 4] rfl ⟨g0, hi.2, gi, hop, r1, x1, rfl⟩ (bcT hTL3 rfl (by decide) (l_step2 hr (xs (i + 1).toNat).toInt (by decide) c1) (fun h => by cases h) ?_)
      refine goT hTL3 [] [] rfl ⟨r1, x1⟩ (bcT hTL3 rfl (by decide) (m_step2 hr hmr (xs (i + 1).toNat).toInt (by decide) c1) (fun h => by cases h) ?_)
      refine goT hTL3 [] [] rfl rfl (bcT hTL3 rfl (by decide) m_thrown (fun h => by cases h) ?_)
      exact goT hTL3 [43] [0, 1, 0] rfl ⟨rfl, rfl, ⟨by decide, by decide⟩, lc (by rw [up_eq]), r4, rfl⟩ (hK _ _ _ _ _ _ _ _ (inv_same inv ht) (Or.inr (Or.inr ⟨_, _, rfl⟩)) (Nat.le_add_right _ _) (Nat.le_add_right _ _))
    · refine goT hTL3 [] [1, 4] rfl ⟨g0, hi.2, gi, hop, r1, x1, rfl⟩ (bcT hTL3 rfl (by decide) (l_step1 (xs (i + 1).toNat).toInt (by decide) c1) (fun h => by cases h) ?_)
      refine goT hTL3 [] [] rfl ⟨r1, x1⟩ (bcT hTL3 rfl (by decide) (m_step1 hr hmr (xs (i + 1).toNat).toInt (by decide) c1) (fun h => by cases h) ?_)
      refine goT hTL3 [] [] rfl rfl (bcT hTL3 rfl (by decide) m_thrown (fun h => by cases h) ?_)
      exact goT hTL3 [43] [0, 0] rfl ⟨rfl, by decide, r4, rfl⟩ (hK _ _ _ _ _ _ _ _ (inv_same inv ht) (Or.inr (Or.inr ⟨_, _, rfl⟩)) (Nat.le_refl _) (Nat.le_refl _))
set_option maxHeartbeats 8000000 in
theorem op4 (hK : KT L xs Q i t a b) (inv : INV t X F M G) (hls : LSx i ls) (ht : 0 ≤ t ∧ t ≤ 1000) (hi : 2 ≤ i ∧ i ≤ (L : Int) - 4) (hL : L ≤ 2050) (hop : bAnd (xs i.toNat).toInt 15 = 4) : bE L xs 10 ML_law (43, ls, [], WD X F M G O, a, b) Q := by
  have inv0 := inv
  obtain ⟨hI, hr, hm, hmr, hx0, hx1⟩ := inv0
  have hX := hI.1
  have hM := hm.1
  have hR := hr.1
  have ht := ht.1
  have g0 : -2147483648 ≤ (L : Int) - 4 ∧ (L : Int) - 4 ≤ 2147483647 := by omega
  have gi : 0 ≤ i ∧ i < (L : Int) := by omega
  have r1 : -2147483648 ≤ i + 1 ∧ i + 1 ≤ 2147483647 := by omega
  have x1 : 0 ≤ i + 1 ∧ i + 1 < (L : Int) := by omega
  have r2 : -2147483648 ≤ i + 2 ∧ i + 2 ≤ 2147483647 := by omega
  have x2 : 0 ≤ i + 2 ∧ i + 2 < (L : Int) := by omega
  have r3 : -2147483648 ≤ i + 3 ∧ i + 3 ≤ 2147483647 := by omega
  have x3 : 0 ≤ i + 3 ∧ i + 3 < (L : Int) := by omega
  have r4 : -2147483648 ≤ i + 4 ∧ i + 4 ≤ 2147483647 := by omega
  rcases hls with rfl | ⟨k, rfl⟩ | ⟨k, e, rfl⟩
  all_goals
    by_cases c1 : X 3 = 0
    · refine goT hTL4 [] [1, 5] rfl ⟨g0, hi.2, gi, hop, rfl⟩ (bcT hTL4 rfl (by decide) (l_go1 (by decide) c1) (fun h => by cases h) ?_)
      refine goT hTL4 [] [] rfl rfl (bcT hTL4 rfl (by decide) (m_go1 (by rw [hmr.1]; exact c1)) (fun h => by cases h) ?_)
      refine goT hTL4 [] [] rfl rfl (bcT hTL4 rfl (by decide) m_thrown (fun h => by cases h) ?_)
      exact goT hTL4 [43] [0, 0] rfl ⟨rfl, by decide, r4, rfl⟩ (hK _ _ _ _ _ _ _ _ (inv_same inv ht) (Or.inr (Or.inr ⟨_, _, rfl⟩)) (Nat.le_refl _) (Nat.le_refl _))
    · by_cases c2 : F 1 (F 2 (F 0 0)) = 0
      · refine goT hTL4 [] [1, 5] rfl ⟨g0, hi.2, gi, hop, rfl⟩ (bcallT hTL4 rfl (by decide) (l_go3 hI hr (by decide) (by omega) c1 c2) ?_)
        rintro r ⟨V, rfl, hV⟩
        refine ⟨_, _, _, _, rfl, (fun h => by cases h), ?_⟩
        refine goT hTL4 [] [] rfl rfl (bcallT hTL4 rfl (by decide) (m_go3 hI hr hm hmr (by decide) (by omega) c1 c2) ?_)
        rintro r ⟨V2, rfl, hV2⟩
        refine ⟨_, _, _, _, rfl, (fun h => by cases h), ?_⟩
        refine goT hTL4 [] [] rfl rfl (bcT hTL4 rfl (by decide) m_thrown (fun h => by cases h) ?_)
        exact goT hTL4 [43] [0, 1, 0] rfl ⟨rfl, rfl, ⟨by decide, by decide⟩, lc (by rw [up_eq]), r4, rfl⟩ (hK _ _ _ _ _ _ _ _ (inv_go inv ht c1 hV hV2) (Or.inr (Or.inr ⟨_, _, rfl⟩)) (Nat.le_add_right _ _) (Nat.le_add_right _ _))
      · refine goT hTL4 [] [1, 5] rfl ⟨g0, hi.2, gi, hop, rfl⟩ (bcT hTL4 rfl (by decide) (l_go2 hI hr (by decide) c1 c2) (fun h => by cases h) ?_)
        refine goT hTL4 [] [] rfl rfl (bcT hTL4 rfl (by decide) (m_go2 hI hr hm hmr c1 c2) (fun h => by cases h) ?_)
        refine goT hTL4 [] [] rfl rfl (bcT hTL4 rfl (by decide) m_thrown (fun h => by cases h) ?_)
        exact goT hTL4 [43] [0, 0] rfl ⟨rfl, by decide, r4, rfl⟩ (hK _ _ _ _ _ _ _ _ (inv_same2 inv ht) (Or.inr (Or.inr ⟨_, _, rfl⟩)) (Nat.le_refl _) (Nat.le_refl _))
end V2
