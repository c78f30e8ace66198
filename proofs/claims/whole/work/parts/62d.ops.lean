/-! A call at a time -/
section V2
variable {L : Nat} {xs : Nat → Int32} {X M : Nat → Int} {F G : Nat → Int → Int} {O : Int → Int} {a b : Nat} {Q : BR → Prop} {i t : Int} {ls : BL}
theorem op3 (hK : KT L xs Q i t a b) (inv : INV t X F M G) (hls : LSx i ls) (ht : 0 ≤ t ∧ t ≤ 1000) (hi : 2 ≤ i ∧ i ≤ (L : Int) - 4) (hL : L ≤ 2050) (hop : bAnd (xs i.toNat).toInt 15 = 3) : bE L xs 10 ML_law (43, ls, [], WD X F M G O, a, b) Q := by
  have inv0 := inv
  obtain ⟨hI, hr, hm, hmr, hx0, hx1⟩ := inv0
  have hX := hI.1
  have hM := hm.1
  have hR := hr.1
  have ht := ht.1
  rcases hls with rfl | ⟨k, rfl⟩ | ⟨k, e, rfl⟩
  all_goals
    by_cases c1 : 0 ≤ (xs (i + 1).toNat).toInt ∧ (xs (i + 1).toNat).toInt < X 3
    · refine goT hTL3 [] [1, 4] rfl (by omega) (bcT hTL3 rfl (by omega) (l_step2 hr (xs (i + 1).toNat).toInt (by omega) c1) (fun h => by cases h) ?_)
      refine goT hTL3 [] [] rfl (by omega) (bcT hTL3 rfl (by omega) (m_step2 hr hmr (xs (i + 1).toNat).toInt (by omega) c1) (fun h => by cases h) ?_)
      refine goT hTL3 [] [] rfl rfl (bcT hTL3 rfl (by omega) m_thrown (fun h => by cases h) ?_)
      exact goT hTL3 [43] [0, 1, 0] rfl ⟨rfl, rfl, ⟨by decide, by decide⟩, lc (by rw [up_eq]), ⟨by omega, by omega⟩, rfl⟩ (hK _ _ _ _ _ _ _ _ (inv_same inv ht) (Or.inr (Or.inr ⟨_, _, rfl⟩)) (by omega) (by omega))
    · refine goT hTL3 [] [1, 4] rfl (by omega) (bcT hTL3 rfl (by omega) (l_step1 (xs (i + 1).toNat).toInt (by omega) c1) (fun h => by cases h) ?_)
      refine goT hTL3 [] [] rfl (by omega) (bcT hTL3 rfl (by omega) (m_step1 hr hmr (xs (i + 1).toNat).toInt (by omega) c1) (fun h => by cases h) ?_)
      refine goT hTL3 [] [] rfl rfl (bcT hTL3 rfl (by omega) m_thrown (fun h => by cases h) ?_)
      exact goT hTL3 [43] [0, 0] rfl ⟨rfl, by decide, ⟨by omega, by omega⟩, rfl⟩ (hK _ _ _ _ _ _ _ _ (inv_same inv ht) (Or.inr (Or.inr ⟨_, _, rfl⟩)) (by omega) (by omega))
theorem op4 (hK : KT L xs Q i t a b) (inv : INV t X F M G) (hls : LSx i ls) (ht : 0 ≤ t ∧ t ≤ 1000) (hi : 2 ≤ i ∧ i ≤ (L : Int) - 4) (hL : L ≤ 2050) (hop : bAnd (xs i.toNat).toInt 15 = 4) : bE L xs 10 ML_law (43, ls, [], WD X F M G O, a, b) Q := by
  have inv0 := inv
  obtain ⟨hI, hr, hm, hmr, hx0, hx1⟩ := inv0
  have hX := hI.1
  have hM := hm.1
  have hR := hr.1
  have ht := ht.1
  rcases hls with rfl | ⟨k, rfl⟩ | ⟨k, e, rfl⟩
  all_goals
    by_cases c1 : X 3 = 0
    · refine goT hTL4 [] [1, 5] rfl (by omega) (bcT hTL4 rfl (by omega) (l_go1 (by omega) c1) (fun h => by cases h) ?_)
      refine goT hTL4 [] [] rfl (by omega) (bcT hTL4 rfl (by omega) (m_go1 (by rw [hmr.1]; exact c1)) (fun h => by cases h) ?_)
      refine goT hTL4 [] [] rfl rfl (bcT hTL4 rfl (by omega) m_thrown (fun h => by cases h) ?_)
      exact goT hTL4 [43] [0, 0] rfl ⟨rfl, by decide, ⟨by omega, by omega⟩, rfl⟩ (hK _ _ _ _ _ _ _ _ (inv_same inv ht) (Or.inr (Or.inr ⟨_, _, rfl⟩)) (by omega) (by omega))
    · by_cases c2 : F 1 (F 2 (F 0 0)) = 0
      · refine goT hTL4 [] [1, 5] rfl (by omega) (bcallT hTL4 rfl (by omega) (l_go3 hI hr (by omega) (by omega) c1 c2) ?_)
        rintro r ⟨V, rfl, hV⟩
        refine ⟨_, _, _, _, rfl, (fun h => by cases h), ?_⟩
        refine goT hTL4 [] [] rfl (by omega) (bcallT hTL4 rfl (by omega) (m_go3 hI hr hm hmr (by omega) (by omega) c1 c2) ?_)
        rintro r ⟨V2, rfl, hV2⟩
        refine ⟨_, _, _, _, rfl, (fun h => by cases h), ?_⟩
        refine goT hTL4 [] [] rfl rfl (bcT hTL4 rfl (by omega) m_thrown (fun h => by cases h) ?_)
        exact goT hTL4 [43] [0, 1, 0] rfl ⟨rfl, rfl, ⟨by decide, by decide⟩, lc (by rw [up_eq]), ⟨by omega, by omega⟩, rfl⟩ (hK _ _ _ _ _ _ _ _ (inv_go inv ht c1 hV hV2) (Or.inr (Or.inr ⟨_, _, rfl⟩)) (by omega) (by omega))
      · refine goT hTL4 [] [1, 5] rfl (by omega) (bcT hTL4 rfl (by omega) (l_go2 hI hr (by omega) c1 c2) (fun h => by cases h) ?_)
        refine goT hTL4 [] [] rfl (by omega) (bcT hTL4 rfl (by omega) (m_go2 hI hr hm hmr c1 c2) (fun h => by cases h) ?_)
        refine goT hTL4 [] [] rfl rfl (bcT hTL4 rfl (by omega) m_thrown (fun h => by cases h) ?_)
        exact goT hTL4 [43] [0, 0] rfl ⟨rfl, by decide, ⟨by omega, by omega⟩, rfl⟩ (hK _ _ _ _ _ _ _ _ (inv_same2 inv ht) (Or.inr (Or.inr ⟨_, _, rfl⟩)) (by omega) (by omega))
end V2
