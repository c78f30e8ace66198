/-! The reference: share, far, told, count -/
section N4
variable {L : Nat} {xs : Nat → Int32} {X M : Nat → Int} {F G : Nat → Int → Int} {Y : Nat → Int} {E : Nat → Int → Int} {O : Int → Int} {d a b : Nat} {Q : BR → Prop}
theorem m_share1 (hI : SB X F) (hm : RB X F M G) (s : Int) (hd : 3 ≤ d) (h : ¬ (0 ≤ s ∧ s < X 6)) : bE L xs d MX6_share (0, [(0, bR 19), (1, bI s)], [], WD Y E M G O, a, b) (rI (WD Y E (un M 0 1) G O) 0 a b) := by
  refine go [] [] rfl (by omega) (bc rfl (by omega) (m_isStop hI hm (by omega) s) (fun h => by cases h) ?_)
  rw [if_neg h]
  refine go [] [1, 1] rfl ?_ (rti rfl rfl rfl)
  show (0 : Int) = 0 ∧ (0 : Int) < 1 ∧ (0 : Int) = 0
  omega
theorem m_share2 (hI : SB X F) (hm : RB X F M G) (s : Int) (hd : 3 ≤ d) (h : 0 ≤ s ∧ s < X 6) (h2 : X 1 = 0) : bE L xs d MX6_share (0, [(0, bR 19), (1, bI s)], [], WD Y E M G O, a, b) (rI (WD Y E (un M 0 2) G O) 0 a b) := by
  have h6 := hm.1
  refine go [] [] rfl (by omega) (bc rfl (by omega) (m_isStop hI hm (by omega) s) (fun h => by cases h) ?_)
  rw [if_pos h]
  refine go [] [0, 1, 1] rfl ?_ (rti rfl rfl rfl)
  show (¬ (1 : Int) = 0) ∧ M 4 = 0 ∧ (0 : Int) < 2 ∧ (0 : Int) = 0
  omega
theorem m_share3 (hI : SB X F) (hm : RB X F M G) (s : Int) (hd : 3 ≤ d) (h : 0 ≤ s ∧ s < X 6) (h2 : 0 < X 1) : bE L xs d MX6_share (0, [(0, bR 19), (1, bI s)], [], WD Y E M G O, a, b) (rI (WD Y E (un M 0 0) G O) (100 * F 7 (X 0 * 11 + s) / X 1) a b) := by
  have hX := hI.1
  have h6 := hm.1
  have w1 := SB_way hI (SB_here hI) (pnt_s h.1 h.2)
  have w := m_way (L := L) (xs := xs) (Y := Y) (E := E) (O := O) (d := d - 1) (a := a) (b := b) hI (RB_code hm (c := 0)) (X 0) s (SB_here hI) (pnt_s h.1 h.2) (by omega)
  rw [mp_s (s := s) (by omega), ← h6.2.2.2.2.1] at w
  rw [← h6.2.2.2.1]
  refine go [] [] rfl (by omega) (bc rfl (by omega) (m_isStop hI hm (by omega) s) (fun h => by cases h) ?_)
  rw [if_pos h]
  refine go [39] [0, 0, 0] rfl ?_ ?_
  · show (¬ (1 : Int) = 0) ∧ (¬ M 4 = 0) ∧ (0 : Int) ≤ 0
    omega
  refine go [] [] rfl (by omega) (bc rfl (by omega) w (fun h => by cases h) ?_)
  refine go [] [] rfl ?_ (rti rfl rfl rfl)
  show (-2147483648 ≤ 100 * F 7 (X 0 * 11 + s) ∧ 100 * F 7 (X 0 * 11 + s) ≤ 2147483647) ∧ (0 ≤ 100 * F 7 (X 0 * 11 + s) ∧ 0 < M 4)
  omega
theorem m_far1 (hI : SB X F) (hm : RB X F M G) (s o : Int) (hd : 3 ≤ d) (h : ¬ (0 ≤ s ∧ s < X 6)) : bE L xs d MX6_far (0, [(0, bR 19), (1, bI s), (2, bI o)], [], WD Y E M G O, a, b) (rI (WD Y E (un M 0 1) G O) 0 a b) := by
  refine go [] [] rfl (by omega) (bc rfl (by omega) (m_isStop hI hm (by omega) s) (fun h => by cases h) ?_)
  rw [if_neg h]
  refine go [] [0, 1] rfl ?_ (rti rfl rfl rfl)
  show (0 : Int) = 0 ∧ (0 : Int) < 1 ∧ (0 : Int) = 0
  omega
theorem m_far2 (hI : SB X F) (hm : RB X F M G) (s o : Int) (hd : 3 ≤ d) (h : 0 ≤ s ∧ s < X 6) (h2 : ¬ (0 ≤ o ∧ o < X 6)) : bE L xs d MX6_far (0, [(0, bR 19), (1, bI s), (2, bI o)], [], WD Y E M G O, a, b) (rI (WD Y E (un M 0 1) G O) 0 a b) := by
  refine go [] [] rfl (by omega) (bc rfl (by omega) (m_isStop hI hm (by omega) s) (fun h => by cases h) ?_)
  rw [if_pos h]
  refine go [] [1] rfl (by omega) (bc rfl (by omega) (m_isStop hI hm (by omega) o) (fun h => by cases h) ?_)
  rw [if_neg h2]
  refine go [] [0, 1] rfl ?_ (rti rfl rfl rfl)
  show (0 : Int) = 0 ∧ (0 : Int) < 1 ∧ (0 : Int) = 0
  omega
theorem m_far3 (hI : SB X F) (hm : RB X F M G) (s o : Int) (hd : 3 ≤ d) (h : 0 ≤ s ∧ s < X 6) (h2 : 0 ≤ o ∧ o < X 6) : bE L xs d MX6_far (0, [(0, bR 19), (1, bI s), (2, bI o)], [], WD Y E M G O, a, b) (rI (WD Y E (un M 0 0) G O) (F 7 (s * 11 + o)) a b) := by
  have hX := hI.1
  have w := m_way (L := L) (xs := xs) (Y := Y) (E := E) (O := O) (d := d - 1) (a := a) (b := b) hI (RB_code hm (c := 0)) s o (pnt_s h.1 h.2) (pnt_s h2.1 h2.2) (by omega)
  rw [mp_s (s := s) (by omega), mp_s (s := o) (by omega)] at w
  refine go [] [] rfl (by omega) (bc rfl (by omega) (m_isStop hI hm (by omega) s) (fun h => by cases h) ?_)
  rw [if_pos h]
  refine go [] [1] rfl (by omega) (bc rfl (by omega) (m_isStop hI hm (by omega) o) (fun h => by cases h) ?_)
  rw [if_pos h2]
  refine go [36] [1, 0] rfl ?_ ?_
  · show (¬ (1 : Int) = 0) ∧ (0 : Int) ≤ 0
    omega
  exact go [] [] rfl (by omega) (bc rfl (by omega) w (fun h => by cases h) (rti rfl rfl rfl))
theorem m_told1 (hI : SB X F) (hm : RB X F M G) (s q : Int) (hd : 3 ≤ d) (h : ¬ (0 ≤ s ∧ s < X 6)) : bE L xs d MX6_told (0, [(0, bR 19), (1, bI s), (2, bI q)], [], WD Y E M G O, a, b) (rI (WD Y E (un M 0 1) G O) 0 a b) := by
  refine go [] [] rfl (by omega) (bc rfl (by omega) (m_isStop hI hm (by omega) s) (fun h => by cases h) ?_)
  rw [if_neg h]
  refine go [] [1, 1] rfl ?_ (rti rfl rfl rfl)
  show (0 : Int) = 0 ∧ (0 : Int) < 1 ∧ (0 : Int) = 0
  omega
theorem m_told2 (hI : SB X F) (hm : RB X F M G) (s q : Int) (hd : 3 ≤ d) (h : 0 ≤ s ∧ s < X 6) (h2 : ¬ (0 ≤ q ∧ q ≤ 4)) : bE L xs d MX6_told (0, [(0, bR 19), (1, bI s), (2, bI q)], [], WD Y E M G O, a, b) (rI (WD Y E (un M 0 2) G O) 0 a b) := by
  refine go [] [] rfl (by omega) (bc rfl (by omega) (m_isStop hI hm (by omega) s) (fun h => by cases h) ?_)
  rw [if_pos h]
  refine go [] [0] rfl (by omega) (bc rfl (by omega) (m_in _ _ _) (fun h => by cases h) ?_)
  rw [if_neg h2]
  refine go [] [1, 1] rfl ?_ (rti rfl rfl rfl)
  show (0 : Int) = 0 ∧ (0 : Int) < 2 ∧ (0 : Int) = 0
  omega
theorem m_told3 (hI : SB X F) (hm : RB X F M G) (s q : Int) (hd : 3 ≤ d) (h : 0 ≤ s ∧ s < X 6) (h2 : 0 ≤ q ∧ q ≤ 4) : bE L xs d MX6_told (0, [(0, bR 19), (1, bI s), (2, bI q)], [], WD Y E M G O, a, b) (rI (WD Y E (un M 0 0) G O) (told F s q) a b) := by
  have hX := hI.1
  obtain ⟨g1, g2, g3, g4⟩ := hm.2.2.1 s h.1 h.2
  refine go [] [] rfl (by omega) (bc rfl (by omega) (m_isStop hI hm (by omega) s) (fun h => by cases h) ?_)
  rw [if_pos h]
  refine go [] [0] rfl (by omega) (bc rfl (by omega) (m_in _ _ _) (fun h => by cases h) ?_)
  rw [if_pos h2]
  refine go [39] [0, 0] rfl ?_ ?_
  · show (¬ (1 : Int) = 0) ∧ (0 : Int) ≤ 0
    omega
  have hq : q = 0 ∨ q = 1 ∨ q = 2 ∨ q = 3 ∨ q = 4 := by omega
  rcases hq with rfl | rfl | rfl | rfl | rfl
  · rw [show told F s 0 = F 2 s from rfl, ← g1]
    exact go [] [1] rfl (by omega) (rti rfl rfl rfl)
  · rw [show told F s 1 = F 3 s from rfl, ← g2]
    exact go [] [0, 1] rfl (by omega) (rti rfl rfl rfl)
  · rw [show told F s 2 = F 5 s from rfl, ← g3]
    exact go [] [0, 0, 1] rfl (by omega) (rti rfl rfl rfl)
  · rw [show told F s 3 = F 6 s from rfl, ← g4]
    exact go [] [0, 0, 0, 1] rfl (by omega) (rti rfl rfl rfl)
  · rw [show told F s 4 = wk F s from rfl]
    refine go [] [0, 0, 0, 0] rfl (by omega) (bc rfl (by omega) (m_isWalked hI (RB_code hm (c := 0)) s h.1 h.2) (fun h => by cases h) ?_)
    rcases wk_01 F s with hw | hw
    · rw [hw]; exact go [] [0] rfl (by omega) (rti rfl rfl rfl)
    · rw [hw]; exact go [] [1] rfl (by omega) (rti rfl rfl rfl)
theorem m_count (hI : SB X F) (hm0 : RB X F M G) (hmr0 : RR X F M G) (q : Int) (hd : 3 ≤ d) : bE L xs d MX6_count (0, [(0, bR 19), (1, bI q)], [], WD Y E M G O, a, b) (rI (WD Y E (un M 0 0) G O) (countOf X F q) a b) := by
  have hX := hI.1
  refine go [5] [] rfl (by omega) ?_
  show bE L xs d MX6_count (5, [(0, bR 19), (1, bI q)], [], WD Y E (un M 0 0) G O, a, b) _
  have hm : RB X F (un M 0 0) G := hm0
  have hmr : RR X F (un M 0 0) G := hmr0
  clear hm0 hmr0
  revert hm hmr
  generalize un M 0 0 = M
  intro hm hmr
  have h6 := hm.1
  have h7 := hmr.1
  by_cases c0 : q = 0
  · subst c0
    rw [show countOf X F 0 = X 6 from rfl, ← h6.2.2.2.2.2]
    exact go [] [1] rfl (by omega) (rti rfl rfl rfl)
  by_cases c1 : q = 1
  · subst c1
    exact go [] [0, 1] rfl (by omega) (bc rfl (by omega) (m_walked hI hm (by omega)) (fun h => by cases h) (rti rfl rfl rfl))
  by_cases c2 : q = 2
  · subst c2
    rw [show countOf X F 2 = X 3 from rfl, ← h7]
    exact go [] [0, 0, 1] rfl (by omega) (rti rfl rfl rfl)
  by_cases c3 : q = 3
  · subst c3
    rw [show countOf X F 3 = X 4 from rfl, ← h6.1]
    exact go [] [0, 0, 0, 1] rfl (by omega) (rti rfl rfl rfl)
  by_cases c4 : q = 4
  · subst c4
    rw [show countOf X F 4 = X 5 from rfl, ← h6.2.1]
    exact go [] [0, 0, 0, 0, 1] rfl (by omega) (rti rfl rfl rfl)
  by_cases c5 : q = 5
  · subst c5
    rw [show countOf X F 5 = X 1 from rfl, ← h6.2.2.2.1]
    exact go [] [0, 0, 0, 0, 0, 1] rfl (by omega) (rti rfl rfl rfl)
  by_cases c7 : q = 7
  · subst c7
    rw [show countOf X F 7 = mp (X 0) from rfl, ← h6.2.2.2.2.1]
    exact go [] [0, 0, 0, 0, 0, 0, 1] rfl (by omega) (rti rfl rfl rfl)
  refine go [79] [0, 0, 0, 0, 0, 0, 0] rfl (by omega) (for_up (P := fun s => bE L xs d MX6_count (79, [(0, bR 19), (1, bI q), (2, bI (nD F s)), (3, bI s)], [], WD Y E M G O, a, b) (rI (WD Y E M G O) (countOf X F q) a b)) (X 6) ?_ ?_ 0 (by omega) (by omega))
  · by_cases c6 : q = 6
    · subst c6
      exact go [] [0, 1] rfl (by omega) (rti rfl rfl rfl)
    · have e : countOf X F q = -1 := by
        unfold countOf
        simp only [c0, c1, c2, c3, c4, c5, c6, c7, if_false]
      rw [e]
      exact go [] [0, 0] rfl (by omega) (rti rfl rfl rfl)
  · intro s h0 h1 ih
    obtain ⟨g1, g2, g3, g4⟩ := hm.2.2.1 s h0 h1
    have e : nD F (s + 1) = nD F s + (if F 6 s = 1 then 1 else 0) := itr_s _ _ h0
    have hb := nD_b F s h0
    by_cases hw : F 6 s = 1
    · rw [e, if_pos hw] at ih
      exact go [79] [1, 1] rfl (by omega) ih
    · rw [e, if_neg hw] at ih
      exact go [79] [1, 0] rfl (by omega) ih
end N4
