/-! walk: what is refused; the class's cells behind it -/
section K2
variable {L : Nat} {xs : Nat → Int32} {X M : Nat → Int} {F G : Nat → Int → Int} {Y : Nat → Int} {E : Nat → Int → Int} {O : Int → Int} {d a b : Nat} {Q : BR → Prop}
theorem t_walk1 (kind : Int) (hk : ¬ (0 ≤ kind ∧ kind ≤ 4)) (hd : 8 ≤ d) : bE L xs d MX5_walk (0, [(0, bR 1), (1, bI kind)], [], WD X F M G O, a, b) (rT (WD X F M G O) 1 (a + 1) (b + 6)) := by
  by_cases h : kind < 0
  · exact go [] [0] rfl (by omega) (thr rfl rfl (by omega) rfl rfl)
  · exact go [] [1, 1] rfl (by omega) (thr rfl rfl (by omega) rfl rfl)
theorem t_walk2 (hI : SB X F) (kind : Int) (hk : kind = 4) (h4 : 8 < nW F (X 6)) (hd : 8 ≤ d) : bE L xs d MX5_walk (0, [(0, bR 1), (1, bI kind)], [], WD X F M G O, a, b) (rT (WD X F M G O) 3 (a + 1) (b + 6)) := by
  refine go [] [1, 0, 1] rfl (by omega) (bc rfl (by omega) (t_walkedOnes hI (by omega)) (fun h => by cases h) ?_)
  exact go [] [1] rfl (by omega) (thr rfl rfl (by omega) rfl rfl)
theorem m_walk1 (kind : Int) (hk : ¬ (0 ≤ kind ∧ kind ≤ 4)) (hd : 3 ≤ d) : bE L xs d MX6_walk (0, [(0, bR 19), (1, bI kind)], [], WD Y E M G O, a, b) (rI (WD Y E (un M 0 1) G O) 0 a b) := by
  refine go [] [] rfl (by omega) (bc rfl (by omega) (m_in _ _ _) (fun h => by cases h) ?_)
  rw [if_neg hk]
  exact go [] [1, 1] rfl ⟨rfl, (by decide : (0 : Int) < 1), rfl⟩ (rti rfl rfl rfl)
theorem m_walk2 (hI : SB X F) (hm : RB X F M G) (kind : Int) (hk : kind = 4) (h4 : 8 < nW F (X 6)) (hd : 3 ≤ d) : bE L xs d MX6_walk (0, [(0, bR 19), (1, bI kind)], [], WD Y E M G O, a, b) (rI (WD Y E (un M 0 2) G O) 0 a b) := by
  refine go [] [] rfl (by omega) (bc rfl (by omega) (m_in _ _ _) (fun h => by cases h) ?_)
  rw [if_pos (by omega)]
  refine go [] [0, 1] rfl (by omega) (bc rfl (by omega) (m_walked hI hm (by omega)) (fun h => by cases h) ?_)
  exact go [] [1, 1] rfl ⟨by omega, (by decide : (0 : Int) < 2), rfl⟩ (rti rfl rfl rfl)
theorem SB_walk (hI : SB X F) {kind : Int} {X' : Nat → Int} {F' : Nat → Int → Int} (hw : WR kind X F X' F') : SB X' F' := by
  obtain ⟨⟨x0, x1, x2, x4, x5, x6⟩, ⟨f1, f2, f3, f4, f5, f6, f7⟩, _, _⟩ := hw
  unfold SB pnt at *
  rw [x0, x2, x4, x5, x6, f1, f2, f3, f4, f5, f6, f7]
  exact hI
end K2
