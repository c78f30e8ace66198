/-! The law's own small methods -/
section W1
variable {L : Nat} {xs : Nat → Int32} {X M : Nat → Int} {F G : Nat → Int → Int} {O : Int → Int} {d a b : Nat} {Q : BR → Prop}
theorem l_stop1 (A P N : Int) (hd : 9 ≤ d) (h : ¬ (0 ≤ A ∧ A < X 4)) : bE L xs d ML_stop (0, [(0, bR 1), (1, bI A), (2, bI P), (3, bI N), (4, bR 30)], [], WD X F M G O, a, b) (rI (WD X F M G O) 1 (a + 1) (b + 6)) :=
  go [] [] rfl rfl (bcC rfl (by omega) (by decide) rfl (t_stop1 A P N (by omega) h) (go [] [] rfl rfl (rti rfl rfl rfl)))
theorem l_stop2 (hI : SB X F) (A P N : Int) (hd : 9 ≤ d) (h : 0 ≤ A ∧ A < X 4) (h2 : ¬ (0 ≤ P ∧ P < 10 * X 5) ∨ ¬ (0 ≤ N ∧ N ≤ 100)) : bE L xs d ML_stop (0, [(0, bR 1), (1, bI A), (2, bI P), (3, bI N), (4, bR 30)], [], WD X F M G O, a, b) (rI (WD X F M G O) 2 (a + 1) (b + 6)) :=
  go [] [] rfl rfl (bcC rfl (by omega) (by decide) rfl (t_stop2 hI A P N (by omega) h h2) (go [] [] rfl rfl (rti rfl rfl rfl)))
theorem l_stop3 (hI : SB X F) (A P N : Int) (hd : 9 ≤ d) (h : 0 ≤ A ∧ A < X 4) (h2 : 0 ≤ P ∧ P < 10 * X 5) (h3 : 0 ≤ N ∧ N ≤ 100) (h4 : 10 ≤ X 6) : bE L xs d ML_stop (0, [(0, bR 1), (1, bI A), (2, bI P), (3, bI N), (4, bR 30)], [], WD X F M G O, a, b) (rI (WD X F M G O) 3 (a + 1) (b + 6)) :=
  go [] [] rfl rfl (bcC rfl (by omega) (by decide) rfl (t_stop3 hI A P N (by omega) h h2 h3 h4) (go [] [] rfl rfl (rti rfl rfl rfl)))
theorem l_stop4 (hI : SB X F) (A P N : Int) (hd : 9 ≤ d) (h : 0 ≤ A ∧ A < X 4) (h2 : 0 ≤ P ∧ P < 10 * X 5) (h3 : 0 ≤ N ∧ N ≤ 100) (h4 : X 6 < 10) : bE L xs d ML_stop (0, [(0, bR 1), (1, bI A), (2, bI P), (3, bI N), (4, bR 30)], [], WD X F M G O, a, b)
      (fun r => ∃ V : Int → Int, r = (WD (un X 6 (X 6 + 1)) (un (F1 F (X 6) A P N) 7 V) M G (up O 0 (X 6)), .inl (some (bI 0)), a, b) ∧ SB (un X 6 (X 6 + 1)) (un (F1 F (X 6) A P N) 7 V)) := by
  refine go [] [] rfl rfl (bcall rfl (by omega) (t_stop4 hI A P N (by omega) h h2 h3 h4) ?_)
  rintro r ⟨V, rfl, hV⟩
  exact ⟨_, _, _, _, rfl, (fun h => by cases h), go [] [] rfl (by omega) (rti rfl rfl ⟨V, rfl, hV⟩)⟩
theorem l_closed1 (A on : Int) (hd : 9 ≤ d) (h : ¬ (0 ≤ A ∧ A < X 4)) : bE L xs d ML_closed (0, [(0, bR 1), (1, bI A), (2, bI on), (3, bR 30)], [], WD X F M G O, a, b) (rI (WD X F M G O) 1 (a + 1) (b + 6)) :=
  go [] [] rfl rfl (bcC rfl (by omega) (by decide) rfl (t_closed1 A on (by omega) h) (go [] [] rfl rfl (rti rfl rfl rfl)))
theorem l_closed2 (hI : SB X F) (A on : Int) (hd : 9 ≤ d) (h : 0 ≤ A ∧ A < X 4) (ho : 0 ≤ on ∧ on ≤ 1) : bE L xs d ML_closed (0, [(0, bR 1), (1, bI A), (2, bI on), (3, bR 30)], [], WD X F M G O, a, b) (rI (WD X (un F 1 (up (F 1) A on)) M G (up O 0 (nO F A (X 6)))) 0 a b) :=
  go [] [] rfl rfl (bc rfl (by omega) (t_closed2 hI A on (by omega) h ho) (fun h => by cases h) (go [] [] rfl (by omega) (rti rfl rfl rfl)))
theorem l_walk1 (kind : Int) (hk : ¬ (0 ≤ kind ∧ kind ≤ 4)) (hd : 9 ≤ d) : bE L xs d ML_walk (0, [(0, bR 1), (1, bI kind), (2, bR 30)], [], WD X F M G O, a, b) (rI (WD X F M G O) 1 (a + 1) (b + 6)) :=
  go [] [] rfl rfl (bcC rfl (by omega) (by decide) rfl (t_walk1 kind hk (by omega)) (go [] [] rfl rfl (rti rfl rfl rfl)))
theorem l_walk2 (hI : SB X F) (kind : Int) (hk : kind = 4) (h4 : 8 < nW F (X 6)) (hd : 9 ≤ d) : bE L xs d ML_walk (0, [(0, bR 1), (1, bI kind), (2, bR 30)], [], WD X F M G O, a, b) (rI (WD X F M G O) 2 (a + 1) (b + 6)) :=
  go [] [] rfl rfl (bcC rfl (by omega) (by decide) rfl (t_walk2 hI kind hk h4 (by omega)) (go [] [] rfl rfl (rti rfl rfl rfl)))
theorem l_walk3 (hI : SB X F) (kind : Int) (hk : 0 ≤ kind ∧ kind ≤ 4) (h4 : kind = 4 → nW F (X 6) ≤ 8) (hd : 9 ≤ d) : bE L xs d ML_walk (0, [(0, bR 1), (1, bI kind), (2, bR 30)], [], WD X F M G O, a, b)
    (fun r => ∃ X' F', r = (WD X' F' M G (up O 0 (rl X' F')), .inl (some (bI 0)), a, b) ∧ WR kind X F X' F') := by
  refine go [] [] rfl rfl (bcall rfl (by omega) (t_walk3 hI kind hk h4 (by omega)) ?_)
  rintro r ⟨X', F', rfl, hV⟩
  exact ⟨_, _, _, _, rfl, (fun h => by cases h), go [] [] rfl (by omega) (rti rfl rfl ⟨X', F', rfl, hV⟩)⟩
theorem l_step1 (i : Int) (hd : 9 ≤ d) (h : ¬ (0 ≤ i ∧ i < X 3)) : bE L xs d ML_step (0, [(0, bR 1), (1, bI i), (2, bR 30)], [], WD X F M G O, a, b) (rI (WD X F M G O) 1 (a + 1) (b + 6)) :=
  go [] [] rfl rfl (bcC rfl (by omega) (by decide) rfl (t_step1 i (by omega) h) (go [] [] rfl rfl (rti rfl rfl rfl)))
theorem l_step2 (hr : SR X F) (i : Int) (hd : 9 ≤ d) (h : 0 ≤ i ∧ i < X 3) : bE L xs d ML_step (0, [(0, bR 1), (1, bI i), (2, bR 30)], [], WD X F M G O, a, b) (rI (WD X F M G (up O 0 (F 0 i))) 0 a b) :=
  go [] [] rfl rfl (bc rfl (by omega) (t_step2 hr i h) (fun h => by cases h) (go [] [] rfl (by omega) (rti rfl rfl rfl)))
theorem l_go1 (hd : 9 ≤ d) (h : X 3 = 0) : bE L xs d ML_go (0, [(0, bR 1), (1, bR 30)], [], WD X F M G O, a, b) (rI (WD X F M G O) 1 (a + 1) (b + 6)) :=
  go [] [] rfl rfl (bcC rfl (by omega) (by decide) rfl (t_go1 (by omega) h) (go [] [] rfl rfl (rti rfl rfl rfl)))
theorem l_go2 (hI : SB X F) (hr : SR X F) (hd : 9 ≤ d) (h : X 3 ≠ 0) (h2 : F 1 (F 2 (F 0 0)) ≠ 0) : bE L xs d ML_go (0, [(0, bR 1), (1, bR 30)], [], WD X F M G O, a, b) (rI (WD X F M G O) 1 (a + 1) (b + 6)) :=
  go [] [] rfl rfl (bcC rfl (by omega) (by decide) rfl (t_go2 hI hr (by omega) h h2) (go [] [] rfl rfl (rti rfl rfl rfl)))
theorem l_go3 (hI : SB X F) (hr : SR X F) (hd : 9 ≤ d) (hm : 0 ≤ X 1 ∧ X 1 ≤ 1000000) (h : X 3 ≠ 0) (h2 : F 1 (F 2 (F 0 0)) = 0) : bE L xs d ML_go (0, [(0, bR 1), (1, bR 30)], [], WD X F M G O, a, b)
      (fun r => ∃ row : Int → Int, r = (WD (un (un (un X 1 (X 1 + F 7 (X 0 * 11 + F 0 0))) 0 (F 0 0)) 3 (X 3 - 1)) (un (un F 6 (up (F 6) (F 0 0) 1)) 0 row) M G (up O 0 (F 0 0)), .inl (some (bI 0)), a, b) ∧ ∀ j, 0 ≤ j → j < X 3 - 1 → row j = dr (F 0) 0 j) := by
  refine go [] [] rfl rfl (bcall rfl (by omega) (t_go3 hI hr (by omega) hm h h2) ?_)
  rintro r ⟨V, rfl, hV⟩
  exact ⟨_, _, _, _, rfl, (fun h => by cases h), go [] [] rfl (by omega) (rti rfl rfl ⟨V, rfl, hV⟩)⟩
theorem l_missing1 (s : Int) (hd : 9 ≤ d) (h : ¬ (0 ≤ s ∧ s < X 6)) : bE L xs d ML_missing (0, [(0, bR 1), (1, bI s), (2, bR 30)], [], WD X F M G O, a, b) (rI (WD X F M G O) 1 (a + 1) (b + 6)) :=
  go [] [] rfl rfl (bcC rfl (by omega) (by decide) rfl (t_missing1 s (by omega) h) (go [] [] rfl rfl (rti rfl rfl rfl)))
theorem l_missing2 (hI : SB X F) (s : Int) (hd : 9 ≤ d) (h : 0 ≤ s ∧ s < X 6) (h2 : F 6 s ≠ 0) : bE L xs d ML_missing (0, [(0, bR 1), (1, bI s), (2, bR 30)], [], WD X F M G O, a, b) (rI (WD X F M G O) 2 (a + 1) (b + 6)) :=
  go [] [] rfl rfl (bcC rfl (by omega) (by decide) rfl (t_missing2 hI s (by omega) h h2) (go [] [] rfl rfl (rti rfl rfl rfl)))
theorem l_missing3 (hI : SB X F) (hr : SR X F) (s k : Int) (hd : 9 ≤ d) (h : 0 ≤ s ∧ s < X 6) (h2 : F 6 s = 0) (hk : 0 ≤ k ∧ k ≤ X 3) (hx : ∀ i, 0 ≤ i → i < X 3 → (F 0 i = s ↔ i = k)) : bE L xs d ML_missing (0, [(0, bR 1), (1, bI s), (2, bR 30)], [], WD X F M G O, a, b)
      (fun r => ∃ row : Int → Int, r = (WD (un X 3 (if k < X 3 then X 3 - 1 else X 3)) (un (un F 6 (up (F 6) s 2)) 0 row) M G (up O 0 (rl (un X 3 (if k < X 3 then X 3 - 1 else X 3)) (un (un F 6 (up (F 6) s 2)) 0 row))), .inl (some (bI 0)), a, b) ∧ ∀ j, 0 ≤ j → j < (if k < X 3 then X 3 - 1 else X 3) → row j = dr (F 0) k j) := by
  refine go [] [] rfl rfl (bcall rfl (by omega) (t_missing3 hI hr s k (by omega) h h2 hk hx) ?_)
  rintro r ⟨V, rfl, hV⟩
  exact ⟨_, _, _, _, rfl, (fun h => by cases h), go [] [] rfl (by omega) (rti rfl rfl ⟨V, rfl, hV⟩)⟩
theorem l_cart1 (c : Int) (hd : 9 ≤ d) (h : ¬ (1 ≤ c ∧ c ≤ 1000)) : bE L xs d ML_cart (0, [(0, bR 1), (1, bI c)], [], WD X F M G O, a, b) (rI (WD X F M G O) 1 (a + 1) (b + 6)) :=
  go [] [] rfl rfl (bcC rfl (by omega) (by decide) rfl (t_cart1 c (by omega) h) (go [] [] rfl rfl (rti rfl rfl rfl)))
theorem l_cart2 (c : Int) (hd : 9 ≤ d) (h : 1 ≤ c ∧ c ≤ 1000) : bE L xs d ML_cart (0, [(0, bR 1), (1, bI c)], [], WD X F M G O, a, b) (rI (WD (un X 2 c) F M G O) 0 a b) :=
  go [] [] rfl rfl (bc rfl (by omega) (t_cart2 c h) (fun h => by cases h) (go [] [] rfl rfl (rti rfl rfl rfl)))
theorem l_share1 (s : Int) (hd : 9 ≤ d) (h : ¬ (0 ≤ s ∧ s < X 6)) : bE L xs d ML_share (0, [(0, bR 1), (1, bI s), (2, bR 30)], [], WD X F M G O, a, b) (rI (WD X F M G O) 1 (a + 1) (b + 6)) :=
  go [] [] rfl rfl (bcC rfl (by omega) (by decide) rfl (t_share1 s (by omega) h) (go [] [] rfl rfl (rti rfl rfl rfl)))
theorem l_share2 (s : Int) (hd : 9 ≤ d) (h : 0 ≤ s ∧ s < X 6) (h2 : X 1 = 0) : bE L xs d ML_share (0, [(0, bR 1), (1, bI s), (2, bR 30)], [], WD X F M G O, a, b) (rI (WD X F M G O) 2 (a + 1) (b + 6)) :=
  go [] [] rfl rfl (bcC rfl (by omega) (by decide) rfl (t_share2 s (by omega) h h2) (go [] [] rfl rfl (rti rfl rfl rfl)))
theorem l_share3 (hI : SB X F) (s : Int) (hd : 9 ≤ d) (h : 0 ≤ s ∧ s < X 6) (h2 : 0 < X 1) : bE L xs d ML_share (0, [(0, bR 1), (1, bI s), (2, bR 30)], [], WD X F M G O, a, b) (rI (WD X F M G (up O 0 (100 * F 7 (X 0 * 11 + s) / X 1))) 0 a b) :=
  go [] [] rfl rfl (bc rfl (by omega) (t_share3 hI s (by omega) h h2) (fun h => by cases h) (go [] [] rfl (by omega) (rti rfl rfl rfl)))
theorem l_far1 (s o : Int) (hd : 9 ≤ d) (h : ¬ (0 ≤ s ∧ s < X 6)) : bE L xs d ML_far (0, [(0, bR 1), (1, bI s), (2, bI o), (3, bR 30)], [], WD X F M G O, a, b) (rI (WD X F M G O) 1 (a + 1) (b + 6)) :=
  go [] [] rfl rfl (bcC rfl (by omega) (by decide) rfl (t_far1 s o (by omega) h) (go [] [] rfl rfl (rti rfl rfl rfl)))
theorem l_far2 (s o : Int) (hd : 9 ≤ d) (h : 0 ≤ s ∧ s < X 6) (h2 : ¬ (0 ≤ o ∧ o < X 6)) : bE L xs d ML_far (0, [(0, bR 1), (1, bI s), (2, bI o), (3, bR 30)], [], WD X F M G O, a, b) (rI (WD X F M G O) 1 (a + 1) (b + 6)) :=
  go [] [] rfl rfl (bcC rfl (by omega) (by decide) rfl (t_far2 s o (by omega) h h2) (go [] [] rfl rfl (rti rfl rfl rfl)))
theorem l_far3 (hI : SB X F) (s o : Int) (hd : 9 ≤ d) (h : 0 ≤ s ∧ s < X 6) (h2 : 0 ≤ o ∧ o < X 6) : bE L xs d ML_far (0, [(0, bR 1), (1, bI s), (2, bI o), (3, bR 30)], [], WD X F M G O, a, b) (rI (WD X F M G (up O 0 (F 7 (s * 11 + o)))) 0 a b) :=
  go [] [] rfl rfl (bc rfl (by omega) (t_far3 hI s o (by omega) h h2) (fun h => by cases h) (go [] [] rfl (by omega) (rti rfl rfl rfl)))
theorem l_told1 (s q : Int) (hd : 9 ≤ d) (h : ¬ (0 ≤ s ∧ s < X 6)) : bE L xs d ML_told (0, [(0, bR 1), (1, bI s), (2, bI q), (3, bR 30)], [], WD X F M G O, a, b) (rI (WD X F M G O) 1 (a + 1) (b + 6)) :=
  go [] [] rfl rfl (bcC rfl (by omega) (by decide) rfl (t_told1 s q (by omega) h) (go [] [] rfl rfl (rti rfl rfl rfl)))
theorem l_told2 (s q : Int) (hd : 9 ≤ d) (h : 0 ≤ s ∧ s < X 6) (h2 : ¬ (0 ≤ q ∧ q ≤ 4)) : bE L xs d ML_told (0, [(0, bR 1), (1, bI s), (2, bI q), (3, bR 30)], [], WD X F M G O, a, b) (rI (WD X F M G O) 2 (a + 1) (b + 6)) :=
  go [] [] rfl rfl (bcC rfl (by omega) (by decide) rfl (t_told2 s q (by omega) h h2) (go [] [] rfl rfl (rti rfl rfl rfl)))
theorem l_told3 (hI : SB X F) (s q : Int) (hd : 9 ≤ d) (h : 0 ≤ s ∧ s < X 6) (h2 : 0 ≤ q ∧ q ≤ 4) : bE L xs d ML_told (0, [(0, bR 1), (1, bI s), (2, bI q), (3, bR 30)], [], WD X F M G O, a, b) (rI (WD X F M G (up O 0 (told F s q))) 0 a b) :=
  go [] [] rfl rfl (bc rfl (by omega) (t_told3 hI s q (by omega) h h2) (fun h => by cases h) (go [] [] rfl (by omega) (rti rfl rfl rfl)))
theorem l_cell1 (k : Int) {w : BW} (h : 0 ≤ k ∧ k < (L : Int)) : bE L xs d ML_cell (0, [(0, bR 0), (1, bI k)], [], w, a, b) (rI w (xs k.toNat).toInt a b) :=
  go [] [1] rfl (by omega) (rti rfl rfl rfl)
theorem l_cell2 (k : Int) {w : BW} (h : (L : Int) ≤ k) : bE L xs d ML_cell (0, [(0, bR 0), (1, bI k)], [], w, a, b) (rI w 0 a b) :=
  go [] [0] rfl (by omega) (rti rfl rfl rfl)
end W1
