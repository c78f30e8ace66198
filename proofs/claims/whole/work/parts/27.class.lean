/-! The class's calls, the rest but for walk -/
section T5
variable {L : Nat} {xs : Nat → Int32} {X M : Nat → Int} {F G : Nat → Int → Int} {O : Int → Int} {d a b : Nat} {Q : BR → Prop}
theorem t_missing1 (s : Int) (hd : 8 ≤ d) (h : ¬ (0 ≤ s ∧ s < X 6)) : bE L xs d MX5_missing (0, [(0, bR 1), (1, bI s)], [], WD X F M G O, a, b) (rT (WD X F M G O) 0 (a + 1) (b + 6)) :=
  go [] [] rfl (by omega) (bcX rfl (by omega) rfl (t_rS' s (by omega) h) rfl)
theorem t_missing2 (hI : SB X F) (s : Int) (hd : 8 ≤ d) (h : 0 ≤ s ∧ s < X 6) (h2 : F 6 s ≠ 0) : bE L xs d MX5_missing (0, [(0, bR 1), (1, bI s)], [], WD X F M G O, a, b) (rT (WD X F M G O) 3 (a + 1) (b + 6)) := by
  have hX := hI.1
  refine go [] [] rfl (by omega) (bc rfl (by omega) (t_rS s (by omega) h) (fun h => by cases h) ?_)
  exact go [] [1] rfl (by omega) (thr rfl rfl (by omega) rfl rfl)
theorem SB_state (hI : SB X F) {s v : Int} (hv : 0 ≤ v ∧ v ≤ 2) : SB X (un F 6 (up (F 6) s v)) := by
  refine ⟨hI.1, fun j h0 h1 => ?_, hI.2.2⟩
  obtain ⟨q1, q2, q3, q4, q5, q6, q7, q8, q9⟩ := hI.2.1 j h0 h1
  refine ⟨q1, q2, q3, q4, q5, q6, q7, ?_⟩
  show 0 ≤ up (F 6) s v j ∧ up (F 6) s v j ≤ 2
  unfold up
  split
  · exact hv
  · exact ⟨q8, q9⟩
theorem SB_row (hI : SB X F) {n : Int} {row : Int → Int} : SB (un X 3 n) (un F 0 row) := hI
/-- the route without its place k -/
theorem SR_drop {X : Nat → Int} {F : Nat → Int → Int} (hr : SR X F) {k : Int} (hk : 0 ≤ k ∧ k ≤ X 3) {n : Int} (hn : n = if k < X 3 then X 3 - 1 else X 3) {row : Int → Int} (hrow : ∀ j, 0 ≤ j → j < n → row j = dr (F 0) k j)
    {X' : Nat → Int} {F' : Nat → Int → Int} (e3 : X' 3 = n) (e6 : X' 6 = X 6) (f0 : F' 0 = row) (f5 : F' 5 = F 5) : SR X' F' := by
  obtain ⟨q1, q2, q3⟩ := hr
  have hn2 : n ≤ X 3 ∧ 0 ≤ n ∧ (k < n → n = X 3 - 1) ∧ (n = X 3 → k = X 3) := by
    rw [hn]; split <;> omega
  refine ⟨by rw [e3]; omega, ?_, ?_⟩
  · rw [e3, e6, f0, f5]
    intro i h0 h1
    rw [hrow i h0 h1]
    unfold dr
    split
    · exact q2 i h0 (by omega)
    · exact q2 (i + 1) (by omega) (by omega)
  · rw [e3, f0]
    intro i j h0 h1 h2
    rw [hrow i h0 (by omega), hrow j (by omega) h2]
    unfold dr
    split
    · split
      · exact q3 i j h0 h1 (by omega)
      · exact q3 i (j + 1) h0 (by omega) (by omega)
    · split
      · omega
      · exact q3 (i + 1) (j + 1) (by omega) (by omega) (by omega)
theorem t_missing3 (hI : SB X F) (hr : SR X F) (s k : Int) (hd : 8 ≤ d) (h : 0 ≤ s ∧ s < X 6) (h2 : F 6 s = 0) (hk : 0 ≤ k ∧ k ≤ X 3) (hx : ∀ i, 0 ≤ i → i < X 3 → (F 0 i = s ↔ i = k)) : bE L xs d MX5_missing (0, [(0, bR 1), (1, bI s)], [], WD X F M G O, a, b)
      (fun r => ∃ row : Int → Int, r = (WD (un X 3 (if k < X 3 then X 3 - 1 else X 3)) (un (un F 6 (up (F 6) s 2)) 0 row) M G O, .inl (some (bI (rl (un X 3 (if k < X 3 then X 3 - 1 else X 3)) (un (un F 6 (up (F 6) s 2)) 0 row)))), a, b) ∧ ∀ j, 0 ≤ j → j < (if k < X 3 then X 3 - 1 else X 3) → row j = dr (F 0) k j) := by
  have hX := hI.1
  refine go [] [] rfl (by omega) (bc rfl (by omega) (t_rS s (by omega) h) (fun h => by cases h) ?_)
  refine go [] [0] rfl (by omega) (bcall rfl (by omega) (t_drop (X := X) (F := un F 6 (up (F 6) s 2)) s k hr.1 hk hx) ?_)
  rintro r ⟨row, rfl, hrow⟩
  refine ⟨_, _, _, _, rfl, (fun h => by cases h), ?_⟩
  refine go [] [] rfl (by omega) (bc rfl (by omega) (t_routeLength (SB_row (SB_state hI (s := s) (v := 2) (by omega))) (SR_drop hr hk rfl hrow rfl rfl rfl rfl) (by omega)) (fun h => by cases h) ?_)
  exact rti rfl rfl ⟨row, rfl, hrow⟩
theorem t_left (hI : SB X F) (hr : SR X F) (hd : 3 ≤ d) : bE L xs d MX5_left (0, [(0, bR 1)], [], WD X F M G O, a, b) (rI (WD X F M G O) (rl X F) a b) :=
  go [] [] rfl (by omega) (bc rfl (by omega) (t_routeLength hI hr (by omega)) (fun h => by cases h) (rti rfl rfl rfl))
theorem t_bound (hI : SB X F) (hd : 2 ≤ d) : bE L xs d MX5_bound (0, [(0, bR 1)], [], WD X F M G O, a, b) (rI (WD X F M G O) (bndN X F (X 6)) a b) := by
  have hX := hI.1
  refine go [4] [] rfl (by omega) (for_up (P := fun s => bE L xs d MX5_bound (4, [(0, bR 1), (1, bI (bndN X F s)), (2, bI s)], [], WD X F M G O, a, b) (rI (WD X F M G O) (bndN X F (X 6)) a b)) (X 6) ?_ ?_ 0 (by omega) (by omega))
  · exact go [] [0] rfl (by omega) (rti rfl rfl rfl)
  · intro s h0 h1 ih
    have e : bndN X F (s + 1) = if wk F s = 1 then max (bndN X F s) (F 7 (X 0 * 11 + s) + F 7 (s * 11 + 10)) else bndN X F s := itr_s _ _ h0
    have w1 := SB_way hI (SB_here hI) (pnt_s h0 h1)
    have w2 := SB_way hI (pnt_s h0 h1) pnt_d
    refine go [] [1] rfl (by omega) (bc rfl hd (t_isWalked hI s h0 h1) (fun h => by cases h) ?_)
    rcases wk_01 F s with hw | hw
    · rw [e, if_neg (by omega)] at ih
      rw [hw]
      exact go [4] [0] rfl (by omega) ih
    · rw [e, if_pos hw] at ih
      rw [hw]
      refine go [] [1] rfl (by omega) (bc rfl hd (t_way _ _ (by omega)) (fun h => by cases h) ?_)
      refine go [] [] rfl (by omega) (bc rfl hd (t_way _ _ (by omega)) (fun h => by cases h) ?_)
      exact go [4] [] rfl (by omega) ih
theorem t_cart1 (c : Int) (hd : 7 ≤ d) (h : ¬ (1 ≤ c ∧ c ≤ 1000)) : bE L xs d MX5_cart (0, [(0, bR 1), (1, bI c)], [], WD X F M G O, a, b) (rT (WD X F M G O) 1 (a + 1) (b + 6)) := by
  by_cases h1 : c < 1
  · exact go [] [0] rfl (by omega) (thr rfl rfl hd rfl rfl)
  · exact go [] [1, 1] rfl (by omega) (thr rfl rfl hd rfl rfl)
theorem t_cart2 (c : Int) (h : 1 ≤ c ∧ c ≤ 1000) : bE L xs d MX5_cart (0, [(0, bR 1), (1, bI c)], [], WD X F M G O, a, b) (rV (WD (un X 2 c) F M G O) a b) :=
  go [] [1, 0] rfl (by omega) (rtv rfl rfl rfl)
theorem t_full (hI : SB X F) (hr : SR X F) (hd : 2 ≤ d) : bE L xs d MX5_full (0, [(0, bR 1)], [], WD X F M G O, a, b) (rI (WD X F M G O) (fu X F) a b) := by
  have hX := hI.1
  have hR := hr.1
  have key := for_up (P := fun i => ∀ t1 t2 : Int, bE L xs d MX5_full (12, [(0, bR 1), (1, bI (fuN X F i).1), (2, bI (fuN X F i).2.1), (3, bI (fuN X F i).2.2), (4, bI i), (5, bI t1), (6, bI t2)], [], WD X F M G O, a, b) (rI (WD X F M G O) (fu X F) a b)) (X 3) ?_ ?_
  · by_cases h3 : X 3 = 0
    · refine go [12] [] rfl (by omega) ?_
      have p1 := SB_way hI (SB_here hI) pnt_d
      refine go [] [0] rfl (by omega) (bc rfl hd (t_way _ 10 (by omega)) (fun h => by cases h) ?_)
      refine go [] [] rfl (by omega) (rti rfl rfl ?_)
      unfold fu
      rw [h3]
      rfl
    · have hq := hr.2.1 0 (by omega) (by omega)
      have hp := hI.2.1 (F 0 0) hq.1 hq.2.1
      have k1 := key 1 (by omega) (by omega) (F 0 0) (F 5 (F 0 0))
      have e : fuN X F 1 = (0 + F 7 (X 0 * 11 + F 0 0), 0 + F 5 (F 0 0), F 0 0) := by
        have : fuN X F (0 + 1) = _ := itr_s _ _ (by omega)
        rw [show (1 : Int) = 0 + 1 by omega, this]
        exact if_neg (fun h => absurd h.1 (by show ¬ (0 : Int) < 0; omega))
      rw [e] at k1
      have p1 := SB_way hI (SB_here hI) (pnt_s hq.1 hq.2.1)
      refine go [] [1, 0] rfl (by omega) (bc rfl hd (t_way _ _ (by omega)) (fun h => by cases h) ?_)
      exact go [12] [] rfl (by omega) k1
  · intro t1 t2
    obtain ⟨z1, z2, z3, z4, z5, z6⟩ := fuN_b hI hr (X 3) (by omega) (by omega)
    have p1 := SB_way hI z5 pnt_d
    have p4 := SB_pt hI z5
    refine go [] [0] rfl (by omega) (bc rfl hd (t_way _ 10 (by omega)) (fun h => by cases h) ?_)
    exact go [] [] rfl (by omega) (rti rfl rfl rfl)
  · intro i h0 h1 ih t1 t2
    obtain ⟨z1, z2, z3, z4, z5, z6⟩ := fuN_b hI hr i (by omega) (by omega)
    have hq := hr.2.1 i h0 h1
    have hp := hI.2.1 (F 0 i) hq.1 hq.2.1
    have w1 := SB_way hI z5 (pnt_s hq.1 hq.2.1)
    have w2 := SB_way hI z5 pnt_d
    have w3 := SB_way hI pnt_d (pnt_s hq.1 hq.2.1)
    have p4 := SB_pt hI z5
    have e : fuN X F (i + 1) = if 0 < (fuN X F i).2.1 ∧ X 2 < (fuN X F i).2.1 + F 5 (F 0 i) then ((fuN X F i).1 + F 7 ((fuN X F i).2.2 * 11 + 10) + F 7 (10 * 11 + F 0 i), 0 + F 5 (F 0 i), F 0 i) else ((fuN X F i).1 + F 7 ((fuN X F i).2.2 * 11 + F 0 i), (fuN X F i).2.1 + F 5 (F 0 i), F 0 i) := itr_s _ _ h0
    by_cases c1 : 0 < (fuN X F i).2.1
    · by_cases c2 : X 2 < (fuN X F i).2.1 + F 5 (F 0 i)
      · rw [e, if_pos ⟨c1, c2⟩] at ih
        refine go [] [1, 1, 1] rfl (by omega) (bc rfl hd (t_way _ _ (by omega)) (fun h => by cases h) ?_)
        refine go [] [] rfl (by omega) (bc rfl hd (t_way _ _ (by omega)) (fun h => by cases h) ?_)
        exact go [12] [] rfl (by omega) (ih _ _)
      · rw [e, if_neg (fun h => c2 h.2)] at ih
        refine go [] [1, 1, 0] rfl (by omega) (bc rfl hd (t_way _ _ (by omega)) (fun h => by cases h) ?_)
        exact go [12] [] rfl (by omega) (ih _ _)
    · rw [e, if_neg (fun h => c1 h.1)] at ih
      refine go [] [1, 0] rfl (by omega) (bc rfl hd (t_way _ _ (by omega)) (fun h => by cases h) ?_)
      exact go [12] [] rfl (by omega) (ih _ _)
theorem t_share1 (s : Int) (hd : 8 ≤ d) (h : ¬ (0 ≤ s ∧ s < X 6)) : bE L xs d MX5_share (0, [(0, bR 1), (1, bI s)], [], WD X F M G O, a, b) (rT (WD X F M G O) 0 (a + 1) (b + 6)) :=
  go [] [] rfl (by omega) (bcX rfl (by omega) rfl (t_rS' s (by omega) h) rfl)
theorem t_share2 (s : Int) (hd : 8 ≤ d) (h : 0 ≤ s ∧ s < X 6) (h2 : X 1 = 0) : bE L xs d MX5_share (0, [(0, bR 1), (1, bI s)], [], WD X F M G O, a, b) (rT (WD X F M G O) 5 (a + 1) (b + 6)) := by
  refine go [] [] rfl (by omega) (bc rfl (by omega) (t_rS s (by omega) h) (fun h => by cases h) ?_)
  exact go [] [1] rfl (by omega) (thr rfl rfl (by omega) rfl rfl)
theorem t_share3 (hI : SB X F) (s : Int) (hd : 8 ≤ d) (h : 0 ≤ s ∧ s < X 6) (h2 : 0 < X 1) : bE L xs d MX5_share (0, [(0, bR 1), (1, bI s)], [], WD X F M G O, a, b) (rI (WD X F M G O) (100 * F 7 (X 0 * 11 + s) / X 1) a b) := by
  have hX := hI.1
  have w1 := SB_way hI (SB_here hI) (pnt_s h.1 h.2)
  refine go [] [] rfl (by omega) (bc rfl (by omega) (t_rS s (by omega) h) (fun h => by cases h) ?_)
  refine go [] [0] rfl (by omega) (bc rfl (by omega) (t_way _ _ (by omega)) (fun h => by cases h) ?_)
  exact go [] [] rfl (by omega) (rti rfl rfl rfl)
theorem t_far1 (s o : Int) (hd : 8 ≤ d) (h : ¬ (0 ≤ s ∧ s < X 6)) : bE L xs d MX5_far (0, [(0, bR 1), (1, bI s), (2, bI o)], [], WD X F M G O, a, b) (rT (WD X F M G O) 0 (a + 1) (b + 6)) :=
  go [] [] rfl (by omega) (bcX rfl (by omega) rfl (t_rS' s (by omega) h) rfl)
theorem t_far2 (s o : Int) (hd : 8 ≤ d) (h : 0 ≤ s ∧ s < X 6) (h2 : ¬ (0 ≤ o ∧ o < X 6)) : bE L xs d MX5_far (0, [(0, bR 1), (1, bI s), (2, bI o)], [], WD X F M G O, a, b) (rT (WD X F M G O) 0 (a + 1) (b + 6)) := by
  refine go [] [] rfl (by omega) (bc rfl (by omega) (t_rS s (by omega) h) (fun h => by cases h) ?_)
  exact go [] [] rfl (by omega) (bcX rfl (by omega) rfl (t_rS' o (by omega) h2) rfl)
theorem t_far3 (hI : SB X F) (s o : Int) (hd : 8 ≤ d) (h : 0 ≤ s ∧ s < X 6) (h2 : 0 ≤ o ∧ o < X 6) : bE L xs d MX5_far (0, [(0, bR 1), (1, bI s), (2, bI o)], [], WD X F M G O, a, b) (rI (WD X F M G O) (F 7 (s * 11 + o)) a b) := by
  have hX := hI.1
  refine go [] [] rfl (by omega) (bc rfl (by omega) (t_rS s (by omega) h) (fun h => by cases h) ?_)
  refine go [] [] rfl (by omega) (bc rfl (by omega) (t_rS o (by omega) h2) (fun h => by cases h) ?_)
  exact go [] [] rfl (by omega) (bc rfl (by omega) (t_way _ _ (by omega)) (fun h => by cases h) (rti rfl rfl rfl))
theorem t_told1 (s q : Int) (hd : 8 ≤ d) (h : ¬ (0 ≤ s ∧ s < X 6)) : bE L xs d MX5_told (0, [(0, bR 1), (1, bI s), (2, bI q)], [], WD X F M G O, a, b) (rT (WD X F M G O) 0 (a + 1) (b + 6)) :=
  go [] [] rfl (by omega) (bcX rfl (by omega) rfl (t_rS' s (by omega) h) rfl)
theorem t_told2 (s q : Int) (hd : 8 ≤ d) (h : 0 ≤ s ∧ s < X 6) (h2 : ¬ (0 ≤ q ∧ q ≤ 4)) : bE L xs d MX5_told (0, [(0, bR 1), (1, bI s), (2, bI q)], [], WD X F M G O, a, b) (rT (WD X F M G O) 1 (a + 1) (b + 6)) := by
  refine go [] [] rfl (by omega) (bc rfl (by omega) (t_rS s (by omega) h) (fun h => by cases h) ?_)
  exact go [] [0] rfl (by omega) (thr rfl rfl (by omega) rfl rfl)
def told (F : Nat → Int → Int) (s q : Int) : Int := if q = 0 then F 2 s else if q = 1 then F 3 s else if q = 2 then F 5 s else if q = 3 then F 6 s else wk F s
theorem t_told3 (hI : SB X F) (s q : Int) (hd : 8 ≤ d) (h : 0 ≤ s ∧ s < X 6) (h2 : 0 ≤ q ∧ q ≤ 4) : bE L xs d MX5_told (0, [(0, bR 1), (1, bI s), (2, bI q)], [], WD X F M G O, a, b) (rI (WD X F M G O) (told F s q) a b) := by
  have hX := hI.1
  refine go [] [] rfl (by omega) (bc rfl (by omega) (t_rS s (by omega) h) (fun h => by cases h) ?_)
  have hq : q = 0 ∨ q = 1 ∨ q = 2 ∨ q = 3 ∨ q = 4 := by omega
  rcases hq with rfl | rfl | rfl | rfl | rfl
  · exact go [] [1] rfl (by omega) (rti rfl rfl rfl)
  · exact go [] [2] rfl (by omega) (rti rfl rfl rfl)
  · exact go [] [3] rfl (by omega) (rti rfl rfl rfl)
  · exact go [] [4] rfl (by omega) (rti rfl rfl rfl)
  · refine go [] [5] rfl (by omega) (bc rfl (by omega) (t_isWalked hI s h.1 h.2) (fun h => by cases h) ?_)
    have e : told F s 4 = wk F s := rfl
    rw [e]
    rcases wk_01 F s with hw | hw
    · rw [hw]; exact go [] [0] rfl (by omega) (rti rfl rfl rfl)
    · rw [hw]; exact go [] [1] rfl (by omega) (rti rfl rfl rfl)
def countOf (X : Nat → Int) (F : Nat → Int → Int) (q : Int) : Int :=
  if q = 0 then X 6 else if q = 1 then nW F (X 6) else if q = 2 then X 3 else if q = 3 then X 4 else if q = 4 then X 5 else if q = 5 then X 1 else if q = 6 then nD F (X 6) else if q = 7 then (if X 0 = 10 then -1 else X 0) else -1
theorem t_count (hI : SB X F) (q : Int) (hd : 8 ≤ d) : bE L xs d MX5_count (0, [(0, bR 1), (1, bI q)], [], WD X F M G O, a, b) (rI (WD X F M G O) (countOf X F q) a b) := by
  by_cases h : 0 ≤ q ∧ q ≤ 7
  · have hq : q = 0 ∨ q = 1 ∨ q = 2 ∨ q = 3 ∨ q = 4 ∨ q = 5 ∨ q = 6 ∨ q = 7 := by omega
    rcases hq with rfl | rfl | rfl | rfl | rfl | rfl | rfl | rfl
    · exact go [] [1] rfl (by omega) (rti rfl rfl rfl)
    · exact go [] [2] rfl (by omega) (bc rfl (by omega) (t_walkedOnes hI (by omega)) (fun h => by cases h) (rti rfl rfl rfl))
    · exact go [] [3] rfl (by omega) (rti rfl rfl rfl)
    · exact go [] [4] rfl (by omega) (rti rfl rfl rfl)
    · exact go [] [5] rfl (by omega) (rti rfl rfl rfl)
    · exact go [] [6] rfl (by omega) (rti rfl rfl rfl)
    · exact go [] [7] rfl (by omega) (bc rfl (by omega) (t_doneOnes hI) (fun h => by cases h) (rti rfl rfl rfl))
    · have e : countOf X F 7 = if X 0 = 10 then -1 else X 0 := rfl
      rw [e]
      by_cases h0 : X 0 = 10
      · rw [if_pos h0]; exact go [] [8, 1] rfl (by omega) (rti rfl rfl rfl)
      · rw [if_neg h0]; exact go [] [8, 0] rfl (by omega) (rti rfl rfl rfl)
  · have e : countOf X F q = -1 := by
      unfold countOf
      simp only [show ¬ q = 0 by omega, show ¬ q = 1 by omega, show ¬ q = 2 by omega, show ¬ q = 3 by omega, show ¬ q = 4 by omega, show ¬ q = 5 by omega, show ¬ q = 6 by omega, show ¬ q = 7 by omega, if_false]
    rw [e]
    exact go [] [0] rfl (by omega) (rti rfl rfl rfl)
end T5
