/-! The reference's calls, the rest but for walk -/
section N3
variable {L : Nat} {xs : Nat → Int32} {X M : Nat → Int} {F G : Nat → Int → Int} {Y : Nat → Int} {E : Nat → Int → Int} {O : Int → Int} {d a b : Nat} {Q : BR → Prop}
theorem m_missing1 (hI : SB X F) (hm : RB X F M G) (s : Int) (hd : 3 ≤ d) (h : ¬ (0 ≤ s ∧ s < X 6)) : bE L xs d MX6_missing (0, [(0, bR 19), (1, bI s)], [], WD Y E M G O, a, b) (rI (WD Y E (un M 0 1) G O) 0 a b) := by
  refine go [] [] rfl (by omega) (bc rfl (by omega) (m_isStop hI hm (by omega) s) (fun h => by cases h) ?_)
  rw [if_neg h]
  refine go [] [1, 0, 1] rfl ?_ (rti rfl rfl rfl)
  show (0 : Int) = 0 ∧ (¬ (1 : Int) = 0) ∧ (0 : Int) < 1 ∧ (0 : Int) = 0
  omega
theorem m_missing2 (hI : SB X F) (hm : RB X F M G) (s : Int) (hd : 3 ≤ d) (h : 0 ≤ s ∧ s < X 6) (h2 : F 6 s ≠ 0) : bE L xs d MX6_missing (0, [(0, bR 19), (1, bI s)], [], WD Y E M G O, a, b) (rI (WD Y E (un (un M 0 0) 0 2) G O) 0 a b) := by
  have hX := hI.1
  obtain ⟨g1, g2, g3, g4⟩ := hm.2.2.1 s h.1 h.2
  refine go [] [] rfl (by omega) (bc rfl (by omega) (m_isStop hI hm (by omega) s) (fun h => by cases h) ?_)
  rw [if_pos h]
  refine go [] [0, 1, 1, 1] rfl ?_ (rti rfl rfl rfl)
  show (¬ (1 : Int) = 0) ∧ (0 : Int) = 0 ∧ (0 ≤ s ∧ s < ((10 : Nat) : Int)) ∧ (¬ G 4 s = 0) ∧ (0 : Int) < 2 ∧ (0 : Int) = 0
  omega
/-- the reference's cells behind 'missing' or 'go' -/
theorem RB_state (hI : SB X F) (hm : RB X F M G) {s v : Int} (h : 0 ≤ s ∧ s < X 6) : RB X (un F 6 (up (F 6) s v)) M (un G 4 (up (G 4) s v)) := by
  obtain ⟨m1, m2, m3, m4⟩ := hm
  refine ⟨m1, m2, ?_, ?_⟩
  · intro j h0 h1
    obtain ⟨g1, g2, g3, g4⟩ := m3 j h0 h1
    refine ⟨g1, g2, g3, ?_⟩
    show up (G 4) s v j = up (F 6) s v j
    unfold up
    rw [g4]
  · intro j h0 h1
    show up (G 4) s v j = 0
    rw [up_ne _ (by omega)]
    exact m4 j h0 h1
theorem RB_row (hm : RB X F M G) {n n' : Int} {r r' : Int → Int} : RB (un X 3 n) (un F 0 r) (un M 7 n') (un G 5 r') := hm
theorem RR_drop (hmr : RR X F M G) {k n : Int} (hk : 0 ≤ k ∧ k < X 3) (hn : n = X 3 - 1) {r r' : Int → Int} (hr : ∀ j, 0 ≤ j → j < n → r j = dr (F 0) k j) (hr' : ∀ j, 0 ≤ j → j < n → r' j = dr (G 5) k j)
    {X' M' : Nat → Int} {F' G' : Nat → Int → Int} (e3 : X' 3 = n) (e7 : M' 7 = n) (f0 : F' 0 = r) (g5 : G' 5 = r') : RR X' F' M' G' := by
  refine ⟨by rw [e3, e7], ?_⟩
  rw [e3, f0, g5]
  intro i h0 h1
  rw [hr i h0 h1, hr' i h0 h1]
  unfold dr
  split
  · exact hmr.2 i h0 (by omega)
  · exact hmr.2 (i + 1) (by omega) (by omega)
theorem m_missing3 (hI : SB X F) (hr : SR X F) (hm : RB X F M G) (hmr : RR X F M G) (s k : Int) (hd : 4 ≤ d) (h : 0 ≤ s ∧ s < X 6) (h2 : F 6 s = 0) (hk : 0 ≤ k ∧ k ≤ X 3) (hx : ∀ i, 0 ≤ i → i < X 3 → (F 0 i = s ↔ i = k))
    {rw : Int → Int} (hrow : ∀ j, 0 ≤ j → j < (if k < X 3 then X 3 - 1 else X 3) → rw j = dr (F 0) k j) : bE L xs d MX6_missing (0, [(0, bR 19), (1, bI s)], [], WD Y E M G O, a, b)
      (fun r => ∃ M' G', r = (WD Y E M' G' O, .inl (some (bI (rl (un X 3 (if k < X 3 then X 3 - 1 else X 3)) (un (un F 6 (up (F 6) s 2)) 0 rw)))), a, b) ∧ M' 0 = 0 ∧
        RB (un X 3 (if k < X 3 then X 3 - 1 else X 3)) (un (un F 6 (up (F 6) s 2)) 0 rw) M' G' ∧ RR (un X 3 (if k < X 3 then X 3 - 1 else X 3)) (un (un F 6 (up (F 6) s 2)) 0 rw) M' G') := by
  have hX := hI.1
  have h3 := hr.1
  have h7 := hmr.1
  obtain ⟨g1, g2, g3, g4⟩ := hm.2.2.1 s h.1 h.2
  have hI2 : SB (un X 3 (if k < X 3 then X 3 - 1 else X 3)) (un (un F 6 (up (F 6) s 2)) 0 rw) := SB_row (SB_state hI (s := s) (v := 2) (by omega))
  have hr2 : SR (un X 3 (if k < X 3 then X 3 - 1 else X 3)) (un (un F 6 (up (F 6) s 2)) 0 rw) := SR_drop hr hk rfl hrow rfl rfl rfl rfl
  -- behind the removal, or where there is none
  have fin : ∀ (M' : Nat → Int) (G' : Nat → Int → Int), M' 0 = 0 → RB (un X 3 (if k < X 3 then X 3 - 1 else X 3)) (un (un F 6 (up (F 6) s 2)) 0 rw) M' G' → RR (un X 3 (if k < X 3 then X 3 - 1 else X 3)) (un (un F 6 (up (F 6) s 2)) 0 rw) M' G' →
      ∀ i, -1 ≤ i → (i < 10 ∧ ∀ j, 0 ≤ j → j ≤ i → G' 5 j ≠ s) → bE L xs d MX6_missing (65, [(0, bR 19), (1, bI s), (2, bI i)], [], WD Y E M' G' O, a, b) (fun r => ∃ M' G', r = (WD Y E M' G' O, .inl (some (bI (rl (un X 3 (if k < X 3 then X 3 - 1 else X 3)) (un (un F 6 (up (F 6) s 2)) 0 rw)))), a, b) ∧ M' 0 = 0 ∧
        RB (un X 3 (if k < X 3 then X 3 - 1 else X 3)) (un (un F 6 (up (F 6) s 2)) 0 rw) M' G' ∧ RR (un X 3 (if k < X 3 then X 3 - 1 else X 3)) (un (un F 6 (up (F 6) s 2)) 0 rw) M' G') := by
    intro M' G' q1 q2 q3
    refine for_down ?_ ?_
    · intro _
      refine go [] [0] rfl (by omega) (bc rfl (by omega) (m_length hI2 hr2 q2 q3 (by omega)) (fun h => by cases h) ?_)
      exact rti rfl rfl ⟨M', G', rfl, q1, q2, q3⟩
    · intro i h0 ih hne
      have := hne.2 i h0 (Int.le_refl _)
      exact go [65] [1, 0] rfl (by omega) (ih ⟨by omega, fun j j0 j1 => hne.2 j j0 (by omega)⟩)
  refine go [] [] rfl (by omega) (bc rfl (by omega) (m_isStop hI hm (by omega) s) (fun h => by cases h) ?_)
  rw [if_pos h]
  refine go [51] [0, 1, 0, 0] rfl ?_ ?_
  · show (¬ (1 : Int) = 0) ∧ (0 : Int) = 0 ∧ (0 ≤ s ∧ s < ((10 : Nat) : Int)) ∧ (G 4 s = 0) ∧ (0 : Int) ≤ 0
    omega
  refine go [65] [] rfl ?_ ?_
  · show (0 ≤ s ∧ s < ((10 : Nat) : Int)) ∧ (-2147483648 ≤ M 7 - 1 ∧ M 7 - 1 ≤ 2147483647) ∧ (0 : Int) = 0
    omega
  show bE L xs d MX6_missing (65, [(0, bR 19), (1, bI s), (2, bI (M 7 - 1))], [], WD Y E (un (un M 0 0) 0 0) (un G 4 (up (G 4) s 2)) O, a, b) _
  have hm2 : RB X (un F 6 (up (F 6) s 2)) (un (un M 0 0) 0 0) (un G 4 (up (G 4) s 2)) := RB_state hI (RB_code (RB_code hm (c := 0)) (c := 0)) h
  by_cases hkn : k < X 3
  · -- it is in the walk
    refine for_down (P := fun i => i < X 3 → k ≤ i → bE L xs d MX6_missing (65, [(0, bR 19), (1, bI s), (2, bI i)], [], WD Y E (un (un M 0 0) 0 0) (un G 4 (up (G 4) s 2)) O, a, b) _) (fun _ h => by omega) ?_ (M 7 - 1) (by omega) (by omega) (by omega)
    intro i h0 ih i1 i2
    have g5 := hmr.2 i h0 i1
    have hxi := hx i h0 i1
    by_cases hik : i = k
    · have hs : F 0 i = s := hxi.mpr hik
      refine go [] [1, 1] rfl ?_ (bcall rfl (by omega) (m_remove (M := un (un M 0 0) 0 0) (G := un G 4 (up (G 4) s 2)) i (show M 7 ≤ 10 by omega) (show 0 ≤ i ∧ i < M 7 by omega)) ?_)
      · show 0 ≤ i ∧ (0 ≤ i ∧ i < ((10 : Nat) : Int)) ∧ G 5 i = s ∧ (0 : Int) = 0
        omega
      · rintro r ⟨row, rfl, hrw⟩
        refine ⟨_, _, _, _, rfl, (fun h => by cases h), ?_⟩
        have hrw : ∀ j, 0 ≤ j → j < M 7 - 1 → row j = dr (G 5) i j := hrw
        have hrr : RR (un X 3 (if k < X 3 then X 3 - 1 else X 3)) (un (un F 6 (up (F 6) s 2)) 0 rw) (un (un (un M 0 0) 0 0) 7 (M 7 - 1)) (un (un G 4 (up (G 4) s 2)) 5 row) := by
          refine RR_drop hmr (k := k) (n := X 3 - 1) ⟨hk.1, hkn⟩ rfl (r := rw) (r' := row) (fun j j0 j1 => hrow j j0 (by rw [if_pos hkn]; exact j1)) (fun j j0 j1 => by rw [← hik]; exact hrw j j0 (by omega)) (show (if k < X 3 then X 3 - 1 else X 3) = X 3 - 1 from if_pos hkn) (show M 7 - 1 = X 3 - 1 by omega) rfl rfl
        refine go [65] [] rfl (by omega) (fin (un (un (un M 0 0) 0 0) 7 (M 7 - 1)) (un (un G 4 (up (G 4) s 2)) 5 row) rfl (RB_row hm2) hrr (i - 1) (by omega) ⟨by omega, ?_⟩)
        intro j j0 j1
        show row j ≠ s
        rw [hrw j j0 (by omega)]
        unfold dr
        rw [if_pos (by omega), hmr.2 j j0 (by omega)]
        intro e
        have := (hx j j0 (by omega)).mp e
        omega
    · have hs : F 0 i ≠ s := fun e => hik (hxi.mp e)
      refine go [65] [1, 0] rfl ?_ (ih (by omega) (by omega))
      show 0 ≤ i ∧ (0 ≤ i ∧ i < ((10 : Nat) : Int)) ∧ (¬ G 5 i = s) ∧ (-2147483648 ≤ i + -1 ∧ i + -1 ≤ 2147483647) ∧ (0 : Int) = 0
      omega
  · have hrr : RR (un X 3 (if k < X 3 then X 3 - 1 else X 3)) (un (un F 6 (up (F 6) s 2)) 0 rw) (un (un M 0 0) 0 0) (un G 4 (up (G 4) s 2)) := by
      rw [if_neg hkn] at hrow ⊢
      refine ⟨h7, fun i h0 h1 => ?_⟩
      have h1 : i < X 3 := h1
      show G 5 i = rw i
      rw [hrow i h0 h1]
      unfold dr
      rw [if_pos (by omega)]
      exact hmr.2 i h0 h1
    refine fin (un (un M 0 0) 0 0) (un G 4 (up (G 4) s 2)) rfl hm2 hrr (M 7 - 1) (by omega) ⟨by omega, ?_⟩
    intro j j0 j1
    show G 5 j ≠ s
    rw [hmr.2 j j0 (by omega)]
    intro e
    have := (hx j j0 (by omega)).mp e
    omega
theorem m_left (hI : SB X F) (hr : SR X F) (hm : RB X F M G) (hmr : RR X F M G) (hd : 4 ≤ d) : bE L xs d MX6_left (0, [(0, bR 19)], [], WD Y E M G O, a, b) (rI (WD Y E (un M 0 0) G O) (rl X F) a b) := by
  refine go [] [] rfl (by omega) (bc rfl (by omega) (m_length (M := un M 0 0) hI hr hm hmr (by omega)) (fun h => by cases h) (rti rfl rfl rfl))
theorem m_bound (hI : SB X F) (hm0 : RB X F M G) (hd : 3 ≤ d) : bE L xs d MX6_bound (0, [(0, bR 19)], [], WD Y E M G O, a, b) (rI (WD Y E (un M 0 0) G O) (bndN X F (X 6)) a b) := by
  have hX := hI.1
  have h6 := hm0.1
  refine go [9] [] rfl (by omega) ?_
  show bE L xs d MX6_bound (9, [(0, bR 19), (1, bI 0), (2, bI 0)], [], WD Y E (un M 0 0) G O, a, b) _
  have hm : RB X F (un M 0 0) G := hm0
  clear hm0
  have h60 : (un M 0 0) 6 = X 6 := h6.2.2.2.2.2
  have h50 : (un M 0 0) 5 = mp (X 0) := h6.2.2.2.2.1
  revert h60 h50 hm
  generalize un M 0 0 = M
  intro hm h60 h50
  refine for_up (P := fun s => bE L xs d MX6_bound (9, [(0, bR 19), (1, bI (bndN X F s)), (2, bI s)], [], WD Y E M G O, a, b) (rI (WD Y E M G O) (bndN X F (X 6)) a b)) (X 6) ?_ ?_ 0 (by omega) (by omega)
  · exact go [] [0] rfl (by omega) (rti rfl rfl rfl)
  · intro s h0 h1 ih
    have e : bndN X F (s + 1) = if wk F s = 1 then max (bndN X F s) (F 7 (X 0 * 11 + s) + F 7 (s * 11 + 10)) else bndN X F s := itr_s _ _ h0
    have w1 := SB_way hI (SB_here hI) (pnt_s h0 h1)
    have w2 := SB_way hI (pnt_s h0 h1) pnt_d
    have v1 := fun (d : Nat) (hd : 2 ≤ d) => m_way (L := L) (xs := xs) (Y := Y) (E := E) (O := O) (d := d) (a := a) (b := b) hI hm (X 0) s (SB_here hI) (pnt_s h0 h1) hd
    have v2 := fun (d : Nat) (hd : 2 ≤ d) => m_way (L := L) (xs := xs) (Y := Y) (E := E) (O := O) (d := d) (a := a) (b := b) hI hm s 10 (pnt_s h0 h1) pnt_d hd
    rw [mp_s (s := s) (by omega), ← h50] at v1
    rw [mp_s (s := s) (by omega), mp_d] at v2
    refine go [] [1] rfl (by omega) (bc rfl (by omega) (m_isWalked hI hm s h0 h1) (fun h => by cases h) ?_)
    rcases wk_01 F s with hw | hw
    · rw [e, if_neg (by omega)] at ih
      rw [hw]
      exact go [9] [0] rfl (by omega) ih
    · rw [e, if_pos hw] at ih
      rw [hw]
      refine go [] [1] rfl (by omega) (bc rfl (by omega) (v1 _ (by omega)) (fun h => by cases h) ?_)
      refine go [] [] rfl (by omega) (bc rfl (by omega) (v2 _ (by omega)) (fun h => by cases h) ?_)
      by_cases hlt : bndN X F s < F 7 (X 0 * 11 + s) + F 7 (s * 11 + 10)
      · have e2 : max (bndN X F s) (F 7 (X 0 * 11 + s) + F 7 (s * 11 + 10)) = F 7 (X 0 * 11 + s) + F 7 (s * 11 + 10) := by omega
        rw [e2] at ih
        refine go [] [1] rfl (by omega) (bc rfl (by omega) (v1 _ (by omega)) (fun h => by cases h) ?_)
        refine go [] [] rfl (by omega) (bc rfl (by omega) (v2 _ (by omega)) (fun h => by cases h) ?_)
        exact go [9] [] rfl (by omega) ih
      · have e2 : max (bndN X F s) (F 7 (X 0 * 11 + s) + F 7 (s * 11 + 10)) = bndN X F s := by omega
        rw [e2] at ih
        exact go [9] [0] rfl (by omega) ih
theorem m_cart1 (c : Int) (hd : 3 ≤ d) (h : ¬ (1 ≤ c ∧ c ≤ 1000)) : bE L xs d MX6_cart (0, [(0, bR 19), (1, bI c)], [], WD Y E M G O, a, b) (rV (WD Y E (un M 0 1) G O) a b) := by
  refine go [] [] rfl (by omega) (bc rfl (by omega) (m_in _ _ _) (fun h => by cases h) ?_)
  rw [if_neg h]
  refine go [] [0, 0] rfl ?_ (rtv rfl rfl rfl)
  show (0 : Int) = 0 ∧ (¬ (1 : Int) = 0)
  omega
theorem m_cart2 (c : Int) (hd : 3 ≤ d) (h : 1 ≤ c ∧ c ≤ 1000) : bE L xs d MX6_cart (0, [(0, bR 19), (1, bI c)], [], WD Y E M G O, a, b) (rV (WD Y E (un (un M 0 0) 3 c) G O) a b) := by
  refine go [] [] rfl (by omega) (bc rfl (by omega) (m_in _ _ _) (fun h => by cases h) ?_)
  rw [if_pos h]
  refine go [] [1, 1] rfl ?_ (rtv rfl rfl rfl)
  show (¬ (1 : Int) = 0) ∧ (0 : Int) = 0 ∧ (0 : Int) = 0
  omega
theorem m_full (hI : SB X F) (hr : SR X F) (hm0 : RB X F M G) (hmr0 : RR X F M G) (hd : 3 ≤ d) : bE L xs d MX6_full (0, [(0, bR 19)], [], WD Y E M G O, a, b) (rI (WD Y E (un M 0 0) G O) (fu X F) a b) := by
  have hX := hI.1
  have hR := hr.1
  refine go [20] [] rfl (by omega) ?_
  show bE L xs d MX6_full (20, [(0, bR 19), (1, bI 0), (2, bI (un M 0 0 5)), (3, bI 0), (4, bI 1), (5, bI 0)], [], WD Y E (un M 0 0) G O, a, b) _
  have hm : RB X F (un M 0 0) G := hm0
  have hmr : RR X F (un M 0 0) G := hmr0
  clear hm0 hmr0
  revert hm hmr
  generalize un M 0 0 = M
  intro hm hmr
  have h6 := hm.1
  have h7 := hmr.1
  have key := for_up (P := fun i => bE L xs d MX6_full (20, [(0, bR 19), (1, bI (fuN X F i).1), (2, bI (mp (fuN X F i).2.2)), (3, bI (fuN X F i).2.1), (4, bI (if i = 0 then 1 else 0)), (5, bI i)], [], WD Y E M G O, a, b) (rI (WD Y E M G O) (fu X F) a b)) (X 3) ?_ ?_ 0 (by omega) (by omega)
  · have e0 : fuN X F 0 = (0, 0, X 0) := rfl
    rw [e0, if_pos rfl, ← h6.2.2.2.2.1] at key
    exact key
  · obtain ⟨z1, z2, z3, z4, z5, z6⟩ := fuN_b hI hr (X 3) (by omega) (by omega)
    have p1 := SB_way hI z5 pnt_d
    have w := m_way (L := L) (xs := xs) (Y := Y) (E := E) (O := O) (d := d - 1) (a := a) (b := b) hI hm _ 10 z5 pnt_d (by omega)
    rw [mp_d] at w
    refine go [] [0] rfl (by omega) (bc rfl (by omega) w (fun h => by cases h) ?_)
    exact go [] [] rfl (by omega) (rti rfl rfl rfl)
  · intro i h0 h1 ih
    obtain ⟨z1, z2, z3, z4, z5, z6⟩ := fuN_b hI hr i (by omega) (by omega)
    have hq := hr.2.1 i h0 h1
    have hp := hI.2.1 (F 0 i) hq.1 hq.2.1
    have w1 := SB_way hI z5 (pnt_s hq.1 hq.2.1)
    have w2 := SB_way hI z5 pnt_d
    have w3 := SB_way hI pnt_d (pnt_s hq.1 hq.2.1)
    have g5 := hmr.2 i h0 h1
    obtain ⟨g1, g2, g3, g4⟩ := hm.2.2.1 (F 0 i) hq.1 hq.2.1
    have v1 := m_way (L := L) (xs := xs) (Y := Y) (E := E) (O := O) (d := d - 1) (a := a) (b := b) hI hm _ (F 0 i) z5 (pnt_s hq.1 hq.2.1) (by omega)
    have v2 := m_way (L := L) (xs := xs) (Y := Y) (E := E) (O := O) (d := d - 1) (a := a) (b := b) hI hm _ 10 z5 pnt_d (by omega)
    have v3 := m_way (L := L) (xs := xs) (Y := Y) (E := E) (O := O) (d := d - 1) (a := a) (b := b) hI hm 10 (F 0 i) pnt_d (pnt_s hq.1 hq.2.1) (by omega)
    rw [mp_s (s := F 0 i) (by omega)] at v1 v3
    rw [mp_d] at v2 v3
    have e : fuN X F (i + 1) = if 0 < (fuN X F i).2.1 ∧ X 2 < (fuN X F i).2.1 + F 5 (F 0 i) then ((fuN X F i).1 + F 7 ((fuN X F i).2.2 * 11 + 10) + F 7 (10 * 11 + F 0 i), 0 + F 5 (F 0 i), F 0 i) else ((fuN X F i).1 + F 7 ((fuN X F i).2.2 * 11 + F 0 i), (fuN X F i).2.1 + F 5 (F 0 i), F 0 i) := itr_s _ _ h0
    rw [e] at ih
    rw [← g5] at hq hp w1 w3 g3 v1 v3 ih
    rw [← g3] at hp hq ih
    have hd2 : 2 ≤ d := by omega
    by_cases c1 : i = 0
    · have hf : (fuN X F i).2.1 = 0 := by rw [c1]; rfl
      rw [if_neg (by omega), mp_s (by show G 5 i < 10; omega), if_neg (by omega)] at ih
      rw [if_pos c1]
      refine go [] [1, 0] rfl (by omega) (bc rfl hd2 v1 (fun h => by cases h) ?_)
      exact go [20] [] rfl (by omega) ih
    · have hf := z6 (by omega)
      rw [if_neg (show ¬ i + 1 = 0 by omega)] at ih
      rw [if_neg c1]
      by_cases c2 : X 2 < (fuN X F i).2.1 + G 3 (G 5 i)
      · rw [if_pos ⟨hf, c2⟩, mp_s (by show G 5 i < 10; omega)] at ih
        refine go [] [1, 1, 1] rfl (by omega) (bc rfl hd2 v2 (fun h => by cases h) ?_)
        refine go [] [] rfl (by omega) (bc rfl hd2 v3 (fun h => by cases h) ?_)
        exact go [20] [] rfl (by omega) ih
      · rw [if_neg (fun h => c2 h.2), mp_s (by show G 5 i < 10; omega)] at ih
        refine go [] [1, 1, 0] rfl (by omega) (bc rfl hd2 v1 (fun h => by cases h) ?_)
        exact go [20] [] rfl (by omega) ih
end N3
