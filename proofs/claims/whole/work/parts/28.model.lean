/-! The reference's small methods, over the class's picture -/
/-- a point's number in the reference -/
def mp (p : Int) : Int := if p = 10 then -1 else p
/-- the reference's cells hold what the class's hold, but for the route -/
def RB (X : Nat → Int) (F : Nat → Int → Int) (M : Nat → Int) (G : Nat → Int → Int) : Prop :=
  (M 1 = X 4 ∧ M 2 = X 5 ∧ M 3 = X 2 ∧ M 4 = X 1 ∧ M 5 = mp (X 0) ∧ M 6 = X 6) ∧ (∀ j, 0 ≤ j → j < 8 → G 0 j = F 1 j) ∧
  (∀ j, 0 ≤ j → j < X 6 → G 1 j = F 2 j ∧ G 2 j = F 3 j ∧ G 3 j = F 5 j ∧ G 4 j = F 6 j) ∧ (∀ j, X 6 ≤ j → j < 10 → G 4 j = 0)
def RR (X : Nat → Int) (F : Nat → Int → Int) (M : Nat → Int) (G : Nat → Int → Int) : Prop := M 7 = X 3 ∧ ∀ i, 0 ≤ i → i < X 3 → G 5 i = F 0 i
section N1
variable {L : Nat} {xs : Nat → Int32} {X M : Nat → Int} {F G : Nat → Int → Int} {Y : Nat → Int} {E : Nat → Int → Int} {O : Int → Int} {d a b : Nat} {Q : BR → Prop}
theorem m_in (v l h : Int) : bE L xs d MX6_in (0, [(0, bI v), (1, bI l), (2, bI h)], [], WD Y E M G O, a, b) (rI (WD Y E M G O) (if l ≤ v ∧ v ≤ h then 1 else 0) a b) := by
  by_cases h1 : v < l
  · rw [if_neg (by omega)]
    exact go [] [0] rfl (by omega) (rtb rfl rfl (Or.inl rfl) rfl)
  · by_cases h2 : h < v
    · rw [if_neg (by omega)]
      exact go [] [1, 0] rfl (by omega) (rtb rfl rfl (Or.inl rfl) rfl)
    · rw [if_pos (by omega)]
      exact go [] [1, 1] rfl (by omega) (rtb rfl rfl (Or.inr rfl) rfl)
theorem m_isStop (hI : SB X F) (hm : RB X F M G) (hd : 2 ≤ d) (s : Int) : bE L xs d MX6_isStop (0, [(0, bR 19), (1, bI s)], [], WD Y E M G O, a, b) (rI (WD Y E M G O) (if 0 ≤ s ∧ s < X 6 then 1 else 0) a b) := by
  have hX := hI.1
  have h6 := hm.1
  refine go [] [] rfl (by omega) (bc rfl hd (m_in _ _ _) (fun h => by cases h) ?_)
  by_cases h : 0 ≤ s ∧ s < X 6
  · rw [if_pos h, if_pos (by omega)]
    exact rtb rfl rfl (Or.inr rfl) rfl
  · rw [if_neg h, if_neg (by omega)]
    exact rtb rfl rfl (Or.inl rfl) rfl
theorem m_isAisle (hI : SB X F) (hm : RB X F M G) (hd : 2 ≤ d) (s : Int) : bE L xs d MX6_isAisle (0, [(0, bR 19), (1, bI s)], [], WD Y E M G O, a, b) (rI (WD Y E M G O) (if 0 ≤ s ∧ s < X 4 then 1 else 0) a b) := by
  have hX := hI.1
  have h6 := hm.1
  refine go [] [] rfl (by omega) (bc rfl hd (m_in _ _ _) (fun h => by cases h) ?_)
  by_cases h : 0 ≤ s ∧ s < X 4
  · rw [if_pos h, if_pos (by omega)]
    exact rtb rfl rfl (Or.inr rfl) rfl
  · rw [if_neg h, if_neg (by omega)]
    exact rtb rfl rfl (Or.inl rfl) rfl
theorem m_isWalked (hI : SB X F) (hm : RB X F M G) (s : Int) (h0 : 0 ≤ s) (h1 : s < X 6) : bE L xs d MX6_isWalked (0, [(0, bR 19), (1, bI s)], [], WD Y E M G O, a, b) (rI (WD Y E M G O) (wk F s) a b) := by
  have hs := hI.2.1 s h0 h1
  have hX := hI.1
  obtain ⟨g1, g2, g3, g4⟩ := hm.2.2.1 s h0 h1
  have g5 := hm.2.1 (F 2 s) (by omega) (by omega)
  rw [← g1] at g5
  rw [← g1] at hs
  unfold wk
  rw [← g1, ← g3, ← g4, ← g5]
  by_cases c1 : G 4 s = 0
  · by_cases c2 : 0 < G 3 s
    · by_cases c3 : G 0 (G 1 s) = 0
      · rw [if_pos ⟨c1, c2, c3⟩]
        exact go [] [1, 1, 1] rfl (by omega) (rtb rfl rfl (Or.inr rfl) rfl)
      · rw [if_neg (fun h => c3 h.2.2)]
        exact go [] [1, 1, 0] rfl (by omega) (rtb rfl rfl (Or.inl rfl) rfl)
    · rw [if_neg (fun h => c2 h.2.1)]
      exact go [] [1, 0] rfl (by omega) (rtb rfl rfl (Or.inl rfl) rfl)
  · rw [if_neg (fun h => c1 h.1)]
    exact go [] [0] rfl (by omega) (rtb rfl rfl (Or.inl rfl) rfl)
theorem m_walked (hI : SB X F) (hm : RB X F M G) (hd : 2 ≤ d) : bE L xs d MX6_walked (0, [(0, bR 19)], [], WD Y E M G O, a, b) (rI (WD Y E M G O) (nW F (X 6)) a b) := by
  have hX := hI.1
  have h6 := hm.1
  refine go [4] [] rfl (by omega) (for_up (P := fun s => bE L xs d MX6_walked (4, [(0, bR 19), (1, bI (nW F s)), (2, bI s)], [], WD Y E M G O, a, b) (rI (WD Y E M G O) (nW F (X 6)) a b)) (X 6) ?_ ?_ 0 (by omega) (by omega))
  · exact go [] [0] rfl (by omega) (rti rfl rfl rfl)
  · intro s h0 h1 ih
    have e : nW F (s + 1) = nW F s + wk F s := itr_s _ _ h0
    have hb := nW_b F s h0
    refine go [] [1] rfl (by omega) (bc rfl hd (m_isWalked hI hm s h0 h1) (fun h => by cases h) ?_)
    rcases wk_01 F s with hw | hw
    · rw [e, hw] at ih
      rw [hw]
      exact go [4] [0] rfl (by omega) ih
    · rw [e, hw] at ih
      rw [hw]
      exact go [4] [1] rfl (by omega) ih
theorem m_apart (x y : Int) (hx : -1000 ≤ x ∧ x ≤ 1000) (hy : -1000 ≤ y ∧ y ≤ 1000) : bE L xs d MX6_apart (0, [(0, bI x), (1, bI y)], [], WD Y E M G O, a, b) (rI (WD Y E M G O) (max (x - y) (-(x - y))) a b) := by
  by_cases h : y < x
  · have e : max (x - y) (-(x - y)) = x - y := by omega
    rw [e]
    exact go [] [1] rfl (by omega) (rti rfl rfl rfl)
  · have e : max (x - y) (-(x - y)) = y - x := by omega
    rw [e]
    exact go [] [0] rfl (by omega) (rti rfl rfl rfl)
theorem m_aisleOf (hI : SB X F) (hm : RB X F M G) (p : Int) (hp : pnt X p) : bE L xs d MX6_aisleOf (0, [(0, bR 19), (1, bI (mp p))], [], WD Y E M G O, a, b) (rI (WD Y E M G O) (F 2 p) a b) := by
  have hX := hI.1
  obtain ⟨p0, p1⟩ := hp
  unfold mp
  by_cases h : p = 10
  · subst h
    rw [if_pos rfl, hI.2.2.2.1.1]
    exact go [] [1] rfl (by omega) (rti rfl rfl rfl)
  · rw [if_neg h]
    obtain ⟨g1, g2, g3, g4⟩ := hm.2.2.1 p p0 (by omega)
    rw [← g1]
    exact go [] [0] rfl (by omega) (rti rfl rfl rfl)
theorem m_depthOf (hI : SB X F) (hm : RB X F M G) (p : Int) (hp : pnt X p) : bE L xs d MX6_depthOf (0, [(0, bR 19), (1, bI (mp p))], [], WD Y E M G O, a, b) (rI (WD Y E M G O) (F 4 p) a b) := by
  have hX := hI.1
  obtain ⟨p0, p1⟩ := hp
  unfold mp
  by_cases h : p = 10
  · subst h
    rw [if_pos rfl, hI.2.2.2.1.2]
    exact go [] [1] rfl (by omega) (rti rfl rfl rfl)
  · rw [if_neg h]
    obtain ⟨g1, g2, g3, g4⟩ := hm.2.2.1 p p0 (by omega)
    have hs := hI.2.1 p p0 (by omega)
    rw [hs.2.2.2.2.1, ← g2]
    exact go [] [0] rfl (by omega) (rti rfl rfl rfl)
theorem mp_b {p : Int} (hp : pnt X p) (h6 : X 6 ≤ 10) : -1 ≤ mp p ∧ mp p ≤ 9 := by
  obtain ⟨p0, p1⟩ := hp
  unfold mp
  split <;> omega
theorem m_way (hI : SB X F) (hm : RB X F M G) (p q : Int) (hp : pnt X p) (hq : pnt X q) (hd : 2 ≤ d) : bE L xs d MX6_way (0, [(0, bR 19), (1, bI (mp p)), (2, bI (mp q))], [], WD Y E M G O, a, b) (rI (WD Y E M G O) (F 7 (p * 11 + q)) a b) := by
  have hX := hI.1
  have h6 := hm.1
  have bp := SB_pt hI hp
  have bq := SB_pt hI hq
  rw [hI.2.2.2.2.1 p q hp hq]
  have A1 := fun (d : Nat) => m_aisleOf (L := L) (xs := xs) (Y := Y) (E := E) (O := O) (d := d) (a := a) (b := b) hI hm p hp
  have A2 := fun (d : Nat) => m_aisleOf (L := L) (xs := xs) (Y := Y) (E := E) (O := O) (d := d) (a := a) (b := b) hI hm q hq
  have D1 := fun (d : Nat) => m_depthOf (L := L) (xs := xs) (Y := Y) (E := E) (O := O) (d := d) (a := a) (b := b) hI hm p hp
  have D2 := fun (d : Nat) => m_depthOf (L := L) (xs := xs) (Y := Y) (E := E) (O := O) (d := d) (a := a) (b := b) hI hm q hq
  refine go [] [] rfl (by omega) (bc rfl hd (A1 _) (fun h => by cases h) ?_)
  refine go [] [] rfl (by omega) (bc rfl hd (A2 _) (fun h => by cases h) ?_)
  unfold wy
  by_cases h : F 2 p = F 2 q
  · rw [if_pos h]
    refine go [] [1] rfl (by omega) (bc rfl hd (D1 _) (fun h => by cases h) ?_)
    refine go [] [] rfl (by omega) (bc rfl hd (D2 _) (fun h => by cases h) ?_)
    refine bc rfl hd (m_apart (F 4 p) (F 4 q) (by omega) (by omega)) (fun h => by cases h) ?_
    exact rti rfl rfl rfl
  · rw [if_neg h]
    have key := for_up (P := fun c => ∀ ls : BL, (ls = [(0, bR 19), (1, bI (mp p)), (2, bI (mp q)), (3, bI (if c = 0 then 1000000 else crs (F 4 p) (F 4 q) c + 3 * max (F 2 p - F 2 q) (-(F 2 p - F 2 q)))), (4, bI c)] ∨ ∃ t, ls = [(0, bR 19), (1, bI (mp p)), (2, bI (mp q)), (3, bI (if c = 0 then 1000000 else crs (F 4 p) (F 4 q) c + 3 * max (F 2 p - F 2 q) (-(F 2 p - F 2 q)))), (4, bI c), (5, bI t)]) →
      bE L xs d MX6_way (33, ls, [], WD Y E M G O, a, b) (rI (WD Y E M G O) (crs (F 4 p) (F 4 q) (X 5 + 1) + 3 * max (F 2 p - F 2 q) (-(F 2 p - F 2 q))) a b)) (X 5 + 1) ?_ ?_ 0 (by omega) (by omega)
    · exact go [33] [0] rfl (by omega) (key _ (Or.inl rfl))
    · intro ls hls
      rw [if_neg (by omega)] at hls
      rcases hls with rfl | ⟨t, rfl⟩
      · exact go [] [0] rfl (by omega) (rti rfl rfl rfl)
      · exact go [] [0] rfl (by omega) (rti rfl rfl rfl)
    · intro c h0 h1 ih ls hls
      have hc := crs_b (x := F 4 p) (y := F 4 q) (by omega) (by omega) c h0 (by omega)
      have e : crs (F 4 p) (F 4 q) (c + 1) = min (crs (F 4 p) (F 4 q) c) (cd (F 4 p) (F 4 q) c) := itr_s _ _ h0
      have e0 : c = 0 → crs (F 4 p) (F 4 q) c = 1000000 := fun h => by rw [h]; rfl
      rw [if_neg (by omega), e] at ih
      obtain ⟨z, hz⟩ : ∃ z, z = (if c = 0 then 1000000 else crs (F 4 p) (F 4 q) c + 3 * max (F 2 p - F 2 q) (-(F 2 p - F 2 q))) := ⟨_, rfl⟩
      rw [← hz] at hls
      have hz2 : (c = 0 → z = 1000000) ∧ (c ≠ 0 → z = crs (F 4 p) (F 4 q) c + 3 * max (F 2 p - F 2 q) (-(F 2 p - F 2 q))) := ⟨fun h => by rw [hz, if_pos h], fun h => by rw [hz, if_neg h]⟩
      clear hz
      rcases hls with rfl | ⟨t, rfl⟩
      all_goals
        refine go [] [1] rfl (by omega) (bc rfl hd (D1 _) (fun h => by cases h) ?_)
        refine go [] [] rfl (by omega) (bc rfl hd (m_apart (F 4 p) (11 * c) (by omega) (by omega)) (fun h => by cases h) ?_)
        refine go [] [] rfl (by omega) (bc rfl hd (A1 _) (fun h => by cases h) ?_)
        refine go [] [] rfl (by omega) (bc rfl hd (A2 _) (fun h => by cases h) ?_)
        refine bc rfl hd (m_apart (F 2 p) (F 2 q) (by omega) (by omega)) (fun h => by cases h) ?_
        refine go [] [] rfl (by omega) (bc rfl hd (D2 _) (fun h => by cases h) ?_)
        refine bc rfl hd (m_apart (11 * c) (F 4 q) (by omega) (by omega)) (fun h => by cases h) ?_
        have ec : cd (F 4 p) (F 4 q) c = max (F 4 p - 11 * c) (-(F 4 p - 11 * c)) + max (F 4 q - 11 * c) (-(F 4 q - 11 * c)) := rfl
        by_cases hlt : max (F 4 p - 11 * c) (-(F 4 p - 11 * c)) + 3 * max (F 2 p - F 2 q) (-(F 2 p - F 2 q)) + max (11 * c - F 4 q) (-(11 * c - F 4 q)) < z
        · have e2 : min (crs (F 4 p) (F 4 q) c) (cd (F 4 p) (F 4 q) c) + 3 * max (F 2 p - F 2 q) (-(F 2 p - F 2 q)) = max (F 4 p - 11 * c) (-(F 4 p - 11 * c)) + 3 * max (F 2 p - F 2 q) (-(F 2 p - F 2 q)) + max (11 * c - F 4 q) (-(11 * c - F 4 q)) := by
            by_cases hc0 : c = 0
            · have := e0 hc0; omega
            · have := hz2.2 hc0; omega
          rw [e2] at ih
          exact go [33] [1] rfl (by omega) (ih _ (Or.inr ⟨_, rfl⟩))
        · have e2 : min (crs (F 4 p) (F 4 q) c) (cd (F 4 p) (F 4 q) c) + 3 * max (F 2 p - F 2 q) (-(F 2 p - F 2 q)) = z := by
            by_cases hc0 : c = 0
            · have := hz2.1 hc0; omega
            · have := hz2.2 hc0; omega
          rw [e2] at ih
          exact go [33] [0] rfl (by omega) (ih _ (Or.inr ⟨_, rfl⟩))
theorem mp_s {s : Int} (h : s < 10) : mp s = s := if_neg (by omega)
theorem mp_d : mp 10 = -1 := if_pos rfl
theorem m_length (hI : SB X F) (hr : SR X F) (hm : RB X F M G) (hmr : RR X F M G) (hd : 3 ≤ d) : bE L xs d MX6_length (0, [(0, bR 19)], [], WD Y E M G O, a, b) (rI (WD Y E M G O) (rl X F) a b) := by
  have hX := hI.1
  have hR := hr.1
  have h6 := hm.1
  have h7 := hmr.1
  have e0 : rat X F 0 = X 0 := rfl
  have key := for_up (P := fun i => bE L xs d MX6_length (9, [(0, bR 19), (1, bI (rlN X F i)), (2, bI (mp (rat X F i))), (3, bI i)], [], WD Y E M G O, a, b) (rI (WD Y E M G O) (rl X F) a b)) (X 3) ?_ ?_ 0 (by omega) (by omega)
  · rw [e0, ← h6.2.2.2.2.1] at key
    exact go [9] [] rfl (by omega) key
  · have p1 := SR_at hI hr hR.1 (Int.le_refl _)
    have p2 := SB_way hI p1 pnt_d
    have p3 := rlN_b hI hr (X 3) (by omega) (by omega)
    have w := m_way (L := L) (xs := xs) (Y := Y) (E := E) (O := O) (d := d - 1) (a := a) (b := b) hI hm _ 10 p1 pnt_d (by omega)
    rw [mp_d] at w
    refine go [] [0] rfl (by omega) (bc rfl (by omega) w (fun h => by cases h) ?_)
    exact go [] [] rfl (by omega) (rti rfl rfl rfl)
  · intro i h0 h1 ih
    have p1 := SR_at hI hr h0 (by omega)
    have hq := hr.2.1 i h0 h1
    have p2 := SB_way hI p1 (pnt_s hq.1 hq.2.1)
    have p3 := rlN_b hI hr i (by omega) (by omega)
    have g5 := hmr.2 i h0 h1
    have e : rlN X F (i + 1) = rlN X F i + F 7 (rat X F i * 11 + F 0 i) := itr_s _ _ h0
    have e2 : rat X F (i + 1) = F 0 i := by
      unfold rat
      rw [if_neg (by omega)]
      congr 1; omega
    have w := m_way (L := L) (xs := xs) (Y := Y) (E := E) (O := O) (d := d - 1) (a := a) (b := b) hI hm _ (F 0 i) p1 (pnt_s hq.1 hq.2.1) (by omega)
    rw [e, e2, mp_s (by omega), ← g5] at ih
    rw [mp_s (s := F 0 i) (by omega), ← g5] at w
    rw [← g5] at p2
    refine go [] [1] rfl (by omega) (bc rfl (by omega) w (fun h => by cases h) ?_)
    exact go [9] [] rfl (by omega) ih
end N1
