/-! The class's planner: keys -/
/-- is an aisle used by stops that are walked -/
def usN (F : Nat → Int → Int) (A n : Int) : Int := itr (fun s acc => if wk F s = 1 ∧ F 2 s = A then 1 else acc) 0 n
def us (X : Nat → Int) (F : Nat → Int → Int) (A : Int) : Int := usN F A (X 6)
theorem usN_0 {F : Nat → Int → Int} {A n : Int} (hn : 0 ≤ n) (h : ∀ s, 0 ≤ s → s < n → ¬ (wk F s = 1 ∧ F 2 s = A)) : usN F A n = 0 := by
  refine itr_ind (P := fun _ z => z = 0) (n := n) rfl ?_ n hn (Int.le_refl _)
  intro i z h0 h1 hz
  rw [if_neg (h i h0 h1)]
  exact hz
theorem usN_1 {F : Nat → Int → Int} {A n s : Int} (h0 : 0 ≤ s) (h1 : s < n) (h : wk F s = 1 ∧ F 2 s = A) : usN F A n = 1 := by
  have := itr_ind (g := fun s acc => if wk F s = 1 ∧ F 2 s = A then 1 else acc) (a0 := (0 : Int)) (P := fun i z => s < i → z = 1) (n := n) (fun q => by omega) ?_ n (by omega) (Int.le_refl _)
  · exact this h1
  · intro i z i0 i1 hz hs
    by_cases hi : i = s
    · subst hi
      rw [if_pos h]
    · by_cases hc : wk F i = 1 ∧ F 2 i = A
      · rw [if_pos hc]
      · rw [if_neg hc]; exact hz (by omega)
theorem us_01 {X : Nat → Int} {F : Nat → Int → Int} (A : Int) (hn : 0 ≤ X 6) : us X F A = 0 ∨ us X F A = 1 := by
  refine itr_ind (P := fun _ z => z = 0 ∨ z = 1) (n := X 6) (Or.inl rfl) ?_ (X 6) hn (Int.le_refl _)
  intro i z h0 h1 hz
  split
  · exact Or.inr rfl
  · exact hz
theorem us_ex {X : Nat → Int} {F : Nat → Int → Int} {A : Int} (hn : 0 ≤ X 6) (h : us X F A = 1) : ∃ s, 0 ≤ s ∧ s < X 6 ∧ wk F s = 1 ∧ F 2 s = A := by
  by_cases hx : ∃ s, 0 ≤ s ∧ s < X 6 ∧ wk F s = 1 ∧ F 2 s = A
  · exact hx
  · have : us X F A = 0 := usN_0 hn (fun s h0 h1 hs => hx ⟨s, h0, h1, hs.1, hs.2⟩)
    omega
def nU (X : Nat → Int) (F : Nat → Int → Int) (A : Int) : Int := itr (fun k acc => acc + us X F k) 0 A
theorem nU_b {X : Nat → Int} {F : Nat → Int → Int} (hn : 0 ≤ X 6) (A : Int) (h : 0 ≤ A) : 0 ≤ nU X F A ∧ nU X F A ≤ A := cnt_b (g := us X F) (fun k => us_01 k hn) A A h (Int.le_refl _)
/-- is an aisle above it used -/
def uab (X : Nat → Int) (F : Nat → Int → Int) (A : Int) : Int := itr (fun k acc => if A < k ∧ us X F k = 1 then 1 else acc) 0 (X 4)
theorem uab_0 {X : Nat → Int} {F : Nat → Int → Int} {A : Int} (hn : 0 ≤ X 4) (h : ∀ k, A < k → k < X 4 → ¬ us X F k = 1) : uab X F A = 0 := by
  refine itr_ind (P := fun _ z => z = 0) (n := X 4) rfl ?_ (X 4) hn (Int.le_refl _)
  intro i z h0 h1 hz
  rw [if_neg (fun q => h i q.1 h1 q.2)]
  exact hz
theorem uab_1 {X : Nat → Int} {F : Nat → Int → Int} {A k : Int} (hA : 0 ≤ A) (h0 : A < k) (h1 : k < X 4) (h : us X F k = 1) : uab X F A = 1 := by
  have := itr_ind (g := fun k acc => if A < k ∧ us X F k = 1 then 1 else acc) (a0 := (0 : Int)) (P := fun i z => k < i → z = 1) (n := X 4) (fun q => by omega) ?_ (X 4) (by omega) (Int.le_refl _)
  · exact this h1
  · intro i z i0 i1 hz hs
    by_cases hi : i = k
    · subst hi
      rw [if_pos ⟨h0, h⟩]
    · by_cases hc : A < i ∧ us X F i = 1
      · rw [if_pos hc]
      · rw [if_neg hc]; exact hz (by omega)
/-- the next depth of an aisle's stops, or the back -/
def nxN (X : Nat → Int) (F : Nat → Int → Int) (A D n : Int) : Int := itr (fun s acc => if wk F s = 1 ∧ F 2 s = A ∧ D < F 4 s then min acc (F 4 s) else acc) (11 * X 5) n
def nx (X : Nat → Int) (F : Nat → Int → Int) (A D : Int) : Int := nxN X F A D (X 6)
/-- gaps one by one: where the greatest began, how great, where we are -/
def gst (X : Nat → Int) (F : Nat → Int → Int) (A : Int) (q : Int × Int × Int) : Int × Int × Int := if q.2.1 < nx X F A q.2.2 - q.2.2 then (q.2.2, nx X F A q.2.2 - q.2.2, nx X F A q.2.2) else (q.1, q.2.1, nx X F A q.2.2)
def gsN (X : Nat → Int) (F : Nat → Int → Int) (A k : Int) : Int × Int × Int := itr (fun _ q => gst X F A q) (0, 0, 0) k
def gs (X : Nat → Int) (F : Nat → Int → Int) (A : Int) : Int := (gsN X F A (X 6 + 1)).1
def upk (F : Nat → Int → Int) (leg s : Int) : Int := leg * 30 + F 3 s
def dnk (F : Nat → Int → Int) (leg s : Int) : Int := leg * 30 + 30 - 1 - F 3 s
def K0 (X : Nat → Int) (F : Nat → Int → Int) (s : Int) : Int := if nU X F (F 2 s) % 2 = 0 then upk F (F 2 s) s else dnk F (F 2 s) s
def K1 (F : Nat → Int → Int) (s : Int) : Int := upk F (F 2 s) s
def K2 (X : Nat → Int) (F : Nat → Int → Int) (s : Int) : Int := if nU X F (F 2 s) = 0 then upk F 0 s else if uab X F (F 2 s) = 0 then dnk F 8 s else if gs X F (F 2 s) < F 4 s then dnk F (F 2 s) s else upk F (16 - F 2 s) s
def KK (kind : Int) (X : Nat → Int) (F : Nat → Int → Int) (s : Int) : Int := if kind = 2 then K2 X F s else if kind = 1 then K1 F s else K0 X F s
theorem nxN_b {X : Nat → Int} {F : Nat → Int → Int} (h : SB X F) (A D : Int) (hD : 0 ≤ D ∧ D ≤ 11 * X 5) : ∀ i, 0 ≤ i → i ≤ X 6 → D ≤ nxN X F A D i ∧ nxN X F A D i ≤ 11 * X 5 := by
  refine itr_ind (P := fun i z => D ≤ z ∧ z ≤ 11 * X 5) ⟨by omega, by omega⟩ ?_
  intro i z i0 i1 hz
  split
  · next hc => omega
  · exact hz
theorem gsN_b {X : Nat → Int} {F : Nat → Int → Int} (h : SB X F) (A : Int) : ∀ k, 0 ≤ k → k ≤ X 6 + 1 → 0 ≤ (gsN X F A k).1 ∧ (gsN X F A k).1 ≤ 33 ∧ 0 ≤ (gsN X F A k).2.1 ∧ (gsN X F A k).2.1 ≤ 33 ∧ 0 ≤ (gsN X F A k).2.2 ∧ (gsN X F A k).2.2 ≤ 11 * X 5 := by
  have hX := h.1
  refine itr_ind (P := fun i (z : Int × Int × Int) => 0 ≤ z.1 ∧ z.1 ≤ 33 ∧ 0 ≤ z.2.1 ∧ z.2.1 ≤ 33 ∧ 0 ≤ z.2.2 ∧ z.2.2 ≤ 11 * X 5) ⟨by simp, by simp, by simp, by simp, by simp, by simp only; omega⟩ ?_
  intro i z i0 i1 ⟨z1, z2, z3, z4, z5, z6⟩
  have hn := nxN_b h A z.2.2 ⟨z5, z6⟩ (X 6) (by omega) (Int.le_refl _)
  unfold gst nx
  split
  · exact ⟨by simp only; omega, by simp only; omega, by simp only; omega, by simp only; omega, by simp only; omega, by simp only; omega⟩
  · exact ⟨by simp only; omega, by simp only; omega, by simp only; omega, by simp only; omega, by simp only; omega, by simp only; omega⟩
section P1
variable {L : Nat} {xs : Nat → Int32} {X M : Nat → Int} {F G : Nat → Int → Int} {O : Int → Int} {d a b : Nat} {Q : BR → Prop}
theorem t_isUsed (hI : SB X F) (hw : ∀ s, 0 ≤ s → s < X 6 → F 9 s = wk F s) (A : Int) : bE L xs d MX2_isUsed (0, [(0, bR 13), (1, bI A)], [], WD X F M G O, a, b) (rI (WD X F M G O) (us X F A) a b) := by
  have hX := hI.1
  refine go [2] [] rfl rfl (for_up (P := fun s => (∀ t, 0 ≤ t → t < s → ¬ (wk F t = 1 ∧ F 2 t = A)) → bE L xs d MX2_isUsed (2, [(0, bR 13), (1, bI A), (2, bI s)], [], WD X F M G O, a, b) (rI (WD X F M G O) (us X F A) a b)) (X 6) ?_ ?_ 0 (by omega) (by omega) (fun t h0 h1 => by omega))
  · intro hno
    have e : us X F A = 0 := usN_0 (by omega) hno
    rw [e]
    exact go [] [0] rfl (by omega) (rtb rfl rfl (Or.inl rfl) rfl)
  · intro s s0 s1 ih hno
    have w := hw s s0 s1
    have nxt : ¬ (wk F s = 1 ∧ F 2 s = A) → bE L xs d MX2_isUsed (2, [(0, bR 13), (1, bI A), (2, bI (s + 1))], [], WD X F M G O, a, b) (rI (WD X F M G O) (us X F A) a b) := fun hn => ih (fun t t0 t1 => by
      by_cases ht : t = s
      · subst ht; exact hn
      · exact hno t t0 (by omega))
    rcases wk_01 F s with h | h
    · exact go [2] [1, 0] rfl (by omega) (nxt (fun q => by omega))
    · by_cases hA : F 2 s = A
      · have e : us X F A = 1 := usN_1 s0 s1 ⟨h, hA⟩
        rw [e]
        exact go [] [1, 1, 1] rfl (by omega) (rtb rfl rfl (Or.inr rfl) rfl)
      · exact go [2] [1, 1, 0] rfl (by omega) (nxt (fun q => hA q.2))
theorem t_usedAislesBelow (hI : SB X F) (hw : ∀ s, 0 ≤ s → s < X 6 → F 9 s = wk F s) (A : Int) (hA : 0 ≤ A ∧ A ≤ 8) (hd : 2 ≤ d) : bE L xs d MX2_usedAislesBelow (0, [(0, bR 13), (1, bI A)], [], WD X F M G O, a, b) (rI (WD X F M G O) (nU X F A) a b) := by
  have hX := hI.1
  refine go [4] [] rfl rfl (for_up (P := fun k => bE L xs d MX2_usedAislesBelow (4, [(0, bR 13), (1, bI A), (2, bI (nU X F k)), (3, bI k)], [], WD X F M G O, a, b) (rI (WD X F M G O) (nU X F A) a b)) A ?_ ?_ 0 (by omega) (by omega))
  · exact go [] [0] rfl (by omega) (rti rfl rfl rfl)
  · intro k k0 k1 ih
    have e : nU X F (k + 1) = nU X F k + us X F k := itr_s _ _ k0
    have hb := nU_b (X := X) (F := F) (by omega) k k0
    refine go [] [1] rfl (by omega) (bc rfl hd (t_isUsed hI hw k) (fun h => by cases h) ?_)
    rcases us_01 (X := X) (F := F) k (by omega) with h | h
    · rw [e, h, Int.add_zero] at ih
      rw [h]
      exact go [4] [0] rfl (by omega) ih
    · rw [e, h] at ih
      rw [h]
      exact go [4] [1] rfl (by omega) ih
theorem t_isUsedAbove (hI : SB X F) (hw : ∀ s, 0 ≤ s → s < X 6 → F 9 s = wk F s) (A : Int) (hA : 0 ≤ A ∧ A < X 4) (hd : 2 ≤ d) : bE L xs d MX2_isUsedAbove (0, [(0, bR 13), (1, bI A)], [], WD X F M G O, a, b) (rI (WD X F M G O) (uab X F A) a b) := by
  have hX := hI.1
  refine go [4] [] rfl (by omega) (for_up (P := fun k => A < k → (∀ j, A < j → j < k → ¬ us X F j = 1) → bE L xs d MX2_isUsedAbove (4, [(0, bR 13), (1, bI A), (2, bI k)], [], WD X F M G O, a, b) (rI (WD X F M G O) (uab X F A) a b)) (X 4) ?_ ?_ (A + 1) (by omega) (by omega) (by omega) (fun j h0 h1 => by omega))
  · intro _ hno
    have e : uab X F A = 0 := uab_0 (by omega) hno
    rw [e]
    exact go [] [0] rfl (by omega) (rtb rfl rfl (Or.inl rfl) rfl)
  · intro k k0 k1 ih hAk hno
    refine go [] [1] rfl (by omega) (bc rfl hd (t_isUsed hI hw k) (fun h => by cases h) ?_)
    rcases us_01 (X := X) (F := F) k (by omega) with h | h
    · rw [h]
      exact go [4] [0] rfl (by omega) (ih (by omega) (fun j j0 j1 => by
        by_cases hj : j = k
        · subst hj; omega
        · exact hno j j0 (by omega)))
    · have e : uab X F A = 1 := uab_1 hA.1 hAk k1 h
      rw [h, e]
      exact go [] [1] rfl (by omega) (rtb rfl rfl (Or.inr rfl) rfl)
theorem t_upward (hI : SB X F) (leg s : Int) (hl : 0 ≤ leg ∧ leg ≤ 16) (h0 : 0 ≤ s) (h1 : s < X 6) : bE L xs d MX2_upward (0, [(0, bR 13), (1, bI leg), (2, bI s)], [], WD X F M G O, a, b) (rI (WD X F M G O) (upk F leg s) a b) := by
  have hX := hI.1
  have hs := hI.2.1 s h0 h1
  exact go [] [] rfl (by omega) (rti rfl rfl rfl)
theorem t_downward (hI : SB X F) (leg s : Int) (hl : 0 ≤ leg ∧ leg ≤ 16) (h0 : 0 ≤ s) (h1 : s < X 6) : bE L xs d MX2_downward (0, [(0, bR 13), (1, bI leg), (2, bI s)], [], WD X F M G O, a, b) (rI (WD X F M G O) (dnk F leg s) a b) := by
  have hX := hI.1
  have hs := hI.2.1 s h0 h1
  exact go [] [] rfl (by omega) (rti rfl rfl rfl)
theorem t_throughKey (hI : SB X F) (hw : ∀ s, 0 ≤ s → s < X 6 → F 9 s = wk F s) (s : Int) (h0 : 0 ≤ s) (h1 : s < X 6) (hd : 3 ≤ d) : bE L xs d MX2_throughKey (0, [(0, bR 13), (1, bI s)], [], WD X F M G O, a, b) (rI (WD X F M G O) (K0 X F s) a b) := by
  have hX := hI.1
  have hs := hI.2.1 s h0 h1
  have hb := nU_b (X := X) (F := F) (by omega) (F 2 s) hs.1
  refine go [] [] rfl (by omega) (bc rfl (by omega) (t_usedAislesBelow hI hw (F 2 s) (by omega) (by omega)) (fun h => by cases h) ?_)
  unfold K0
  by_cases h : nU X F (F 2 s) % 2 = 0
  · rw [if_pos h]
    refine go [] [1, 1] rfl (by omega) (bc rfl (by omega) (t_upward hI (F 2 s) s (by omega) h0 h1) (fun h => by cases h) ?_)
    exact go [] [] rfl rfl (rti rfl rfl rfl)
  · rw [if_neg h]
    refine go [] [0, 0] rfl (by omega) (bc rfl (by omega) (t_downward hI (F 2 s) s (by omega) h0 h1) (fun h => by cases h) ?_)
    exact rti rfl rfl rfl
theorem t_nextDepth (hI : SB X F) (hw : ∀ s, 0 ≤ s → s < X 6 → F 9 s = wk F s) (A D : Int) (hD : 0 ≤ D ∧ D ≤ 11 * X 5) (hd : 2 ≤ d) : bE L xs d MX2_nextDepth (0, [(0, bR 13), (1, bI A), (2, bI D)], [], WD X F M G O, a, b) (rI (WD X F M G O) (nx X F A D) a b) := by
  have hX := hI.1
  refine go [] [] rfl rfl (bc rfl hd (t_backDepth hI) (fun h => by cases h) ?_)
  refine go [11] [] rfl rfl (for_up (P := fun s => bE L xs d MX2_nextDepth (11, [(0, bR 13), (1, bI A), (2, bI D), (3, bI (nxN X F A D s)), (4, bI s)], [], WD X F M G O, a, b) (rI (WD X F M G O) (nx X F A D) a b)) (X 6) ?_ ?_ 0 (by omega) (by omega))
  · exact go [] [0] rfl (by omega) (rti rfl rfl rfl)
  · intro s s0 s1 ih
    have w := hw s s0 s1
    have e : nxN X F A D (s + 1) = if wk F s = 1 ∧ F 2 s = A ∧ D < F 4 s then min (nxN X F A D s) (F 4 s) else nxN X F A D s := itr_s _ _ s0
    have hb := nxN_b hI A D hD s s0 (by omega)
    rcases wk_01 F s with h | h
    · rw [e, if_neg (by omega)] at ih
      exact go [11] [1, 0] rfl (by omega) ih
    · by_cases hA : F 2 s = A
      · by_cases hlt : D < F 4 s
        · rw [e, if_pos ⟨h, hA, hlt⟩] at ih
          exact go [11] [1, 1, 1, 1] rfl (by omega) ih
        · rw [e, if_neg (fun q => hlt q.2.2)] at ih
          exact go [11] [1, 1, 1, 0] rfl (by omega) ih
      · rw [e, if_neg (fun q => hA q.2.1)] at ih
        exact go [11] [1, 1, 0] rfl (by omega) ih
theorem t_gapStart (hI : SB X F) (hw : ∀ s, 0 ≤ s → s < X 6 → F 9 s = wk F s) (A : Int) (hd : 3 ≤ d) : bE L xs d MX2_gapStart (0, [(0, bR 13), (1, bI A)], [], WD X F M G O, a, b) (rI (WD X F M G O) (gs X F A) a b) := by
  have hX := hI.1
  have key := for_up (P := fun k => ∀ ls : BL, (ls = [(0, bR 13), (1, bI A), (2, bI (gsN X F A k).1), (3, bI (gsN X F A k).2.1), (4, bI (gsN X F A k).2.2), (5, bI k)] ∨ ∃ t, ls = [(0, bR 13), (1, bI A), (2, bI (gsN X F A k).1), (3, bI (gsN X F A k).2.1), (4, bI (gsN X F A k).2.2), (5, bI k), (6, bI t)]) →
      bE L xs d MX2_gapStart (10, ls, [], WD X F M G O, a, b) (rI (WD X F M G O) (gs X F A) a b)) (X 6 + 1) ?_ ?_ 0 (by omega) (by omega)
  · exact go [10] [] rfl rfl (key _ (Or.inl rfl))
  · intro ls hls
    rcases hls with rfl | ⟨t, rfl⟩
    · exact go [] [0] rfl (by omega) (rti rfl rfl rfl)
    · exact go [] [0] rfl (by omega) (rti rfl rfl rfl)
  · intro k k0 k1 ih ls hls
    obtain ⟨z1, z2, z3, z4, z5, z6⟩ := gsN_b hI A k k0 (by omega)
    have e : gsN X F A (k + 1) = gst X F A (gsN X F A k) := itr_s _ _ k0
    have hb := nxN_b hI A _ ⟨z5, z6⟩ (X 6) (by omega) (Int.le_refl _)
    have hb2 : (gsN X F A k).2.2 ≤ nx X F A (gsN X F A k).2.2 ∧ nx X F A (gsN X F A k).2.2 ≤ 11 * X 5 := hb
    rw [e] at ih
    unfold gst at ih
    rcases hls with rfl | ⟨t, rfl⟩
    all_goals
      refine go [] [1] rfl (by omega) (bc rfl (by omega) (t_nextDepth hI hw A _ ⟨z5, z6⟩ (by omega)) (fun h => by cases h) ?_)
      by_cases hlt : (gsN X F A k).2.1 < nx X F A (gsN X F A k).2.2 - (gsN X F A k).2.2
      · rw [if_pos hlt] at ih
        exact go [10] [1] rfl (by omega) (ih _ (Or.inr ⟨_, rfl⟩))
      · rw [if_neg hlt] at ih
        exact go [10] [0] rfl (by omega) (ih _ (Or.inr ⟨_, rfl⟩))
theorem t_gapKey (hI : SB X F) (hw : ∀ s, 0 ≤ s → s < X 6 → F 9 s = wk F s) (s : Int) (h0 : 0 ≤ s) (h1 : s < X 6) (hd : 4 ≤ d) : bE L xs d MX2_gapKey (0, [(0, bR 13), (1, bI s)], [], WD X F M G O, a, b) (rI (WD X F M G O) (K2 X F s) a b) := by
  have hX := hI.1
  have hs := hI.2.1 s h0 h1
  refine go [] [] rfl (by omega) (bc rfl (by omega) (t_usedAislesBelow hI hw (F 2 s) (by omega) (by omega)) (fun h => by cases h) ?_)
  unfold K2
  by_cases h : nU X F (F 2 s) = 0
  · rw [if_pos h]
    refine go [] [1] rfl (by omega) (bc rfl (by omega) (t_upward hI 0 s (by omega) h0 h1) (fun h => by cases h) ?_)
    exact rti rfl rfl rfl
  · rw [if_neg h]
    refine go [] [0] rfl (by omega) (bc rfl (by omega) (t_isUsedAbove hI hw (F 2 s) (by omega) (by omega)) (fun h => by cases h) ?_)
    by_cases h2 : uab X F (F 2 s) = 0
    · rw [if_pos h2]
      refine go [] [1] rfl (by omega) (bc rfl (by omega) (t_downward hI 8 s (by omega) h0 h1) (fun h => by cases h) ?_)
      exact rti rfl rfl rfl
    · rw [if_neg h2]
      refine go [] [0] rfl (by omega) (bc rfl (by omega) (t_gapStart hI hw (F 2 s) (by omega)) (fun h => by cases h) ?_)
      by_cases h3 : gs X F (F 2 s) < F 4 s
      · rw [if_pos h3]
        refine go [] [1] rfl (by omega) (bc rfl (by omega) (t_downward hI (F 2 s) s (by omega) h0 h1) (fun h => by cases h) ?_)
        exact rti rfl rfl rfl
      · rw [if_neg h3]
        refine go [] [0] rfl (by omega) (bc rfl (by omega) (t_upward hI (16 - F 2 s) s (by omega) h0 h1) (fun h => by cases h) ?_)
        exact rti rfl rfl rfl
theorem t_keyOf (hI : SB X F) (hw : ∀ s, 0 ≤ s → s < X 6 → F 9 s = wk F s) (kind s : Int) (hk : 0 ≤ kind ∧ kind ≤ 2) (h0 : 0 ≤ s) (h1 : s < X 6) (hd : 5 ≤ d) : bE L xs d MX2_keyOf (0, [(0, bR 13), (1, bI kind), (2, bI s)], [], WD X F M G O, a, b) (rI (WD X F M G O) (KK kind X F s) a b) := by
  have hX := hI.1
  have hs := hI.2.1 s h0 h1
  have hq : kind = 0 ∨ kind = 1 ∨ kind = 2 := by omega
  rcases hq with rfl | rfl | rfl
  · refine go [] [0] rfl ⟨(by decide), rfl⟩ (bc rfl (by omega) (t_throughKey hI hw s h0 h1 (by omega)) (fun h => by cases h) ?_)
    exact rti rfl rfl rfl
  · refine go [] [1] rfl ⟨(by decide), (by omega), rfl⟩ (bc rfl (by omega) (t_upward hI (F 2 s) s (by omega) h0 h1) (fun h => by cases h) ?_)
    exact rti rfl rfl rfl
  · refine go [] [2] rfl ⟨(by decide), rfl⟩ (bc rfl (by omega) (t_gapKey hI hw s h0 h1 (by omega)) (fun h => by cases h) ?_)
    exact rti rfl rfl rfl
end P1
