/-! The class's calls, but for walk -/
theorem un_s {α : Type} (f : Nat → α) (k : Nat) (v : α) : un f k v k = v := by
  unfold un
  rw [Nat.beq_refl]
  rfl
/-- a row without its place k -/
def dr (row : Int → Int) (k : Int) : Int → Int := fun j => if j < k then row j else row (j + 1)
def bndN (X : Nat → Int) (F : Nat → Int → Int) (i : Int) : Int := itr (fun s acc => if wk F s = 1 then max acc (F 7 (X 0 * 11 + s) + F 7 (s * 11 + 10)) else acc) 0 i
/-- the cart's walk: length, load, place -/
def fuN (X : Nat → Int) (F : Nat → Int → Int) (i : Int) : Int × Int × Int := itr (fun i q => if 0 < q.2.1 ∧ X 2 < q.2.1 + F 5 (F 0 i) then (q.1 + F 7 (q.2.2 * 11 + 10) + F 7 (10 * 11 + F 0 i), 0 + F 5 (F 0 i), F 0 i) else (q.1 + F 7 (q.2.2 * 11 + F 0 i), q.2.1 + F 5 (F 0 i), F 0 i)) (0, 0, X 0) i
theorem fuN_b {X : Nat → Int} {F : Nat → Int → Int} (h : SB X F) (hr : SR X F) : ∀ i, 0 ≤ i → i ≤ X 3 → 0 ≤ (fuN X F i).1 ∧ (fuN X F i).1 ≤ 400 * i ∧ 0 ≤ (fuN X F i).2.1 ∧ (fuN X F i).2.1 ≤ 100 * i ∧ pnt X (fuN X F i).2.2 ∧ (0 < i → 0 < (fuN X F i).2.1) := by
  refine itr_ind (P := fun i (z : Int × Int × Int) => 0 ≤ z.1 ∧ z.1 ≤ 400 * i ∧ 0 ≤ z.2.1 ∧ z.2.1 ≤ 100 * i ∧ pnt X z.2.2 ∧ (0 < i → 0 < z.2.1)) ⟨by simp, by simp, by simp, by simp, SB_here h, by omega⟩ ?_
  intro i z h0 h1 ⟨z1, z2, z3, z4, z5, z6⟩
  have hq := hr.2.1 i h0 h1
  have hp := h.2.1 (F 0 i) hq.1 hq.2.1
  have w1 := SB_way h z5 (pnt_s hq.1 hq.2.1)
  have w2 := SB_way h z5 pnt_d
  have w3 := SB_way h pnt_d (pnt_s hq.1 hq.2.1)
  split
  · exact ⟨by simp only; omega, by simp only; omega, by simp only; omega, by simp only; omega, pnt_s hq.1 hq.2.1, by simp only; omega⟩
  · exact ⟨by simp only; omega, by simp only; omega, by simp only; omega, by simp only; omega, pnt_s hq.1 hq.2.1, by simp only; omega⟩
def fu (X : Nat → Int) (F : Nat → Int → Int) : Int := (fuN X F (X 3)).1 + F 7 ((fuN X F (X 3)).2.2 * 11 + 10)
theorem bndN_b {X : Nat → Int} {F : Nat → Int → Int} (h : SB X F) : ∀ i, 0 ≤ i → i ≤ X 6 → 0 ≤ bndN X F i ∧ bndN X F i ≤ 400 := by
  refine itr_ind (P := fun i z => 0 ≤ z ∧ z ≤ 400) ⟨by omega, by omega⟩ ?_
  intro i z h0 h1 hz
  have w1 := SB_way h (SB_here h) (pnt_s h0 h1)
  have w2 := SB_way h (pnt_s h0 h1) pnt_d
  split <;> omega
section T4
variable {L : Nat} {xs : Nat → Int32} {X M : Nat → Int} {F G : Nat → Int → Int} {O : Int → Int} {d a b : Nat} {Q : BR → Prop}
theorem t_drop (x k : Int) (hX : 0 ≤ X 3 ∧ X 3 ≤ 10) (hk : 0 ≤ k ∧ k ≤ X 3) (hx : ∀ i, 0 ≤ i → i < X 3 → (F 0 i = x ↔ i = k)) :
    bE L xs d MX3_drop (0, [(0, bR 2), (1, bI x)], [], WD X F M G O, a, b) (fun r => ∃ row : Int → Int, r = (WD (un X 3 (if k < X 3 then X 3 - 1 else X 3)) (un F 0 row) M G O, .inl none, a, b) ∧ ∀ j, 0 ≤ j → j < (if k < X 3 then X 3 - 1 else X 3) → row j = dr (F 0) k j) := by
  have key := for_up (P := fun i => ∀ V : Int → Int, (∀ j, 0 ≤ j → j < (if k < i then i - 1 else i) → V j = dr (F 0) k j) → (∀ j, i ≤ j → V j = F 0 j) →
      bE L xs d MX3_drop (4, [(0, bR 2), (1, bI x), (2, bI (if k < i then i - 1 else i)), (3, bI i)], [], WD X (un F 0 V) M G O, a, b) (fun r => ∃ row : Int → Int, r = (WD (un X 3 (if k < X 3 then X 3 - 1 else X 3)) (un F 0 row) M G O, .inl none, a, b) ∧ ∀ j, 0 ≤ j → j < (if k < X 3 then X 3 - 1 else X 3) → row j = dr (F 0) k j)) (X 3) ?_ ?_ 0 (by omega) (by omega)
  · refine go [4] [] rfl (by omega) ?_
    have := key (F 0) (fun j h0 h1 => by rw [if_neg (by omega)] at h1; omega) (fun j _ => rfl)
    rw [if_neg (by omega)] at this
    exact this
  · intro V h1 h2
    exact go [] [0] rfl (by omega) (rtv rfl rfl ⟨V, rfl, h1⟩)
  · intro i h0 h1 ih V g1 g2
    have gi := g2 i (Int.le_refl _)
    have hxi := hx i h0 h1
    by_cases he : F 0 i = x
    · have hk1 : i = k := hxi.mp he
      subst hk1
      refine go [4] [1, 0] rfl (by simp only [un_s, and_true]; omega) ?_
      rw [if_neg (by omega)] at g1 ⊢
      have := ih V (fun j q0 q1 => g1 j q0 (by rw [if_pos (by omega)] at q1; omega)) (fun j q => g2 j (by omega))
      rw [if_pos (by omega)] at this
      have e : i + 1 - 1 = i := by omega
      rw [e] at this
      exact this
    · have hk1 : i ≠ k := fun h => he (hxi.mpr h)
      by_cases hki : k < i
      · rw [if_pos hki] at g1 ⊢
        refine go [4] [1, 1] rfl (by simp only [un_s, and_true]; omega) ?_
        have := ih (up V (i - 1) (V i)) ?_ ?_
        · rw [if_pos (by omega)] at this
          have e : i - 1 + 1 = i + 1 - 1 := by omega
          rw [← e] at this
          exact this
        · intro j q0 q1
          rw [if_pos (by omega)] at q1
          by_cases hj : j = i - 1
          · subst hj
            rw [up_eq, gi]
            unfold dr
            rw [if_neg (by omega)]
            congr 1; omega
          · rw [up_ne _ hj]; exact g1 j q0 (by omega)
        · intro j q
          rw [up_ne _ (by omega)]; exact g2 j (by omega)
      · rw [if_neg hki] at g1 ⊢
        refine go [4] [1, 1] rfl (by simp only [un_s, and_true]; omega) ?_
        have := ih (up V i (V i)) ?_ ?_
        · rw [if_neg (by omega)] at this
          exact this
        · intro j q0 q1
          rw [if_neg (by omega)] at q1
          by_cases hj : j = i
          · subst hj
            rw [up_eq, gi]
            unfold dr
            rw [if_pos (by omega)]
          · rw [up_ne _ hj]; exact g1 j q0 (by omega)
        · intro j q
          rw [up_ne _ (by omega)]; exact g2 j (by omega)
theorem t_stop1 (A P N : Int) (hd : 8 ≤ d) (h : ¬ (0 ≤ A ∧ A < X 4)) : bE L xs d MX5_stop (0, [(0, bR 1), (1, bI A), (2, bI P), (3, bI N)], [], WD X F M G O, a, b) (rT (WD X F M G O) 0 (a + 1) (b + 6)) :=
  go [] [] rfl (by omega) (bcX rfl (by omega) rfl (t_rA' A (by omega) h) rfl)
theorem t_stop2 (hI : SB X F) (A P N : Int) (hd : 8 ≤ d) (h : 0 ≤ A ∧ A < X 4) (h2 : ¬ (0 ≤ P ∧ P < 10 * X 5) ∨ ¬ (0 ≤ N ∧ N ≤ 100)) : bE L xs d MX5_stop (0, [(0, bR 1), (1, bI A), (2, bI P), (3, bI N)], [], WD X F M G O, a, b) (rT (WD X F M G O) 1 (a + 1) (b + 6)) := by
  refine go [] [] rfl (by omega) (bc rfl (by omega) (t_rA A (by omega) h) (fun h => by cases h) ?_)
  refine go [] [] rfl (by omega) (bc rfl (by omega) (t_hasPlace hI P) (fun h => by cases h) ?_)
  by_cases hp : 0 ≤ P ∧ P < 10 * X 5
  · rw [if_pos hp]
    by_cases hn : N < 0
    · exact go [] [0, 0] rfl (by omega) (thr rfl rfl (by omega) rfl rfl)
    · exact go [] [0, 1, 1] rfl (by omega) (thr rfl rfl (by omega) rfl rfl)
  · rw [if_neg hp]
    exact go [] [1] rfl (by omega) (thr rfl rfl (by omega) rfl rfl)
theorem t_stop3 (hI : SB X F) (A P N : Int) (hd : 8 ≤ d) (h : 0 ≤ A ∧ A < X 4) (h2 : 0 ≤ P ∧ P < 10 * X 5) (h3 : 0 ≤ N ∧ N ≤ 100) (h4 : 10 ≤ X 6) : bE L xs d MX5_stop (0, [(0, bR 1), (1, bI A), (2, bI P), (3, bI N)], [], WD X F M G O, a, b) (rT (WD X F M G O) 2 (a + 1) (b + 6)) := by
  refine go [] [] rfl (by omega) (bc rfl (by omega) (t_rA A (by omega) h) (fun h => by cases h) ?_)
  refine go [] [] rfl (by omega) (bc rfl (by omega) (t_hasPlace hI P) (fun h => by cases h) ?_)
  rw [if_pos h2]
  exact go [] [0, 1, 0, 1] rfl (by omega) (thr rfl rfl (by omega) rfl rfl)
theorem t_stop4 (hI : SB X F) (A P N : Int) (hd : 8 ≤ d) (h : 0 ≤ A ∧ A < X 4) (h2 : 0 ≤ P ∧ P < 10 * X 5) (h3 : 0 ≤ N ∧ N ≤ 100) (h4 : X 6 < 10) : bE L xs d MX5_stop (0, [(0, bR 1), (1, bI A), (2, bI P), (3, bI N)], [], WD X F M G O, a, b)
      (fun r => ∃ V : Int → Int, r = (WD (un X 6 (X 6 + 1)) (un (F1 F (X 6) A P N) 7 V) M G O, .inl (some (bI (X 6))), a, b) ∧ SB (un X 6 (X 6 + 1)) (un (F1 F (X 6) A P N) 7 V)) := by
  refine go [] [] rfl (by omega) (bc rfl (by omega) (t_rA A (by omega) h) (fun h => by cases h) ?_)
  refine go [] [] rfl (by omega) (bc rfl (by omega) (t_hasPlace hI P) (fun h => by cases h) ?_)
  rw [if_pos h2]
  refine go [] [0, 1, 0, 0] rfl (by omega) (bcall rfl (by omega) (t_add hI A P N h h2 h3 h4 (by omega)) ?_)
  rintro r ⟨V, rfl, hV⟩
  exact ⟨_, _, _, _, rfl, (fun h => by cases h), rti rfl rfl ⟨V, rfl, hV⟩⟩
theorem SB_shut (hI : SB X F) {f : Int → Int} (h : ∀ j, 0 ≤ f j ∧ f j ≤ 1) : SB X (un F 1 f) := ⟨hI.1, hI.2.1, h, hI.2.2.2⟩
theorem t_closed1 (A on : Int) (hd : 8 ≤ d) (h : ¬ (0 ≤ A ∧ A < X 4)) : bE L xs d MX5_closed (0, [(0, bR 1), (1, bI A), (2, bI on)], [], WD X F M G O, a, b) (rT (WD X F M G O) 0 (a + 1) (b + 6)) :=
  go [] [] rfl (by omega) (bcX rfl (by omega) rfl (t_rA' A (by omega) h) rfl)
theorem t_closed2 (hI : SB X F) (A on : Int) (hd : 8 ≤ d) (h : 0 ≤ A ∧ A < X 4) (ho : 0 ≤ on ∧ on ≤ 1) : bE L xs d MX5_closed (0, [(0, bR 1), (1, bI A), (2, bI on)], [], WD X F M G O, a, b) (rI (WD X (un F 1 (up (F 1) A on)) M G O) (nO F A (X 6)) a b) := by
  have hX := hI.1
  refine go [] [] rfl (by omega) (bc rfl (by omega) (t_rA A (by omega) h) (fun h => by cases h) ?_)
  have hJ : SB X (un F 1 (up (F 1) A on)) := SB_shut hI (fun j => by unfold up; split; exact ho; exact hI.2.2.1 j)
  refine go [] [] rfl (by omega) (bc rfl (by omega) (t_openIn hJ A) (fun h => by cases h) ?_)
  exact rti rfl rfl rfl
theorem t_step1 (i : Int) (hd : 7 ≤ d) (h : ¬ (0 ≤ i ∧ i < X 3)) : bE L xs d MX5_step (0, [(0, bR 1), (1, bI i)], [], WD X F M G O, a, b) (rT (WD X F M G O) 4 (a + 1) (b + 6)) := by
  by_cases h1 : i < 0
  · exact go [] [0] rfl (by omega) (thr rfl rfl hd rfl rfl)
  · exact go [] [1, 1] rfl (by omega) (thr rfl rfl hd rfl rfl)
theorem t_step2 (hr : SR X F) (i : Int) (h : 0 ≤ i ∧ i < X 3) : bE L xs d MX5_step (0, [(0, bR 1), (1, bI i)], [], WD X F M G O, a, b) (rI (WD X F M G O) (F 0 i) a b) := by
  have := hr.1
  exact go [] [1, 0] rfl (by omega) (rti rfl rfl rfl)
theorem t_go1 (hd : 7 ≤ d) (h : X 3 = 0) : bE L xs d MX5_go (0, [(0, bR 1)], [], WD X F M G O, a, b) (rT (WD X F M G O) 3 (a + 1) (b + 6)) :=
  go [] [1] rfl (by omega) (thr rfl rfl hd rfl rfl)
theorem t_go2 (hI : SB X F) (hr : SR X F) (hd : 7 ≤ d) (h : X 3 ≠ 0) (h2 : F 1 (F 2 (F 0 0)) ≠ 0) : bE L xs d MX5_go (0, [(0, bR 1)], [], WD X F M G O, a, b) (rT (WD X F M G O) 3 (a + 1) (b + 6)) := by
  have hX := hI.1
  have h3 := hr.1
  have hq := hr.2.1 0 (by omega) (by omega)
  have hp := hI.2.1 (F 0 0) hq.1 hq.2.1
  exact go [] [0, 1] rfl (by omega) (thr rfl rfl hd rfl rfl)
theorem t_go3 (hI : SB X F) (hr : SR X F) (hd : 7 ≤ d) (hm : 0 ≤ X 1 ∧ X 1 ≤ 1000000) (h : X 3 ≠ 0) (h2 : F 1 (F 2 (F 0 0)) = 0) : bE L xs d MX5_go (0, [(0, bR 1)], [], WD X F M G O, a, b)
      (fun r => ∃ row : Int → Int, r = (WD (un (un (un X 1 (X 1 + F 7 (X 0 * 11 + F 0 0))) 0 (F 0 0)) 3 (X 3 - 1)) (un (un F 6 (up (F 6) (F 0 0) 1)) 0 row) M G O, .inl (some (bI (F 0 0))), a, b) ∧ ∀ j, 0 ≤ j → j < X 3 - 1 → row j = dr (F 0) 0 j) := by
  have hX := hI.1
  have h3 := hr.1
  have hq := hr.2.1 0 (by omega) (by omega)
  have hp := hI.2.1 (F 0 0) hq.1 hq.2.1
  have hw := SB_way hI (SB_here hI) (pnt_s hq.1 hq.2.1)
  refine go [] [0, 0] rfl (by omega) (bc rfl (by omega) (t_way _ _ (by omega)) (fun h => by cases h) ?_)
  have hdr := t_drop (L := L) (xs := xs) (X := un (un X 1 (X 1 + F 7 (X 0 * 11 + F 0 0))) 0 (F 0 0)) (F := un F 6 (up (F 6) (F 0 0) 1)) (M := M) (G := G) (O := O) (d := d - 1) (a := a) (b := b) (F 0 0) 0 h3 ⟨by omega, h3.1⟩ (fun i i0 i1 => ⟨fun e => by
    by_cases hi : i = 0
    · exact hi
    · exact absurd e.symm (hr.2.2 0 i (by omega) (by omega) i1), fun e => by rw [e]; rfl⟩)
  refine go [] [] rfl (by omega) (bcall rfl (by omega) hdr ?_)
  rintro r ⟨row, rfl, hrow⟩
  refine ⟨_, _, _, _, rfl, (fun h => by cases h), ?_⟩
  have e : (if (0 : Int) < un (un X 1 (X 1 + F 7 (X 0 * 11 + F 0 0))) 0 (F 0 0) 3 then un (un X 1 (X 1 + F 7 (X 0 * 11 + F 0 0))) 0 (F 0 0) 3 - 1 else un (un X 1 (X 1 + F 7 (X 0 * 11 + F 0 0))) 0 (F 0 0) 3) = X 3 - 1 := if_pos (show 0 < X 3 by omega)
  rw [e] at hrow ⊢
  exact go [] [] rfl (by omega) (rti rfl rfl ⟨row, rfl, hrow⟩)
end T4
