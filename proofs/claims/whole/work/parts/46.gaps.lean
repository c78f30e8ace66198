/-! The reference's largest gap -/
section C1
variable {L : Nat} {xs : Nat → Int32} {X M : Nat → Int} {F G : Nat → Int → Int} {Y : Nat → Int} {E : Nat → Int → Int} {O : Int → Int} {d a b : Nat} {Q : BR → Prop} {row lf fr few co : Int → Int} {n : Int}
theorem cnt_lt {g h : Int → Int} (hle : ∀ i, g i ≤ h i) {s n : Int} (s0 : 0 ≤ s) (s1 : s < n) (hs : g s + 1 ≤ h s) : itr (fun q acc => acc + g q) 0 n + 1 ≤ itr (fun q acc => acc + h q) 0 n := by
  have main : ∀ k : Nat, itr (fun q acc => acc + g q) 0 (k : Int) + (if s < (k : Int) then 1 else 0) ≤ itr (fun q acc => acc + h q) 0 (k : Int) := by
    intro k
    induction k with
    | zero => rw [if_neg (by omega)]; exact Int.le_refl _
    | succ k ih =>
      have e : ((k + 1 : Nat) : Int) = (k : Int) + 1 := by omega
      rw [e, itr_s _ _ (by omega), itr_s _ _ (by omega)]
      have := hle (k : Int)
      by_cases c : (k : Int) = s
      · rw [if_neg (by omega)] at ih
        rw [if_pos (by omega)]
        rw [← c] at hs
        omega
      · by_cases c2 : s < (k : Int)
        · rw [if_pos c2] at ih
          rw [if_pos (by omega)]
          omega
        · rw [if_neg c2] at ih
          rw [if_neg (by omega)]
          omega
  have := main n.toNat
  rw [show ((n.toNat : Nat) : Int) = n by omega, if_pos s1] at this
  exact this
def cD (X : Nat → Int) (F : Nat → Int → Int) (D : Int) : Int := itr (fun s acc => acc + (if F 4 s ≤ D then 1 else 0)) 0 (X 6)
theorem nxN_ex (A D : Int) : ∀ i, 0 ≤ i → i ≤ X 6 → nxN X F A D i < 11 * X 5 → ∃ s, 0 ≤ s ∧ s < i ∧ F 4 s = nxN X F A D i ∧ D < F 4 s := by
  refine itr_ind (P := fun i z => z < 11 * X 5 → ∃ s, 0 ≤ s ∧ s < i ∧ F 4 s = z ∧ D < F 4 s) (fun h => by omega) ?_
  intro i z i0 i1 hz hlt
  have old : z < 11 * X 5 → ∃ s, 0 ≤ s ∧ s < i + 1 ∧ F 4 s = z ∧ D < F 4 s := by
    intro h
    obtain ⟨s, q0, q1, q2, q3⟩ := hz h
    exact ⟨s, q0, by omega, q2, q3⟩
  revert hlt
  split
  · next hc =>
    intro hlt
    by_cases h : F 4 i ≤ z
    · exact ⟨i, i0, by omega, by omega, hc.2.2⟩
    · rw [show min z (F 4 i) = z by omega] at hlt ⊢
      exact old hlt
  · exact old
theorem gst_at (A : Int) (q : Int × Int × Int) : (gst X F A q).2.2 = nx X F A q.2.2 := by
  unfold gst
  split <;> rfl
theorem gsN_cnt (hI : SB X F) (A : Int) : ∀ k, 0 ≤ k → k ≤ X 6 + 1 → (gsN X F A k).2.2 < 11 * X 5 → k ≤ cD X F (gsN X F A k).2.2 := by
  have hX := hI.1
  have main : ∀ k : Nat, (k : Int) ≤ X 6 + 1 → (gsN X F A k).2.2 < 11 * X 5 → (k : Int) ≤ cD X F (gsN X F A k).2.2 := by
    intro k
    induction k with
    | zero =>
      intro _ _
      exact (cnt_b (g := fun s => if F 4 s ≤ (gsN X F A ((0 : Nat) : Int)).2.2 then 1 else 0) (fun s => by split <;> simp) (X 6) (X 6) (by omega) (Int.le_refl _)).1
    | succ k ih =>
      intro hk hlt
      have e : ((k + 1 : Nat) : Int) = (k : Int) + 1 := by omega
      have eg : gsN X F A ((k : Int) + 1) = gst X F A (gsN X F A k) := itr_s _ _ (by omega)
      rw [e] at hk hlt ⊢
      rw [eg, gst_at] at hlt ⊢
      obtain ⟨z1, z2, z3, z4, z5, z6⟩ := gsN_b hI A k (by omega) (by omega)
      have hb := nxN_b hI A _ ⟨z5, z6⟩ (X 6) (by omega) (Int.le_refl _)
      obtain ⟨s, s0, s1, s2, s3⟩ := nxN_ex (F := F) A (gsN X F A k).2.2 (X 6) (by omega) (Int.le_refl _) hlt
      have s2' : F 4 s = nx X F A (gsN X F A k).2.2 := s2
      have hb' : (gsN X F A k).2.2 ≤ nx X F A (gsN X F A k).2.2 := hb.1
      have h1 := ih (by omega) (by omega)
      have h2 := cnt_lt (g := fun s => if F 4 s ≤ (gsN X F A k).2.2 then 1 else 0) (h := fun s => if F 4 s ≤ nx X F A (gsN X F A k).2.2 then 1 else 0) (fun i => by
        show (if F 4 i ≤ (gsN X F A k).2.2 then (1 : Int) else 0) ≤ (if F 4 i ≤ nx X F A (gsN X F A k).2.2 then 1 else 0)
        split <;> split <;> omega) s0 s1 (by
        show (if F 4 s ≤ (gsN X F A k).2.2 then (1 : Int) else 0) + 1 ≤ (if F 4 s ≤ nx X F A (gsN X F A k).2.2 then 1 else 0)
        rw [if_neg (by omega), if_pos (by omega)]
        omega)
      have h3 : cD X F (gsN X F A k).2.2 + 1 ≤ cD X F (nx X F A (gsN X F A k).2.2) := h2
      omega
  intro k k0 k1 hlt
  obtain ⟨m, rfl⟩ : ∃ m : Nat, k = m := ⟨k.toNat, by omega⟩
  exact main m k1 hlt
theorem gsN_le (hI : SB X F) (A k : Int) (k0 : 0 ≤ k) (k1 : k ≤ X 6 + 1) (h : (gsN X F A k).2.2 < 11 * X 5) : k ≤ X 6 := by
  have hX := hI.1
  have h1 := gsN_cnt hI A k k0 k1 h
  have h2 := (cnt_b (g := fun s => if F 4 s ≤ (gsN X F A k).2.2 then 1 else 0) (fun s => by split <;> simp) (X 6) (X 6) (by omega) (Int.le_refl _)).2
  have h3 : cD X F (gsN X F A k).2.2 ≤ X 6 := h2
  omega
theorem gsN_fix (hI : SB X F) (A k : Int) (k0 : 0 ≤ k) (k1 : k ≤ X 6 + 1) (h : ¬ (gsN X F A k).2.2 < 11 * X 5) : (gsN X F A k).1 = gs X F A := by
  have hX := hI.1
  refine for_up (P := fun j => k ≤ j → ¬ (gsN X F A j).2.2 < 11 * X 5 → (gsN X F A j).1 = gs X F A) (X 6 + 1) (fun _ _ => rfl) ?_ k k0 k1 (Int.le_refl _) h
  intro j j0 j1 ih hj hat
  obtain ⟨z1, z2, z3, z4, z5, z6⟩ := gsN_b hI A j j0 (by omega)
  have hb := nxN_b hI A _ ⟨z5, z6⟩ (X 6) (by omega) (Int.le_refl _)
  have hb2 : (gsN X F A j).2.2 ≤ nx X F A (gsN X F A j).2.2 ∧ nx X F A (gsN X F A j).2.2 ≤ 11 * X 5 := hb
  have eg : gsN X F A (j + 1) = gst X F A (gsN X F A j) := itr_s _ _ j0
  rw [eg] at ih
  have e1 : gst X F A (gsN X F A j) = ((gsN X F A j).1, (gsN X F A j).2.1, nx X F A (gsN X F A j).2.2) := by
    unfold gst
    rw [if_neg (by omega)]
  rw [e1] at ih
  exact ih (by omega) (show ¬ nx X F A (gsN X F A j).2.2 < 11 * X 5 by omega)
theorem m_gap (hI : SB X F) (hm : RB X F M G) (hl : ∀ s, 0 ≤ s → s < X 6 → G 6 s = wk F s) (A : Int) (hd : 2 ≤ d) : bE L xs d MX6_gap (0, [(0, bR 19), (1, bI A)], [], WD Y E M G O, a, b) (rI (WD Y E M G O) (gs X F A) a b) := by
  have hX := hI.1
  have hM := hm.1
  have key := for_up (P := fun k => ∀ ls : BL, (ls = [(0, bR 19), (1, bI A), (2, bI (gsN X F A k).2.2), (3, bI (gsN X F A k).1), (4, bI (gsN X F A k).2.1)] ∨ ∃ t u, ls = [(0, bR 19), (1, bI A), (2, bI (gsN X F A k).2.2), (3, bI (gsN X F A k).1), (4, bI (gsN X F A k).2.1), (5, bI t), (6, bI u)]) →
      bE L xs d MX6_gap (7, ls, [], WD Y E M G O, a, b) (rI (WD Y E M G O) (gs X F A) a b)) (X 6 + 1) ?_ ?_ 0 (by omega) (by omega)
  · exact go [7] [] rfl rfl (key _ (Or.inl rfl))
  · intro ls hls
    have hat : ¬ (gsN X F A (X 6 + 1)).2.2 < 11 * X 5 := fun h => by
      have := gsN_le hI A (X 6 + 1) (by omega) (Int.le_refl _) h
      omega
    have e := gsN_fix hI A (X 6 + 1) (by omega) (Int.le_refl _) hat
    rw [← e]
    rcases hls with rfl | ⟨t, u, rfl⟩
    · exact go [] [0] rfl (by omega) (rti rfl rfl rfl)
    · exact go [] [0] rfl (by omega) (rti rfl rfl rfl)
  · intro k k0 k1 ih ls hls
    by_cases hat : (gsN X F A k).2.2 < 11 * X 5
    · obtain ⟨z1, z2, z3, z4, z5, z6⟩ := gsN_b hI A k k0 (by omega)
      have e : gsN X F A (k + 1) = gst X F A (gsN X F A k) := itr_s _ _ k0
      rw [e] at ih
      unfold gst at ih
      generalize hq : gsN X F A k = q at ih hls hat z1 z2 z3 z4 z5 z6
      obtain ⟨st, wd, at_⟩ := q
      simp only at ih hls hat z1 z2 z3 z4 z5 z6
      have hb := nxN_b hI A at_ ⟨z5, z6⟩
      have inner := for_up (P := fun s => bE L xs d MX6_gap (30, [(0, bR 19), (1, bI A), (2, bI at_), (3, bI st), (4, bI wd), (5, bI (nxN X F A at_ s)), (6, bI s)], [], WD Y E M G O, a, b) (rI (WD Y E M G O) (gs X F A) a b)) (X 6) ?_ ?_ 0 (by omega) (by omega)
      · have e0 : nxN X F A at_ 0 = 11 * M 2 := by
          show 11 * X 5 = 11 * M 2
          omega
        rw [e0] at inner
        rcases hls with rfl | ⟨t, u, rfl⟩
        · exact go [30] [1] rfl (by omega) inner
        · exact go [30] [1] rfl (by omega) inner
      · have hb2 : at_ ≤ nx X F A at_ ∧ nx X F A at_ ≤ 11 * X 5 := hb (X 6) (by omega) (Int.le_refl _)
        show bE L xs d MX6_gap (30, [(0, bR 19), (1, bI A), (2, bI at_), (3, bI st), (4, bI wd), (5, bI (nx X F A at_)), (6, bI (X 6))], [], WD Y E M G O, a, b) (rI (WD Y E M G O) (gs X F A) a b)
        by_cases hlt : wd < nx X F A at_ - at_
        · rw [if_pos hlt] at ih
          exact go [7] [0, 1] rfl (by omega) (ih _ (Or.inr ⟨_, _, rfl⟩))
        · rw [if_neg hlt] at ih
          exact go [7] [0, 0] rfl (by omega) (ih _ (Or.inr ⟨_, _, rfl⟩))
      · intro s s0 s1 ih2
        have w := hl s s0 s1
        obtain ⟨g1, g2, g3, g4⟩ := hm.2.2.1 s s0 s1
        have en : nxN X F A at_ (s + 1) = if wk F s = 1 ∧ F 2 s = A ∧ at_ < F 4 s then min (nxN X F A at_ s) (F 4 s) else nxN X F A at_ s := itr_s _ _ s0
        have dc := fun (d : Nat) => m_depthOf (L := L) (xs := xs) (Y := Y) (E := E) (O := O) (d := d) (a := a) (b := b) hI hm s (pnt_s s0 s1)
        rw [mp_s (s := s) (by omega)] at dc
        have hbs := hb s s0 (by omega)
        rcases wk_01 F s with h | h
        · rw [en, if_neg (by omega)] at ih2
          exact go [30] [1, 0] rfl (by omega) ih2
        · by_cases hA : F 2 s = A
          · refine go [] [1, 1, 1] rfl (by omega) (bc rfl hd (dc _) (fun h => by cases h) ?_)
            by_cases hlt : at_ < F 4 s
            · rw [en, if_pos ⟨h, hA, hlt⟩] at ih2
              refine go [] [1] rfl (by omega) (bc rfl hd (dc _) (fun h => by cases h) ?_)
              by_cases hlt2 : F 4 s < nxN X F A at_ s
              · rw [show min (nxN X F A at_ s) (F 4 s) = F 4 s by omega] at ih2
                refine go [] [1] rfl (by omega) (bc rfl hd (dc _) (fun h => by cases h) ?_)
                exact go [30] [] rfl (by omega) ih2
              · rw [show min (nxN X F A at_ s) (F 4 s) = nxN X F A at_ s by omega] at ih2
                exact go [30] [0] rfl (by omega) ih2
            · rw [en, if_neg (fun q => hlt q.2.2)] at ih2
              exact go [30] [0] rfl (by omega) ih2
          · rw [en, if_neg (fun q => hA q.2.1)] at ih2
            exact go [30] [1, 1, 0] rfl (by omega) ih2
    · have e := gsN_fix hI A k k0 (by omega) hat
      rw [← e]
      rcases hls with rfl | ⟨t, u, rfl⟩
      · exact go [] [0] rfl (by omega) (rti rfl rfl rfl)
      · exact go [] [0] rfl (by omega) (rti rfl rfl rfl)
end C1
