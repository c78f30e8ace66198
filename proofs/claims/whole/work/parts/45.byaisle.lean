/-! The reference's walks by aisles: through, there and back -/
section B1
variable {L : Nat} {xs : Nat → Int32} {X M : Nat → Int} {F G : Nat → Int → Int} {Y : Nat → Int} {E : Nat → Int → Int} {O : Int → Int} {d a b : Nat} {Q : BR → Prop} {row lf fr few co : Int → Int} {n : Int}
theorem m_hasLeft (hI : SB X F) (hm : RB X F M G) (A : Int) (hl : ∀ s, 0 ≤ s → s < X 6 → F 2 s = A → G 6 s = wk F s) : bE L xs d MX6_hasLeft (0, [(0, bR 19), (1, bI A)], [], WD Y E M G O, a, b) (rI (WD Y E M G O) (us X F A) a b) := by
  have hX := hI.1
  have hM := hm.1
  refine go [2] [] rfl rfl (for_up (P := fun s => (∀ t, 0 ≤ t → t < s → ¬ (wk F t = 1 ∧ F 2 t = A)) → bE L xs d MX6_hasLeft (2, [(0, bR 19), (1, bI A), (2, bI s)], [], WD Y E M G O, a, b) (rI (WD Y E M G O) (us X F A) a b)) (X 6) ?_ ?_ 0 (by omega) (by omega) (fun t h0 h1 => by omega))
  · intro hno
    have e : us X F A = 0 := usN_0 (by omega) hno
    rw [e]
    exact go [] [0] rfl (by omega) (rtb rfl rfl (Or.inl rfl) rfl)
  · intro s s0 s1 ih hno
    obtain ⟨g1, g2, g3, g4⟩ := hm.2.2.1 s s0 s1
    have nxt : ¬ (wk F s = 1 ∧ F 2 s = A) → bE L xs d MX6_hasLeft (2, [(0, bR 19), (1, bI A), (2, bI (s + 1))], [], WD Y E M G O, a, b) (rI (WD Y E M G O) (us X F A) a b) := fun hn => ih (fun t t0 t1 => by
      by_cases ht : t = s
      · subst ht; exact hn
      · exact hno t t0 (by omega))
    by_cases hA : F 2 s = A
    · have w := hl s s0 s1 hA
      rcases wk_01 F s with h | h
      · exact go [2] [1, 0] rfl (by omega) (nxt (fun q => by omega))
      · have e : us X F A = 1 := usN_1 s0 s1 ⟨h, hA⟩
        rw [e]
        exact go [] [1, 1, 1] rfl (by omega) (rtb rfl rfl (Or.inr rfl) rfl)
    · by_cases hg : G 6 s = 0
      · exact go [2] [1, 0] rfl (by omega) (nxt (fun q => hA q.2))
      · exact go [2] [1, 1, 0] rfl (by omega) (nxt (fun q => hA q.2))
theorem K0_b (hI : SB X F) (s : Int) (s0 : 0 ≤ s) (s1 : s < X 6) : F 2 s * 30 ≤ K0 X F s ∧ K0 X F s ≤ F 2 s * 30 + 29 := by
  have hX := hI.1
  have hs := hI.2.1 s s0 s1
  unfold K0 upk dnk
  split <;> omega
/-- left are the stops of aisles from k on -/
def LA (X : Nat → Int) (F : Nat → Int → Int) (k : Int) (lf : Int → Int) : Prop := ∀ s, 0 ≤ s → s < X 6 → (lf s = 1 ↔ wk F s = 1 ∧ k ≤ F 2 s)
theorem LA_end (hI : SB X F) {K : Int → Int} (h : LI K X F n row lf) (hl : LA X F (X 4) lf) : WLs K X F n row := by
  have hX := hI.1
  refine LI_end (by omega) h (fun s s0 s1 => ?_)
  have hs := hI.2.1 s s0 s1
  rcases h.2.1 s s0 s1 with q | q
  · exact q
  · have := (hl s s0 s1).1 q
    omega
theorem LA_0 (hI : SB X F) (hl : ∀ s, 0 ≤ s → s < X 6 → lf s = wk F s) : LA X F 0 lf := by
  intro s s0 s1
  have hs := hI.2.1 s s0 s1
  rw [hl s s0 s1]
  exact ⟨fun h => ⟨h, hs.1⟩, fun h => h.1⟩
theorem Cs_11 {A s : Int} (hf : fr s = 0 ∨ fr s = 1) : Cs F fr A 1 1 s ↔ F 2 s = A := by
  unfold Cs
  constructor
  · exact fun h => h.1
  · intro h
    rcases hf with q | q
    · exact ⟨h, Or.inr ⟨q, rfl⟩⟩
    · exact ⟨h, Or.inl ⟨q, rfl⟩⟩
theorem LA_s {lf' : Int → Int} {k : Int} (hfr : ∀ s, 0 ≤ s → s < X 6 → fr s = 0 ∨ fr s = 1) (hl : LA X F k lf) (h : ∀ s, 0 ≤ s → s < X 6 → (lf' s = 1 ↔ lf s = 1 ∧ ¬ Cs F fr k 1 1 s)) : LA X F (k + 1) lf' := by
  intro s s0 s1
  rw [h s s0 s1, hl s s0 s1, Cs_11 (hfr s s0 s1)]
  constructor
  · rintro ⟨⟨q1, q2⟩, q3⟩
    exact ⟨q1, by omega⟩
  · rintro ⟨q1, q2⟩
    exact ⟨⟨q1, by omega⟩, by omega⟩
theorem m_through (hI : SB X F) (hm : RB X F M G) (hfr : ∀ s, 0 ≤ s → s < X 6 → fr s = 0 ∨ fr s = 1) (hl : ∀ s, 0 ≤ s → s < X 6 → lf s = wk F s) (hd : 3 ≤ d) :
    bE L xs d MX6_through (0, [(0, bR 19)], [], WD Y E (PM M 0) (PG G row lf fr few co) O, a, b)
      (fun r => ∃ n' row' lf', r = (WD Y E (PM M n') (PG G row' lf' fr few co) O, .inl none, a, b) ∧ WLs (K0 X F) X F n' row') := by
  have hX := hI.1
  have hM := hm.1
  have key := for_up (P := fun k => ∀ (n upw : Int) (row lf : Int → Int), LI (K0 X F) X F n row lf → LA X F k lf → (upw = 0 ∨ upw = 1) → (upw = 1 ↔ nU X F k % 2 = 0) →
      bE L xs d MX6_through (4, [(0, bR 19), (1, bI upw), (2, bI k)], [], WD Y E (PM M n) (PG G row lf fr few co) O, a, b)
      (fun r => ∃ n' row' lf', r = (WD Y E (PM M n') (PG G row' lf' fr few co) O, .inl none, a, b) ∧ WLs (K0 X F) X F n' row')) (X 4) ?_ ?_ 0 (by omega) (by omega)
  · refine go [4] [] rfl rfl (key 0 1 row lf (LI_0 (by omega) hl) (LA_0 hI hl) (Or.inr rfl) ⟨fun _ => rfl, fun _ => rfl⟩)
  · intro n upw row lf h1 h2 h3 h4
    exact go [] [0] rfl (show M 1 ≤ X 4 by omega) (rtv rfl rfl ⟨n, row, lf, rfl, LA_end hI h1 h2⟩)
  · intro k k0 k1 ih n upw row lf h1 h2 h3 h4
    have hr1 : -2147483648 ≤ k + 1 ∧ k + 1 ≤ 2147483647 := by omega
    have e : nU X F (k + 1) = nU X F k + us X F k := itr_s _ _ k0
    have kc : bE L xs (d - 1) MX6_hasLeft (0, [(0, bR 19), (1, bI k)], [], WD Y E (PM M n) (PG G row lf fr few co) O, a, b) (rI (WD Y E (PM M n) (PG G row lf fr few co) O) (us X F k) a b) :=
      m_hasLeft (M := PM M n) (G := PG G row lf fr few co) hI hm k (fun s s0 s1 hs => by
        have q := h2 s s0 s1
        show lf s = wk F s
        rcases h1.2.1 s s0 s1 with q1 | q1 <;> rcases wk_01 F s with q' | q'
        · omega
        · exact absurd (q.2 ⟨q', by omega⟩) (by omega)
        · exact absurd (q.1 q1).1 (by omega)
        · omega)
    refine go [] [1] rfl ⟨(show k < M 1 by omega), rfl⟩ (bc rfl (by omega) kc (fun h => by cases h) ?_)
    rcases us_01 (X := X) (F := F) k (by omega) with h | h
    · rw [h]
      refine go [4] [1] rfl ⟨rfl, hr1, rfl⟩ (ih n upw row lf h1 (fun s s0 s1 => ?_) h3 (by rw [e, h, Int.add_zero]; exact h4))
      rw [h2 s s0 s1]
      constructor
      · rintro ⟨q1, q2⟩
        refine ⟨q1, ?_⟩
        by_cases hk : F 2 s = k
        · have : us X F k = 1 := usN_1 s0 s1 ⟨q1, hk⟩
          omega
        · omega
      · rintro ⟨q1, q2⟩
        exact ⟨q1, by omega⟩
    · rw [h]
      refine go [] [0] rfl ⟨(by decide : ¬ (1 : Int) = 0), rfl⟩ (bcall rfl (by omega) (m_addAisle (K0 X F) (if upw = 1 then k * 30 else k * 30 + 29) k upw 1 1 hI hm h3 hfr ⟨Or.inr rfl, Or.inr rfl⟩ ?_ h1 ?_ (by omega)) ?_)
      · intro s s0 s1 hs hc
        rw [Cs_11 (hfr s s0 s1)] at hc
        unfold K0 upk dnk
        rw [hc]
        constructor
        · intro hu
          rw [if_pos (h4.1 hu), if_pos hu]
        · intro hu
          rw [if_neg (fun q => by have := h4.2 q; omega), if_neg (by omega)]
          omega
      · intro s t s0 s1 t0 t1 hs hcs ht hct
        rw [Cs_11 (hfr s s0 s1)] at hcs
        rw [Cs_11 (hfr t t0 t1)] at hct
        have b1 := K0_b hI s s0 s1
        have b2 := K0_b hI t t0 t1
        have := ((h2 t t0 t1).1 ht).2
        omega
      · rintro r ⟨n', row', lf', rfl, g1, g2⟩
        refine ⟨_, _, _, _, rfl, (fun h => by cases h), ?_⟩
        have la := LA_s hfr h2 g2
        rcases h3 with h3 | h3
        · subst h3
          exact go [4] [1] rfl ⟨rfl, hr1, rfl⟩ (ih n' 1 row' lf' g1 la (Or.inr rfl) ⟨fun _ => by omega, fun _ => rfl⟩)
        · subst h3
          exact go [4] [0] rfl ⟨(by decide : ¬ (1 : Int) = 0), hr1, rfl⟩ (ih n' 0 row' lf' g1 la (Or.inl rfl) ⟨fun q => by omega, fun q => by omega⟩)
/-- there and back, within walk -/
theorem w_back (hI : SB X F) (hm : RB X F M G) (hfr : ∀ s, 0 ≤ s → s < X 6 → fr s = 0 ∨ fr s = 1) (hl : ∀ s, 0 ≤ s → s < X 6 → lf s = wk F s) (hd : 3 ≤ d) (m : Int)
    (cont : ∀ (n' : Int) (row' lf' : Int → Int), WLs (K1 F) X F n' row' → bE L xs d MX6_walk (126, [(0, bR 19), (1, bI 1), (2, bI m), (3, bI (X 4))], [], WD Y E (PM M n') (PG G row' lf' fr few co) O, a, b) Q) :
    bE L xs d MX6_walk (104, [(0, bR 19), (1, bI 1), (2, bI m), (3, bI 0)], [], WD Y E (PM M 0) (PG G row lf fr few co) O, a, b) Q := by
  have hX := hI.1
  have hM := hm.1
  have key := for_up (P := fun k => ∀ (n : Int) (row lf : Int → Int), LI (K1 F) X F n row lf → LA X F k lf →
      bE L xs d MX6_walk (104, [(0, bR 19), (1, bI 1), (2, bI m), (3, bI k)], [], WD Y E (PM M n) (PG G row lf fr few co) O, a, b) Q) (X 4) ?_ ?_ 0 (by omega) (by omega)
  · refine key 0 row lf (LI_0 (by omega) hl) (LA_0 hI hl)
  · intro n row lf h1 h2
    exact go [126] [0] rfl (show M 1 ≤ X 4 by omega) (cont n row lf (LA_end hI h1 h2))
  · intro k k0 k1 ih n row lf h1 h2
    have hr1 : -2147483648 ≤ k + 1 ∧ k + 1 ≤ 2147483647 := by omega
    refine go [] [1] rfl ⟨(show k < M 1 by omega), rfl⟩ (bcall rfl (by omega) (m_addAisle (K1 F) (k * 30) k 1 1 1 hI hm (Or.inr rfl) hfr ⟨Or.inr rfl, Or.inr rfl⟩ ?_ h1 ?_ (by omega)) ?_)
    · intro s s0 s1 hs hc
      rw [Cs_11 (hfr s s0 s1)] at hc
      unfold K1 upk
      rw [hc]
      exact ⟨fun _ => rfl, fun q => by omega⟩
    · intro s t s0 s1 t0 t1 hs hcs ht hct
      rw [Cs_11 (hfr s s0 s1)] at hcs
      rw [Cs_11 (hfr t t0 t1)] at hct
      have b1 := hI.2.1 s s0 s1
      have b2 := hI.2.1 t t0 t1
      have := ((h2 t t0 t1).1 ht).2
      unfold K1 upk
      omega
    · rintro r ⟨n', row', lf', rfl, g1, g2⟩
      refine ⟨_, _, _, _, rfl, (fun h => by cases h), ?_⟩
      exact go [104] [] rfl ⟨hr1, rfl⟩ (ih n' row' lf' g1 (LA_s hfr h2 g2))
end B1
