/-! The reference's walk by largest gaps -/
section C2
variable {L : Nat} {xs : Nat → Int32} {X M : Nat → Int} {F G : Nat → Int → Int} {Y : Nat → Int} {E : Nat → Int → Int} {O : Int → Int} {d a b : Nat} {Q : BR → Prop} {row lf fr few co : Int → Int} {n : Int}
/-- the first and the last aisle that is used, of those below k -/
def FL (X : Nat → Int) (F : Nat → Int → Int) (k f l : Int) : Prop :=
  (f = -1 ∧ l = -1 ∧ ∀ j, 0 ≤ j → j < k → us X F j = 0) ∨ (0 ≤ f ∧ f ≤ l ∧ l < k ∧ us X F f = 1 ∧ us X F l = 1 ∧ (∀ j, 0 ≤ j → j < f → us X F j = 0) ∧ (∀ j, l < j → j < k → us X F j = 0))
/-- the front part, for aisles below k -/
def FR (X : Nat → Int) (F : Nat → Int → Int) (k : Int) (fr : Int → Int) : Prop := ∀ s, 0 ≤ s → s < X 6 → (fr s = 0 ∨ fr s = 1) ∧ (F 2 s < k → (fr s = 1 ↔ F 4 s ≤ gs X F (F 2 s)))
theorem K2_f (hI : SB X F) {f l : Int} (h : 0 ≤ f ∧ f ≤ l ∧ l < X 4 ∧ us X F f = 1 ∧ us X F l = 1 ∧ (∀ j, 0 ≤ j → j < f → us X F j = 0) ∧ (∀ j, l < j → j < X 4 → us X F j = 0)) (hfr : FR X F (X 4) fr) (s : Int) (s0 : 0 ≤ s) (s1 : s < X 6) (hs : wk F s = 1) :
    f ≤ F 2 s ∧ F 2 s ≤ l ∧ (F 2 s = f → K2 X F s = F 3 s) ∧ (f < F 2 s → F 2 s = l → K2 X F s = 269 - F 3 s) ∧ (f < F 2 s → F 2 s < l → fr s = 0 → K2 X F s = F 2 s * 30 + 29 - F 3 s) ∧ (f < F 2 s → F 2 s < l → fr s = 1 → K2 X F s = (16 - F 2 s) * 30 + F 3 s) := by
  obtain ⟨f0, fl, l1, uf, ul, nf, nl⟩ := h
  have hX := hI.1
  have b1 := hI.2.1 s s0 s1
  have u1 : us X F (F 2 s) = 1 := usN_1 s0 s1 ⟨hs, rfl⟩
  have q1 : f ≤ F 2 s := by
    by_cases c : F 2 s < f
    · have := nf (F 2 s) b1.1 c; omega
    · omega
  have q2 : F 2 s ≤ l := by
    by_cases c : l < F 2 s
    · have := nl (F 2 s) c b1.2.1; omega
    · omega
  have hn0 : F 2 s = f → nU X F (F 2 s) = 0 := by
    intro e
    rw [e]
    refine itr_ind (P := fun _ z => z = 0) (n := f) rfl ?_ f f0 (Int.le_refl _)
    intro i z i0 i1 hz
    rw [hz, nf i i0 i1]
    rfl
  have hn1 : f < F 2 s → ¬ nU X F (F 2 s) = 0 := by
    intro c
    have := cnt_pos (lf := us X F) (fun k _ _ => us_01 k (by omega)) uf f0 c
    have e : nU X F (F 2 s) = itr (fun q acc => acc + us X F q) 0 (F 2 s) := rfl
    omega
  have ha0 : F 2 s = l → uab X F (F 2 s) = 0 := by
    intro e
    rw [e]
    exact uab_0 (by omega) (fun k k0 k1 hk => by have := nl k k0 k1; omega)
  have ha1 : F 2 s < l → ¬ uab X F (F 2 s) = 0 := by
    intro c
    have := uab_1 b1.1 c l1 ul
    omega
  have hq := hfr s s0 s1
  have hq2 := hq.2 b1.2.1
  refine ⟨q1, q2, ?_, ?_, ?_, ?_⟩
  · intro e
    unfold K2 upk
    rw [if_pos (hn0 e)]
    omega
  · intro c e
    unfold K2 dnk
    rw [if_neg (hn1 c), if_pos (ha0 e)]
    omega
  · intro c c2 c3
    unfold K2 dnk
    rw [if_neg (hn1 c), if_neg (ha1 c2), if_pos (by
      have : ¬ F 4 s ≤ gs X F (F 2 s) := fun q => by have := hq2.2 q; omega
      omega)]
    omega
  · intro c c2 c3
    unfold K2 upk
    have := hq2.1 c3
    rw [if_neg (hn1 c), if_neg (ha1 c2), if_neg (by omega)]
theorem Cs_01 {A s : Int} : Cs F fr A 0 1 s ↔ F 2 s = A ∧ fr s = 0 := by
  unfold Cs
  constructor
  · rintro ⟨h1, h2 | h2⟩
    · omega
    · exact ⟨h1, h2.1⟩
  · rintro ⟨h1, h2⟩
    exact ⟨h1, Or.inr ⟨h2, rfl⟩⟩
theorem Cs_10 {A s : Int} : Cs F fr A 1 0 s ↔ F 2 s = A ∧ fr s = 1 := by
  unfold Cs
  constructor
  · rintro ⟨h1, h2 | h2⟩
    · exact ⟨h1, h2.1⟩
    · omega
  · rintro ⟨h1, h2⟩
    exact ⟨h1, Or.inl ⟨h2, rfl⟩⟩
/-- from the fronts on: the four turns of stops -/
theorem g_turns (hI : SB X F) (hm : RB X F M G) {f l : Int} (h : 0 ≤ f ∧ f ≤ l ∧ l < X 4 ∧ us X F f = 1 ∧ us X F l = 1 ∧ (∀ j, 0 ≤ j → j < f → us X F j = 0) ∧ (∀ j, l < j → j < X 4 → us X F j = 0)) (hfr : FR X F (X 4) fr) (hl : ∀ s, 0 ≤ s → s < X 6 → lf s = wk F s) (t u : Int) (hd : 3 ≤ d) :
    bE L xs d MX6_gaps (125, [(0, bR 19), (1, bI f), (2, bI l), (3, bI (X 4)), (4, bI t), (5, bI u)], [], WD Y E (PM M 0) (PG G row lf fr few co) O, a, b)
      (fun r => ∃ n' row' lf' fr', r = (WD Y E (PM M n') (PG G row' lf' fr' few co) O, .inl none, a, b) ∧ WLs (K2 X F) X F n' row') := by
  have hX := hI.1
  have hM := hm.1
  have kf := K2_f hI h hfr
  obtain ⟨f0, fl, l1, _⟩ := h
  have hb : ∀ s, 0 ≤ s → s < X 6 → 0 ≤ F 3 s ∧ F 3 s < 30 ∧ 0 ≤ F 2 s ∧ F 2 s < 8 := fun s s0 s1 => by
    have := hI.2.1 s s0 s1; omega
  have hf2 : ∀ s, 0 ≤ s → s < X 6 → fr s = 0 ∨ fr s = 1 := fun s s0 s1 => (hfr s s0 s1).1
  have li0 : LI (K2 X F) X F 0 row lf := LI_0 (by omega) hl
  have hcs : ∀ A s, 0 ≤ s → s < X 6 → (Cs F fr A 1 1 s ↔ F 2 s = A) := fun A s s0 s1 => Cs_11 (hf2 s s0 s1)
  refine go [] [] rfl rfl (bcall rfl (by omega) (m_addAisle (K2 X F) 0 f 1 1 1 hI hm (Or.inr rfl) hf2 ⟨Or.inr rfl, Or.inr rfl⟩ ?_ li0 ?_ (by omega)) ?_)
  · intro s s0 s1 hs hc
    rw [hcs f s s0 s1] at hc
    rw [hl s s0 s1] at hs
    have k := kf s s0 s1 hs
    exact ⟨fun _ => by have := k.2.2.1 hc; omega, fun q => by omega⟩
  · intro s t s0 s1 t0 t1 hs hc ht hct
    rw [hcs f s s0 s1] at hc
    rw [hcs f t t0 t1] at hct
    rw [hl s s0 s1] at hs
    rw [hl t t0 t1] at ht
    obtain ⟨p1, p2, p3, p4, p5, p6⟩ := kf s s0 s1 hs
    obtain ⟨r1, r2, r3, r4, r5, r6⟩ := kf t t0 t1 ht
    have b1 := hb s s0 s1
    have b2 := hb t t0 t1
    have := hf2 t t0 t1
    omega
  rintro r ⟨n1, row1, lf1, rfl, li1, g1⟩
  refine ⟨_, _, _, _, rfl, (fun h => by cases h), ?_⟩
  have turn2 := for_up (P := fun k => f + 1 ≤ k → ∀ (n : Int) (row lf : Int → Int), LI (K2 X F) X F n row lf → (∀ s, 0 ≤ s → s < X 6 → (lf s = 1 ↔ wk F s = 1 ∧ F 2 s ≠ f ∧ ¬ (F 2 s < k ∧ fr s = 0 ∧ F 2 s < l))) →
      bE L xs d MX6_gaps (137, [(0, bR 19), (1, bI f), (2, bI l), (3, bI k), (4, bI t), (5, bI u)], [], WD Y E (PM M n) (PG G row lf fr few co) O, a, b)
      (fun r => ∃ n' row' lf' fr', r = (WD Y E (PM M n') (PG G row' lf' fr' few co) O, .inl none, a, b) ∧ WLs (K2 X F) X F n' row')) (max l (f + 1)) ?_ ?_ (f + 1) (by omega) (by omega) (Int.le_refl _) n1 row1 lf1 li1 ?_
  · exact go [137] [] rfl ⟨(show -2147483648 ≤ f + 1 ∧ f + 1 ≤ 2147483647 by omega), rfl⟩ turn2
  · intro _ n row lf li g
    refine go [] [0] rfl ⟨(show l ≤ max l (f + 1) by omega), rfl⟩ (bcall rfl (by omega) (m_addAisle (K2 X F) 269 l 0 1 1 hI hm (Or.inl rfl) hf2 ⟨Or.inr rfl, Or.inr rfl⟩ ?_ li ?_ (by omega)) ?_)
    · intro s s0 s1 hs hc
      rw [hcs l s s0 s1] at hc
      rw [g s s0 s1] at hs
      obtain ⟨p1, p2, p3, p4, p5, p6⟩ := kf s s0 s1 hs.1
      exact ⟨fun q => by omega, fun _ => p4 (by omega) hc⟩
    · intro s t s0 s1 t0 t1 hs hc ht hct
      rw [hcs l s s0 s1] at hc
      rw [hcs l t t0 t1] at hct
      rw [g s s0 s1] at hs
      rw [g t t0 t1] at ht
      obtain ⟨p1, p2, p3, p4, p5, p6⟩ := kf s s0 s1 hs.1
      obtain ⟨r1, r2, r3, r4, r5, r6⟩ := kf t t0 t1 ht.1
      have b1 := hb s s0 s1
      have b2 := hb t t0 t1
      have := hf2 t t0 t1
      omega
    rintro r ⟨n2, row2, lf2, rfl, li2, g2⟩
    refine ⟨_, _, _, _, rfl, (fun h => by cases h), ?_⟩
    have turn4 := for_down (P := fun k => k < l → ∀ (n : Int) (row lf : Int → Int), LI (K2 X F) X F n row lf → (∀ s, 0 ≤ s → s < X 6 → (lf s = 1 ↔ wk F s = 1 ∧ f < F 2 s ∧ F 2 s ≤ k ∧ fr s = 1)) →
      bE L xs d MX6_gaps (168, [(0, bR 19), (1, bI f), (2, bI l), (3, bI k), (4, bI t), (5, bI u)], [], WD Y E (PM M n) (PG G row lf fr few co) O, a, b)
      (fun r => ∃ n' row' lf' fr', r = (WD Y E (PM M n') (PG G row' lf' fr' few co) O, .inl none, a, b) ∧ WLs (K2 X F) X F n' row')) ?_ ?_ (l - 1) (by omega) (by omega) n2 row2 lf2 li2 ?_
    · exact go [168] [] rfl ⟨(show -2147483648 ≤ l - 1 ∧ l - 1 ≤ 2147483647 by omega), rfl⟩ turn4
    · intro _ n row lf li g
      refine go [] [0] rfl (show (-1 : Int) ≤ f by omega) (rtv rfl rfl ⟨n, row, lf, fr, rfl, LI_end (by omega) li (fun s s0 s1 => ?_)⟩)
      rcases li.2.1 s s0 s1 with q | q
      · exact q
      · rw [g s s0 s1] at q
        omega
    · intro k k0 ih kl n row lf li g
      by_cases hk : k ≤ f
      · refine go [] [0] rfl hk (rtv rfl rfl ⟨n, row, lf, fr, rfl, LI_end (by omega) li (fun s s0 s1 => ?_)⟩)
        rcases li.2.1 s s0 s1 with q | q
        · exact q
        · rw [g s s0 s1] at q
          omega
      · refine go [] [1] rfl ⟨(show f < k by omega), rfl⟩ (bcall rfl (by omega) (m_addAisle (K2 X F) ((16 - k) * 30) k 1 1 0 hI hm (Or.inr rfl) hf2 ⟨Or.inr rfl, Or.inl rfl⟩ ?_ li ?_ (by omega)) ?_)
        · intro s s0 s1 hs hc
          rw [Cs_10] at hc
          rw [g s s0 s1] at hs
          obtain ⟨p1, p2, p3, p4, p5, p6⟩ := kf s s0 s1 hs.1
          refine ⟨fun _ => ?_, fun q => by omega⟩
          rw [← hc.1]
          exact p6 (by omega) (by omega) hc.2
        · intro s t s0 s1 t0 t1 hs hc ht hct
          rw [Cs_10] at hc
          rw [Cs_10] at hct
          rw [g s s0 s1] at hs
          rw [g t t0 t1] at ht
          obtain ⟨p1, p2, p3, p4, p5, p6⟩ := kf s s0 s1 hs.1
          obtain ⟨r1, r2, r3, r4, r5, r6⟩ := kf t t0 t1 ht.1
          have b1 := hb s s0 s1
          have b2 := hb t t0 t1
          omega
        rintro r ⟨n3, row3, lf3, rfl, li3, g3⟩
        refine ⟨_, _, _, _, rfl, (fun h => by cases h), ?_⟩
        refine go [168] [] rfl ⟨(show -2147483648 ≤ k - 1 ∧ k - 1 ≤ 2147483647 by omega), rfl⟩ (ih (by omega) n3 row3 lf3 li3 (fun s s0 s1 => ?_))
        rw [g3 s s0 s1, g s s0 s1, Cs_10]
        omega
    · intro s s0 s1
      rw [g2 s s0 s1, g s s0 s1, hcs l s s0 s1]
      have := hf2 s s0 s1
      constructor
      · rintro ⟨⟨q1, q2, q3⟩, q4⟩
        obtain ⟨p1, p2, p3, p4, p5, p6⟩ := kf s s0 s1 q1
        omega
      · rintro ⟨q1, q2, q3, q4⟩
        omega
  · intro k k0 k1 ih hk n row lf li g
    refine go [] [1] rfl ⟨(show k < l by omega), rfl⟩ (bcall rfl (by omega) (m_addAisle (K2 X F) (k * 30 + 29) k 0 0 1 hI hm (Or.inl rfl) hf2 ⟨Or.inl rfl, Or.inr rfl⟩ ?_ li ?_ (by omega)) ?_)
    · intro s s0 s1 hs hc
      rw [Cs_01] at hc
      rw [g s s0 s1] at hs
      obtain ⟨p1, p2, p3, p4, p5, p6⟩ := kf s s0 s1 hs.1
      refine ⟨fun q => by omega, fun _ => ?_⟩
      rw [← hc.1]
      exact p5 (by omega) (by omega) hc.2
    · intro s t s0 s1 t0 t1 hs hc ht hct
      rw [Cs_01] at hc
      rw [Cs_01] at hct
      rw [g s s0 s1] at hs
      rw [g t t0 t1] at ht
      obtain ⟨p1, p2, p3, p4, p5, p6⟩ := kf s s0 s1 hs.1
      obtain ⟨r1, r2, r3, r4, r5, r6⟩ := kf t t0 t1 ht.1
      have b1 := hb s s0 s1
      have b2 := hb t t0 t1
      have := hf2 t t0 t1
      omega
    rintro r ⟨n3, row3, lf3, rfl, li3, g3⟩
    refine ⟨_, _, _, _, rfl, (fun h => by cases h), ?_⟩
    refine go [137] [] rfl ⟨(show -2147483648 ≤ k + 1 ∧ k + 1 ≤ 2147483647 by omega), rfl⟩ (ih (by omega) n3 row3 lf3 li3 (fun s s0 s1 => ?_))
    rw [g3 s s0 s1, g s s0 s1, Cs_01]
    omega
  · intro s s0 s1
    rw [g1 s s0 s1, hl s s0 s1, hcs f s s0 s1]
    constructor
    · rintro ⟨q1, q2⟩
      obtain ⟨p1, p2, p3, p4, p5, p6⟩ := kf s s0 s1 q1
      omega
    · rintro ⟨q1, q2, q3⟩
      omega
end C2
section C3
variable {L : Nat} {xs : Nat → Int32} {X M : Nat → Int} {F G : Nat → Int → Int} {Y : Nat → Int} {E : Nat → Int → Int} {O : Int → Int} {d a b : Nat} {Q : BR → Prop} {row lf fr few co : Int → Int} {n : Int}
theorem m_gaps (hI : SB X F) (hm : RB X F M G) (hfr : ∀ s, 0 ≤ s → s < X 6 → fr s = 0 ∨ fr s = 1) (hl : ∀ s, 0 ≤ s → s < X 6 → lf s = wk F s) (hd : 3 ≤ d) :
    bE L xs d MX6_gaps (0, [(0, bR 19)], [], WD Y E (PM M 0) (PG G row lf fr few co) O, a, b)
      (fun r => ∃ n' row' lf' fr', r = (WD Y E (PM M n') (PG G row' lf' fr' few co) O, .inl none, a, b) ∧ WLs (K2 X F) X F n' row') := by
  have hX := hI.1
  have hM := hm.1
  have key := for_up (P := fun k => ∀ f l : Int, FL X F k f l → bE L xs d MX6_gaps (6, [(0, bR 19), (1, bI f), (2, bI l), (3, bI k)], [], WD Y E (PM M 0) (PG G row lf fr few co) O, a, b)
      (fun r => ∃ n' row' lf' fr', r = (WD Y E (PM M n') (PG G row' lf' fr' few co) O, .inl none, a, b) ∧ WLs (K2 X F) X F n' row')) (X 4) ?_ ?_ 0 (by omega) (by omega) (-1) (-1) (Or.inl ⟨rfl, rfl, fun j j0 j1 => by omega⟩)
  · exact go [6] [] rfl rfl key
  · intro f l hfl
    rcases hfl with ⟨e1, e2, hno⟩ | h
    · subst e1 e2
      refine go [] [0, 1] rfl ⟨(show M 1 ≤ X 4 by omega), rfl⟩ (rtv rfl rfl ⟨0, row, lf, fr, rfl, LI_end (by omega) (LI_0 (by omega) hl) (fun s s0 s1 => ?_)⟩)
      have hs := hI.2.1 s s0 s1
      rw [hl s s0 s1]
      rcases wk_01 F s with q | q
      · exact q
      · have : us X F (F 2 s) = 1 := usN_1 s0 s1 ⟨q, rfl⟩
        have := hno (F 2 s) hs.1 hs.2.1
        omega
    · have fronts := for_up (P := fun k => ∀ (fr : Int → Int) (ls : BL), FR X F k fr → (ls = [(0, bR 19), (1, bI f), (2, bI l), (3, bI k)] ∧ k = 0 ∨ ∃ t u, ls = [(0, bR 19), (1, bI f), (2, bI l), (3, bI k), (4, bI t), (5, bI u)]) →
        bE L xs d MX6_gaps (52, ls, [], WD Y E (PM M 0) (PG G row lf fr few co) O, a, b)
        (fun r => ∃ n' row' lf' fr', r = (WD Y E (PM M n') (PG G row' lf' fr' few co) O, .inl none, a, b) ∧ WLs (K2 X F) X F n' row')) (X 4) ?_ ?_ 0 (by omega) (by omega) fr _ (fun s s0 s1 => ⟨hfr s s0 s1, fun q => by have := hI.2.1 s s0 s1; omega⟩) (Or.inl ⟨rfl, rfl⟩)
      · exact go [52] [0, 0] rfl ⟨(show M 1 ≤ X 4 by omega), (show ¬ f = -1 by omega), rfl⟩ fronts
      · intro fr ls hF hls
        rcases hls with ⟨_, e0⟩ | ⟨t, u, rfl⟩
        · omega
        · exact go [125] [0] rfl (show M 1 ≤ X 4 by omega) (g_turns hI hm h hF hl t u hd)
      · intro k k0 k1 ih fr ls hF hls
        have gc := fun (fr : Int → Int) => m_gap (L := L) (xs := xs) (Y := Y) (E := E) (O := O) (d := d - 1) (a := a) (b := b) (M := PM M 0) (G := PG G row lf fr few co) hI hm hl k (by omega)
        have inner := for_up (P := fun s => ∀ fr : Int → Int, FR X F k fr → (∀ t, 0 ≤ t → t < s → F 2 t = k → (fr t = 1 ↔ F 4 t ≤ gs X F k)) →
          bE L xs d MX6_gaps (70, [(0, bR 19), (1, bI f), (2, bI l), (3, bI k), (4, bI (gs X F k)), (5, bI s)], [], WD Y E (PM M 0) (PG G row lf fr few co) O, a, b)
          (fun r => ∃ n' row' lf' fr', r = (WD Y E (PM M n') (PG G row' lf' fr' few co) O, .inl none, a, b) ∧ WLs (K2 X F) X F n' row')) (X 6) ?_ ?_ 0 (by omega) (by omega) fr hF (fun t t0 t1 => by omega)
        · rcases hls with ⟨rfl, _⟩ | ⟨t, u, rfl⟩
          · refine go [] [1] rfl ⟨(show k < M 1 by omega), rfl⟩ (bc rfl (by omega) (gc fr) (fun h => by cases h) ?_)
            exact go [70] [] rfl rfl inner
          · refine go [] [1] rfl ⟨(show k < M 1 by omega), rfl⟩ (bc rfl (by omega) (gc fr) (fun h => by cases h) ?_)
            exact go [70] [] rfl rfl inner
        · intro fr hF hk
          refine go [52] [0] rfl ⟨(show M 6 ≤ X 6 by omega), (show -2147483648 ≤ k + 1 ∧ k + 1 ≤ 2147483647 by omega), rfl⟩ (ih fr _ (fun s s0 s1 => ⟨(hF s s0 s1).1, fun q => ?_⟩) (Or.inr ⟨_, _, rfl⟩))
          by_cases c : F 2 s = k
          · rw [c]; exact hk s s0 s1 c
          · exact (hF s s0 s1).2 (by omega)
        · intro s s0 s1 ih2 fr hF hk
          have hx : 0 ≤ s ∧ s < ((10 : Nat) : Int) := by omega
          have hs6 : s < M 6 := by omega
          have hr1 : -2147483648 ≤ s + 1 ∧ s + 1 ≤ 2147483647 := by omega
          obtain ⟨g1, g2, g3, g4⟩ := hm.2.2.1 s s0 s1
          by_cases c : F 2 s = k
          · have dc := m_depthOf (L := L) (xs := xs) (Y := Y) (E := E) (O := O) (d := d - 1) (a := a) (b := b) (M := PM M 0) (G := PG G row lf fr few co) hI hm s (pnt_s s0 s1)
            rw [mp_s (s := s) (by omega)] at dc
            refine go [] [1, 1] rfl ⟨hs6, hx, (show G 1 s = k by omega), rfl⟩ (bc rfl (by omega) dc (fun h => by cases h) ?_)
            have upd : ∀ v : Int, (v = 0 ∨ v = 1) → (v = 1 ↔ F 4 s ≤ gs X F k) → FR X F k (up fr s v) ∧ (∀ t, 0 ≤ t → t < s + 1 → F 2 t = k → (up fr s v t = 1 ↔ F 4 t ≤ gs X F k)) := by
              intro v hv hv2
              constructor
              · intro t t0 t1
                by_cases e : t = s
                · subst e
                  rw [up_eq]
                  exact ⟨hv, fun q => by omega⟩
                · rw [up_ne _ e]; exact hF t t0 t1
              · intro t t0 t1 ht
                by_cases e : t = s
                · subst e
                  rw [up_eq]
                  exact hv2
                · rw [up_ne _ e]; exact hk t t0 (by omega) ht
            by_cases c2 : F 4 s ≤ gs X F k
            · obtain ⟨u1, u2⟩ := upd 1 (Or.inr rfl) ⟨fun _ => c2, fun _ => rfl⟩
              exact go [70] [1] rfl ⟨c2, (show 0 ≤ s ∧ s < ((10 : Nat) : Int) ∧ (0 : Int) ≤ 1 ∧ (1 : Int) ≤ 1 by omega), hr1, rfl⟩ (ih2 (up fr s 1) u1 u2)
            · obtain ⟨u1, u2⟩ := upd 0 (Or.inl rfl) ⟨fun q => by omega, fun q => absurd q c2⟩
              exact go [70] [0] rfl ⟨(show gs X F k < F 4 s by omega), (show 0 ≤ s ∧ s < ((10 : Nat) : Int) ∧ (0 : Int) ≤ 0 ∧ (0 : Int) ≤ 1 by omega), hr1, rfl⟩ (ih2 (up fr s 0) u1 u2)
          · refine go [70] [1, 0] rfl ⟨hs6, hx, (show ¬ G 1 s = k by omega), hr1, rfl⟩ (ih2 fr hF (fun t t0 t1 ht => ?_))
            by_cases e : t = s
            · subst e; exact absurd ht c
            · exact hk t t0 (by omega) ht
  · intro k k0 k1 ih f l hfl
    have hr1 : -2147483648 ≤ k + 1 ∧ k + 1 ≤ 2147483647 := by omega
    have kc := m_hasLeft (L := L) (xs := xs) (Y := Y) (E := E) (O := O) (d := d - 1) (a := a) (b := b) (M := PM M 0) (G := PG G row lf fr few co) hI hm k (fun s s0 s1 _ => hl s s0 s1)
    refine go [] [1] rfl ⟨(show k < M 1 by omega), rfl⟩ (bc rfl (by omega) kc (fun h => by cases h) ?_)
    rcases us_01 (X := X) (F := F) k (by omega) with h | h
    · rw [h]
      refine go [6] [1] rfl ⟨rfl, hr1, rfl⟩ (ih f l ?_)
      rcases hfl with ⟨e1, e2, hno⟩ | ⟨f0, fl, l1, uf, ul, nf, nl⟩
      · refine Or.inl ⟨e1, e2, fun j j0 j1 => ?_⟩
        by_cases e : j = k
        · rw [e]; exact h
        · exact hno j j0 (by omega)
      · refine Or.inr ⟨f0, fl, by omega, uf, ul, nf, fun j j0 j1 => ?_⟩
        by_cases e : j = k
        · rw [e]; exact h
        · exact nl j j0 (by omega)
    · rw [h]
      rcases hfl with ⟨e1, e2, hno⟩ | ⟨f0, fl, l1, uf, ul, nf, nl⟩
      · subst e1 e2
        refine go [6] [0, 1] rfl ⟨(by decide : ¬ (1 : Int) = 0), rfl, hr1, rfl⟩ (ih k k (Or.inr ⟨k0, Int.le_refl _, by omega, h, h, hno, fun j j0 j1 => by omega⟩))
      · refine go [6] [0, 0] rfl ⟨(by decide : ¬ (1 : Int) = 0), (show ¬ f = -1 by omega), hr1, rfl⟩ (ih f k (Or.inr ⟨f0, by omega, by omega, uf, h, nf, fun j j0 j1 => by omega⟩))
end C3
