/-! The reference adds an aisle's stops -/
def PM (M : Nat → Int) (n : Int) : Nat → Int := un (un M 0 0) 7 n
def PG (G : Nat → Int → Int) (row lf fr few co : Int → Int) : Nat → Int → Int := un (un (un (un (un G 5 row) 6 lf) 7 fr) 8 few) 9 co
section A1
variable {L : Nat} {xs : Nat → Int32} {X M : Nat → Int} {F G : Nat → Int → Int} {Y : Nat → Int} {E : Nat → Int → Int} {O : Int → Int} {d a b : Nat} {Q : BR → Prop} {row lf fr few co : Int → Int} {n : Int}
theorem m_add (s : Int) (hn : 0 ≤ n ∧ n < 10) (hs : 0 ≤ s ∧ s < 10) : bE L xs d MX6_add (0, [(0, bR 19), (1, bI s)], [], WD Y E (PM M n) (PG G row lf fr few co) O, a, b) (rV (WD Y E (PM M (n + 1)) (PG G (up row n s) (up lf s 0) fr few co) O) a b) :=
  go [] [] rfl ⟨(show 0 ≤ n ∧ n < ((10 : Nat) : Int) by omega), (show -2147483648 ≤ n + 1 ∧ n + 1 ≤ 2147483647 by omega), (show 0 ≤ s ∧ s < ((10 : Nat) : Int) ∧ (0 : Int) ≤ 0 ∧ (0 : Int) ≤ 1 by omega)⟩ (rtv rfl rfl rfl)
/-- the part of an aisle that is added -/
def Cs (F : Nat → Int → Int) (fr : Int → Int) (A front back : Int) (s : Int) : Prop := F 2 s = A ∧ ((fr s = 1 ∧ front = 1) ∨ (fr s = 0 ∧ back = 1))
theorem m_addAisle (K : Int → Int) (c A upw front back : Int) (hI : SB X F) (hm : RB X F M G) (hu : upw = 0 ∨ upw = 1) (hfr : ∀ s, 0 ≤ s → s < X 6 → fr s = 0 ∨ fr s = 1) (hfb : (front = 0 ∨ front = 1) ∧ (back = 0 ∨ back = 1))
    (hK : ∀ s, 0 ≤ s → s < X 6 → lf s = 1 → Cs F fr A front back s → (upw = 1 → K s = c + F 3 s) ∧ (upw = 0 → K s = c - F 3 s)) (hLI : LI K X F n row lf)
    (h2 : ∀ s t, 0 ≤ s → s < X 6 → 0 ≤ t → t < X 6 → lf s = 1 → Cs F fr A front back s → lf t = 1 → ¬ Cs F fr A front back t → K s < K t) (hd : 2 ≤ d) :
    bE L xs d MX6_addAisle (0, [(0, bR 19), (1, bI A), (2, bI upw), (3, bI front), (4, bI back)], [], WD Y E (PM M n) (PG G row lf fr few co) O, a, b)
      (fun r => ∃ n' row' lf', r = (WD Y E (PM M n') (PG G row' lf' fr few co) O, .inl none, a, b) ∧ LI K X F n' row' lf' ∧ ∀ s, 0 ≤ s → s < X 6 → (lf' s = 1 ↔ lf s = 1 ∧ ¬ Cs F fr A front back s)) := by
  have hX := hI.1
  have hM := hm.1
  have main : ∀ (m : Nat) (n : Int) (row lf1 : Int → Int), LI K X F n row lf1 → itr (fun s acc => acc + lf1 s) 0 (X 6) = m → (∀ s, 0 ≤ s → s < X 6 → (lf1 s = 1 → lf s = 1) ∧ (lf s = 1 → ¬ Cs F fr A front back s → lf1 s = 1)) →
      bE L xs d MX6_addAisle (14, [(0, bR 19), (1, bI A), (2, bI upw), (3, bI front), (4, bI back), (5, bI 1), (6, bI (-1)), (7, bI 0)], [], WD Y E (PM M n) (PG G row lf1 fr few co) O, a, b)
      (fun r => ∃ n' row' lf', r = (WD Y E (PM M n') (PG G row' lf' fr few co) O, .inl none, a, b) ∧ LI K X F n' row' lf' ∧ ∀ s, 0 ≤ s → s < X 6 → (lf' s = 1 ↔ lf s = 1 ∧ ¬ Cs F fr A front back s)) := by
    intro m
    induction m with
    | zero | succ m ihm =>
      intro n row lf1 hLI hcnt hrel
      obtain ⟨⟨a0, a1⟩, a2, a3, a4, a5, a6, a7⟩ := hLI
      have hLI : LI K X F n row lf1 := ⟨⟨a0, a1⟩, a2, a3, a4, a5, a6, a7⟩
      refine for_up (P := fun s => ∀ nx, ((nx = -1 ∧ ∀ t, 0 ≤ t → t < s → ¬ (lf1 t = 1 ∧ Cs F fr A front back t)) ∨ (0 ≤ nx ∧ nx < s ∧ lf1 nx = 1 ∧ Cs F fr A front back nx ∧ ∀ t, 0 ≤ t → t < s → lf1 t = 1 → Cs F fr A front back t → t ≠ nx → lx K nx t)) →
        bE L xs d MX6_addAisle (14, [(0, bR 19), (1, bI A), (2, bI upw), (3, bI front), (4, bI back), (5, bI 1), (6, bI nx), (7, bI s)], [], WD Y E (PM M n) (PG G row lf1 fr few co) O, a, b)
        (fun r => ∃ n' row' lf', r = (WD Y E (PM M n') (PG G row' lf' fr few co) O, .inl none, a, b) ∧ LI K X F n' row' lf' ∧ ∀ s, 0 ≤ s → s < X 6 → (lf' s = 1 ↔ lf s = 1 ∧ ¬ Cs F fr A front back s))) (X 6) ?_ ?_ 0 (by omega) (by omega) (-1) (Or.inl ⟨rfl, fun t h0 h1 => by omega⟩)
      · intro nx hnx
        have hM6 : M 6 ≤ X 6 := by omega
        rcases hnx with ⟨e, hno⟩ | ⟨e0, e1, e2, e3, e4⟩
        · subst e
          refine go [] [0, 0, 0, 0] rfl ⟨hM6, rfl, rfl, rfl⟩ (rtv rfl rfl ⟨n, row, lf1, rfl, hLI, ?_⟩)
          intro s s0 s1
          exact ⟨fun h => ⟨(hrel s s0 s1).1 h, fun hc => hno s s0 s1 ⟨h, hc⟩⟩, fun h => (hrel s s0 s1).2 h.1 h.2⟩
        · have hroom := LI_room hLI e0 e1 e2
          have hne : ¬ nx = -1 := by omega
          first
          | (exfalso
             have := cnt_pos a2 e2 e0 e1
             omega)
          | (refine go [] [0, 1, 1] rfl ⟨hM6, hne, (by decide : ¬ (1 : Int) = 0), rfl⟩ (bc rfl hd (m_add nx (by omega) (by omega)) (fun h => by cases h) ?_)
             refine go [14] [1] rfl ⟨(by decide : ¬ (1 : Int) = 0), rfl⟩ (ihm (n + 1) (up row n nx) (up lf1 nx 0) (LI_add hLI e0 e1 e2 ?_) ?_ ?_)
             · intro t t0 t1 ht htn
               by_cases hc : Cs F fr A front back t
               · exact e4 t t0 t1 ht hc htn
               · exact Or.inl (h2 nx t e0 e1 t0 t1 ((hrel nx e0 e1).1 e2) e3 ((hrel t t0 t1).1 ht) hc)
             · rw [cnt_up e2 (X 6) (by omega), if_pos ⟨e1, e0⟩, hcnt]
               omega
             · intro t t0 t1
               by_cases htn : t = nx
               · subst htn
                 rw [up_eq]
                 exact ⟨fun h => by omega, fun _ h => absurd e3 h⟩
               · rw [up_ne _ htn]
                 exact hrel t t0 t1)
      · intro s s0 s1 ih nx hnx
        have hx : 0 ≤ s ∧ s < ((10 : Nat) : Int) := by omega
        have hs6 : s < M 6 := by omega
        have hr1 : -2147483648 ≤ s + 1 ∧ s + 1 ≤ 2147483647 := by omega
        obtain ⟨g1, g2, g3, g4⟩ := hm.2.2.1 s s0 s1
        have skip : ¬ (lf1 s = 1 ∧ Cs F fr A front back s) → bE L xs d MX6_addAisle (14, [(0, bR 19), (1, bI A), (2, bI upw), (3, bI front), (4, bI back), (5, bI 1), (6, bI nx), (7, bI (s + 1))], [], WD Y E (PM M n) (PG G row lf1 fr few co) O, a, b)
          (fun r => ∃ n' row' lf', r = (WD Y E (PM M n') (PG G row' lf' fr few co) O, .inl none, a, b) ∧ LI K X F n' row' lf' ∧ ∀ s, 0 ≤ s → s < X 6 → (lf' s = 1 ↔ lf s = 1 ∧ ¬ Cs F fr A front back s)) := by
          intro hns
          apply ih nx
          rcases hnx with ⟨e, hno⟩ | ⟨e0, e1, e2, e3, e4⟩
          · refine Or.inl ⟨e, fun t t0 t1 => ?_⟩
            by_cases hts : t = s
            · subst hts; exact hns
            · exact hno t t0 (by omega)
          · refine Or.inr ⟨e0, by omega, e2, e3, fun t t0 t1 ht hc htn => ?_⟩
            by_cases hts : t = s
            · subst hts; exact absurd ⟨ht, hc⟩ hns
            · exact e4 t t0 (by omega) ht hc htn
        by_cases c1 : lf1 s = 0
        · exact go [14] [1, 0] rfl ⟨hs6, hx, c1, hr1, rfl⟩ (skip (fun h => by omega))
        have c1' : lf1 s = 1 := by rcases a2 s s0 s1 with h | h; exact absurd h c1; exact h
        by_cases c2 : F 2 s = A
        · -- from 69 on it is one of the part
          have cont : Cs F fr A front back s → bE L xs d MX6_addAisle (69, [(0, bR 19), (1, bI A), (2, bI upw), (3, bI front), (4, bI back), (5, bI 1), (6, bI nx), (7, bI s)], [], WD Y E (PM M n) (PG G row lf1 fr few co) O, a, b)
            (fun r => ∃ n' row' lf', r = (WD Y E (PM M n') (PG G row' lf' fr few co) O, .inl none, a, b) ∧ LI K X F n' row' lf' ∧ ∀ s, 0 ≤ s → s < X 6 → (lf' s = 1 ↔ lf s = 1 ∧ ¬ Cs F fr A front back s)) := by
            intro hc
            have ks := hK s s0 s1 ((hrel s s0 s1).1 c1') hc
            rcases hnx with ⟨e, hno⟩ | ⟨e0, e1, e2, e3, e4⟩
            · subst e
              refine go [14] [0] rfl ⟨rfl, hr1, rfl⟩ (ih s (Or.inr ⟨s0, by omega, c1', hc, fun t t0 t1 ht hct htn => ?_⟩))
              exact absurd ⟨ht, hct⟩ (hno t t0 (by omega))
            · have hne : ¬ nx = -1 := by omega
              have kn := hK nx e0 (by omega) ((hrel nx e0 (by omega)).1 e2) e3
              have hxn : 0 ≤ nx ∧ nx < ((10 : Nat) : Int) := by omega
              obtain ⟨q1, q2, q3, q4⟩ := hm.2.2.1 nx e0 (by omega)
              by_cases hlt : K s < K nx
              · have set := ih s (Or.inr ⟨s0, by omega, c1', hc, fun t t0 t1 ht hct htn => by
                  by_cases htx : t = nx
                  · subst htx; exact Or.inl hlt
                  · rcases e4 t t0 (by omega) ht hct htx with h | h
                    · exact Or.inl (by omega)
                    · exact Or.inl (by omega)⟩)
                rcases hu with u | u
                · have k1 := ks.2 u
                  have k2 := kn.2 u
                  exact go [14] [1, 0, 1] rfl ⟨hne, u, hx, hxn, (show G 2 nx < G 2 s by omega), hr1, rfl⟩ set
                · have k1 := ks.1 u
                  have k2 := kn.1 u
                  exact go [14] [1, 1, 1] rfl ⟨hne, (show ¬ upw = 0 by omega), hx, hxn, (show G 2 s < G 2 nx by omega), hr1, rfl⟩ set
              · have keep := ih nx (Or.inr ⟨e0, by omega, e2, e3, fun t t0 t1 ht hct htn => by
                  by_cases hts : t = s
                  · subst hts
                    by_cases heq : K nx = K t
                    · exact Or.inr ⟨heq, e1⟩
                    · exact Or.inl (by omega)
                  · exact e4 t t0 (by omega) ht hct htn⟩)
                rcases hu with u | u
                · have k1 := ks.2 u
                  have k2 := kn.2 u
                  exact go [14] [1, 0, 0] rfl ⟨hne, u, hx, hxn, (show G 2 s ≤ G 2 nx by omega), hr1, rfl⟩ keep
                · have k1 := ks.1 u
                  have k2 := kn.1 u
                  exact go [14] [1, 1, 0] rfl ⟨hne, (show ¬ upw = 0 by omega), hx, hxn, (show G 2 nx ≤ G 2 s by omega), hr1, rfl⟩ keep
          have g1A : G 1 s = A := by omega
          rcases hfr s s0 s1 with f0 | f1
          · by_cases hb : back = 0
            · exact go [14] [1, 1, 1, 0, 1] rfl ⟨hs6, hx, c1, hx, g1A, hx, f0, hb, hr1, rfl⟩ (skip (fun h => by rcases h.2.2 with q | q <;> omega))
            · exact go [69] [1, 1, 1, 0, 0] rfl ⟨hs6, hx, c1, hx, g1A, hx, f0, hb⟩ (cont ⟨c2, Or.inr ⟨f0, by omega⟩⟩)
          · have f1' : ¬ fr s = 0 := by omega
            by_cases hb : front = 0
            · exact go [14] [1, 1, 1, 1, 0] rfl ⟨hs6, hx, c1, hx, g1A, hx, f1', hb, hr1, rfl⟩ (skip (fun h => by rcases h.2.2 with q | q <;> omega))
            · exact go [69] [1, 1, 1, 1, 1] rfl ⟨hs6, hx, c1, hx, g1A, hx, f1', hb, rfl⟩ (cont ⟨c2, Or.inl ⟨f1, by omega⟩⟩)
        · exact go [14] [1, 1, 0] rfl ⟨hs6, hx, c1, hx, (show ¬ G 1 s = A by omega), hr1, rfl⟩ (skip (fun h => c2 h.2.1))
  have hc := cnt_br (g := lf) hLI.2.1 (X 6) (by omega) (Int.le_refl _)
  exact go [14] [1] rfl ⟨(by decide : ¬ (1 : Int) = 0), rfl⟩ (main (itr (fun s acc => acc + lf s) 0 (X 6)).toNat n row lf hLI (by omega) (fun s _ _ => ⟨fun h => h, fun h _ => h⟩))
end A1
