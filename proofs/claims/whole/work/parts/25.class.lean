/-! The class: stops come in, the route's row -/
section T3
variable {L : Nat} {xs : Nat → Int32} {X M : Nat → Int} {F G : Nat → Int → Int} {O : Int → Int} {d a b : Nat} {Q : BR → Prop}
theorem t_rA (x : Int) (hd : 7 ≤ d) (h : 0 ≤ x ∧ x < X 4) : bE L xs d MX5_requireAisle (0, [(0, bR 1), (1, bI x)], [], WD X F M G O, a, b) (rV (WD X F M G O) a b) := by
  refine go [] [] rfl (by omega) (bc rfl (by omega) (t_hasAisle x) (fun h => by cases h) ?_)
  rw [if_pos h]
  exact go [] [0] rfl (by omega) (rtv rfl rfl rfl)
theorem t_rA' (x : Int) (hd : 7 ≤ d) (h : ¬ (0 ≤ x ∧ x < X 4)) : bE L xs d MX5_requireAisle (0, [(0, bR 1), (1, bI x)], [], WD X F M G O, a, b) (rT (WD X F M G O) 0 (a + 1) (b + 6)) := by
  refine go [] [] rfl (by omega) (bc rfl (by omega) (t_hasAisle x) (fun h => by cases h) ?_)
  rw [if_neg h]
  exact go [] [1] rfl (by omega) (thr rfl rfl hd rfl rfl)
theorem t_rS (x : Int) (hd : 7 ≤ d) (h : 0 ≤ x ∧ x < X 6) : bE L xs d MX5_requireStop (0, [(0, bR 1), (1, bI x)], [], WD X F M G O, a, b) (rV (WD X F M G O) a b) :=
  go [] [1, 0] rfl (by omega) (rtv rfl rfl rfl)
theorem t_rS' (x : Int) (hd : 7 ≤ d) (h : ¬ (0 ≤ x ∧ x < X 6)) : bE L xs d MX5_requireStop (0, [(0, bR 1), (1, bI x)], [], WD X F M G O, a, b) (rT (WD X F M G O) 0 (a + 1) (b + 6)) := by
  by_cases h1 : x < 0
  · exact go [] [0] rfl (by omega) (thr rfl rfl hd rfl rfl)
  · exact go [] [1, 1] rfl (by omega) (thr rfl rfl hd rfl rfl)
/-- two places of the ways, changed -/
def up2 (V : Int → Int) (s o w : Int) : Int → Int := up (up V (s * 11 + o) w) (o * 11 + s) w
theorem t_measure (hI : 1 ≤ X 5 ∧ X 5 ≤ 3) (s o : Int) (hs : 0 ≤ s ∧ s ≤ 10) (ho : 0 ≤ o ∧ o ≤ 10) (h1 : 0 ≤ F 2 s ∧ F 2 s ≤ 8 ∧ 0 ≤ F 4 s ∧ F 4 s ≤ 40) (h2 : 0 ≤ F 2 o ∧ F 2 o ≤ 8 ∧ 0 ≤ F 4 o ∧ F 4 o ≤ 40) (hd : 2 ≤ d) :
    bE L xs d MX4_measure (0, [(0, bR 6), (1, bI s), (2, bI o)], [], WD X F M G O, a, b) (rV (WD X (un F 7 (up2 (F 7) s o (wy (X 5) (F 2 s) (F 4 s) (F 2 o) (F 4 o)))) M G O) a b) := by
  refine go [] [] rfl (by omega) (bc rfl hd (t_between hI _ _ _ _ (by omega) (by omega) (by omega) (by omega)) (fun h => by cases h) ?_)
  exact go [] [] rfl (by omega) (rtv rfl rfl rfl)
theorem up_eq (f : Int → Int) (k v : Int) : up f k v k = v := if_pos rfl
theorem up_ne (f : Int → Int) {k v j : Int} (h : j ≠ k) : up f k v j = f j := if_neg h
theorem up2_o (V : Int → Int) {s o w p q : Int} (hq : 0 ≤ q ∧ q ≤ 10) (hs : 0 ≤ s ∧ s ≤ 10) (ho : 0 ≤ o ∧ o ≤ 10) (h1 : ¬ (p = s ∧ q = o)) (h2 : ¬ (p = o ∧ q = s)) : up2 V s o w (p * 11 + q) = V (p * 11 + q) := by
  unfold up2
  rw [up_ne _ (by omega), up_ne _ (by omega)]
theorem up2_1 (V : Int → Int) {s o w : Int} : up2 V s o w (o * 11 + s) = w := up_eq _ _ _
theorem up2_2 (V : Int → Int) {s o w : Int} (hs : 0 ≤ s ∧ s ≤ 10) (ho : 0 ≤ o ∧ o ≤ 10) : up2 V s o w (s * 11 + o) = w := by
  unfold up2
  by_cases h : s * 11 + o = o * 11 + s
  · rw [h]; exact up_eq _ _ _
  · rw [up_ne _ h]; exact up_eq _ _ _
/-- the rows behind a new stop, but for the ways -/
def F1 (F : Nat → Int → Int) (n A P N : Int) : Nat → Int → Int := un (un (un (un (un F 2 (up (F 2) n A)) 3 (up (F 3) n P)) 4 (up (F 4) n (11 * (P / 10) + 1 + P % 10))) 5 (up (F 5) n N)) 6 (up (F 6) n 0)
theorem t_add (hI : SB X F) (A P N : Int) (hA : 0 ≤ A ∧ A < X 4) (hP : 0 ≤ P ∧ P < 10 * X 5) (hN : 0 ≤ N ∧ N ≤ 100) (hn : X 6 < 10) (hd : 3 ≤ d) :
    bE L xs d MX4_add (0, [(0, bR 6), (1, bI A), (2, bI P), (3, bI N)], [], WD X F M G O, a, b)
      (fun r => ∃ V : Int → Int, r = (WD (un X 6 (X 6 + 1)) (un (F1 F (X 6) A P N) 7 V) M G O, .inl (some (bI (X 6))), a, b) ∧ SB (un X 6 (X 6 + 1)) (un (F1 F (X 6) A P N) 7 V)) := by
  obtain ⟨hX, hS, hsh, hdep, hwy, hdg⟩ := hI
  have a2 : ∀ p, p ≠ X 6 → up (F 2) (X 6) A p = F 2 p := fun p h => up_ne _ h
  have a3 : ∀ p, p ≠ X 6 → up (F 3) (X 6) P p = F 3 p := fun p h => up_ne _ h
  have a4 : ∀ p, p ≠ X 6 → up (F 4) (X 6) (11 * (P / 10) + 1 + P % 10) p = F 4 p := fun p h => up_ne _ h
  have b2 : up (F 2) (X 6) A (X 6) = A := up_eq _ _ _
  have b4 : up (F 4) (X 6) (11 * (P / 10) + 1 + P % 10) (X 6) = 11 * (P / 10) + 1 + P % 10 := up_eq _ _ _
  have bnd : ∀ p, (0 ≤ p ∧ p < X 6) ∨ p = 10 ∨ p = X 6 → 0 ≤ up (F 2) (X 6) A p ∧ up (F 2) (X 6) A p ≤ 8 ∧ 0 ≤ up (F 4) (X 6) (11 * (P / 10) + 1 + P % 10) p ∧ up (F 4) (X 6) (11 * (P / 10) + 1 + P % 10) p ≤ 40 := by
    intro p hp
    rcases hp with hp | hp | hp
    · have := hS p hp.1 hp.2
      rw [a2 p (by omega), a4 p (by omega)]
      omega
    · subst hp
      rw [a2 10 (by omega), a4 10 (by omega)]
      omega
    · subst hp
      rw [b2, b4]
      omega
  have key := for_up (P := fun o => ∀ V : Int → Int, ((∀ p q, pnt X p → pnt X q → V (p * 11 + q) = F 7 (p * 11 + q)) ∧ (∀ p, 0 ≤ p → p ≤ 10 → V (p * 11 + p) = 0) ∧ (∀ q, 0 ≤ q → q < o → V (X 6 * 11 + q) = wy (X 5) (up (F 2) (X 6) A (X 6)) (up (F 4) (X 6) (11 * (P / 10) + 1 + P % 10) (X 6)) (up (F 2) (X 6) A q) (up (F 4) (X 6) (11 * (P / 10) + 1 + P % 10) q) ∧ V (q * 11 + X 6) = wy (X 5) (up (F 2) (X 6) A (X 6)) (up (F 4) (X 6) (11 * (P / 10) + 1 + P % 10) (X 6)) (up (F 2) (X 6) A q) (up (F 4) (X 6) (11 * (P / 10) + 1 + P % 10) q))) →
      bE L xs d MX4_add (56, [(0, bR 6), (1, bI A), (2, bI P), (3, bI N), (4, bI (X 6)), (5, bI o)], [], WD X (un (F1 F (X 6) A P N) 7 V) M G O, a, b)
      (fun r => ∃ V : Int → Int, r = (WD (un X 6 (X 6 + 1)) (un (F1 F (X 6) A P N) 7 V) M G O, .inl (some (bI (X 6))), a, b) ∧ SB (un X 6 (X 6 + 1)) (un (F1 F (X 6) A P N) 7 V))) (X 6) ?_ ?_ 0 (by omega) (by omega)
  · refine go [] [] rfl (by omega) (bc rfl (by omega) (t_placeDepth (X := X) (F := un (un F 2 (up (F 2) (X 6) A)) 3 (up (F 3) (X 6) P)) P (by omega)) (fun h => by cases h) ?_)
    exact go [56] [] rfl (by omega) (key (F 7) ⟨fun p q _ _ => rfl, hdg, fun q h0 h1 => by omega⟩)
  · intro V hV
    obtain ⟨v1, v2, v3⟩ := hV
    refine go [] [0] rfl (by omega) (bc rfl (by omega) (t_measure (X := X) (F := un (F1 F (X 6) A P N) 7 V) (by omega) (X 6) 10 (by omega) (by omega) (bnd (X 6) (by omega)) (bnd 10 (by omega)) (by omega)) (fun h => by cases h) ?_)
    refine go [] [] rfl ?_ (rti rfl rfl ⟨_, rfl, ?_⟩)
    · show (-2147483648 ≤ X 6 + 1 ∧ X 6 + 1 ≤ 2147483647) ∧ (0 : Int) = 0
      omega
    · refine ⟨?_, ?_, hsh, ⟨?_, ?_⟩, ?_, ?_⟩
      · show 1 ≤ X 4 ∧ X 4 ≤ 8 ∧ 1 ≤ X 5 ∧ X 5 ≤ 3 ∧ 0 ≤ X 6 + 1 ∧ X 6 + 1 ≤ 10 ∧ 0 ≤ X 0 ∧ (X 0 < X 6 + 1 ∨ X 0 = 10) ∧ 1 ≤ X 2 ∧ X 2 ≤ 1000
        omega
      · intro j h0 h1
        have h1 : j < X 6 + 1 := h1
        show 0 ≤ up (F 2) (X 6) A j ∧ up (F 2) (X 6) A j < X 4 ∧ 0 ≤ up (F 3) (X 6) P j ∧ up (F 3) (X 6) P j < 10 * X 5 ∧ up (F 4) (X 6) (11 * (P / 10) + 1 + P % 10) j = 11 * (up (F 3) (X 6) P j / 10) + 1 + up (F 3) (X 6) P j % 10 ∧ 0 ≤ up (F 5) (X 6) N j ∧ up (F 5) (X 6) N j ≤ 100 ∧ 0 ≤ up (F 6) (X 6) 0 j ∧ up (F 6) (X 6) 0 j ≤ 2
        by_cases hj : j = X 6
        · subst hj
          simp only [up_eq]
          exact ⟨by omega, by omega, by omega, by omega, trivial, by omega, by omega, by omega, by omega⟩
        · simp only [up_ne _ hj]
          exact hS j h0 (by omega)
      · show up (F 2) (X 6) A 10 = 0
        rw [a2 10 (by omega)]; exact hdep.1
      · show up (F 4) (X 6) (11 * (P / 10) + 1 + P % 10) 10 = 0
        rw [a4 10 (by omega)]; exact hdep.2
      · intro p q hp hq
        have hp : 0 ≤ p ∧ (p < X 6 + 1 ∨ p = 10) := hp
        have hq : 0 ≤ q ∧ (q < X 6 + 1 ∨ q = 10) := hq
        show up2 V (X 6) 10 (wy (X 5) (up (F 2) (X 6) A (X 6)) (up (F 4) (X 6) (11 * (P / 10) + 1 + P % 10) (X 6)) (up (F 2) (X 6) A 10) (up (F 4) (X 6) (11 * (P / 10) + 1 + P % 10) 10)) (p * 11 + q) = wy (X 5) (up (F 2) (X 6) A p) (up (F 4) (X 6) (11 * (P / 10) + 1 + P % 10) p) (up (F 2) (X 6) A q) (up (F 4) (X 6) (11 * (P / 10) + 1 + P % 10) q)
        by_cases e1 : p = X 6 ∧ q = 10
        · rw [e1.1, e1.2, up2_2 V (by omega) (by omega)]
        · by_cases e2 : p = 10 ∧ q = X 6
          · rw [e2.1, e2.2, up2_1 V]; exact wy_c _ _ _ _ _
          · rw [up2_o V (by omega) (by omega) (by omega) e1 e2]
            by_cases e3 : p = X 6
            · by_cases e4 : q = X 6
              · rw [e3, e4, v2 (X 6) (by omega) (by omega)]
                unfold wy
                rw [if_pos rfl]
                omega
              · rw [e3]
                exact (v3 q (by omega) (by omega)).1
            · by_cases e4 : q = X 6
              · rw [e4, wy_c]
                exact (v3 p (by omega) (by omega)).2
              · rw [v1 p q ⟨hp.1, by omega⟩ ⟨hq.1, by omega⟩, a2 p e3, a2 q e4, a4 p e3, a4 q e4]
                exact hwy p q ⟨hp.1, by omega⟩ ⟨hq.1, by omega⟩
      · intro p h0 h1
        show up2 V (X 6) 10 _ (p * 11 + p) = 0
        rw [up2_o V (by omega) (by omega) (by omega) (by omega) (by omega)]
        exact v2 p h0 h1
  · intro o h0 h1 ih V hV
    obtain ⟨v1, v2, v3⟩ := hV
    refine go [] [1] rfl (by omega) (bc rfl (by omega) (t_measure (X := X) (F := un (F1 F (X 6) A P N) 7 V) (by omega) (X 6) o (by omega) (by omega) (bnd (X 6) (by omega)) (bnd o (by omega)) (by omega)) (fun h => by cases h) ?_)
    refine go [56] [] rfl (by omega) (ih (up2 V (X 6) o (wy (X 5) (up (F 2) (X 6) A (X 6)) (up (F 4) (X 6) (11 * (P / 10) + 1 + P % 10) (X 6)) (up (F 2) (X 6) A o) (up (F 4) (X 6) (11 * (P / 10) + 1 + P % 10) o))) ⟨?_, ?_, ?_⟩)
    · intro p q hp hq
      obtain ⟨p0, p1⟩ := hp
      obtain ⟨q0, q1⟩ := hq
      rw [up2_o V (by omega) (by omega) (by omega) (by omega) (by omega)]
      exact v1 p q ⟨p0, p1⟩ ⟨q0, q1⟩
    · intro p h0 h1
      rw [up2_o V (by omega) (by omega) (by omega) (by omega) (by omega)]
      exact v2 p h0 h1
    · intro q g0 g1
      by_cases hq : q = o
      · subst hq
        exact ⟨up2_2 V (by omega) (by omega), up2_1 V⟩
      · rw [up2_o V (by omega) (by omega) (by omega) (by omega) (by omega), up2_o V (by omega) (by omega) (by omega) (by omega) (by omega)]
        exact v3 q g0 (by omega)
end T3
