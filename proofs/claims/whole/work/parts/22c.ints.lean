/-! Every step over whole numbers is a step of the machine before. -/
def bx_next (o : Option (BC ⊕ List (Prop × BC))) (k : BC) : Prop := match o with
  | none => False
  | some (.inl c) => c = k
  | some (.inr q) => ∃ P : Prop, (P, k) ∈ q ∧ P
theorem b_one {P : Prop} {c k : BC} (h : bx_next (some (.inr [(P, c)])) k) : P ∧ c = k := by
  obtain ⟨Q, h1, h2⟩ := h
  rcases List.mem_cons.mp h1 with h1 | h1
  · cases h1; exact ⟨h2, rfl⟩
  · cases h1
theorem a_one {P : Prop} {c : AxC} (h : P) : ax_next (some (.inr [(P, c)])) c := ⟨P, List.mem_cons_self, h⟩
theorem b_cmp {c : ClassFile.Cond} {x y : Int} {c1 c2 k : BC} (hx : b_in x) (hy : b_in y) (h : bx_next (bx_cmp c x y c1 c2) k) : ax_next (some (.inr [(ax_cmp c (Int32.ofInt x) (Int32.ofInt y), b_c c1), (¬ ax_cmp c (Int32.ofInt x) (Int32.ofInt y), b_c c2)])) (b_c k) ∧ (k = c1 ∨ k = c2) := by
  have key : ∀ {P1 P2 : Prop}, (P1 → ax_cmp c (Int32.ofInt x) (Int32.ofInt y)) → (P2 → ¬ ax_cmp c (Int32.ofInt x) (Int32.ofInt y)) → bx_next (some (.inr [(P1, c1), (P2, c2)])) k → ax_next (some (.inr [(ax_cmp c (Int32.ofInt x) (Int32.ofInt y), b_c c1), (¬ ax_cmp c (Int32.ofInt x) (Int32.ofInt y), b_c c2)])) (b_c k) ∧ (k = c1 ∨ k = c2) := by
    intro P1 P2 g1 g2 h
    obtain ⟨Q, h1, h2⟩ := h
    rcases List.mem_cons.mp h1 with h1 | h1
    · cases h1; exact ⟨⟨_, List.mem_cons_self, g1 h2⟩, Or.inl rfl⟩
    · rcases List.mem_cons.mp h1 with h1 | h1
      · cases h1; exact ⟨⟨_, List.mem_cons_of_mem _ List.mem_cons_self, g2 h2⟩, Or.inr rfl⟩
      · cases h1
  have e1 := b_eq hx hy
  have e2 := b_lt hx hy
  have e3 := b_lt hy hx
  have e4 := b_le hx hy
  have e5 := b_le hy hx
  cases c
  · exact key (fun q => e1.mpr q) (fun q r => q (e1.mp r)) h
  · exact key (fun q r => q (e1.mp r)) (fun q r => r (e1.mpr q)) h
  · exact key (fun q => e2.mpr q) (fun q r => by have r : Int32.ofInt x < Int32.ofInt y := r; have := e2.mp r; omega) h
  · exact key (fun q => e5.mpr q) (fun q r => by have r : Int32.ofInt y ≤ Int32.ofInt x := r; have := e5.mp r; omega) h
  · exact key (fun q => e3.mpr q) (fun q r => by have r : Int32.ofInt y < Int32.ofInt x := r; have := e3.mp r; omega) h
  · exact key (fun q => e4.mpr q) (fun q r => by have r : Int32.ofInt x ≤ Int32.ofInt y := r; have := e4.mp r; omega) h
theorem b_sw {pc : Nat} {x lo : Int} (hx : b_in x) {ls : BL} {r : List BV} {w : BW} {a b : Nat} : ∀ (offs : List Int) (j : Nat) (P : Prop) (k : BC), (P, k) ∈ (bx_sw pc x lo j offs).map (fun q => (q.1, ((q.2, ls, r, w, a, b) : BC))) → P →
    (∃ P', (P', b_c k) ∈ (ax_sw pc (Int32.ofInt x) lo j offs).map (fun q => (q.1, ((q.2, b_l ls, r.map b_v, w.map b_e, a, b) : AxC))) ∧ P') ∧ ∃ pc', k = (pc', ls, r, w, a, b)
  | [], _, _, _, h, _ => by cases h
  | off :: q, j, P, k, h, hp => by
    rcases List.mem_cons.mp h with h | h
    · cases h
      exact ⟨⟨_, List.mem_cons_self, by rw [b_toInt hx]; exact hp⟩, _, rfl⟩
    · obtain ⟨⟨P', h1, h2⟩, h3⟩ := b_sw hx q (j + 1) P k h hp
      exact ⟨⟨P', List.mem_cons_of_mem _ h1, h2⟩, h3⟩
theorem b_lk {pc : Nat} {x dflt : Int} {ps : List (Int × Int)} (hx : b_in x) {ls : BL} {r : List BV} {w : BW} {a b : Nat} : ∀ (offs : List Int) (P : Prop) (k : BC), (P, k) ∈ (bx_lk pc x ps dflt offs).map (fun q => (q.1, ((q.2, ls, r, w, a, b) : BC))) → P →
    (∃ P', (P', b_c k) ∈ (ax_lk pc (Int32.ofInt x) ps dflt offs).map (fun q => (q.1, ((q.2, b_l ls, r.map b_v, w.map b_e, a, b) : AxC))) ∧ P') ∧ ∃ pc', k = (pc', ls, r, w, a, b)
  | [], _, _, h, _ => by cases h
  | off :: q, P, k, h, hp => by
    rcases List.mem_cons.mp h with h | h
    · cases h
      exact ⟨⟨_, List.mem_cons_self, by rw [b_toInt hx]; exact hp⟩, _, rfl⟩
    · obtain ⟨⟨P', h1, h2⟩, h3⟩ := b_lk hx q P k h hp
      exact ⟨⟨P', List.mem_cons_of_mem _ h1, h2⟩, h3⟩
theorem b_div {p q : Int} (h0 : 0 ≤ p) (h1 : 0 < q) (hp : b_in p) (hq : b_in q) : Int32.ofInt p / Int32.ofInt q = Int32.ofInt (p / q) ∧ b_in (p / q) := by
  have hin : b_in (p / q) := ⟨by have := Int.ediv_nonneg h0 (Int.le_of_lt h1); omega, by have := Int.ediv_le_self q h0; have := hp.2; omega⟩
  refine ⟨?_, hin⟩
  rw [← Int32.toInt_inj, Int32.toInt_div, b_toInt hp, b_toInt hq, b_toInt hin, Int.tdiv_eq_ediv_of_nonneg h0]
  exact Int.bmod_eq_of_le (by have := hin.1; omega) (by have := hin.2; omega)
theorem b_rem {p q : Int} (h0 : 0 ≤ p) (h1 : 0 < q) (hp : b_in p) (hq : b_in q) : Int32.ofInt p - Int32.ofInt p / Int32.ofInt q * Int32.ofInt q = Int32.ofInt (p % q) ∧ b_in (p % q) := by
  have hin : b_in (p % q) := ⟨by have := Int.emod_nonneg p (b := q) (by omega); omega, by have := Int.emod_lt_of_pos p h1; have := hq.2; omega⟩
  refine ⟨?_, hin⟩
  rw [(b_div h0 h1 hp hq).1, ← Int32.ofInt_mul, ← Int32.ofInt_sub, Int.emod_def, Int.mul_comm q]
theorem b_nz {q : Int} (hq : b_in q) (h : 0 < q) : ¬ Int32.ofInt q = 0 := by
  intro e
  have := (b_eq hq (y := 0) ⟨by omega, by omega⟩).mp e
  omega
theorem b_up32 {f : Int → Int} {j v : Int} (h0 : 0 ≤ j) : upd (fun i : Nat => Int32.ofInt (f (i : Int))) j.toNat (Int32.ofInt v) = fun i : Nat => Int32.ofInt (up f j v (i : Int)) := by
  funext i
  unfold upd up
  by_cases h : i = j.toNat
  · rw [if_pos h, if_pos (by omega)]
  · rw [if_neg h, if_neg (by omega)]
theorem b_up64 {f : Int → Int} {j v : Int} (h0 : 0 ≤ j) : vp_updL (fun i : Nat => Int64.ofInt (f (i : Int))) j.toNat (Int64.ofInt v) = fun i : Nat => Int64.ofInt (up f j v (i : Int)) := by
  funext i
  unfold vp_updL up
  by_cases h : i = j.toNat
  · rw [if_pos h, if_pos (by omega)]
  · rw [if_neg h, if_neg (by omega)]
theorem b_nar {v : Int} (h0 : 0 ≤ v) (h1 : v ≤ 1) : vp_nar .boolean (Int32.ofInt v) = Int32.ofInt v := by
  have : v = 0 ∨ v = 1 := by omega
  rcases this with rfl | rfl
  · decide +kernel
  · decide +kernel
theorem b_64 {z : Int} (h : b_in z) : (Int64.ofInt z).toInt = z := Int64.toInt_ofInt_of_le (by have := h.1; omega) (by have := h.2; omega)
theorem b_i2l {z : Int} (h : b_in z) : (Int32.ofInt z).toInt64 = Int64.ofInt z := by
  rw [← Int64.toInt_inj, b_64 h, Int32.toInt_toInt64, b_toInt h]
theorem b_lcmp {p q : Int} (hp : b_in p) (hq : b_in q) : lg_cmp (Int64.ofInt p) (Int64.ofInt q) = Int32.ofInt (if q < p then 1 else if p = q then 0 else -1) ∧ b_in (if q < p then 1 else if p = q then 0 else -1) := by
  have e1 : (Int64.ofInt p > Int64.ofInt q) ↔ q < p := by
    show Int64.ofInt q < Int64.ofInt p ↔ _
    rw [Int64.lt_iff_toInt_lt, b_64 hp, b_64 hq]
  have e2 : Int64.ofInt p = Int64.ofInt q ↔ p = q := by rw [← Int64.toInt_inj, b_64 hp, b_64 hq]
  unfold lg_cmp
  by_cases h1 : q < p
  · rw [if_pos h1, if_pos (e1.mpr h1)]; exact ⟨rfl, by omega, by omega⟩
  · rw [if_neg h1, if_neg (fun h => h1 (e1.mp h))]
    by_cases h2 : p = q
    · rw [if_pos h2, if_pos (e2.mpr h2)]; exact ⟨rfl, by omega, by omega⟩
    · rw [if_neg h2, if_neg (fun h => h2 (e2.mp h))]; exact ⟨rfl, by omega, by omega⟩
theorem b_b8 {v : Int} (h : bx_sm 128 v = true) : (Int8.ofInt v).toInt32 = Int32.ofInt v ∧ b_in v := by
  have := b_sm h
  have hin : b_in v := ⟨by omega, by omega⟩
  refine ⟨?_, hin⟩
  rw [← Int32.toInt_inj, b_toInt hin, Int8.toInt_toInt32]
  exact Int8.toInt_ofInt_of_le (by omega) (by omega)
theorem b_b16 {v : Int} (h : bx_sm 32768 v = true) : (Int16.ofInt v).toInt32 = Int32.ofInt v ∧ b_in v := by
  have := b_sm h
  have hin : b_in v := ⟨by omega, by omega⟩
  refine ⟨?_, hin⟩
  rw [← Int32.toInt_inj, b_toInt hin, Int16.toInt_toInt32]
  exact Int16.toInt_ofInt_of_le (by omega) (by omega)
theorem b_nat {n : Nat} (h : n < 2147483648) : Int32.ofNat n = Int32.ofInt (n : Int) ∧ b_in (n : Int) := ⟨rfl, by omega, by omega⟩
