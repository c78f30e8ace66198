/-! .. and it is the machine before. -/
theorem b_toInt {z : Int} (h : b_in z) : (Int32.ofInt z).toInt = z := Int32.toInt_ofInt_of_le (by have := h.1; omega) (by have := h.2; omega)
theorem b_ofInt (z : Int32) : Int32.ofInt z.toInt = z := Int32.ofInt_toInt z
theorem b_in32 (z : Int32) : b_in z.toInt := ⟨by have := Int32.le_toInt z; omega, by have := Int32.toInt_lt z; omega⟩
theorem b_lt {x y : Int} (hx : b_in x) (hy : b_in y) : Int32.ofInt x < Int32.ofInt y ↔ x < y := by
  rw [Int32.lt_iff_toInt_lt, b_toInt hx, b_toInt hy]
theorem b_le {x y : Int} (hx : b_in x) (hy : b_in y) : Int32.ofInt x ≤ Int32.ofInt y ↔ x ≤ y := by
  rw [Int32.le_iff_toInt_le, b_toInt hx, b_toInt hy]
theorem b_eq {x y : Int} (hx : b_in x) (hy : b_in y) : Int32.ofInt x = Int32.ofInt y ↔ x = y := by
  rw [← Int32.toInt_inj, b_toInt hx, b_toInt hy]
theorem b_idx {j : Int} {n : Nat} (h0 : 0 ≤ j) (h1 : j < (n : Int)) (hn : n ≤ 2147483648) : vp_in (Int32.ofInt j) n ∧ (((Int32.ofInt j).toNatClampNeg : Nat) : Int) = j ∧ (Int32.ofInt j).toNatClampNeg = j.toNat := by
  have hj : b_in j := ⟨by omega, by omega⟩
  have e : (Int32.ofInt j).toNatClampNeg = j.toNat := by
    show (Int32.ofInt j).toInt.toNat = j.toNat
    rw [b_toInt hj]
  refine ⟨?_, by rw [e]; omega, e⟩
  unfold vp_in
  rw [e, show (0 : Int32) = Int32.ofInt 0 from rfl, b_lt hj ⟨by omega, by omega⟩]
  omega
theorem b_get : ∀ (ls : BL) (k : Nat), ax_get (b_l ls) k = (bx_get ls k).map b_v
  | [], k => rfl
  | (i, v) :: r, k => by
    show cond (Nat.beq i k) _ (ax_get (b_l r) k) = Option.map b_v (cond (Nat.beq i k) _ (bx_get r k))
    cases Nat.beq i k with
    | true => rfl
    | false => exact b_get r k
theorem b_del : ∀ (ls : BL) (k : Nat), ax_del (b_l ls) k = b_l (bx_del ls k)
  | [], k => rfl
  | (i, v) :: r, k => by
    show cond (Nat.beq i k) (ax_del (b_l r) k) _ = b_l (cond (Nat.beq i k) (bx_del r k) _)
    cases Nat.beq i k with
    | true => exact b_del r k
    | false => exact congrArg (fun q => (i, b_v v) :: q) (b_del r k)
theorem b_set : ∀ (ls : BL) (k : Nat) (v : BV), ax_set (b_l ls) k (b_v v) = b_l (bx_set ls k v)
  | [], k, v => rfl
  | (i, u) :: r, k, v => by
    show cond (Nat.beq i k) _ _ = b_l (cond (Nat.beq i k) _ _)
    cases Nat.beq i k with
    | true => exact congrArg (fun q => (k, b_v v) :: q) (b_del r k)
    | false => exact congrArg (fun q => (i, b_v u) :: q) (b_set r k v)
theorem b_get_ok : ∀ {ls : BL} {k : Nat} {v : BV}, (∀ q ∈ ls, b_okv q.2) → bx_get ls k = some v → b_okv v
  | [], _, _, _, h => by cases h
  | (i, u) :: r, k, v, h0, h => by
    simp only [bx_get] at h
    cases hb : Nat.beq i k with
    | true =>
      rw [hb] at h
      cases h
      exact h0 _ List.mem_cons_self
    | false =>
      rw [hb] at h
      exact b_get_ok (fun q hq => h0 q (List.mem_cons_of_mem _ hq)) h
theorem b_del_ok : ∀ {ls : BL} {k : Nat}, (∀ q ∈ ls, b_okv q.2) → ∀ q ∈ bx_del ls k, b_okv q.2
  | [], _, _ => fun q h => by cases h
  | (i, u) :: r, k, h0 => by
    have ih := b_del_ok (k := k) (fun q hq => h0 q (List.mem_cons_of_mem _ hq))
    simp only [bx_del]
    cases Nat.beq i k with
    | true => exact ih
    | false =>
      intro q hq
      rcases List.mem_cons.mp hq with h | h
      · rw [h]; exact h0 _ List.mem_cons_self
      · exact ih q h
theorem b_set_ok : ∀ {ls : BL} {k : Nat} {v : BV}, (∀ q ∈ ls, b_okv q.2) → b_okv v → ∀ q ∈ bx_set ls k v, b_okv q.2
  | [], _, _, _, hv => fun q h => by
    rcases List.mem_cons.mp h with h | h
    · rw [h]; exact hv
    · cases h
  | (i, u) :: r, k, v, h0, hv => by
    have h1 := fun q hq => h0 q (List.mem_cons_of_mem _ hq)
    simp only [bx_set]
    cases Nat.beq i k with
    | true =>
      intro q hq
      rcases List.mem_cons.mp hq with h | h
      · rw [h]; exact hv
      · exact b_del_ok h1 q h
    | false =>
      intro q hq
      rcases List.mem_cons.mp hq with h | h
      · rw [h]; exact h0 _ List.mem_cons_self
      · exact b_set_ok h1 hv q h
theorem b_nth {α β : Type} (g : α → β) : ∀ (l : List α) (k : Nat), ax_nth (l.map g) k = (ax_nth l k).map g
  | [], _ => rfl
  | _ :: _, 0 => rfl
  | _ :: r, n + 1 => b_nth g r n
theorem b_upd {α β : Type} (g : α → β) : ∀ (l : List α) (k : Nat) (v : α), ax_upd (l.map g) k (g v) = (ax_upd l k v).map g
  | [], _, _ => rfl
  | _ :: _, 0, _ => rfl
  | a :: r, n + 1, v => congrArg (fun q => g a :: q) (b_upd g r n v)
theorem b_nth_mem {α : Type} : ∀ {l : List α} {k : Nat} {v : α}, ax_nth l k = some v → v ∈ l
  | [], _, _, h => by cases h
  | a :: r, 0, v, h => by cases h; exact List.mem_cons_self
  | a :: r, n + 1, v, h => List.mem_cons_of_mem _ (b_nth_mem (l := r) h)
theorem b_upd_mem {α : Type} : ∀ {l : List α} {k : Nat} {v u : α}, u ∈ ax_upd l k v → u = v ∨ u ∈ l
  | [], _, _, _, h => by cases h
  | a :: r, 0, v, u, h => by
    rcases List.mem_cons.mp h with h | h
    · exact Or.inl h
    · exact Or.inr (List.mem_cons_of_mem _ h)
  | a :: r, n + 1, v, u, h => by
    rcases List.mem_cons.mp h with h | h
    · exact Or.inr (by rw [h]; exact List.mem_cons_self)
    · rcases b_upd_mem (l := r) h with h | h
      · exact Or.inl h
      · exact Or.inr (List.mem_cons_of_mem _ h)
theorem b_wv (n : Nat) (v : BV) : ax_wv n (b_v v) = bx_wv n v := by
  rcases v with z | k | z | u <;> rfl
theorem b_we {n : Nat} {e : BE} (h : bx_we n e = true) : ax_we n (b_e e) = true := by
  rcases e with ⟨k, m, f⟩ | ⟨ci, fs⟩
  · match k with
    | 0 => rfl
    | 1 => rfl
    | _ + 2 => rfl
  · show (fs.map b_v).all (ax_wv n) = true
    rw [List.all_map]
    have e : ax_wv n ∘ b_v = bx_wv n := funext (b_wv n)
    rw [e]; exact h
theorem b_fr (n : Nat) (ls : BL) (st : List BV) : ax_fr n (b_l ls) (st.map b_v) = bx_fr n ls st := by
  have e : ax_wv n ∘ b_v = bx_wv n := funext (b_wv n)
  have e2 : ((fun q => ax_wv n q.2) ∘ fun q : Nat × BV => (q.1, b_v q.2)) = (fun q => bx_wv n q.2) := funext (fun q => b_wv n q.2)
  unfold ax_fr bx_fr b_l
  rw [List.all_map, List.all_map, e, e2]
theorem b_cat (v : BV) : (b_v v).category = bx_cat v := by
  rcases v with z | k | z | u <;> rfl
theorem b_wt (r : List BV) : ax_wt (r.map b_v) = bx_wt r := by
  have e : (fun v => Value.category v) ∘ b_v = bx_cat := funext b_cat
  unfold ax_wt bx_wt
  rw [List.map_map, e]
theorem b_wall {n : Nat} {w : BW} (h : w.all (bx_we n) = true) : (w.map b_e).all (ax_we n) = true := by
  rw [List.all_map, List.all_eq_true]
  intro e he
  exact b_we (List.all_eq_true.mp h e he)
theorem b_sm {n : Nat} {v : Int} (h : bx_sm n v = true) : -(n : Int) ≤ v ∧ v < n := by
  unfold bx_sm at h
  split at h
  · have := ax_blt h
    simp only [Int.ofNat_eq_natCast]; omega
  · have := ax_blt h
    omega
theorem b_cons {v : BV} {st : List BV} (hv : b_okv v) (h : ∀ u ∈ st, b_okv u) : ∀ u ∈ v :: st, b_okv u := by
  intro u hu
  rcases List.mem_cons.mp hu with h1 | h1
  · rw [h1]; exact hv
  · exact h u h1
theorem b_tl {v : BV} {st : List BV} (h : ∀ u ∈ v :: st, b_okv u) : ∀ u ∈ st, b_okv u := fun u hu => h u (List.mem_cons_of_mem _ hu)
theorem b_hd {v : BV} {st : List BV} (h : ∀ u ∈ v :: st, b_okv u) : b_okv v := h v List.mem_cons_self
theorem b_dfl : ∀ ci, ci < 7 → (bx_dfl ci).map b_v = ax_dfl ci := by
  intro ci h
  match ci, h with
  | 0, _ => rfl
  | 1, _ => rfl
  | 2, _ => rfl
  | 3, _ => rfl
  | 4, _ => rfl
  | 5, _ => rfl
  | 6, _ => rfl
  | n + 7, h => exact absurd h (by omega)
theorem b_dfl_ok (ci : Nat) : ∀ v ∈ bx_dfl ci, b_okv v := by
  intro v hv
  obtain ⟨k, _, rfl⟩ := List.mem_map.mp hv
  split
  · exact ⟨by omega, by omega⟩
  · exact ⟨by omega, by omega⟩
  · trivial
theorem b_upok {f : Int → Int} {k v : Int} (h : ∀ j, b_in (f j)) (hv : b_in v) : ∀ j, b_in (up f k v j) := by
  intro j
  unfold up
  split
  · exact hv
  · exact h j
theorem b_updw {w : BW} {c : Nat} {e : BE} (h : ∀ u ∈ w, b_oke u) (he : b_oke e) : ∀ u ∈ ax_upd w c e, b_oke u := by
  intro u hu
  rcases b_upd_mem hu with h1 | h1
  · rw [h1]; exact he
  · exact h u h1
