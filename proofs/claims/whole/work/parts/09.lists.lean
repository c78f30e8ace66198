/-! Lists of cells, locals and stacks; what they are in the heap. -/
theorem ax_nth_eq {α : Type} : ∀ (l : List α) (k : Nat), ax_nth l k = l[k]?
  | [], _ => by simp [ax_nth]
  | _ :: _, 0 => by simp [ax_nth]
  | _ :: r, n + 1 => by simp [ax_nth, ax_nth_eq r n]
theorem ax_upd_eq {α : Type} : ∀ (l : List α) (k : Nat) (b : α), ax_upd l k b = l.set k b
  | [], _, _ => by simp [ax_upd]
  | _ :: _, 0, _ => by simp [ax_upd]
  | _ :: r, n + 1, b => by simp [ax_upd, ax_upd_eq r n b]
theorem ax_at_mem : ∀ (t : List AxI) (pc : Nat) {ins : Instr} {x y : Nat}, ax_at t pc = some (ins, x, y) → (pc, ins, x, y) ∈ t
  | [], _, _, _, _, h => by simp [ax_at] at h
  | (p, i, x0, y0) :: r, pc, ins, x, y, h => by
    simp only [ax_at] at h
    cases hb : Nat.beq p pc with
    | true =>
      rw [hb] at h
      have e1 : p = pc := Nat.eq_of_beq_eq_true hb
      simp at h
      obtain ⟨e2, e3, e4⟩ := h
      subst e1; subst e2; subst e3; subst e4
      exact List.mem_cons_self
    | false =>
      rw [hb] at h
      exact List.mem_cons_of_mem _ (ax_at_mem r pc h)
theorem ax_get_mem : ∀ (l : AxL) (k : Nat) {v : Value}, ax_get l k = some v → (k, v) ∈ l
  | [], _, _, h => by simp [ax_get] at h
  | (i, u) :: r, k, v, h => by
    simp only [ax_get] at h
    cases hb : Nat.beq i k with
    | true =>
      rw [hb] at h
      have e1 : i = k := Nat.eq_of_beq_eq_true hb
      simp at h
      subst e1; subst h
      exact List.mem_cons_self
    | false =>
      rw [hb] at h
      exact List.mem_cons_of_mem _ (ax_get_mem r k h)
theorem ax_del_mem : ∀ (l : AxL) (k : Nat) {q : Nat × Value}, q ∈ ax_del l k → q ∈ l ∧ q.1 ≠ k
  | [], _, _, h => by simp [ax_del] at h
  | (i, u) :: r, k, q, h => by
    simp only [ax_del] at h
    cases hb : Nat.beq i k with
    | true =>
      rw [hb] at h
      obtain ⟨h1, h2⟩ := ax_del_mem r k h
      exact ⟨List.mem_cons_of_mem _ h1, h2⟩
    | false =>
      rw [hb] at h
      rcases List.mem_cons.mp h with h1 | h1
      · subst h1
        exact ⟨List.mem_cons_self, fun e => by rw [show i = k from e, Nat.beq_refl] at hb; cases hb⟩
      · obtain ⟨h2, h3⟩ := ax_del_mem r k h1
        exact ⟨List.mem_cons_of_mem _ h2, h3⟩
theorem ax_set_mem : ∀ (l : AxL) (k : Nat) (v : Value) {q : Nat × Value}, q ∈ ax_set l k v → q = (k, v) ∨ (q ∈ l ∧ q.1 ≠ k)
  | [], _, _, _, h => by simp [ax_set] at h; exact Or.inl h
  | (i, u) :: r, k, v, q, h => by
    simp only [ax_set] at h
    cases hb : Nat.beq i k with
    | true =>
      rw [hb] at h
      rcases List.mem_cons.mp h with h1 | h1
      · exact Or.inl h1
      · obtain ⟨h2, h3⟩ := ax_del_mem r k h1
        exact Or.inr ⟨List.mem_cons_of_mem _ h2, h3⟩
    | false =>
      rw [hb] at h
      rcases List.mem_cons.mp h with h1 | h1
      · subst h1
        exact Or.inr ⟨List.mem_cons_self, fun e => by rw [show i = k from e, Nat.beq_refl] at hb; cases hb⟩
      · rcases ax_set_mem r k v h1 with h2 | ⟨h2, h3⟩
        · exact Or.inl h2
        · exact Or.inr ⟨List.mem_cons_of_mem _ h2, h3⟩
def ax_v (σ : Nat → Nat) : Value → Value
  | .ref k => .ref (σ k)
  | v => v
theorem ax_v_cat (σ : Nat → Nat) (v : Value) : (ax_v σ v).category = v.category := by cases v <;> rfl
theorem ax_v_cats (σ : Nat → Nat) (st : List Value) : ((st.map (ax_v σ)).map fun v => v.category) = st.map fun v => v.category := by
  rw [List.map_map]
  congr 1
  funext v
  exact ax_v_cat σ v
def ax_e (σ : Nat → Nat) (τ : Nat → ClassId) : va_E → va_E
  | .inl (t, a) => .inl (τ t, a)
  | .inr (ci, fs) => .inr (ci, fs.map (ax_v σ))
def ax_Wd (σ : Nat → Nat) (τ : Nat → ClassId) : Nat → AxW → va_W
  | _, [] => []
  | k, c :: r => (σ (k + 1), ax_e σ τ c) :: ax_Wd σ τ (k + 1) r
def ax_W (σ : Nat → Nat) (τ : Nat → ClassId) (w : AxW) : va_W := ax_Wd σ τ 0 w
def ax_l (σ : Nat → Nat) (ls : AxL) : AxL := ls.map (fun q => (q.1, ax_v σ q.2))
theorem ax_Wd_at (σ : Nat → Nat) (τ : Nat → ClassId) : ∀ (w : AxW) (j k : Nat), (ax_Wd σ τ j w)[k]? = (w[k]?).map (fun c => (σ (j + k + 1), ax_e σ τ c))
  | [], _, _ => by simp [ax_Wd]
  | c :: r, j, 0 => by simp [ax_Wd]
  | c :: r, j, k + 1 => by
    simp only [ax_Wd, List.getElem?_cons_succ]
    rw [ax_Wd_at σ τ r (j + 1) k, show j + 1 + k + 1 = j + (k + 1) + 1 by omega]
theorem ax_W_at (σ : Nat → Nat) (τ : Nat → ClassId) (w : AxW) (k : Nat) : (ax_W σ τ w)[k]? = (w[k]?).map (fun c => (σ (k + 1), ax_e σ τ c)) := by
  unfold ax_W
  rw [ax_Wd_at, Nat.zero_add]
theorem ax_W_some {σ : Nat → Nat} {τ : Nat → ClassId} {w : AxW} {k : Nat} {c : va_E} (h : ax_nth w k = some c) : (ax_W σ τ w)[k]? = some (σ (k + 1), ax_e σ τ c) := by
  rw [ax_nth_eq] at h
  rw [ax_W_at, h]
  rfl
theorem ax_W_len (σ : Nat → Nat) (τ : Nat → ClassId) (w : AxW) : (ax_W σ τ w).length = w.length := by
  have : ∀ (w : AxW) (j : Nat), (ax_Wd σ τ j w).length = w.length := by
    intro w
    induction w with
    | nil => intro j; rfl
    | cons c r ih => intro j; simp [ax_Wd, ih]
  exact this w 0
theorem ax_W_set (σ : Nat → Nat) (τ : Nat → ClassId) (w : AxW) (k : Nat) (c : va_E) (hk : k < w.length) : ax_W σ τ (ax_upd w k c) = (ax_W σ τ w).set k (σ (k + 1), ax_e σ τ c) := by
  apply List.ext_getElem?
  intro j
  rw [ax_W_at, ax_upd_eq, List.getElem?_set, List.getElem?_set, ax_W_at, ax_W_len]
  by_cases h : k = j
  · subst h
    simp [hk]
  · simp [h]
theorem ax_v_ext {σ σ' : Nat → Nat} {n : Nat} (h : ∀ k, k ≤ n → σ' k = σ k) {v : Value} (hv : ax_wv n v = true) : ax_v σ' v = ax_v σ v := by
  cases v with
  | ref k => simp only [ax_v]; rw [h k (Nat.le_of_ble_eq_true hv)]
  | _ => rfl
theorem ax_vs_ext {σ σ' : Nat → Nat} {n : Nat} (h : ∀ k, k ≤ n → σ' k = σ k) {st : List Value} (hv : st.all (ax_wv n) = true) : st.map (ax_v σ') = st.map (ax_v σ) := by
  apply List.map_congr_left
  intro v hm
  exact ax_v_ext h (List.all_eq_true.mp hv v hm)
theorem ax_l_ext {σ σ' : Nat → Nat} {n : Nat} (h : ∀ k, k ≤ n → σ' k = σ k) {ls : AxL} (hv : ls.all (fun q => ax_wv n q.2) = true) : ax_l σ' ls = ax_l σ ls := by
  apply List.map_congr_left
  intro q hm
  rw [ax_v_ext h (List.all_eq_true.mp hv q hm)]
theorem ax_e_ext {σ σ' : Nat → Nat} {τ : Nat → ClassId} {n : Nat} (h : ∀ k, k ≤ n → σ' k = σ k) {c : va_E} (hv : ax_we n c = true) : ax_e σ' τ c = ax_e σ τ c := by
  cases c with
  | inl a => rfl
  | inr o =>
    obtain ⟨ci, fs⟩ := o
    simp only [ax_e]
    rw [ax_vs_ext h hv]
theorem ax_W_ext {σ σ' : Nat → Nat} {τ : Nat → ClassId} {w : AxW} (h : ∀ k, k ≤ w.length → σ' k = σ k) (hv : w.all (ax_we w.length) = true) : ax_W σ' τ w = ax_W σ τ w := by
  apply List.ext_getElem?
  intro j
  rw [ax_W_at, ax_W_at]
  cases hj : w[j]? with
  | none => rfl
  | some c =>
    have hlt : j < w.length := (List.getElem?_eq_some_iff.mp hj).1
    simp only [Option.map_some]
    rw [h (j + 1) hlt, ax_e_ext h (List.all_eq_true.mp hv c (List.mem_of_getElem? hj))]
theorem ax_W_push (σ : Nat → Nat) (τ : Nat → ClassId) (w : AxW) (c : va_E) : ax_W σ τ (w ++ [c]) = ax_W σ τ w ++ [(σ (w.length + 1), ax_e σ τ c)] := by
  apply List.ext_getElem?
  intro j
  rw [ax_W_at, List.getElem?_append, List.getElem?_append, ax_W_len, ax_W_at]
  by_cases h : j < w.length
  · simp [h]
  · simp only [h, if_false]
    by_cases h2 : j = w.length
    · subst h2; simp
    · have : 1 ≤ j - w.length := by omega
      rw [List.getElem?_eq_none (by simpa using this), List.getElem?_eq_none (by simpa using this)]
      rfl
theorem ax_split_eq : ∀ (n : Nat) (acc st as rest : List Value), ax_split n acc st = some (as, rest) → ∃ ys : List Value, as = ys ++ acc ∧ st = ys.reverse ++ rest ∧ ys.length = n
  | 0, acc, st, as, rest, h => by
    simp only [ax_split, Option.some.injEq, Prod.mk.injEq] at h
    obtain ⟨h1, h2⟩ := h
    exact ⟨[], by simp [h1], by simp [h2], rfl⟩
  | n + 1, acc, [], as, rest, h => by simp [ax_split] at h
  | n + 1, acc, v :: r, as, rest, h => by
    simp only [ax_split] at h
    obtain ⟨ys, h1, h2, h3⟩ := ax_split_eq n (v :: acc) r as rest h
    exact ⟨ys ++ [v], by simp [h1], by simp [h2], by simp [h3]⟩
theorem ax_split_of {n : Nat} {st as rest : List Value} (h : ax_split n [] st = some (as, rest)) : st = as.reverse ++ rest ∧ as.length = n := by
  obtain ⟨ys, h1, h2, h3⟩ := ax_split_eq n [] st as rest h
  rw [List.append_nil] at h1
  subst h1
  exact ⟨h2, h3⟩
theorem ax_ent_args (σ : Nat → Nat) : ∀ (k : Nat) (as : List Value), (∀ v ∈ as, v.category = 1) → lv_args k (as.map (ax_v σ)) = ax_l σ (ax_ent k as)
  | _, [], _ => rfl
  | k, v :: r, h => by
    have h1 : (ax_v σ v).category = 1 := by rw [ax_v_cat]; exact h v List.mem_cons_self
    simp only [List.map_cons, lv_args, ax_ent, ax_l, h1]
    rw [if_neg (by decide)]
    have h2 := ax_ent_args σ (k + 1) r (fun u hu => h u (List.mem_cons_of_mem _ hu))
    simp only [ax_l] at h2
    rw [h2]
theorem ax_ent_cat : ∀ (k : Nat) (as : List Value), (∀ v ∈ as, v.category = 1) → ∀ q ∈ ax_ent k as, q.2.category = 1
  | _, [], _, q, h => by simp [ax_ent] at h
  | k, v :: r, hv, q, h => by
    simp only [ax_ent] at h
    rcases List.mem_cons.mp h with h1 | h1
    · subst h1; exact hv v List.mem_cons_self
    · exact ax_ent_cat (k + 1) r (fun u hu => hv u (List.mem_cons_of_mem _ hu)) q h1
theorem ax_lv_sub {ls : Array Slot} {n : Nat} {l l' : AxL} (h : lv_has ls n l) (hs : ∀ q ∈ l', q ∈ l) : lv_has ls n l' := ⟨h.1, h.2.1, fun q hq => h.2.2 q (hs q hq)⟩
theorem ax_sl_len : ∀ (vs : List Value), (∀ v ∈ vs, v.category = 1) → (lg_sl vs).length = vs.length
  | [], _ => rfl
  | v :: r, h => by
    have h1 : v.category = 1 := h v List.mem_cons_self
    have h2 := ax_sl_len r (fun u hu => h u (List.mem_cons_of_mem _ hu))
    simp only [lg_sl, List.flatMap_cons, List.length_append, h1] at h2 ⊢
    rw [h2, if_neg (by decide)]
    simp
    omega
/-- a store into a local, in our lists -/
theorem ax_set_has {σ : Nat → Nat} {ls : AxL} {k : Nat} {v : Value} (hc : ∀ q ∈ ls, q.2.category = 1) : ∀ q ∈ ax_l σ (ax_set ls k v), q ∈ (k, ax_v σ v) :: (ax_l σ ls).filter (fun q => !(q.1 == k) && !(q.1 + 1 == k && q.2.category == 2)) := by
  intro q hq
  obtain ⟨q0, h0, rfl⟩ := List.mem_map.mp hq
  rcases ax_set_mem ls k v h0 with h1 | ⟨h1, h2⟩
  · subst h1; exact List.mem_cons_self
  · refine List.mem_cons_of_mem _ (List.mem_filter.mpr ⟨List.mem_map.mpr ⟨q0, h1, rfl⟩, ?_⟩)
    have h3 := hc q0 h1
    simp [h2, ax_v_cat, h3]
theorem ax_set_cat {ls : AxL} {k : Nat} {v : Value} (hc : ∀ q ∈ ls, q.2.category = 1) (hv : v.category = 1) : ∀ q ∈ ax_set ls k v, q.2.category = 1 := by
  intro q hq
  rcases ax_set_mem ls k v hq with h1 | ⟨h1, -⟩
  · subst h1; exact hv
  · exact hc q h1
