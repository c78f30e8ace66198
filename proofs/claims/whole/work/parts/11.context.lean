/-! Where a method of the program stands, in the machine and in our own. -/
def ax_Cx (i : Nat) (p : Program) (l : Launch) (s : State) (m : MethodId) (args : Array Value) (meth : Method) (c : Code) (A : Nat → Prop) (D : va_G) (τ : Nat → ClassId) (bS L : Nat) (xs : Nat → Int32) : Prop :=
  i < 106 ∧ p.tables.exec = Jvm.exec ∧ c.code = axB i ∧ meth.sig.returnType = axRe i ∧ c.maxLocals = axLo i ∧ s.vm.findClass (axO i) = some m.cls ∧ (∀ w ∈ axTB, w.before args s = true) ∧ meth.locks = false ∧ meth.name = (axY i).name ∧
  c.exceptionTable.toList = tableOf (axHh i) ∧ ax_G D τ bS L xs A s s.heap ∧ (∀ q, s.heap.size ≤ q → A q) ∧ l.stackTraces = false
/-- our cells, locals and counts are the machine's -/
def ax_In (i : Nat) (s : State) (A : Nat → Prop) (D : va_G) (τ : Nat → ClassId) (bS : Nat) (a0 b0 n0 : Nat) (σ0 : Nat → Nat) (ls : AxL) (w : AxW) (a b : Nat) (H : Heap) (locs : List Loc) (cells slots : Nat) (σ : Nat → Nat) (lsA : Array Slot) : Prop :=
  va_P D axCl (ax_W σ τ w) H ∧ va_D A (ax_W σ τ w) ∧ va_S A s.heap H locs ∧ lv_has lsA (axLo i) (ax_l σ ls) ∧ (∀ q ∈ ls, q.2.category = 1) ∧ (∀ k, k ≤ n0 → σ k = σ0 k) ∧ n0 ≤ w.length ∧ cells + a0 = a ∧ slots + b0 = b ∧ σ 0 = bS
/-- from this place of ours, wherever its cells lie, the machine comes to Q -/
def ax_Go (i : Nat) (p : Program) (l : Launch) (e : Env) (R : Room) (s : State) (m : MethodId) (args : Array Value) (below : List Frame) (meth : Method) (c : Code) (A : Nat → Prop) (D : va_G) (τ : Nat → ClassId) (bS a0 b0 n0 : Nat) (σ0 : Nat → Nat) (Q : State → Prop) (k : AxC) : Prop :=
  ∀ (H : Heap) (locs : List Loc) (cells slots : Nat) (σ : Nat → Nat) (lsA : Array Slot), ax_In i s A D τ bS a0 b0 n0 σ0 k.2.1 k.2.2.2.1 k.2.2.2.2.1 k.2.2.2.2.2 H locs cells slots σ lsA →
    W p l e R s m args below meth c H locs cells slots Q (F0 m k.1 lsA (k.2.2.1.map (ax_v σ)))
def ax_next (o : Option (AxC ⊕ List (Prop × AxC))) (k : AxC) : Prop := match o with
  | none => False
  | some (.inl c) => c = k
  | some (.inr q) => ∃ P : Prop, (P, k) ∈ q ∧ P
theorem ax_decs {i pc : Nat} (hi : i < 106) {ins : Instr} {x y : Nat} (h : ax_at (axT i) pc = some (ins, x, y)) : ∃ n, decode (axB i) pc = .ok (ins, n) ∧ (ax_isw ins = true ∨ n = ax_ln ins) := by
  have h1 := List.all_eq_true.mp (ax_dk i hi) _ (ax_at_mem _ _ h)
  unfold ax_dec at h1
  cases hd : decode (axB i) pc with
  | error e => simp [hd] at h1
  | ok q =>
    obtain ⟨ins', n⟩ := q
    simp only [hd, Bool.and_eq_true, decide_eq_true_eq, Bool.or_eq_true] at h1
    obtain ⟨h2, h3⟩ := h1
    subst h2
    exact ⟨n, rfl, h3.imp id (fun h => Nat.eq_of_beq_eq_true h)⟩
theorem ax_decn {i pc : Nat} (hi : i < 106) {ins : Instr} {x y : Nat} (h : ax_at (axT i) pc = some (ins, x, y)) (hs : ax_isw ins = false) : decode (axB i) pc = .ok (ins, ax_ln ins) := by
  obtain ⟨n, h1, h2⟩ := ax_decs hi h
  rcases h2 with h2 | h2
  · rw [hs] at h2; cases h2
  · rw [h1, h2]
theorem ax_stat {i pc : Nat} (hi : i < 106) {ins : Instr} {x y : Nat} (h : ax_at (axT i) pc = some (ins, x, y)) : ax_stc i (pc, ins, x, y) = true := List.all_eq_true.mp (ax_sk i hi) _ (ax_at_mem _ _ h)
theorem ax_blt {a b : Nat} (h : Nat.blt a b = true) : a < b := Nat.le_of_ble_eq_true h
theorem ax_tg_eq {pc : Nat} {off : Int} (h : ax_tgs pc off = true) : (pc : Int) + off = (ax_tg pc off : Int) := by
  unfold ax_tgs at h
  have := of_decide_eq_true h
  unfold ax_tg
  omega
theorem ax_fit_ok {ty : FieldType} {σ : Nat → Nat} {v : Value} (h : ax_fit ty v = true) : narrow ty (ax_v σ v) = ax_v σ v ∧ fits ty (ax_v σ v) = true := by
  cases v <;> cases ty <;> first | (simp [ax_fit] at h; done) | exact ⟨rfl, rfl⟩
/-- a place in a switch's list -/
theorem ax_sw_mem {pc : Nat} {z : Int32} {lo : Int} : ∀ (offs : List Int) (j : Nat) {P : Prop} {t : Nat}, (P, t) ∈ ax_sw pc z lo j offs → P → ∃ k off, offs[k]? = some off ∧ z.toInt = lo + ((j + k : Nat) : Int) ∧ t = ax_tg pc off
  | [], _, _, _, h, _ => by simp [ax_sw] at h
  | off :: r, j, P, t, h, hP => by
    simp only [ax_sw] at h
    rcases List.mem_cons.mp h with h1 | h1
    · obtain ⟨e1, e2⟩ := Prod.mk.inj h1
      subst e1
      exact ⟨0, off, rfl, by simpa using hP, e2⟩
    · obtain ⟨k, o2, q1, q2, q3⟩ := ax_sw_mem r (j + 1) h1 hP
      exact ⟨k + 1, o2, by simpa using q1, by rw [q2]; congr 2; omega, q3⟩
theorem ax_lk_mem {pc : Nat} {z : Int32} {ps : List (Int × Int)} {dflt : Int} : ∀ (offs : List Int) {P : Prop} {t : Nat}, (P, t) ∈ ax_lk pc z ps dflt offs → P → ∃ off ∈ offs, Op.lookupswitch.offset ps dflt z.toInt = off ∧ t = ax_tg pc off
  | [], _, _, h, _ => by simp [ax_lk] at h
  | off :: r, P, t, h, hP => by
    simp only [ax_lk] at h
    rcases List.mem_cons.mp h with h1 | h1
    · obtain ⟨e1, e2⟩ := Prod.mk.inj h1
      subst e1
      exact ⟨off, List.mem_cons_self, hP, e2⟩
    · obtain ⟨o2, q1, q2, q3⟩ := ax_lk_mem r h1 hP
      exact ⟨o2, List.mem_cons_of_mem _ q1, q2, q3⟩
