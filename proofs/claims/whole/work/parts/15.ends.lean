/-! How a method of ours ends: it returns, or it throws. -/
def ax_Qr (D : va_G) (τ : Nat → ClassId) (A : Nat → Prop) (σ0 : Nat → Nat) (n0 : Nat) (w1 : AxW) (r : Option Value ⊕ Nat) : Array Value → State → Outcome → State → Prop := fun _ st oc t =>
  (∃ (σ' : Nat → Nat) (v : Option Value), (∀ k, k ≤ n0 → σ' k = σ0 k) ∧ r = .inl v ∧ oc = .returned (v.map (ax_v σ')) ∧ va_P D axCl (ax_W σ' τ w1) t.heap ∧ va_D A (ax_W σ' τ w1)) ∧ va_F A st t
def ax_Xr (D : va_G) (τ : Nat → ClassId) (A : Nat → Prop) (σ0 : Nat → Nat) (n0 : Nat) (w1 : AxW) (r : Option Value ⊕ Nat) : String → State → State → Prop := fun E st t =>
  (∃ (σ' : Nat → Nat) (x : Nat), (∀ k, k ≤ n0 → σ' k = σ0 k) ∧ r = .inr x ∧ x < 6 ∧ E = axEx x ∧ va_P D axCl (ax_W σ' τ w1) t.heap ∧ va_D A (ax_W σ' τ w1)) ∧ va_F A st t
section AXE
variable {p : Program} {l : Launch} {e : Env} {R : Room} {s : State} {m : MethodId} {args : Array Value} {below : List Frame} {meth : Method} {c : Code} {A : Nat → Prop} {D : va_G} {τ : Nat → ClassId} {bS L a0 b0 n0 mc ms : Nat} {xs : Nat → Int32} {σ0 : Nat → Nat}
variable {i pc x y a b cells slots : Nat} {ls : AxL} {st : List Value} {w : AxW} {H : Heap} {locs : List Loc} {σ : Nat → Nat} {lsA : Array Slot}
theorem ax_iret {z : Int32} (hat : ax_at (axT i) pc = some (.ireturn, x, y)) (hz : ax_rv i z) (C : ax_Cx i p l s m args meth c A D τ bS L xs) (I : ax_In i s A D τ bS a0 b0 n0 σ0 ls w a b H locs cells slots σ lsA) (hm1 : a ≤ a0 + mc) (hm2 : b ≤ b0 + ms) :
    W p l e R s m args below meth c H locs cells slots (vx_MQ below (ax_Qr D τ A σ0 n0 w (.inl (some (.int z)))) (ax_Xr D τ A σ0 n0 w (.inl (some (.int z)))) args s mc ms A) (F0 m pc lsA [.int z]) := by
  obtain ⟨hi, hx, hb, hr, hml, hown, hts, hlocks, hnm, htab, hG, hA, hl9⟩ := C
  obtain ⟨hP, hD, hS, hl, hc, hσ, hn0, hca, hcb, hs0⟩ := I
  have hd := ax_decn hi hat (by rfl)
  refine W.widen (k := mc) (n := ms) (by omega) (by omega) ?_
  have hq : ∀ t : State, t.heap = H → s.WarmedH t.vm → ax_Qr D τ A σ0 n0 w (.inl (some (.int z))) args s (.returned (some (.int z))) t := fun t ht hW => ⟨⟨σ, some (.int z), hσ, rfl, rfl, by rw [ht]; exact hP, hD⟩, hS.F ht⟩
  unfold ax_rv at hz
  split at hz
  · next h9 => exact vx_ret (W.iret hx hb (hr.trans h9) hq hS.2.2 hd hlocks)
  · next h9 =>
    refine vx_ret (W.zret hx hb (hr.trans h9) ?_ hq hS.2.2 hd hlocks)
    rcases hz with rfl | rfl <;> rfl
  · exact hz.elim
theorem ax_vret (hat : ax_at (axT i) pc = some (.return_, x, y)) (hz : axRe i = none) (C : ax_Cx i p l s m args meth c A D τ bS L xs) (I : ax_In i s A D τ bS a0 b0 n0 σ0 ls w a b H locs cells slots σ lsA) (hm1 : a ≤ a0 + mc) (hm2 : b ≤ b0 + ms) :
    W p l e R s m args below meth c H locs cells slots (vx_MQ below (ax_Qr D τ A σ0 n0 w (.inl none)) (ax_Xr D τ A σ0 n0 w (.inl none)) args s mc ms A) (F0 m pc lsA []) := by
  obtain ⟨hi, hx, hb, hr, hml, hown, hts, hlocks, hnm, htab, hG, hA, hl9⟩ := C
  obtain ⟨hP, hD, hS, hl, hc, hσ, hn0, hca, hcb, hs0⟩ := I
  have hd := ax_decn hi hat (by rfl)
  refine W.widen (k := mc) (n := ms) (by omega) (by omega) ?_
  exact vx_ret (W.vret hx hb (hr.trans hz) (fun t ht hW => ⟨⟨σ, none, hσ, rfl, rfl, by rw [ht]; exact hP, hD⟩, hS.F ht⟩) hS.2.2 hd hlocks)
theorem ax_ot {w9 : Cond} (h : ax_gw w9 = true) : vx_ot w9 = true := by
  unfold vx_ot
  cases w9 <;> first
    | (simp only [ax_gw, Bool.and_eq_true] at h; rw [h.1]; rfl)
    | rfl
theorem ax_efit : ∀ e9, e9 < 6 → Bundle.fit (axEx e9) = true ∧ (∀ n ∈ axEn e9, Bundle.fit n = true) ∧ (axEn e9).length ≤ 3 := by decide +kernel
set_option maxHeartbeats 1000000 in
theorem ax_thrown {j : Nat} (hk : ax_kind (.new j) x = 3) (hat : ax_at (axT i) pc = some (.new j, x, y)) (hw : ax_wt st = true) (hf : 7 ≤ R.frames) (hlo : 280 ≤ R.locals) (C : ax_Cx i p l s m args meth c A D τ bS L xs) (I : ax_In i s A D τ bS a0 b0 n0 σ0 ls w a b H locs cells slots σ lsA)
    (hq1 : a + 1 ≤ a0 + R.cells) (hq2 : b + 6 ≤ b0 + R.slots) (hm1 : a + 1 ≤ a0 + mc) (hm2 : b + 6 ≤ b0 + ms) :
    W p l e R s m args below meth c H locs cells slots (vx_MQ below (ax_Qr D τ A σ0 n0 w (.inr (x - 100))) (ax_Xr D τ A σ0 n0 w (.inr (x - 100))) args s mc ms A) (F0 m pc lsA (st.map (ax_v σ))) := by
  obtain ⟨hi, hx, hb, hr, hml, hown, hts, hlocks, hnm, htab, hG, hA, hl9⟩ := C
  obtain ⟨hP, hD, hS, hl, hc, hσ, hn0, hca, hcb, hs0⟩ := I
  have hd := ax_decn hi hat (by rfl)
  have hst := ax_stat hi hat
  have h100 : Nat.blt x 100 = false := by
    cases h7 : Nat.blt x 100 with
    | false => rfl
    | true => simp [ax_kind, h7] at hk
  have hx100 : ¬ x < 100 := fun h => by
    have : Nat.blt x 100 = true := by
      show Nat.ble (x + 1) 100 = true
      exact Nat.ble_eq_true_of_le h
    rw [h100] at this
    cases this
  simp only [ax_stc, Bool.or_eq_true, Bool.and_eq_true] at hst
  rcases hst with h7 | hst
  · have := ax_blt h7
    omega
  obtain ⟨⟨⟨⟨⟨⟨⟨⟨⟨⟨g1, g2⟩, g3⟩, g4⟩, g5⟩, g6⟩, g7⟩, g8⟩, g9⟩, g10⟩, g11⟩ := hst
  have g2 := ax_blt g2
  have g3 := ax_blt g3
  have g4 : axHh i = [] := of_decide_eq_true g4
  have g5 : axO i = "PickPaths" := of_decide_eq_true g5
  have g6 : (axTh y).1 = x - 100 := of_decide_eq_true g6
  have g7 : (axTh y).2.1 = j := of_decide_eq_true g7
  have dd : ∀ {pc9 : Nat} {ins : Instr}, ax_dec (axB i) (pc9, ins, 0, 0) = true → ax_isw ins = false → decode (axB i) pc9 = .ok (ins, ax_ln ins) := by
    intro pc9 ins h hs
    unfold ax_dec at h
    cases hd9 : decode (axB i) pc9 with
    | error _ => simp [hd9] at h
    | ok q =>
      obtain ⟨i9, n9⟩ := q
      simp only [hd9, Bool.and_eq_true, decide_eq_true_eq, Bool.or_eq_true] at h
      obtain ⟨h2, h3⟩ := h
      subst h2
      rcases h3 with h3 | h3
      · rw [hs] at h3; cases h3
      · rw [Nat.eq_of_beq_eq_true h3]
  have d3 := dd g8 rfl
  have d4 := dd g9 rfl
  have d6 := dd g10 rfl
  have d9 := dd g11 rfl
  have hout : ∀ x ∈ c.exceptionTable.toList, covers x (pc + 9) = false := fun z hz => by rw [htab, g4] at hz; cases hz
  have he6 : x - 100 < 6 := by omega
  obtain ⟨f1, f2, f3⟩ := ax_efit (x - 100) he6
  obtain ⟨sa, hstr⟩ := hG.2.2.2.2.2.2.1 y g3
  have hcl : ∀ u, u ∈ ([.classLink (axO i) j (axEx (x - 100)), .initialized (axEx (x - 100))] : List Cond) → u ∈ axTB := fun u hu => ax_in_need hi (ax_at_mem _ _ hat) (w := u) (by simp only [ax_need, h100, cond_false]; exact hu) (by
    simp only [List.mem_cons, List.not_mem_nil, or_false] at hu
    rcases hu with rfl | rfl <;> rfl)
  have hwt := Nat.le_of_ble_eq_true hw
  rw [g5] at hown hcl
  have hQ : ∀ t : State, s.vm.Alike t.vm → H.size ≤ t.heap.size → (∀ q : Nat, q < H.size → t.heap[q]? = H[q]?) → ax_Xr D τ A σ0 n0 w (.inr (x - 100)) (axEx (x - 100)) s t := fun t h1 h2 h3 =>
    ⟨⟨σ, x - 100, hσ, rfl, he6, rfl, hP.kept (fun k9 q9 hq9 => h3 _ ((hP k9 q9 hq9).lt)), hD⟩, Nat.le_trans hS.1 h2, fun q hq hnq => (h3 q (Nat.lt_of_lt_of_le hq hS.1)).trans (hS.2.1 q hq hnq)⟩
  by_cases h12 : y < 12
  · have hT : axThL y = vx_atS "PickPaths" (axTh y).2.2.2.1 (axEx (x - 100)) (axEn (x - 100)) := by
      unfold axThL
      rw [show Nat.blt y 12 = true from Nat.ble_eq_true_of_le h12, ← g6]
      rfl
    refine vx_throwS (A := A) hx hb hl9 (own := "PickPaths") (cls := axEx (x - 100)) (names := axEn (x - 100)) (ik := j) (is := (axTh y).2.2.1) (ic := (axTh y).2.2.2.1) hown f1 f2 (hts _ (hcl _ (by simp))) (hts _ (hcl _ (by simp))) hstr
      (fun w9 h9 => hts _ (ax_in_th g3 (by rw [hT]; exact h9))) (fun w9 h9 => ?_) hG.2.2.2.2.1 hG.2.2.2.2.2.1 hS (by rw [hml]; exact hl.1) hd d3 d4 d6 d9 hout (by omega) (by rw [ax_v_cats]; omega) (by omega) (by omega) hlocks hQ hS.2.2 (by omega) (by omega)
    rcases List.mem_cons.mp h9 with h9 | h9
    · rw [h9]; exact ax_ot (ax_TB_ok _ (hcl _ (by simp))).2
    rcases List.mem_cons.mp h9 with h9 | h9
    · rw [h9]; exact ax_ot (ax_TB_ok _ (hcl _ (by simp))).2
    · exact ax_ot (ax_TB_ok _ (ax_in_th g3 (by rw [hT]; exact h9))).2
  · have hT : axThL y = axNw := by
      unfold axThL
      have : Nat.blt y 12 = false := by
        cases h7 : Nat.blt y 12 with
        | false => rfl
        | true => exact absurd (ax_blt h7) h12
      rw [this]
      rfl
    have hy2 : (axTh y).1 = 0 ∧ (axTh y).2.2.2.1 = 179 := by
      rcases (show y = 12 ∨ y = 13 by omega) with rfl | rfl <;> exact ⟨rfl, rfl⟩
    have hx0 : x - 100 = 0 := g6.symm.trans hy2.1
    rw [hy2.2] at d6
    rw [hx0] at hcl hQ ⊢
    refine ax_throwN (A := A) hx hb hl9 (own := "PickPaths") (cls := "java/util/NoSuchElementException") (sup := "java/lang/RuntimeException") (names := ["java/lang/Exception"]) (ik := j) (is := (axTh y).2.2.1) (ic := 179) (idx := 13) (bytes := axNb) hown (by decide +kernel) (by decide +kernel) (by decide +kernel)
      (by decide +kernel) (by decide +kernel) (by decide +kernel) (by decide +kernel) (hts _ (hcl _ List.mem_cons_self)) (hts _ (hcl _ (List.mem_cons_of_mem _ List.mem_cons_self))) hstr
      (fun w9 h9 => hts _ (ax_in_th g3 (by rw [hT]; exact h9))) (fun w9 h9 => ?_) hG.2.2.2.2.1 hG.2.2.2.2.2.1 hS (by rw [hml]; exact hl.1) hd d3 d4 d6 d9 hout (by show 1 + 4 < _; omega) (by rw [ax_v_cats]; show _ + (13 * (1 + 2) + 43) ≤ _; omega) (by omega) (by omega) hlocks hQ hS.2.2 (by omega) (by omega)
    rcases List.mem_cons.mp h9 with h9 | h9
    · rw [h9]; exact ax_ot (ax_TB_ok _ (hcl _ List.mem_cons_self)).2
    rcases List.mem_cons.mp h9 with h9 | h9
    · rw [h9]; exact ax_ot (ax_TB_ok _ (hcl _ (List.mem_cons_of_mem _ List.mem_cons_self))).2
    · exact ax_ot (ax_TB_ok _ (ax_in_th g3 (by rw [hT]; exact h9))).2
end AXE
