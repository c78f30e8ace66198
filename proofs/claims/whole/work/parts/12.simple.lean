/-! A simple instruction of ours is a step of the machine. -/
section AXS
variable {p : Program} {l : Launch} {e : Env} {R : Room} {s : State} {m : MethodId} {args : Array Value} {below : List Frame} {meth : Method} {c : Code} {A : Nat → Prop} {D : va_G} {τ : Nat → ClassId} {bS L a0 b0 n0 : Nat} {xs : Nat → Int32} {σ0 : Nat → Nat} {Q : State → Prop}
variable {i pc x y a b cells slots : Nat} {ls : AxL} {st : List Value} {w : AxW} {H : Heap} {locs : List Loc} {σ : Nat → Nat} {lsA : Array Slot} {k : AxC}
/-- the number that a local holds -/
theorem ax_lget (hl : lv_has lsA (axLo i) (ax_l σ ls)) {j : Nat} {v : Value} (h : ax_get ls j = some v) : lsA[j]? = some (.val (ax_v σ v)) := hl.2.2 (j, ax_v σ v) (List.mem_map.mpr ⟨(j, v), ax_get_mem ls j h, rfl⟩)

set_option maxHeartbeats 1000000 in
theorem as_iload {j : Nat} (hat : ax_at (axT i) pc = some ((.iload j), x, y)) (hn : ax_next (ax_alts L xs (.iload j) x y (pc, ls, st, w, a, b)) k)
    (C : ax_Cx i p l s m args meth c A D τ bS L xs) (hR : 1 ≤ R.frames ∧ 40 ≤ R.locals) (I : ax_In i s A D τ bS a0 b0 n0 σ0 ls w a b H locs cells slots σ lsA)
    (hbd : k.2.2.2.2.1 ≤ a0 + R.cells ∧ k.2.2.2.2.2 ≤ b0 + R.slots) (hgo : ax_Go i p l e R s m args below meth c A D τ bS a0 b0 n0 σ0 Q k) : W p l e R s m args below meth c H locs cells slots Q (F0 m pc lsA (st.map (ax_v σ))) := by
  obtain ⟨hi, hx, hb, hr, hml, hown, hts, hlocks, hnm, htab, hG, hA, hl9⟩ := C
  obtain ⟨hP, hD, hS, hl, hc, hσ, hn0, hca, hcb, hs0⟩ := id I
  have hd := ax_decn hi hat (by rfl)
  have hst := ax_stat hi hat
  simp only [ax_alts] at hn
  split at hn
  · next z hz =>
    cases hn
    exact lv_iload hx hb hd (ax_lget hl hz) (hgo _ _ _ _ _ _ I)
  · exact hn.elim

set_option maxHeartbeats 1000000 in
theorem as_iload_n {j : Fin 4} (hat : ax_at (axT i) pc = some ((.iload_n j), x, y)) (hn : ax_next (ax_alts L xs (.iload_n j) x y (pc, ls, st, w, a, b)) k)
    (C : ax_Cx i p l s m args meth c A D τ bS L xs) (hR : 1 ≤ R.frames ∧ 40 ≤ R.locals) (I : ax_In i s A D τ bS a0 b0 n0 σ0 ls w a b H locs cells slots σ lsA)
    (hbd : k.2.2.2.2.1 ≤ a0 + R.cells ∧ k.2.2.2.2.2 ≤ b0 + R.slots) (hgo : ax_Go i p l e R s m args below meth c A D τ bS a0 b0 n0 σ0 Q k) : W p l e R s m args below meth c H locs cells slots Q (F0 m pc lsA (st.map (ax_v σ))) := by
  obtain ⟨hi, hx, hb, hr, hml, hown, hts, hlocks, hnm, htab, hG, hA, hl9⟩ := C
  obtain ⟨hP, hD, hS, hl, hc, hσ, hn0, hca, hcb, hs0⟩ := id I
  have hd := ax_decn hi hat (by rfl)
  have hst := ax_stat hi hat
  simp only [ax_alts] at hn
  split at hn
  · next z hz =>
    cases hn
    exact lv_iload_n hx hb hd rfl (ax_lget hl hz) (hgo _ _ _ _ _ _ I)
  · exact hn.elim

set_option maxHeartbeats 1000000 in
theorem as_aload {j : Nat} (hat : ax_at (axT i) pc = some ((.aload j), x, y)) (hn : ax_next (ax_alts L xs (.aload j) x y (pc, ls, st, w, a, b)) k)
    (C : ax_Cx i p l s m args meth c A D τ bS L xs) (hR : 1 ≤ R.frames ∧ 40 ≤ R.locals) (I : ax_In i s A D τ bS a0 b0 n0 σ0 ls w a b H locs cells slots σ lsA)
    (hbd : k.2.2.2.2.1 ≤ a0 + R.cells ∧ k.2.2.2.2.2 ≤ b0 + R.slots) (hgo : ax_Go i p l e R s m args below meth c A D τ bS a0 b0 n0 σ0 Q k) : W p l e R s m args below meth c H locs cells slots Q (F0 m pc lsA (st.map (ax_v σ))) := by
  obtain ⟨hi, hx, hb, hr, hml, hown, hts, hlocks, hnm, htab, hG, hA, hl9⟩ := C
  obtain ⟨hP, hD, hS, hl, hc, hσ, hn0, hca, hcb, hs0⟩ := id I
  have hd := ax_decn hi hat (by rfl)
  have hst := ax_stat hi hat
  simp only [ax_alts] at hn
  split at hn
  · next z hz =>
    cases hn
    exact lv_aload hx hb hd (ax_lget hl hz) (hgo _ _ _ _ _ _ I)
  · exact hn.elim

set_option maxHeartbeats 1000000 in
theorem as_aload_n {j : Fin 4} (hat : ax_at (axT i) pc = some ((.aload_n j), x, y)) (hn : ax_next (ax_alts L xs (.aload_n j) x y (pc, ls, st, w, a, b)) k)
    (C : ax_Cx i p l s m args meth c A D τ bS L xs) (hR : 1 ≤ R.frames ∧ 40 ≤ R.locals) (I : ax_In i s A D τ bS a0 b0 n0 σ0 ls w a b H locs cells slots σ lsA)
    (hbd : k.2.2.2.2.1 ≤ a0 + R.cells ∧ k.2.2.2.2.2 ≤ b0 + R.slots) (hgo : ax_Go i p l e R s m args below meth c A D τ bS a0 b0 n0 σ0 Q k) : W p l e R s m args below meth c H locs cells slots Q (F0 m pc lsA (st.map (ax_v σ))) := by
  obtain ⟨hi, hx, hb, hr, hml, hown, hts, hlocks, hnm, htab, hG, hA, hl9⟩ := C
  obtain ⟨hP, hD, hS, hl, hc, hσ, hn0, hca, hcb, hs0⟩ := id I
  have hd := ax_decn hi hat (by rfl)
  have hst := ax_stat hi hat
  simp only [ax_alts] at hn
  split at hn
  · next z hz =>
    cases hn
    exact lv_aload_n hx hb hd rfl (ax_lget hl hz) (hgo _ _ _ _ _ _ I)
  · exact hn.elim

set_option maxHeartbeats 1000000 in
theorem as_istore {j : Nat} (hat : ax_at (axT i) pc = some ((.istore j), x, y)) (hn : ax_next (ax_alts L xs (.istore j) x y (pc, ls, st, w, a, b)) k)
    (C : ax_Cx i p l s m args meth c A D τ bS L xs) (hR : 1 ≤ R.frames ∧ 40 ≤ R.locals) (I : ax_In i s A D τ bS a0 b0 n0 σ0 ls w a b H locs cells slots σ lsA)
    (hbd : k.2.2.2.2.1 ≤ a0 + R.cells ∧ k.2.2.2.2.2 ≤ b0 + R.slots) (hgo : ax_Go i p l e R s m args below meth c A D τ bS a0 b0 n0 σ0 Q k) : W p l e R s m args below meth c H locs cells slots Q (F0 m pc lsA (st.map (ax_v σ))) := by
  obtain ⟨hi, hx, hb, hr, hml, hown, hts, hlocks, hnm, htab, hG, hA, hl9⟩ := C
  obtain ⟨hP, hD, hS, hl, hc, hσ, hn0, hca, hcb, hs0⟩ := id I
  have hd := ax_decn hi hat (by rfl)
  have hst := ax_stat hi hat
  simp only [ax_alts] at hn
  split at hn
  · cases hn
    exact lv_istore hx hb hd hl (ax_blt hst) rfl (fun ls' h' => hgo _ _ _ _ _ _ ⟨hP, hD, hS, ax_lv_sub h' (ax_set_has hc), ax_set_cat hc rfl, hσ, hn0, hca, hcb, hs0⟩)
  · exact hn.elim

set_option maxHeartbeats 1000000 in
theorem as_istore_n {j : Fin 4} (hat : ax_at (axT i) pc = some ((.istore_n j), x, y)) (hn : ax_next (ax_alts L xs (.istore_n j) x y (pc, ls, st, w, a, b)) k)
    (C : ax_Cx i p l s m args meth c A D τ bS L xs) (hR : 1 ≤ R.frames ∧ 40 ≤ R.locals) (I : ax_In i s A D τ bS a0 b0 n0 σ0 ls w a b H locs cells slots σ lsA)
    (hbd : k.2.2.2.2.1 ≤ a0 + R.cells ∧ k.2.2.2.2.2 ≤ b0 + R.slots) (hgo : ax_Go i p l e R s m args below meth c A D τ bS a0 b0 n0 σ0 Q k) : W p l e R s m args below meth c H locs cells slots Q (F0 m pc lsA (st.map (ax_v σ))) := by
  obtain ⟨hi, hx, hb, hr, hml, hown, hts, hlocks, hnm, htab, hG, hA, hl9⟩ := C
  obtain ⟨hP, hD, hS, hl, hc, hσ, hn0, hca, hcb, hs0⟩ := id I
  have hd := ax_decn hi hat (by rfl)
  have hst := ax_stat hi hat
  simp only [ax_alts] at hn
  split at hn
  · cases hn
    exact lv_istore_n hx hb hd rfl hl (ax_blt hst) rfl (fun ls' h' => hgo _ _ _ _ _ _ ⟨hP, hD, hS, ax_lv_sub h' (ax_set_has hc), ax_set_cat hc rfl, hσ, hn0, hca, hcb, hs0⟩)
  · exact hn.elim

set_option maxHeartbeats 1000000 in
theorem as_astore {j : Nat} (hat : ax_at (axT i) pc = some ((.astore j), x, y)) (hn : ax_next (ax_alts L xs (.astore j) x y (pc, ls, st, w, a, b)) k)
    (C : ax_Cx i p l s m args meth c A D τ bS L xs) (hR : 1 ≤ R.frames ∧ 40 ≤ R.locals) (I : ax_In i s A D τ bS a0 b0 n0 σ0 ls w a b H locs cells slots σ lsA)
    (hbd : k.2.2.2.2.1 ≤ a0 + R.cells ∧ k.2.2.2.2.2 ≤ b0 + R.slots) (hgo : ax_Go i p l e R s m args below meth c A D τ bS a0 b0 n0 σ0 Q k) : W p l e R s m args below meth c H locs cells slots Q (F0 m pc lsA (st.map (ax_v σ))) := by
  obtain ⟨hi, hx, hb, hr, hml, hown, hts, hlocks, hnm, htab, hG, hA, hl9⟩ := C
  obtain ⟨hP, hD, hS, hl, hc, hσ, hn0, hca, hcb, hs0⟩ := id I
  have hd := ax_decn hi hat (by rfl)
  have hst := ax_stat hi hat
  simp only [ax_alts] at hn
  split at hn
  · cases hn
    exact lv_astore hx hb hd hl (ax_blt hst) rfl (fun ls' h' => hgo _ _ _ _ _ _ ⟨hP, hD, hS, ax_lv_sub h' (ax_set_has hc), ax_set_cat hc rfl, hσ, hn0, hca, hcb, hs0⟩)
  · exact hn.elim

set_option maxHeartbeats 1000000 in
theorem as_astore_n {j : Fin 4} (hat : ax_at (axT i) pc = some ((.astore_n j), x, y)) (hn : ax_next (ax_alts L xs (.astore_n j) x y (pc, ls, st, w, a, b)) k)
    (C : ax_Cx i p l s m args meth c A D τ bS L xs) (hR : 1 ≤ R.frames ∧ 40 ≤ R.locals) (I : ax_In i s A D τ bS a0 b0 n0 σ0 ls w a b H locs cells slots σ lsA)
    (hbd : k.2.2.2.2.1 ≤ a0 + R.cells ∧ k.2.2.2.2.2 ≤ b0 + R.slots) (hgo : ax_Go i p l e R s m args below meth c A D τ bS a0 b0 n0 σ0 Q k) : W p l e R s m args below meth c H locs cells slots Q (F0 m pc lsA (st.map (ax_v σ))) := by
  obtain ⟨hi, hx, hb, hr, hml, hown, hts, hlocks, hnm, htab, hG, hA, hl9⟩ := C
  obtain ⟨hP, hD, hS, hl, hc, hσ, hn0, hca, hcb, hs0⟩ := id I
  have hd := ax_decn hi hat (by rfl)
  have hst := ax_stat hi hat
  simp only [ax_alts] at hn
  split at hn
  · cases hn
    exact lv_astore_n hx hb hd rfl hl (ax_blt hst) rfl (fun ls' h' => hgo _ _ _ _ _ _ ⟨hP, hD, hS, ax_lv_sub h' (ax_set_has hc), ax_set_cat hc rfl, hσ, hn0, hca, hcb, hs0⟩)
  · exact hn.elim

set_option maxHeartbeats 1000000 in
theorem as_iconst {v : Int} (hat : ax_at (axT i) pc = some ((.iconst v), x, y)) (hn : ax_next (ax_alts L xs (.iconst v) x y (pc, ls, st, w, a, b)) k)
    (C : ax_Cx i p l s m args meth c A D τ bS L xs) (hR : 1 ≤ R.frames ∧ 40 ≤ R.locals) (I : ax_In i s A D τ bS a0 b0 n0 σ0 ls w a b H locs cells slots σ lsA)
    (hbd : k.2.2.2.2.1 ≤ a0 + R.cells ∧ k.2.2.2.2.2 ≤ b0 + R.slots) (hgo : ax_Go i p l e R s m args below meth c A D τ bS a0 b0 n0 σ0 Q k) : W p l e R s m args below meth c H locs cells slots Q (F0 m pc lsA (st.map (ax_v σ))) := by
  obtain ⟨hi, hx, hb, hr, hml, hown, hts, hlocks, hnm, htab, hG, hA, hl9⟩ := C
  obtain ⟨hP, hD, hS, hl, hc, hσ, hn0, hca, hcb, hs0⟩ := id I
  have hd := ax_decn hi hat (by rfl)
  have hst := ax_stat hi hat
  simp only [ax_alts] at hn
  cases hn
  exact lv_iconst hx hb hd rfl (hgo _ _ _ _ _ _ I)

set_option maxHeartbeats 1000000 in
theorem as_bipush {v : Int} (hat : ax_at (axT i) pc = some ((.bipush v), x, y)) (hn : ax_next (ax_alts L xs (.bipush v) x y (pc, ls, st, w, a, b)) k)
    (C : ax_Cx i p l s m args meth c A D τ bS L xs) (hR : 1 ≤ R.frames ∧ 40 ≤ R.locals) (I : ax_In i s A D τ bS a0 b0 n0 σ0 ls w a b H locs cells slots σ lsA)
    (hbd : k.2.2.2.2.1 ≤ a0 + R.cells ∧ k.2.2.2.2.2 ≤ b0 + R.slots) (hgo : ax_Go i p l e R s m args below meth c A D τ bS a0 b0 n0 σ0 Q k) : W p l e R s m args below meth c H locs cells slots Q (F0 m pc lsA (st.map (ax_v σ))) := by
  obtain ⟨hi, hx, hb, hr, hml, hown, hts, hlocks, hnm, htab, hG, hA, hl9⟩ := C
  obtain ⟨hP, hD, hS, hl, hc, hσ, hn0, hca, hcb, hs0⟩ := id I
  have hd := ax_decn hi hat (by rfl)
  have hst := ax_stat hi hat
  simp only [ax_alts] at hn
  cases hn
  exact lv_bipush hx hb hd rfl (hgo _ _ _ _ _ _ I)

set_option maxHeartbeats 1000000 in
theorem as_sipush {v : Int} (hat : ax_at (axT i) pc = some ((.sipush v), x, y)) (hn : ax_next (ax_alts L xs (.sipush v) x y (pc, ls, st, w, a, b)) k)
    (C : ax_Cx i p l s m args meth c A D τ bS L xs) (hR : 1 ≤ R.frames ∧ 40 ≤ R.locals) (I : ax_In i s A D τ bS a0 b0 n0 σ0 ls w a b H locs cells slots σ lsA)
    (hbd : k.2.2.2.2.1 ≤ a0 + R.cells ∧ k.2.2.2.2.2 ≤ b0 + R.slots) (hgo : ax_Go i p l e R s m args below meth c A D τ bS a0 b0 n0 σ0 Q k) : W p l e R s m args below meth c H locs cells slots Q (F0 m pc lsA (st.map (ax_v σ))) := by
  obtain ⟨hi, hx, hb, hr, hml, hown, hts, hlocks, hnm, htab, hG, hA, hl9⟩ := C
  obtain ⟨hP, hD, hS, hl, hc, hσ, hn0, hca, hcb, hs0⟩ := id I
  have hd := ax_decn hi hat (by rfl)
  have hst := ax_stat hi hat
  simp only [ax_alts] at hn
  cases hn
  exact lv_sipush hx hb hd rfl (hgo _ _ _ _ _ _ I)

set_option maxHeartbeats 1000000 in
theorem as_ldc {j : Nat} (hat : ax_at (axT i) pc = some ((.ldc j), x, y)) (hn : ax_next (ax_alts L xs (.ldc j) x y (pc, ls, st, w, a, b)) k)
    (C : ax_Cx i p l s m args meth c A D τ bS L xs) (hR : 1 ≤ R.frames ∧ 40 ≤ R.locals) (I : ax_In i s A D τ bS a0 b0 n0 σ0 ls w a b H locs cells slots σ lsA)
    (hbd : k.2.2.2.2.1 ≤ a0 + R.cells ∧ k.2.2.2.2.2 ≤ b0 + R.slots) (hgo : ax_Go i p l e R s m args below meth c A D τ bS a0 b0 n0 σ0 Q k) : W p l e R s m args below meth c H locs cells slots Q (F0 m pc lsA (st.map (ax_v σ))) := by
  obtain ⟨hi, hx, hb, hr, hml, hown, hts, hlocks, hnm, htab, hG, hA, hl9⟩ := C
  obtain ⟨hP, hD, hS, hl, hc, hσ, hn0, hca, hcb, hs0⟩ := id I
  have hd := ax_decn hi hat (by rfl)
  have hst := ax_stat hi hat
  simp only [ax_alts] at hn
  cases hz : Nat.beq x 0 with
  | true => rw [hz] at hn; exact hn.elim
  | false =>
    rw [hz] at hn
    cases hn
    exact lv_ldc hx hb hown (hts _ (ax_in_need hi (ax_at_mem _ _ hat) (w := .constant (axO i) j (Int32.ofNat x)) (by simp [ax_need, hz]) rfl)) hd (hgo _ _ _ _ _ _ I)

set_option maxHeartbeats 1000000 in
theorem as_iinc {j : Nat} {v : Int} (hat : ax_at (axT i) pc = some ((.iinc j v), x, y)) (hn : ax_next (ax_alts L xs (.iinc j v) x y (pc, ls, st, w, a, b)) k)
    (C : ax_Cx i p l s m args meth c A D τ bS L xs) (hR : 1 ≤ R.frames ∧ 40 ≤ R.locals) (I : ax_In i s A D τ bS a0 b0 n0 σ0 ls w a b H locs cells slots σ lsA)
    (hbd : k.2.2.2.2.1 ≤ a0 + R.cells ∧ k.2.2.2.2.2 ≤ b0 + R.slots) (hgo : ax_Go i p l e R s m args below meth c A D τ bS a0 b0 n0 σ0 Q k) : W p l e R s m args below meth c H locs cells slots Q (F0 m pc lsA (st.map (ax_v σ))) := by
  obtain ⟨hi, hx, hb, hr, hml, hown, hts, hlocks, hnm, htab, hG, hA, hl9⟩ := C
  obtain ⟨hP, hD, hS, hl, hc, hσ, hn0, hca, hcb, hs0⟩ := id I
  have hd := ax_decn hi hat (by rfl)
  have hst := ax_stat hi hat
  simp only [ax_alts] at hn
  split at hn
  · next z hz =>
    cases hn
    obtain ⟨k9, hk9⟩ := List.mem_iff_getElem?.mp (List.mem_map.mpr ⟨(j, Value.int z), ax_get_mem ls j hz, rfl⟩ : (j, ax_v σ (.int z)) ∈ ax_l σ ls)
    exact lv_iinc hx hb hd hl hk9 rfl (ax_blt hst) rfl (fun ls' h' => hgo _ _ _ _ _ _ ⟨hP, hD, hS, ax_lv_sub h' (ax_set_has hc), ax_set_cat hc rfl, hσ, hn0, hca, hcb, hs0⟩)
  · exact hn.elim

set_option maxHeartbeats 1000000 in
theorem as_iadd (hat : ax_at (axT i) pc = some (.iadd, x, y)) (hn : ax_next (ax_alts L xs .iadd x y (pc, ls, st, w, a, b)) k)
    (C : ax_Cx i p l s m args meth c A D τ bS L xs) (hR : 1 ≤ R.frames ∧ 40 ≤ R.locals) (I : ax_In i s A D τ bS a0 b0 n0 σ0 ls w a b H locs cells slots σ lsA)
    (hbd : k.2.2.2.2.1 ≤ a0 + R.cells ∧ k.2.2.2.2.2 ≤ b0 + R.slots) (hgo : ax_Go i p l e R s m args below meth c A D τ bS a0 b0 n0 σ0 Q k) : W p l e R s m args below meth c H locs cells slots Q (F0 m pc lsA (st.map (ax_v σ))) := by
  obtain ⟨hi, hx, hb, hr, hml, hown, hts, hlocks, hnm, htab, hG, hA, hl9⟩ := C
  obtain ⟨hP, hD, hS, hl, hc, hσ, hn0, hca, hcb, hs0⟩ := id I
  have hd := ax_decn hi hat (by rfl)
  have hst := ax_stat hi hat
  simp only [ax_alts] at hn
  unfold ax_b2 at hn
  split at hn
  · cases hn
    exact lv_iadd hx hb hd (hgo _ _ _ _ _ _ I)
  · exact hn.elim

set_option maxHeartbeats 1000000 in
theorem as_isub (hat : ax_at (axT i) pc = some (.isub, x, y)) (hn : ax_next (ax_alts L xs .isub x y (pc, ls, st, w, a, b)) k)
    (C : ax_Cx i p l s m args meth c A D τ bS L xs) (hR : 1 ≤ R.frames ∧ 40 ≤ R.locals) (I : ax_In i s A D τ bS a0 b0 n0 σ0 ls w a b H locs cells slots σ lsA)
    (hbd : k.2.2.2.2.1 ≤ a0 + R.cells ∧ k.2.2.2.2.2 ≤ b0 + R.slots) (hgo : ax_Go i p l e R s m args below meth c A D τ bS a0 b0 n0 σ0 Q k) : W p l e R s m args below meth c H locs cells slots Q (F0 m pc lsA (st.map (ax_v σ))) := by
  obtain ⟨hi, hx, hb, hr, hml, hown, hts, hlocks, hnm, htab, hG, hA, hl9⟩ := C
  obtain ⟨hP, hD, hS, hl, hc, hσ, hn0, hca, hcb, hs0⟩ := id I
  have hd := ax_decn hi hat (by rfl)
  have hst := ax_stat hi hat
  simp only [ax_alts] at hn
  unfold ax_b2 at hn
  split at hn
  · cases hn
    exact lv_isub hx hb hd (hgo _ _ _ _ _ _ I)
  · exact hn.elim

set_option maxHeartbeats 1000000 in
theorem as_imul (hat : ax_at (axT i) pc = some (.imul, x, y)) (hn : ax_next (ax_alts L xs .imul x y (pc, ls, st, w, a, b)) k)
    (C : ax_Cx i p l s m args meth c A D τ bS L xs) (hR : 1 ≤ R.frames ∧ 40 ≤ R.locals) (I : ax_In i s A D τ bS a0 b0 n0 σ0 ls w a b H locs cells slots σ lsA)
    (hbd : k.2.2.2.2.1 ≤ a0 + R.cells ∧ k.2.2.2.2.2 ≤ b0 + R.slots) (hgo : ax_Go i p l e R s m args below meth c A D τ bS a0 b0 n0 σ0 Q k) : W p l e R s m args below meth c H locs cells slots Q (F0 m pc lsA (st.map (ax_v σ))) := by
  obtain ⟨hi, hx, hb, hr, hml, hown, hts, hlocks, hnm, htab, hG, hA, hl9⟩ := C
  obtain ⟨hP, hD, hS, hl, hc, hσ, hn0, hca, hcb, hs0⟩ := id I
  have hd := ax_decn hi hat (by rfl)
  have hst := ax_stat hi hat
  simp only [ax_alts] at hn
  unfold ax_b2 at hn
  split at hn
  · cases hn
    exact lv_imul hx hb hd (hgo _ _ _ _ _ _ I)
  · exact hn.elim

set_option maxHeartbeats 1000000 in
theorem as_iand (hat : ax_at (axT i) pc = some (.iand, x, y)) (hn : ax_next (ax_alts L xs .iand x y (pc, ls, st, w, a, b)) k)
    (C : ax_Cx i p l s m args meth c A D τ bS L xs) (hR : 1 ≤ R.frames ∧ 40 ≤ R.locals) (I : ax_In i s A D τ bS a0 b0 n0 σ0 ls w a b H locs cells slots σ lsA)
    (hbd : k.2.2.2.2.1 ≤ a0 + R.cells ∧ k.2.2.2.2.2 ≤ b0 + R.slots) (hgo : ax_Go i p l e R s m args below meth c A D τ bS a0 b0 n0 σ0 Q k) : W p l e R s m args below meth c H locs cells slots Q (F0 m pc lsA (st.map (ax_v σ))) := by
  obtain ⟨hi, hx, hb, hr, hml, hown, hts, hlocks, hnm, htab, hG, hA, hl9⟩ := C
  obtain ⟨hP, hD, hS, hl, hc, hσ, hn0, hca, hcb, hs0⟩ := id I
  have hd := ax_decn hi hat (by rfl)
  have hst := ax_stat hi hat
  simp only [ax_alts] at hn
  unfold ax_b2 at hn
  split at hn
  · cases hn
    exact lv_iand hx hb hd (hgo _ _ _ _ _ _ I)
  · exact hn.elim

set_option maxHeartbeats 1000000 in
theorem as_ixor (hat : ax_at (axT i) pc = some (.ixor, x, y)) (hn : ax_next (ax_alts L xs .ixor x y (pc, ls, st, w, a, b)) k)
    (C : ax_Cx i p l s m args meth c A D τ bS L xs) (hR : 1 ≤ R.frames ∧ 40 ≤ R.locals) (I : ax_In i s A D τ bS a0 b0 n0 σ0 ls w a b H locs cells slots σ lsA)
    (hbd : k.2.2.2.2.1 ≤ a0 + R.cells ∧ k.2.2.2.2.2 ≤ b0 + R.slots) (hgo : ax_Go i p l e R s m args below meth c A D τ bS a0 b0 n0 σ0 Q k) : W p l e R s m args below meth c H locs cells slots Q (F0 m pc lsA (st.map (ax_v σ))) := by
  obtain ⟨hi, hx, hb, hr, hml, hown, hts, hlocks, hnm, htab, hG, hA, hl9⟩ := C
  obtain ⟨hP, hD, hS, hl, hc, hσ, hn0, hca, hcb, hs0⟩ := id I
  have hd := ax_decn hi hat (by rfl)
  have hst := ax_stat hi hat
  simp only [ax_alts] at hn
  unfold ax_b2 at hn
  split at hn
  · cases hn
    exact lv_ixor hx hb hd (hgo _ _ _ _ _ _ I)
  · exact hn.elim

set_option maxHeartbeats 1000000 in
theorem as_ishl (hat : ax_at (axT i) pc = some (.ishl, x, y)) (hn : ax_next (ax_alts L xs .ishl x y (pc, ls, st, w, a, b)) k)
    (C : ax_Cx i p l s m args meth c A D τ bS L xs) (hR : 1 ≤ R.frames ∧ 40 ≤ R.locals) (I : ax_In i s A D τ bS a0 b0 n0 σ0 ls w a b H locs cells slots σ lsA)
    (hbd : k.2.2.2.2.1 ≤ a0 + R.cells ∧ k.2.2.2.2.2 ≤ b0 + R.slots) (hgo : ax_Go i p l e R s m args below meth c A D τ bS a0 b0 n0 σ0 Q k) : W p l e R s m args below meth c H locs cells slots Q (F0 m pc lsA (st.map (ax_v σ))) := by
  obtain ⟨hi, hx, hb, hr, hml, hown, hts, hlocks, hnm, htab, hG, hA, hl9⟩ := C
  obtain ⟨hP, hD, hS, hl, hc, hσ, hn0, hca, hcb, hs0⟩ := id I
  have hd := ax_decn hi hat (by rfl)
  have hst := ax_stat hi hat
  simp only [ax_alts] at hn
  unfold ax_b2 at hn
  split at hn
  · cases hn
    exact lv_ishl hx hb hd (hgo _ _ _ _ _ _ I)
  · exact hn.elim

set_option maxHeartbeats 1000000 in
theorem as_ishr (hat : ax_at (axT i) pc = some (.ishr, x, y)) (hn : ax_next (ax_alts L xs .ishr x y (pc, ls, st, w, a, b)) k)
    (C : ax_Cx i p l s m args meth c A D τ bS L xs) (hR : 1 ≤ R.frames ∧ 40 ≤ R.locals) (I : ax_In i s A D τ bS a0 b0 n0 σ0 ls w a b H locs cells slots σ lsA)
    (hbd : k.2.2.2.2.1 ≤ a0 + R.cells ∧ k.2.2.2.2.2 ≤ b0 + R.slots) (hgo : ax_Go i p l e R s m args below meth c A D τ bS a0 b0 n0 σ0 Q k) : W p l e R s m args below meth c H locs cells slots Q (F0 m pc lsA (st.map (ax_v σ))) := by
  obtain ⟨hi, hx, hb, hr, hml, hown, hts, hlocks, hnm, htab, hG, hA, hl9⟩ := C
  obtain ⟨hP, hD, hS, hl, hc, hσ, hn0, hca, hcb, hs0⟩ := id I
  have hd := ax_decn hi hat (by rfl)
  have hst := ax_stat hi hat
  simp only [ax_alts] at hn
  unfold ax_b2 at hn
  split at hn
  · cases hn
    exact lv_ishr hx hb hd (hgo _ _ _ _ _ _ I)
  · exact hn.elim

set_option maxHeartbeats 1000000 in
theorem as_idiv (hat : ax_at (axT i) pc = some (.idiv, x, y)) (hn : ax_next (ax_alts L xs .idiv x y (pc, ls, st, w, a, b)) k)
    (C : ax_Cx i p l s m args meth c A D τ bS L xs) (hR : 1 ≤ R.frames ∧ 40 ≤ R.locals) (I : ax_In i s A D τ bS a0 b0 n0 σ0 ls w a b H locs cells slots σ lsA)
    (hbd : k.2.2.2.2.1 ≤ a0 + R.cells ∧ k.2.2.2.2.2 ≤ b0 + R.slots) (hgo : ax_Go i p l e R s m args below meth c A D τ bS a0 b0 n0 σ0 Q k) : W p l e R s m args below meth c H locs cells slots Q (F0 m pc lsA (st.map (ax_v σ))) := by
  obtain ⟨hi, hx, hb, hr, hml, hown, hts, hlocks, hnm, htab, hG, hA, hl9⟩ := C
  obtain ⟨hP, hD, hS, hl, hc, hσ, hn0, hca, hcb, hs0⟩ := id I
  have hd := ax_decn hi hat (by rfl)
  have hst := ax_stat hi hat
  simp only [ax_alts] at hn
  split at hn
  · obtain ⟨P, hm, hp⟩ := hn
    rw [List.mem_singleton] at hm
    cases hm
    exact lv_idiv hx hb hd hp (hgo _ _ _ _ _ _ I)
  · exact hn.elim

set_option maxHeartbeats 1000000 in
theorem as_irem (hat : ax_at (axT i) pc = some (.irem, x, y)) (hn : ax_next (ax_alts L xs .irem x y (pc, ls, st, w, a, b)) k)
    (C : ax_Cx i p l s m args meth c A D τ bS L xs) (hR : 1 ≤ R.frames ∧ 40 ≤ R.locals) (I : ax_In i s A D τ bS a0 b0 n0 σ0 ls w a b H locs cells slots σ lsA)
    (hbd : k.2.2.2.2.1 ≤ a0 + R.cells ∧ k.2.2.2.2.2 ≤ b0 + R.slots) (hgo : ax_Go i p l e R s m args below meth c A D τ bS a0 b0 n0 σ0 Q k) : W p l e R s m args below meth c H locs cells slots Q (F0 m pc lsA (st.map (ax_v σ))) := by
  obtain ⟨hi, hx, hb, hr, hml, hown, hts, hlocks, hnm, htab, hG, hA, hl9⟩ := C
  obtain ⟨hP, hD, hS, hl, hc, hσ, hn0, hca, hcb, hs0⟩ := id I
  have hd := ax_decn hi hat (by rfl)
  have hst := ax_stat hi hat
  simp only [ax_alts] at hn
  split at hn
  · obtain ⟨P, hm, hp⟩ := hn
    rw [List.mem_singleton] at hm
    cases hm
    exact lv_irem hx hb hd hp (hgo _ _ _ _ _ _ I)
  · exact hn.elim

set_option maxHeartbeats 1000000 in
theorem as_i2l (hat : ax_at (axT i) pc = some (.i2l, x, y)) (hn : ax_next (ax_alts L xs .i2l x y (pc, ls, st, w, a, b)) k)
    (C : ax_Cx i p l s m args meth c A D τ bS L xs) (hR : 1 ≤ R.frames ∧ 40 ≤ R.locals) (I : ax_In i s A D τ bS a0 b0 n0 σ0 ls w a b H locs cells slots σ lsA)
    (hbd : k.2.2.2.2.1 ≤ a0 + R.cells ∧ k.2.2.2.2.2 ≤ b0 + R.slots) (hgo : ax_Go i p l e R s m args below meth c A D τ bS a0 b0 n0 σ0 Q k) : W p l e R s m args below meth c H locs cells slots Q (F0 m pc lsA (st.map (ax_v σ))) := by
  obtain ⟨hi, hx, hb, hr, hml, hown, hts, hlocks, hnm, htab, hG, hA, hl9⟩ := C
  obtain ⟨hP, hD, hS, hl, hc, hσ, hn0, hca, hcb, hs0⟩ := id I
  have hd := ax_decn hi hat (by rfl)
  have hst := ax_stat hi hat
  simp only [ax_alts] at hn
  split at hn
  · cases hn
    exact lv_i2l hx hb hd rfl (hgo _ _ _ _ _ _ I)
  · exact hn.elim

set_option maxHeartbeats 1000000 in
theorem as_lcmp (hat : ax_at (axT i) pc = some (.lcmp, x, y)) (hn : ax_next (ax_alts L xs .lcmp x y (pc, ls, st, w, a, b)) k)
    (C : ax_Cx i p l s m args meth c A D τ bS L xs) (hR : 1 ≤ R.frames ∧ 40 ≤ R.locals) (I : ax_In i s A D τ bS a0 b0 n0 σ0 ls w a b H locs cells slots σ lsA)
    (hbd : k.2.2.2.2.1 ≤ a0 + R.cells ∧ k.2.2.2.2.2 ≤ b0 + R.slots) (hgo : ax_Go i p l e R s m args below meth c A D τ bS a0 b0 n0 σ0 Q k) : W p l e R s m args below meth c H locs cells slots Q (F0 m pc lsA (st.map (ax_v σ))) := by
  obtain ⟨hi, hx, hb, hr, hml, hown, hts, hlocks, hnm, htab, hG, hA, hl9⟩ := C
  obtain ⟨hP, hD, hS, hl, hc, hσ, hn0, hca, hcb, hs0⟩ := id I
  have hd := ax_decn hi hat (by rfl)
  have hst := ax_stat hi hat
  simp only [ax_alts] at hn
  split at hn
  · cases hn
    exact W.lcmp hx hb hd (hgo _ _ _ _ _ _ I)
  · exact hn.elim

set_option maxHeartbeats 1000000 in
theorem as_dup (hat : ax_at (axT i) pc = some (.dup, x, y)) (hn : ax_next (ax_alts L xs .dup x y (pc, ls, st, w, a, b)) k)
    (C : ax_Cx i p l s m args meth c A D τ bS L xs) (hR : 1 ≤ R.frames ∧ 40 ≤ R.locals) (I : ax_In i s A D τ bS a0 b0 n0 σ0 ls w a b H locs cells slots σ lsA)
    (hbd : k.2.2.2.2.1 ≤ a0 + R.cells ∧ k.2.2.2.2.2 ≤ b0 + R.slots) (hgo : ax_Go i p l e R s m args below meth c A D τ bS a0 b0 n0 σ0 Q k) : W p l e R s m args below meth c H locs cells slots Q (F0 m pc lsA (st.map (ax_v σ))) := by
  obtain ⟨hi, hx, hb, hr, hml, hown, hts, hlocks, hnm, htab, hG, hA, hl9⟩ := C
  obtain ⟨hP, hD, hS, hl, hc, hσ, hn0, hca, hcb, hs0⟩ := id I
  have hd := ax_decn hi hat (by rfl)
  have hst := ax_stat hi hat
  simp only [ax_alts] at hn
  split at hn
  · cases hn
    exact lv_dup hx hb hd rfl (hgo _ _ _ _ _ _ I)
  · cases hn
    exact lv_dup hx hb hd rfl (hgo _ _ _ _ _ _ I)
  · exact hn.elim

set_option maxHeartbeats 1000000 in
theorem as_goto {off : Int} (hat : ax_at (axT i) pc = some ((.goto off), x, y)) (hn : ax_next (ax_alts L xs (.goto off) x y (pc, ls, st, w, a, b)) k)
    (C : ax_Cx i p l s m args meth c A D τ bS L xs) (hR : 1 ≤ R.frames ∧ 40 ≤ R.locals) (I : ax_In i s A D τ bS a0 b0 n0 σ0 ls w a b H locs cells slots σ lsA)
    (hbd : k.2.2.2.2.1 ≤ a0 + R.cells ∧ k.2.2.2.2.2 ≤ b0 + R.slots) (hgo : ax_Go i p l e R s m args below meth c A D τ bS a0 b0 n0 σ0 Q k) : W p l e R s m args below meth c H locs cells slots Q (F0 m pc lsA (st.map (ax_v σ))) := by
  obtain ⟨hi, hx, hb, hr, hml, hown, hts, hlocks, hnm, htab, hG, hA, hl9⟩ := C
  obtain ⟨hP, hD, hS, hl, hc, hσ, hn0, hca, hcb, hs0⟩ := id I
  have hd := ax_decn hi hat (by rfl)
  have hst := ax_stat hi hat
  simp only [ax_alts] at hn
  cases hn
  exact lv_goto hx hb hd (of_decide_eq_true hst) (hgo _ _ _ _ _ _ I)

set_option maxHeartbeats 1000000 in
theorem as_if_icmp {cd : ClassFile.Cond} {off : Int} (hat : ax_at (axT i) pc = some ((.if_icmp cd off), x, y)) (hn : ax_next (ax_alts L xs (.if_icmp cd off) x y (pc, ls, st, w, a, b)) k)
    (C : ax_Cx i p l s m args meth c A D τ bS L xs) (hR : 1 ≤ R.frames ∧ 40 ≤ R.locals) (I : ax_In i s A D τ bS a0 b0 n0 σ0 ls w a b H locs cells slots σ lsA)
    (hbd : k.2.2.2.2.1 ≤ a0 + R.cells ∧ k.2.2.2.2.2 ≤ b0 + R.slots) (hgo : ax_Go i p l e R s m args below meth c A D τ bS a0 b0 n0 σ0 Q k) : W p l e R s m args below meth c H locs cells slots Q (F0 m pc lsA (st.map (ax_v σ))) := by
  obtain ⟨hi, hx, hb, hr, hml, hown, hts, hlocks, hnm, htab, hG, hA, hl9⟩ := C
  obtain ⟨hP, hD, hS, hl, hc, hσ, hn0, hca, hcb, hs0⟩ := id I
  have hd := ax_decn hi hat (by rfl)
  have hst := ax_stat hi hat
  simp only [ax_alts] at hn
  have ht := of_decide_eq_true hst
  split at hn
  · obtain ⟨P, hm, hp⟩ := hn
    rcases List.mem_cons.mp hm with hm | hm
    · cases hm
      cases cd
      · exact lv_icmp_eq hx hb hd ht (fun _ => hgo _ _ _ _ _ _ I) (fun h => absurd hp h)
      · exact lv_icmp_ne hx hb hd ht (fun _ => hgo _ _ _ _ _ _ I) (fun h => absurd h hp)
      · exact lv_icmp_lt hx hb hd ht (fun _ => hgo _ _ _ _ _ _ I) (fun h => absurd hp h)
      · exact lv_icmp_ge hx hb hd ht (fun _ => hgo _ _ _ _ _ _ I) (fun h => absurd hp h)
      · exact lv_icmp_gt hx hb hd ht (fun _ => hgo _ _ _ _ _ _ I) (fun h => absurd hp h)
      · exact lv_icmp_le hx hb hd ht (fun _ => hgo _ _ _ _ _ _ I) (fun h => absurd hp h)
    · rw [List.mem_singleton] at hm
      cases hm
      cases cd
      · exact lv_icmp_eq hx hb hd ht (fun h => absurd h hp) (fun _ => hgo _ _ _ _ _ _ I)
      · exact lv_icmp_ne hx hb hd ht (fun h => absurd h hp) (fun _ => hgo _ _ _ _ _ _ I)
      · exact lv_icmp_lt hx hb hd ht (fun h => absurd h hp) (fun _ => hgo _ _ _ _ _ _ I)
      · exact lv_icmp_ge hx hb hd ht (fun h => absurd h hp) (fun _ => hgo _ _ _ _ _ _ I)
      · exact lv_icmp_gt hx hb hd ht (fun h => absurd h hp) (fun _ => hgo _ _ _ _ _ _ I)
      · exact lv_icmp_le hx hb hd ht (fun h => absurd h hp) (fun _ => hgo _ _ _ _ _ _ I)
  · exact hn.elim

set_option maxHeartbeats 1000000 in
theorem as_ifCond {cd : ClassFile.Cond} {off : Int} (hat : ax_at (axT i) pc = some ((.ifCond cd off), x, y)) (hn : ax_next (ax_alts L xs (.ifCond cd off) x y (pc, ls, st, w, a, b)) k)
    (C : ax_Cx i p l s m args meth c A D τ bS L xs) (hR : 1 ≤ R.frames ∧ 40 ≤ R.locals) (I : ax_In i s A D τ bS a0 b0 n0 σ0 ls w a b H locs cells slots σ lsA)
    (hbd : k.2.2.2.2.1 ≤ a0 + R.cells ∧ k.2.2.2.2.2 ≤ b0 + R.slots) (hgo : ax_Go i p l e R s m args below meth c A D τ bS a0 b0 n0 σ0 Q k) : W p l e R s m args below meth c H locs cells slots Q (F0 m pc lsA (st.map (ax_v σ))) := by
  obtain ⟨hi, hx, hb, hr, hml, hown, hts, hlocks, hnm, htab, hG, hA, hl9⟩ := C
  obtain ⟨hP, hD, hS, hl, hc, hσ, hn0, hca, hcb, hs0⟩ := id I
  have hd := ax_decn hi hat (by rfl)
  have hst := ax_stat hi hat
  simp only [ax_alts] at hn
  have ht := of_decide_eq_true hst
  split at hn
  · obtain ⟨P, hm, hp⟩ := hn
    rcases List.mem_cons.mp hm with hm | hm
    · cases hm
      cases cd
      · exact lv_if_eq hx hb hd ht (fun _ => hgo _ _ _ _ _ _ I) (fun h => absurd hp h)
      · exact lv_if_ne hx hb hd ht (fun _ => hgo _ _ _ _ _ _ I) (fun h => absurd h hp)
      · exact lv_if_lt hx hb hd ht (fun _ => hgo _ _ _ _ _ _ I) (fun h => absurd hp h)
      · exact lv_if_ge hx hb hd ht (fun _ => hgo _ _ _ _ _ _ I) (fun h => absurd hp h)
      · exact lv_if_gt hx hb hd ht (fun _ => hgo _ _ _ _ _ _ I) (fun h => absurd hp h)
      · exact lv_if_le hx hb hd ht (fun _ => hgo _ _ _ _ _ _ I) (fun h => absurd hp h)
    · rw [List.mem_singleton] at hm
      cases hm
      cases cd
      · exact lv_if_eq hx hb hd ht (fun h => absurd h hp) (fun _ => hgo _ _ _ _ _ _ I)
      · exact lv_if_ne hx hb hd ht (fun h => absurd h hp) (fun _ => hgo _ _ _ _ _ _ I)
      · exact lv_if_lt hx hb hd ht (fun h => absurd h hp) (fun _ => hgo _ _ _ _ _ _ I)
      · exact lv_if_ge hx hb hd ht (fun h => absurd h hp) (fun _ => hgo _ _ _ _ _ _ I)
      · exact lv_if_gt hx hb hd ht (fun h => absurd h hp) (fun _ => hgo _ _ _ _ _ _ I)
      · exact lv_if_le hx hb hd ht (fun h => absurd h hp) (fun _ => hgo _ _ _ _ _ _ I)
  · exact hn.elim

set_option maxHeartbeats 1000000 in
theorem as_getfield {j : Nat} (hat : ax_at (axT i) pc = some ((.getfield j), x, y)) (hn : ax_next (ax_alts L xs (.getfield j) x y (pc, ls, st, w, a, b)) k)
    (C : ax_Cx i p l s m args meth c A D τ bS L xs) (hR : 1 ≤ R.frames ∧ 40 ≤ R.locals) (I : ax_In i s A D τ bS a0 b0 n0 σ0 ls w a b H locs cells slots σ lsA)
    (hbd : k.2.2.2.2.1 ≤ a0 + R.cells ∧ k.2.2.2.2.2 ≤ b0 + R.slots) (hgo : ax_Go i p l e R s m args below meth c A D τ bS a0 b0 n0 σ0 Q k) : W p l e R s m args below meth c H locs cells slots Q (F0 m pc lsA (st.map (ax_v σ))) := by
  obtain ⟨hi, hx, hb, hr, hml, hown, hts, hlocks, hnm, htab, hG, hA, hl9⟩ := C
  obtain ⟨hP, hD, hS, hl, hc, hσ, hn0, hca, hcb, hs0⟩ := id I
  have hd := ax_decn hi hat (by rfl)
  have hst := ax_stat hi hat
  simp only [ax_alts] at hn
  simp only [ax_stc, Bool.and_eq_true] at hst
  obtain ⟨hx7, hyN⟩ := hst
  obtain ⟨hcl, hws, hty, hnmz⟩ := ax_class x (ax_blt hx7)
  split at hn
  · next q r =>
    split at hn
    · next ci fs hw =>
      cases hz : Nat.beq ci x with
      | false => rw [hz] at hn; exact hn.elim
      | true =>
        rw [hz] at hn
        have e1 := Nat.eq_of_beq_eq_true hz
        subst e1
        simp only [cond_true] at hn
        split at hn
        · next v hv =>
          cases hn
          rw [ax_nth_eq] at hv
          exact va_get (D := D) (v := ax_v σ v) hx hb hts (fun w h => ax_in_cls (hws w h)) hown hG.1 hP q (ax_W_some hw) hcl y (ax_blt hyN) (hts _ (ax_in_need hi (ax_at_mem _ _ hat) (w := .fieldLink (axO i) j (axTT ci y).1 (axTT ci y).2.1 (axTT ci y).2.2.1) (by simp [ax_need]) rfl)) (fun _ h => h) (by rw [List.getElem?_map, hv]; rfl) hd (hgo _ _ _ _ _ _ I)
        · exact hn.elim
    · exact hn.elim
  · exact hn.elim

set_option maxHeartbeats 1000000 in
theorem as_putfield {j : Nat} (hat : ax_at (axT i) pc = some ((.putfield j), x, y)) (hn : ax_next (ax_alts L xs (.putfield j) x y (pc, ls, st, w, a, b)) k)
    (C : ax_Cx i p l s m args meth c A D τ bS L xs) (hR : 1 ≤ R.frames ∧ 40 ≤ R.locals) (I : ax_In i s A D τ bS a0 b0 n0 σ0 ls w a b H locs cells slots σ lsA)
    (hbd : k.2.2.2.2.1 ≤ a0 + R.cells ∧ k.2.2.2.2.2 ≤ b0 + R.slots) (hgo : ax_Go i p l e R s m args below meth c A D τ bS a0 b0 n0 σ0 Q k) : W p l e R s m args below meth c H locs cells slots Q (F0 m pc lsA (st.map (ax_v σ))) := by
  obtain ⟨hi, hx, hb, hr, hml, hown, hts, hlocks, hnm, htab, hG, hA, hl9⟩ := C
  obtain ⟨hP, hD, hS, hl, hc, hσ, hn0, hca, hcb, hs0⟩ := id I
  have hd := ax_decn hi hat (by rfl)
  have hst := ax_stat hi hat
  simp only [ax_alts] at hn
  simp only [ax_stc, Bool.and_eq_true, Bool.or_eq_true] at hst
  obtain ⟨⟨hx7, hyN⟩, hfin⟩ := hst
  obtain ⟨hcl, hws, hty, hnmz⟩ := ax_class x (ax_blt hx7)
  split at hn
  · next v q r =>
    split at hn
    · next ci fs hw =>
      cases hz : (Nat.beq ci x && Nat.blt y fs.length && ax_fit (axTy x y) v) with
      | false => rw [hz] at hn; exact hn.elim
      | true =>
        rw [hz] at hn
        simp only [Bool.and_eq_true] at hz
        obtain ⟨⟨hz1, hz2⟩, hz3⟩ := hz
        have e1 := Nat.eq_of_beq_eq_true hz1
        subst e1
        cases hn
        obtain ⟨f1, f2⟩ := ax_fit_ok (σ := σ) hz3
        have hq : q < w.length := by rw [ax_nth_eq] at hw; exact (List.getElem?_eq_some_iff.mp hw).1
        have hlink := hts _ (ax_in_need hi (ax_at_mem _ _ hat) (w := .fieldLink (axO i) j (axTT ci y).1 (axTT ci y).2.1 (axTT ci y).2.2.1) (by simp [ax_need]) rfl)
        have hWs : (ax_W σ τ w).set q (σ (q + 1), .inr (ci, (fs.map (ax_v σ)).set y (ax_v σ v))) = ax_W σ τ (ax_upd w q (.inr (ci, ax_upd fs y v))) := by
          rw [ax_W_set σ τ w q _ hq]
          simp only [ax_e]
          rw [ax_upd_eq, List.map_set]
        have hlen : y < (fs.map (ax_v σ)).length := by rw [List.length_map]; exact ax_blt hz2
        have hn0' : n0 ≤ (ax_upd w q (.inr (ci, ax_upd fs y v))).length := by rw [ax_upd_eq, List.length_set]; exact hn0
        cases hf : (axTT ci y).2.2.2 with
        | false =>
          refine va_put (D := D) hx hb hts (fun w h => ax_in_cls (hws w h)) (axTy ci) hty hnmz hown hG.1 hP hD hS q (ax_W_some hw) hcl y (ax_blt hyN) hlink (fun _ h => h) hf (hty y (ax_blt hyN)) f1 f2 hlen hd (fun H1 locs1 h1 h2 h3 => ?_)
          rw [hWs] at h1 h2
          exact hgo _ _ _ _ _ _ ⟨h1, h2, h3, hl, hc, hσ, hn0', hca, hcb, hs0⟩
        | true =>
          rcases hfin with h9 | h9
          · rw [hf] at h9; cases h9
          · obtain ⟨h10, h11⟩ := h9
            refine va_putF (D := D) hx hb hts (fun w h => ax_in_cls (hws w h)) (axTy ci) hty hnmz hown hG.1 hP hD hS q (ax_W_some hw) hcl y (ax_blt hyN) hlink (fun _ h => h) hf (hnm.trans (of_decide_eq_true h10)) (of_decide_eq_true h11) (hty y (ax_blt hyN)) f1 f2 hlen hd (fun H1 locs1 h1 h2 h3 => ?_)
            rw [hWs] at h1 h2
            exact hgo _ _ _ _ _ _ ⟨h1, h2, h3, hl, hc, hσ, hn0', hca, hcb, hs0⟩
    · exact hn.elim
  · exact hn.elim

set_option maxHeartbeats 1000000 in
theorem as_iaload (hat : ax_at (axT i) pc = some (.iaload, x, y)) (hn : ax_next (ax_alts L xs .iaload x y (pc, ls, st, w, a, b)) k)
    (C : ax_Cx i p l s m args meth c A D τ bS L xs) (hR : 1 ≤ R.frames ∧ 40 ≤ R.locals) (I : ax_In i s A D τ bS a0 b0 n0 σ0 ls w a b H locs cells slots σ lsA)
    (hbd : k.2.2.2.2.1 ≤ a0 + R.cells ∧ k.2.2.2.2.2 ≤ b0 + R.slots) (hgo : ax_Go i p l e R s m args below meth c A D τ bS a0 b0 n0 σ0 Q k) : W p l e R s m args below meth c H locs cells slots Q (F0 m pc lsA (st.map (ax_v σ))) := by
  obtain ⟨hi, hx, hb, hr, hml, hown, hts, hlocks, hnm, htab, hG, hA, hl9⟩ := C
  obtain ⟨hP, hD, hS, hl, hc, hσ, hn0, hca, hcb, hs0⟩ := id I
  have hd := ax_decn hi hat (by rfl)
  have hst := ax_stat hi hat
  simp only [ax_alts] at hn
  split at hn
  · obtain ⟨P, hm, hp⟩ := hn
    rw [List.mem_singleton] at hm
    cases hm
    simp only [List.map_cons, ax_v]
    rw [hs0]
    exact va_sld hx hb hG.2.1 hG.2.2.1 hG.2.2.2.1 hS hp hd (hgo _ _ _ _ _ _ I)
  · split at hn
    · next n f hw =>
      obtain ⟨P, hm, hp⟩ := hn
      rw [List.mem_singleton] at hm
      cases hm
      exact va_iald hx hb hG.1 hP _ 0 (ax_W_some hw) rfl hp hd (hgo _ _ _ _ _ _ I)
    · exact hn.elim
  · exact hn.elim

set_option maxHeartbeats 1000000 in
theorem as_baload (hat : ax_at (axT i) pc = some (.baload, x, y)) (hn : ax_next (ax_alts L xs .baload x y (pc, ls, st, w, a, b)) k)
    (C : ax_Cx i p l s m args meth c A D τ bS L xs) (hR : 1 ≤ R.frames ∧ 40 ≤ R.locals) (I : ax_In i s A D τ bS a0 b0 n0 σ0 ls w a b H locs cells slots σ lsA)
    (hbd : k.2.2.2.2.1 ≤ a0 + R.cells ∧ k.2.2.2.2.2 ≤ b0 + R.slots) (hgo : ax_Go i p l e R s m args below meth c A D τ bS a0 b0 n0 σ0 Q k) : W p l e R s m args below meth c H locs cells slots Q (F0 m pc lsA (st.map (ax_v σ))) := by
  obtain ⟨hi, hx, hb, hr, hml, hown, hts, hlocks, hnm, htab, hG, hA, hl9⟩ := C
  obtain ⟨hP, hD, hS, hl, hc, hσ, hn0, hca, hcb, hs0⟩ := id I
  have hd := ax_decn hi hat (by rfl)
  have hst := ax_stat hi hat
  simp only [ax_alts] at hn
  split at hn
  · split at hn
    · next n f hw =>
      obtain ⟨P, hm, hp⟩ := hn
      rw [List.mem_singleton] at hm
      cases hm
      exact va_zald hx hb hG.1 hP _ 1 (ax_W_some hw) rfl hp hd (hgo _ _ _ _ _ _ I)
    · exact hn.elim
  · exact hn.elim

set_option maxHeartbeats 1000000 in
theorem as_laload (hat : ax_at (axT i) pc = some (.laload, x, y)) (hn : ax_next (ax_alts L xs .laload x y (pc, ls, st, w, a, b)) k)
    (C : ax_Cx i p l s m args meth c A D τ bS L xs) (hR : 1 ≤ R.frames ∧ 40 ≤ R.locals) (I : ax_In i s A D τ bS a0 b0 n0 σ0 ls w a b H locs cells slots σ lsA)
    (hbd : k.2.2.2.2.1 ≤ a0 + R.cells ∧ k.2.2.2.2.2 ≤ b0 + R.slots) (hgo : ax_Go i p l e R s m args below meth c A D τ bS a0 b0 n0 σ0 Q k) : W p l e R s m args below meth c H locs cells slots Q (F0 m pc lsA (st.map (ax_v σ))) := by
  obtain ⟨hi, hx, hb, hr, hml, hown, hts, hlocks, hnm, htab, hG, hA, hl9⟩ := C
  obtain ⟨hP, hD, hS, hl, hc, hσ, hn0, hca, hcb, hs0⟩ := id I
  have hd := ax_decn hi hat (by rfl)
  have hst := ax_stat hi hat
  simp only [ax_alts] at hn
  split at hn
  · split at hn
    · next n f hw =>
      obtain ⟨P, hm, hp⟩ := hn
      rw [List.mem_singleton] at hm
      cases hm
      exact va_lald hx hb hG.1 hP _ 2 (ax_W_some hw) rfl hp hd (hgo _ _ _ _ _ _ I)
    · exact hn.elim
  · exact hn.elim

set_option maxHeartbeats 1000000 in
theorem as_iastore (hat : ax_at (axT i) pc = some (.iastore, x, y)) (hn : ax_next (ax_alts L xs .iastore x y (pc, ls, st, w, a, b)) k)
    (C : ax_Cx i p l s m args meth c A D τ bS L xs) (hR : 1 ≤ R.frames ∧ 40 ≤ R.locals) (I : ax_In i s A D τ bS a0 b0 n0 σ0 ls w a b H locs cells slots σ lsA)
    (hbd : k.2.2.2.2.1 ≤ a0 + R.cells ∧ k.2.2.2.2.2 ≤ b0 + R.slots) (hgo : ax_Go i p l e R s m args below meth c A D τ bS a0 b0 n0 σ0 Q k) : W p l e R s m args below meth c H locs cells slots Q (F0 m pc lsA (st.map (ax_v σ))) := by
  obtain ⟨hi, hx, hb, hr, hml, hown, hts, hlocks, hnm, htab, hG, hA, hl9⟩ := C
  obtain ⟨hP, hD, hS, hl, hc, hσ, hn0, hca, hcb, hs0⟩ := id I
  have hd := ax_decn hi hat (by rfl)
  have hst := ax_stat hi hat
  simp only [ax_alts] at hn
  split at hn
  · next q r =>
    split at hn
    · next n f hw =>
      obtain ⟨P, hm, hp⟩ := hn
      rw [List.mem_singleton] at hm
      cases hm
      have hq : q < w.length := by rw [ax_nth_eq] at hw; exact (List.getElem?_eq_some_iff.mp hw).1
      refine va_iast hx hb hG.1 hP hD hS _ 0 (ax_W_some hw) rfl hp hd (fun H1 locs1 h1 h2 h3 => ?_)
      have e1 := fun c9 => (ax_W_set σ τ w q c9 hq)
      refine hgo _ _ _ _ _ _ ⟨?_, ?_, h3, hl, hc, hσ, by rw [ax_upd_eq, List.length_set]; exact hn0, hca, hcb, hs0⟩
      · show va_P D axCl (ax_W σ τ (ax_upd w q _)) H1
        rw [e1]
        exact h1
      · show va_D A (ax_W σ τ (ax_upd w q _))
        rw [e1]
        exact h2
    · exact hn.elim
  · exact hn.elim

set_option maxHeartbeats 1000000 in
theorem as_bastore (hat : ax_at (axT i) pc = some (.bastore, x, y)) (hn : ax_next (ax_alts L xs .bastore x y (pc, ls, st, w, a, b)) k)
    (C : ax_Cx i p l s m args meth c A D τ bS L xs) (hR : 1 ≤ R.frames ∧ 40 ≤ R.locals) (I : ax_In i s A D τ bS a0 b0 n0 σ0 ls w a b H locs cells slots σ lsA)
    (hbd : k.2.2.2.2.1 ≤ a0 + R.cells ∧ k.2.2.2.2.2 ≤ b0 + R.slots) (hgo : ax_Go i p l e R s m args below meth c A D τ bS a0 b0 n0 σ0 Q k) : W p l e R s m args below meth c H locs cells slots Q (F0 m pc lsA (st.map (ax_v σ))) := by
  obtain ⟨hi, hx, hb, hr, hml, hown, hts, hlocks, hnm, htab, hG, hA, hl9⟩ := C
  obtain ⟨hP, hD, hS, hl, hc, hσ, hn0, hca, hcb, hs0⟩ := id I
  have hd := ax_decn hi hat (by rfl)
  have hst := ax_stat hi hat
  simp only [ax_alts] at hn
  split at hn
  · next q r =>
    split at hn
    · next n f hw =>
      obtain ⟨P, hm, hp⟩ := hn
      rw [List.mem_singleton] at hm
      cases hm
      have hq : q < w.length := by rw [ax_nth_eq] at hw; exact (List.getElem?_eq_some_iff.mp hw).1
      refine va_zast hx hb hG.1 hP hD hS _ 1 (ax_W_some hw) rfl hp hd (fun H1 locs1 h1 h2 h3 => ?_)
      have e1 := fun c9 => (ax_W_set σ τ w q c9 hq)
      refine hgo _ _ _ _ _ _ ⟨?_, ?_, h3, hl, hc, hσ, by rw [ax_upd_eq, List.length_set]; exact hn0, hca, hcb, hs0⟩
      · show va_P D axCl (ax_W σ τ (ax_upd w q _)) H1
        rw [e1]
        exact h1
      · show va_D A (ax_W σ τ (ax_upd w q _))
        rw [e1]
        exact h2
    · exact hn.elim
  · exact hn.elim

set_option maxHeartbeats 1000000 in
theorem as_lastore (hat : ax_at (axT i) pc = some (.lastore, x, y)) (hn : ax_next (ax_alts L xs .lastore x y (pc, ls, st, w, a, b)) k)
    (C : ax_Cx i p l s m args meth c A D τ bS L xs) (hR : 1 ≤ R.frames ∧ 40 ≤ R.locals) (I : ax_In i s A D τ bS a0 b0 n0 σ0 ls w a b H locs cells slots σ lsA)
    (hbd : k.2.2.2.2.1 ≤ a0 + R.cells ∧ k.2.2.2.2.2 ≤ b0 + R.slots) (hgo : ax_Go i p l e R s m args below meth c A D τ bS a0 b0 n0 σ0 Q k) : W p l e R s m args below meth c H locs cells slots Q (F0 m pc lsA (st.map (ax_v σ))) := by
  obtain ⟨hi, hx, hb, hr, hml, hown, hts, hlocks, hnm, htab, hG, hA, hl9⟩ := C
  obtain ⟨hP, hD, hS, hl, hc, hσ, hn0, hca, hcb, hs0⟩ := id I
  have hd := ax_decn hi hat (by rfl)
  have hst := ax_stat hi hat
  simp only [ax_alts] at hn
  split at hn
  · next q r =>
    split at hn
    · next n f hw =>
      obtain ⟨P, hm, hp⟩ := hn
      rw [List.mem_singleton] at hm
      cases hm
      have hq : q < w.length := by rw [ax_nth_eq] at hw; exact (List.getElem?_eq_some_iff.mp hw).1
      refine va_last hx hb hG.1 hP hD hS _ 2 (ax_W_some hw) rfl hp hd (fun H1 locs1 h1 h2 h3 => ?_)
      have e1 := fun c9 => (ax_W_set σ τ w q c9 hq)
      refine hgo _ _ _ _ _ _ ⟨?_, ?_, h3, hl, hc, hσ, by rw [ax_upd_eq, List.length_set]; exact hn0, hca, hcb, hs0⟩
      · show va_P D axCl (ax_W σ τ (ax_upd w q _)) H1
        rw [e1]
        exact h1
      · show va_D A (ax_W σ τ (ax_upd w q _))
        rw [e1]
        exact h2
    · exact hn.elim
  · exact hn.elim

set_option maxHeartbeats 1000000 in
theorem as_arraylength (hat : ax_at (axT i) pc = some (.arraylength, x, y)) (hn : ax_next (ax_alts L xs .arraylength x y (pc, ls, st, w, a, b)) k)
    (C : ax_Cx i p l s m args meth c A D τ bS L xs) (hR : 1 ≤ R.frames ∧ 40 ≤ R.locals) (I : ax_In i s A D τ bS a0 b0 n0 σ0 ls w a b H locs cells slots σ lsA)
    (hbd : k.2.2.2.2.1 ≤ a0 + R.cells ∧ k.2.2.2.2.2 ≤ b0 + R.slots) (hgo : ax_Go i p l e R s m args below meth c A D τ bS a0 b0 n0 σ0 Q k) : W p l e R s m args below meth c H locs cells slots Q (F0 m pc lsA (st.map (ax_v σ))) := by
  obtain ⟨hi, hx, hb, hr, hml, hown, hts, hlocks, hnm, htab, hG, hA, hl9⟩ := C
  obtain ⟨hP, hD, hS, hl, hc, hσ, hn0, hca, hcb, hs0⟩ := id I
  have hd := ax_decn hi hat (by rfl)
  have hst := ax_stat hi hat
  simp only [ax_alts] at hn
  split at hn
  · cases hn
    simp only [List.map_cons, ax_v]
    rw [hs0]
    exact va_slen hx hb hG.2.1 hG.2.2.1 hG.2.2.2.1 hS hd (hgo _ _ _ _ _ _ I)
  · split at hn
    · next n f hw =>
      cases hn
      exact va_alen hx hb hG.1 hP _ 0 (ax_W_some hw) rfl rfl hd (hgo _ _ _ _ _ _ I)
    · exact hn.elim
  · exact hn.elim

set_option maxHeartbeats 1000000 in
theorem as_objinit {j : Nat} (hat : ax_at (axT i) pc = some ((.invokespecial j), x, y)) (hn : ax_next (ax_alts L xs (.invokespecial j) x y (pc, ls, st, w, a, b)) k)
    (C : ax_Cx i p l s m args meth c A D τ bS L xs) (hR : 1 ≤ R.frames ∧ 40 ≤ R.locals) (I : ax_In i s A D τ bS a0 b0 n0 σ0 ls w a b H locs cells slots σ lsA)
    (hbd : k.2.2.2.2.1 ≤ a0 + R.cells ∧ k.2.2.2.2.2 ≤ b0 + R.slots) (hgo : ax_Go i p l e R s m args below meth c A D τ bS a0 b0 n0 σ0 Q k) : W p l e R s m args below meth c H locs cells slots Q (F0 m pc lsA (st.map (ax_v σ))) := by
  obtain ⟨hi, hx, hb, hr, hml, hown, hts, hlocks, hnm, htab, hG, hA, hl9⟩ := C
  obtain ⟨hP, hD, hS, hl, hc, hσ, hn0, hca, hcb, hs0⟩ := id I
  have hd := ax_decn hi hat (by rfl)
  have hst := ax_stat hi hat
  simp only [ax_alts] at hn
  split at hn
  · next r =>
    cases hz : ax_wt r with
    | false => rw [hz] at hn; exact hn.elim
    | true =>
      rw [hz] at hn
      cases hn
      have hw := Nat.le_of_ble_eq_true hz
      refine W.objInit hx hb hown (hts _ (ax_in_need hi (ax_at_mem _ _ hat) (w := .methodLink (axO i) j objectInit) (by simp [ax_need]) rfl)) (hts _ (ax_in_need hi (ax_at_mem _ _ hat) (w := .instanceMethod objectInit) (by simp [ax_need]) rfl)) (hts _ (ax_in_need hi (ax_at_mem _ _ hat) (w := .code objectInit ⟨#[0xb1]⟩ 1 none) (by simp [ax_need]) rfl)) rfl (by rw [hml]; exact hl.1) rfl hd hR.1 (by
        show 2 * 0 + _ + 12 ≤ _
        rw [ax_v_cats]
        omega) (hgo _ _ _ _ _ _ I)
  · exact hn.elim

set_option maxHeartbeats 1000000 in
theorem as_math {j : Nat} (hat : ax_at (axT i) pc = some ((.invokestatic j), x, y)) (hn : ax_next (ax_alts L xs (.invokestatic j) x y (pc, ls, st, w, a, b)) k)
    (C : ax_Cx i p l s m args meth c A D τ bS L xs) (hR : 1 ≤ R.frames ∧ 40 ≤ R.locals) (I : ax_In i s A D τ bS a0 b0 n0 σ0 ls w a b H locs cells slots σ lsA)
    (hbd : k.2.2.2.2.1 ≤ a0 + R.cells ∧ k.2.2.2.2.2 ≤ b0 + R.slots) (hgo : ax_Go i p l e R s m args below meth c A D τ bS a0 b0 n0 σ0 Q k) : W p l e R s m args below meth c H locs cells slots Q (F0 m pc lsA (st.map (ax_v σ))) := by
  obtain ⟨hi, hx, hb, hr, hml, hown, hts, hlocks, hnm, htab, hG, hA, hl9⟩ := C
  obtain ⟨hP, hD, hS, hl, hc, hσ, hn0, hca, hcb, hs0⟩ := id I
  have hd := ax_decn hi hat (by rfl)
  have hst := ax_stat hi hat
  simp only [ax_alts] at hn
  split at hn
  · next r =>
    cases hz : ax_wt r with
    | false => rw [hz] at hn; exact hn.elim
    | true =>
      rw [hz] at hn
      cases hn
      have hw := Nat.le_of_ble_eq_true hz
      have hq := hbd.1
      have hq2 := hbd.2
      simp only at hq hq2
      exact va_mmax hx hb (by rw [hml]; exact hl.1.symm) hown (hts _ (ax_in_need hi (ax_at_mem _ _ hat) (w := .methodLink (axO i) j Lib.Math.max.name) (by simp [ax_need]) rfl)) (hts _ (ax_in_need hi (ax_at_mem _ _ hat) (w := .static Lib.Math.max.name) (by simp [ax_need]) rfl)) (hts _ (ax_in_need hi (ax_at_mem _ _ hat) (w := .initialized "java/lang/Math") (by simp [ax_need]) rfl)) (hts _ (ax_in_need hi (ax_at_mem _ _ hat) (w := .code Lib.Math.max.name Lib.Math.max.code 2 (some .int)) (by simp [ax_need]) rfl)) hR.1 (by
        rw [ax_v_cats]
        omega) (by omega) (by omega) hd (hgo _ _ _ _ _ _ I)
  · next r =>
    cases hz : ax_wt r with
    | false => rw [hz] at hn; exact hn.elim
    | true =>
      rw [hz] at hn
      cases hn
      have hw := Nat.le_of_ble_eq_true hz
      have hq := hbd.1
      have hq2 := hbd.2
      simp only at hq hq2
      exact va_mmin hx hb (by rw [hml]; exact hl.1.symm) hown (hts _ (ax_in_need hi (ax_at_mem _ _ hat) (w := .methodLink (axO i) j Lib.Math.min.name) (by simp [ax_need]) rfl)) (hts _ (ax_in_need hi (ax_at_mem _ _ hat) (w := .static Lib.Math.min.name) (by simp [ax_need]) rfl)) (hts _ (ax_in_need hi (ax_at_mem _ _ hat) (w := .initialized "java/lang/Math") (by simp [ax_need]) rfl)) (hts _ (ax_in_need hi (ax_at_mem _ _ hat) (w := .code Lib.Math.min.name Lib.Math.min.code 2 (some .int)) (by simp [ax_need]) rfl)) hR.1 (by
        rw [ax_v_cats]
        omega) (by omega) (by omega) hd (hgo _ _ _ _ _ _ I)
  · next r =>
    cases hz : ax_wt r with
    | false => rw [hz] at hn; exact hn.elim
    | true =>
      rw [hz] at hn
      cases hn
      have hw := Nat.le_of_ble_eq_true hz
      have hq := hbd.1
      have hq2 := hbd.2
      simp only at hq hq2
      exact va_mabs hx hb (by rw [hml]; exact hl.1.symm) hown (hts _ (ax_in_need hi (ax_at_mem _ _ hat) (w := .methodLink (axO i) j Lib.Math.abs.name) (by simp [ax_need]) rfl)) (hts _ (ax_in_need hi (ax_at_mem _ _ hat) (w := .static Lib.Math.abs.name) (by simp [ax_need]) rfl)) (hts _ (ax_in_need hi (ax_at_mem _ _ hat) (w := .initialized "java/lang/Math") (by simp [ax_need]) rfl)) (hts _ (ax_in_need hi (ax_at_mem _ _ hat) (w := .code Lib.Math.abs.name Lib.Math.abs.code 1 (some .int)) (by simp [ax_need]) rfl)) hR.1 (by
        rw [ax_v_cats]
        omega) (by omega) (by omega) hd (hgo _ _ _ _ _ _ I)
  · exact hn.elim

set_option maxHeartbeats 1000000 in
theorem as_tableswitch {dflt lo hi9 : Int} {offs : Array Int} (hat : ax_at (axT i) pc = some ((.tableswitch dflt lo hi9 offs), x, y)) (hn : ax_next (ax_alts L xs (.tableswitch dflt lo hi9 offs) x y (pc, ls, st, w, a, b)) k)
    (C : ax_Cx i p l s m args meth c A D τ bS L xs) (hR : 1 ≤ R.frames ∧ 40 ≤ R.locals) (I : ax_In i s A D τ bS a0 b0 n0 σ0 ls w a b H locs cells slots σ lsA)
    (hbd : k.2.2.2.2.1 ≤ a0 + R.cells ∧ k.2.2.2.2.2 ≤ b0 + R.slots) (hgo : ax_Go i p l e R s m args below meth c A D τ bS a0 b0 n0 σ0 Q k) : W p l e R s m args below meth c H locs cells slots Q (F0 m pc lsA (st.map (ax_v σ))) := by
  obtain ⟨hi, hx, hb, hr, hml, hown, hts, hlocks, hnm, htab, hG, hA, hl9⟩ := C
  obtain ⟨n9, hd, -⟩ := ax_decs hi hat
  have hst := ax_stat hi hat
  simp only [ax_alts] at hn
  simp only [ax_stc, Bool.and_eq_true] at hst
  obtain ⟨⟨hs1, hs2⟩, hs3⟩ := hst
  have hs3 := of_decide_eq_true hs3
  split at hn
  · next z r =>
    obtain ⟨P, hm, hp⟩ := hn
    obtain ⟨q, hq, he⟩ := List.mem_map.mp hm
    obtain ⟨e1, e2⟩ := Prod.mk.inj he
    subst e1; subst e2
    rcases List.mem_cons.mp hq with h1 | h1
    · subst h1
      exact lv_tableOut hx hb hd hp (ax_tg_eq hs1) (hgo _ _ _ _ _ _ I)
    · obtain ⟨j, off, q1, q2, q3⟩ := ax_sw_mem offs.toList 0 (P := q.1) (t := q.2) h1 hp
      have hj : j < offs.toList.length := (List.getElem?_eq_some_iff.mp q1).1
      rw [Nat.zero_add] at q2
      have hof : offs[(z.toInt - lo).toNat]? = some off := by
        rw [q2, show lo + (j : Int) - lo = (j : Int) by omega, Int.toNat_natCast, ← Array.getElem?_toList]
        exact q1
      have hG2 := hgo _ _ _ _ _ _ I
      simp only [q3] at hG2
      exact lv_tableIn hx hb hd (by omega) (by omega) hof (ax_tg_eq (List.all_eq_true.mp hs2 off (List.mem_of_getElem? q1))) hG2
  · exact hn.elim

set_option maxHeartbeats 1000000 in
theorem as_lookupswitch {dflt : Int} {ps : Array (Int × Int)} (hat : ax_at (axT i) pc = some ((.lookupswitch dflt ps), x, y)) (hn : ax_next (ax_alts L xs (.lookupswitch dflt ps) x y (pc, ls, st, w, a, b)) k)
    (C : ax_Cx i p l s m args meth c A D τ bS L xs) (hR : 1 ≤ R.frames ∧ 40 ≤ R.locals) (I : ax_In i s A D τ bS a0 b0 n0 σ0 ls w a b H locs cells slots σ lsA)
    (hbd : k.2.2.2.2.1 ≤ a0 + R.cells ∧ k.2.2.2.2.2 ≤ b0 + R.slots) (hgo : ax_Go i p l e R s m args below meth c A D τ bS a0 b0 n0 σ0 Q k) : W p l e R s m args below meth c H locs cells slots Q (F0 m pc lsA (st.map (ax_v σ))) := by
  obtain ⟨hi, hx, hb, hr, hml, hown, hts, hlocks, hnm, htab, hG, hA, hl9⟩ := C
  obtain ⟨n9, hd, -⟩ := ax_decs hi hat
  have hst := ax_stat hi hat
  simp only [ax_alts] at hn
  simp only [ax_stc, Bool.and_eq_true] at hst
  obtain ⟨⟨hs1, hs2⟩, hs3⟩ := hst
  split at hn
  · next z r =>
    obtain ⟨P, hm, hp⟩ := hn
    obtain ⟨q, hq, he⟩ := List.mem_map.mp hm
    obtain ⟨e1, e2⟩ := Prod.mk.inj he
    subst e1; subst e2
    obtain ⟨off, q1, q2, q3⟩ := ax_lk_mem _ (P := q.1) (t := q.2) hq hp
    have hG2 := hgo _ _ _ _ _ _ I
    simp only [q3] at hG2
    refine lv_lookup hx hb hd hs3 q2 (ax_tg_eq ?_) hG2
    rcases List.mem_cons.mp q1 with h1 | h1
    · rw [h1]; exact hs1
    · obtain ⟨z9, h2, h3⟩ := List.mem_map.mp h1
      rw [← h3]
      exact List.all_eq_true.mp hs2 z9 h2
  · exact hn.elim

set_option maxHeartbeats 1000000 in
theorem as_new {j : Nat} (hk : ax_kind (.new j) x = 0) (hat : ax_at (axT i) pc = some ((.new j), x, y)) (hn : ax_next (ax_alts L xs (.new j) x y (pc, ls, st, w, a, b)) k)
    (C : ax_Cx i p l s m args meth c A D τ bS L xs) (hR : 1 ≤ R.frames ∧ 40 ≤ R.locals) (I : ax_In i s A D τ bS a0 b0 n0 σ0 ls w a b H locs cells slots σ lsA)
    (hbd : k.2.2.2.2.1 ≤ a0 + R.cells ∧ k.2.2.2.2.2 ≤ b0 + R.slots) (hgo : ax_Go i p l e R s m args below meth c A D τ bS a0 b0 n0 σ0 Q k) : W p l e R s m args below meth c H locs cells slots Q (F0 m pc lsA (st.map (ax_v σ))) := by
  obtain ⟨hi, hx, hb, hr, hml, hown, hts, hlocks, hnm, htab, hG, hA, hl9⟩ := C
  obtain ⟨hP, hD, hS, hl, hc, hσ, hn0, hca, hcb, hs0⟩ := id I
  have hd := ax_decn hi hat (by rfl)
  have hst := ax_stat hi hat
  simp only [ax_alts] at hn
  have hx7 : Nat.blt x 7 = true := by
    cases h7 : Nat.blt x 100 with
    | false => simp [ax_kind, h7] at hk
    | true =>
      simp only [ax_stc, Bool.or_eq_true, Bool.and_eq_true] at hst
      rcases hst with h | h
      · exact h
      · have := Nat.le_of_ble_eq_true h.1.1.1.1.1.1.1.1.1.1
        have := ax_blt h7
        omega
  have hxlt := ax_blt hx7
  have h100 : Nat.blt x 100 = true := by
    show Nat.ble (x + 1) 100 = true
    exact Nat.ble_eq_true_of_le (by omega)
  obtain ⟨hcl, hws, hty, hnmz⟩ := ax_class x hxlt
  cases hz : (ax_fr w.length ls st && w.all (ax_we w.length)) with
  | false => rw [hz] at hn; exact hn.elim
  | true =>
    rw [hz] at hn
    cases hn
    simp only [ax_fr, Bool.and_eq_true] at hz
    obtain ⟨⟨hz1, hz2⟩, hz3⟩ := hz
    have hq1 := hbd.1
    have hq2 := hbd.2
    simp only at hq1 hq2
    have hf : ∀ u, u ∈ ([.classLink (axO i) j (axRN x), .instantiable (axRN x) (axNF x), .initialized (axRN x)] : List Cond) → u.before args s = true := fun u hu => hts _ (ax_in_need hi (ax_at_mem _ _ hat) (w := u) (by simp only [ax_need, h100, cond_true]; exact hu) (by
      simp only [List.mem_cons, List.not_mem_nil, or_false] at hu
      rcases hu with rfl | rfl | rfl <;> rfl))
    refine va_new (D := D) (ci := x) (fs := ax_dfl x) hx hb hts (fun w h => ax_in_cls (hws w h)) (axTy x) hty hown (hf _ (by simp)) (hf _ (by simp)) (hf _ (by simp)) hG.1 hP hD hS hA hcl (fun j9 hj9 => ?_) (by omega) (by omega) hd (fun q H1 h1 h2 h3 => ?_)
    · unfold ax_dfl vp_V
      simp [hj9]
    · obtain ⟨σ1, hσ1⟩ : ∃ z : Nat → Nat, z = fun k => if k = w.length + 1 then q else σ k := ⟨_, rfl⟩
      have hext : ∀ k, k ≤ w.length → σ1 k = σ k := fun k hk9 => by rw [hσ1]; simp only; rw [if_neg (by omega)]
      have hnew : σ1 (w.length + 1) = q := by rw [hσ1]; simp
      have hWn : ax_W σ1 τ (w ++ [.inr (x, ax_dfl x)]) = ax_W σ τ w ++ [(q, .inr (x, ax_dfl x))] := by
        rw [ax_W_push, ax_W_ext hext hz3, hnew]
        congr 1
        simp only [ax_e]
        congr 4
        conv => rhs; rw [← List.map_id (ax_dfl x)]
        apply List.map_congr_left
        intro v hv
        unfold ax_dfl at hv
        obtain ⟨k9, -, rfl⟩ := List.mem_map.mp hv
        cases axTy x k9 <;> rfl
      have hGo := hgo H1 locs (cells + 1) (slots + axNF x) σ1 lsA ⟨by show va_P D axCl (ax_W σ1 τ (w ++ [.inr (x, ax_dfl x)])) H1; rw [hWn]; exact h1, by show va_D A (ax_W σ1 τ (w ++ [.inr (x, ax_dfl x)])); rw [hWn]; exact h2, h3, by rw [ax_l_ext hext hz1]; exact hl, hc, fun k9 h9 => (hext k9 (by omega)).trans (hσ k9 h9), by simp only [List.length_append]; omega, by simp only; omega, by simp only; omega, (hext 0 (Nat.zero_le _)).trans hs0⟩
      simp only [List.map_cons, ax_v, hnew, ax_vs_ext hext hz2] at hGo
      exact hGo

set_option maxHeartbeats 1000000 in
theorem as_newarray {t : ArrayType} (hat : ax_at (axT i) pc = some ((.newarray t), x, y)) (hn : ax_next (ax_alts L xs (.newarray t) x y (pc, ls, st, w, a, b)) k)
    (C : ax_Cx i p l s m args meth c A D τ bS L xs) (hR : 1 ≤ R.frames ∧ 40 ≤ R.locals) (I : ax_In i s A D τ bS a0 b0 n0 σ0 ls w a b H locs cells slots σ lsA)
    (hbd : k.2.2.2.2.1 ≤ a0 + R.cells ∧ k.2.2.2.2.2 ≤ b0 + R.slots) (hgo : ax_Go i p l e R s m args below meth c A D τ bS a0 b0 n0 σ0 Q k) : W p l e R s m args below meth c H locs cells slots Q (F0 m pc lsA (st.map (ax_v σ))) := by
  obtain ⟨hi, hx, hb, hr, hml, hown, hts, hlocks, hnm, htab, hG, hA, hl9⟩ := C
  obtain ⟨hP, hD, hS, hl, hc, hσ, hn0, hca, hcb, hs0⟩ := id I
  have hd := ax_decn hi hat (by rfl)
  have hst := ax_stat hi hat
  simp only [ax_alts] at hn
  simp only [ax_stc, Bool.and_eq_true] at hst
  obtain ⟨⟨hs1, hs2⟩, hs3⟩ := hst
  have hs1 := of_decide_eq_true hs1
  have hs3 := Nat.le_of_ble_eq_true hs3
  split at hn
  · next z r =>
    cases hz : (ax_fr w.length ls r && w.all (ax_we w.length)) with
    | false => rw [hz] at hn; exact hn.elim
    | true =>
      rw [hz] at hn
      obtain ⟨P, hm, hp⟩ := hn
      rw [List.mem_singleton] at hm
      cases hm
      simp only [ax_fr, Bool.and_eq_true] at hz
      obtain ⟨⟨hz1, hz2⟩, hz3⟩ := hz
      have hq1 := hbd.1
      have hq2 := hbd.2
      simp only at hq1 hq2
      subst hp
      obtain ⟨t0, va, hva, hvb, hvc⟩ : ∃ (t0 : Nat) (va : vp_A), ax_anew x y = .inl (t0, va) ∧ (axTys τ)[t0]? = some (τ t0, ax_aty y) ∧ ∀ cA : ClassId, vp_cell cA va = arrV cA x (fun _ => defaultValue (ax_aty y)) := by
        match y, ax_blt hs2 with
        | 0, _ => exact ⟨0, _, rfl, rfl, fun cA => rfl⟩
        | 1, _ => exact ⟨1, _, rfl, rfl, fun cA => rfl⟩
        | 2, _ => exact ⟨2, _, rfl, rfl, fun cA => rfl⟩
        | n + 3, h => exact absurd h (by omega)
      have hcb9 : x * componentBytes (ax_aty y) ≤ 536870912 := by
        have : componentBytes (ax_aty y) ≤ 8 := by
          match y, ax_blt hs2 with
          | 0, _ => decide
          | 1, _ => decide
          | 2, _ => decide
          | n + 3, h => exact absurd h (by omega)
        calc x * componentBytes (ax_aty y) ≤ 60000 * 8 := Nat.mul_le_mul hs3 this
          _ ≤ 536870912 := by decide
      refine va_newa (D := D) hx hb (hts _ (ax_in_need hi (ax_at_mem _ _ hat) (w := .arrayClass (newarray.typeOf t)) (by simp [ax_need]) rfl)) hs1 hG.1 hP hD hS hA (a0 := va) hvc (nI_pos (by omega)) (nI_clamp (by omega)) hcb9 (by omega) (by omega) hd (fun q cA H1 hK1 h1 h2 h3 => ?_)
      have hcA : cA = τ t0 := by
        have e1 := (hK1.2 3 (cA, ax_aty y) rfl).2
        have e2 := (hG.1.2 t0 _ hvb).2
        have hfc : s.vm.findClass ("[" ++ (ax_aty y).toString) = some cA := by
          match y, ax_blt hs2 with
          | 0, _ => exact e1
          | 1, _ => exact e1
          | 2, _ => exact e1
          | n + 3, h => exact absurd h (by omega)
        have hfd : s.vm.findClass ("[" ++ (ax_aty y).toString) = some (τ t0) := by
          match y, ax_blt hs2 with
          | 0, _ => exact e2
          | 1, _ => exact e2
          | 2, _ => exact e2
          | n + 3, h => exact absurd h (by omega)
        exact Option.some.inj (hfc.symm.trans hfd)
      subst hcA
      obtain ⟨σ1, hσ1⟩ : ∃ z : Nat → Nat, z = fun k => if k = w.length + 1 then q else σ k := ⟨_, rfl⟩
      have hext : ∀ k, k ≤ w.length → σ1 k = σ k := fun k hk9 => by rw [hσ1]; simp only; rw [if_neg (by omega)]
      have hnew : σ1 (w.length + 1) = q := by rw [hσ1]; simp
      have hWn : ax_W σ1 τ (w ++ [ax_anew x y]) = ax_W σ τ w ++ [(q, .inl (τ t0, va))] := by
        rw [ax_W_push, ax_W_ext hext hz3, hnew, hva]
        rfl
      have hGo := hgo H1 locs (cells + 1) (slots + x) σ1 lsA ⟨by show va_P D axCl (ax_W σ1 τ (w ++ [ax_anew x y])) H1; rw [hWn]; exact h1, by show va_D A (ax_W σ1 τ (w ++ [ax_anew x y])); rw [hWn]; exact h2, h3, by rw [ax_l_ext hext hz1]; exact hl, hc, fun k9 h9 => (hext k9 (by omega)).trans (hσ k9 h9), by simp only [List.length_append]; omega, by simp only; omega, by simp only; omega, (hext 0 (Nat.zero_le _)).trans hs0⟩
      simp only [List.map_cons, ax_v, hnew, ax_vs_ext hext hz2] at hGo
      exact hGo
  · exact hn.elim

end AXS
