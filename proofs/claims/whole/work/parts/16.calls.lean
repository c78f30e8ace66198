/-! Calls among the program's methods. -/
theorem ax_sizes : ∀ j, j < 106 → axNa j ≤ axLo j ∧ axLo j + 19 ≤ 40 ∧ plainName (axY j).cls = true ∧ (axY j).cls ≠ "java/lang/invoke/MethodHandle" ∧ (axY j).cls ≠ "java/lang/invoke/VarHandle" := by decide +kernel
/-- handlers: the row that takes the exception, and where it goes on -/
def ax_hast (bytes : ByteArray) (h h1 k : Nat) : Bool := match decode bytes h with
  | .ok (.astore j, 2) => Nat.beq j k && Nat.beq h1 (h + 2)
  | .ok (.astore_n j, 1) => Nat.beq j.val k && Nat.beq h1 (h + 1)
  | _ => false
def ax_hfind (bytes : ByteArray) (pc e h1 k : Nat) : List (Nat × Nat × Nat × Nat) → Bool
  | [] => false
  | (s, t, h, ct) :: r => (Nat.ble s pc && Nat.blt pc t && !Nat.beq ct 0) && cond (Nat.beq (axHe ct) e) (ax_hast bytes h h1 k) (ax_hfind bytes pc e h1 k r)
def ax_hchk (i pc e : Nat) : Bool := match ax_hd i e with
  | none => true
  | some (h1, k) => ax_hfind (axB i) pc e h1 k (axHh i) && Nat.blt k (axLo i)
def ax_isI : Instr → Bool
  | .invokevirtual _ => true
  | .invokestatic _ => true
  | .invokespecial _ => true
  | _ => false
theorem ax_hk : ∀ i, i < 106 → (decide (axHh i = []) || (axT i).all (fun q => !ax_isI q.2.1 || (List.range 6).all (fun e => ax_hchk i q.1 e))) = true := by decide +kernel
theorem axHe_lt (ct : Nat) : axHe ct < 6 := by unfold axHe; split <;> decide
theorem ax_hfind_ok {bytes : ByteArray} {pc e h1 k : Nat} : ∀ (hh : List (Nat × Nat × Nat × Nat)), ax_hfind bytes pc e h1 k hh = true →
    ∃ (ahead suf : List (Nat × Nat × Nat × Nat)) (s t h ct : Nat), hh = ahead ++ (s, t, h, ct) :: suf ∧ (∀ q ∈ ahead, q.1 ≤ pc ∧ pc < q.2.1 ∧ q.2.2.2 ≠ 0 ∧ axHe q.2.2.2 ≠ e) ∧ s ≤ pc ∧ pc < t ∧ ct ≠ 0 ∧ axHe ct = e ∧ ax_hast bytes h h1 k = true
  | [], h => by simp [ax_hfind] at h
  | (s, t, h, ct) :: r, hf => by
    simp only [ax_hfind, Bool.and_eq_true, Bool.not_eq_true'] at hf
    obtain ⟨⟨⟨g1, g2⟩, g3⟩, g4⟩ := hf
    have g1 := Nat.le_of_ble_eq_true g1
    have g2 := ax_blt g2
    have g3 : ct ≠ 0 := fun h0 => by rw [h0] at g3; cases g3
    cases hb : Nat.beq (axHe ct) e with
    | true =>
      rw [hb] at g4
      exact ⟨[], r, s, t, h, ct, rfl, fun _ hq => absurd hq List.not_mem_nil, g1, g2, g3, Nat.eq_of_beq_eq_true hb, g4⟩
    | false =>
      rw [hb] at g4
      obtain ⟨ah, sf, s2, t2, h2, c2, q1, q2, q3⟩ := ax_hfind_ok r g4
      refine ⟨(s, t, h, ct) :: ah, sf, s2, t2, h2, c2, by rw [q1]; rfl, fun q hq => ?_, q3⟩
      rcases List.mem_cons.mp hq with rfl | hq
      · exact ⟨g1, g2, g3, fun he => by simp only at he; rw [he, Nat.beq_refl] at hb; cases hb⟩
      · exact q2 q hq
section AXM
variable {p : Program} {l : Launch} {e : Env} {R : Room} {s : State} {m : MethodId} {args : Array Value} {below : List Frame} {meth : Method} {c : Code} {A : Nat → Prop} {D : va_G} {τ : Nat → ClassId} {bS L a0 b0 n0 mc ms : Nat} {xs : Nat → Int32} {σ0 : Nat → Nat} {Q : State → Prop}
variable {i pc x y a b cells slots : Nat} {ls : AxL} {st : List Value} {w : AxW} {H : Heap} {locs : List Loc} {σ : Nat → Nat} {lsA : Array Slot}
/-- CAUGHT: the law's methods -/
theorem ax_caughtHere {ins : Instr} {e9 h1 k : Nat} {q : Addr} {ce : Cell} {rest : List Value} (hat : ax_at (axT i) pc = some (ins, x, y)) (hI : ax_isI ins = true) (hh : axHh i ≠ []) (h6 : e9 < 6) (hhd : ax_hd i e9 = some (h1, k)) (C : ax_Cx i p l s m args meth c A D τ bS L xs)
    (hl : lv_has lsA (axLo i) (ax_l σ ls)) (hc1 : ∀ q ∈ ls, q.2.category = 1) (hcell : H[q]? = some ce) (hv : ce.vm = .none) (hcl : s.vm.findClass (axEx e9) = some ce.cls)
    (kk : ∀ lsB : Array Slot, lv_has lsB (axLo i) (ax_l σ (ax_del ls k)) → W p l e R s m args below meth c H locs cells slots Q (F0 m h1 lsB [])) : vx_W p l e R s m args below meth c H locs cells slots Q (F0 m pc lsA rest) q := by
  obtain ⟨hi, hx, hb, hr, hml, hown, hts, hlocks, hnm, htab, hG, hA, hl9⟩ := C
  have h1k := ax_hk i hi
  rw [decide_eq_false hh, Bool.false_or] at h1k
  have h2k := List.all_eq_true.mp h1k _ (ax_at_mem _ _ hat)
  simp only [hI, Bool.not_true, Bool.false_or] at h2k
  have h3k := List.all_eq_true.mp h2k e9 (List.mem_range.mpr h6)
  unfold ax_hchk at h3k
  rw [hhd] at h3k
  simp only [Bool.and_eq_true] at h3k
  obtain ⟨h4k, hkL⟩ := h3k
  obtain ⟨ahead, suf, s2, t2, h2, ct, hq, hah, hs2, ht2, hct, hce9, hast⟩ := ax_hfind_ok _ h4k
  have hword : ∀ q ∈ axHh i, (Cond.classLink (axO i) q.2.2.2 (axEx (axHe q.2.2.2))).before args s = true ∧ (Cond.castable (axEx (axHe q.2.2.2)) (axEx (axHe q.2.2.2))).before args s = true := fun q hq =>
    ⟨hts _ (ax_in_hd hi (List.mem_flatMap.mpr ⟨q, hq, by simp⟩)), hts _ (ax_in_hd hi (List.mem_flatMap.mpr ⟨q, hq, by simp⟩))⟩
  have hin : (s2, t2, h2, ct) ∈ axHh i := by rw [hq]; exact List.mem_append_right _ List.mem_cons_self
  have htab2 : c.exceptionTable.toList = tableOf ahead ++ (⟨s2, t2, h2, ct⟩ : ExceptionTableEntry) :: tableOf suf := by
    rw [htab, hq]
    simp [tableOf]
  have hcov : ∀ {s3 t3 h3 c3 : Nat}, s3 ≤ pc → pc < t3 → covers (⟨s3, t3, h3, c3⟩ : ExceptionTableEntry) pc = true := fun a b => by simp [covers, a, b]
  have hw2 := hword _ hin
  simp only [hce9] at hw2
  refine ax_catch (own := axO i) (name := axEx e9) (E := axEx e9) hown (tableOf ahead) ⟨s2, t2, h2, ct⟩ (tableOf suf) htab2 (fun z hz => ?_) (hcov hs2 ht2) hct hw2.1 hw2.2 hcell hv hcl ?_
  · obtain ⟨q9, hq9, rfl⟩ := List.mem_map.mp hz
    obtain ⟨z1, z2, z3, z4⟩ := hah q9 hq9
    have hin9 : q9 ∈ axHh i := by rw [hq]; exact List.mem_append_left _ hq9
    exact ⟨hcov z1 z2, z3, _, (hword q9 hin9).1, hG.2.2.2.2.2.2.2.1 _ _ h6 (axHe_lt _) (fun h => z4 h.symm)⟩
  · have hsub : ∀ z ∈ ax_l σ (ax_del ls k), z ∈ (k, Value.ref q) :: (ax_l σ ls).filter (fun q => !(q.1 == k) && !(q.1 + 1 == k && q.2.category == 2)) := by
      intro z hz
      obtain ⟨q0, h0, rfl⟩ := List.mem_map.mp hz
      obtain ⟨g1, g2⟩ := ax_del_mem ls k h0
      refine List.mem_cons_of_mem _ (List.mem_filter.mpr ⟨List.mem_map.mpr ⟨q0, g1, rfl⟩, ?_⟩)
      have h3 := hc1 q0 g1
      simp [g2, ax_v_cat, h3]
    unfold ax_hast at hast
    split at hast
    · next j hd9 =>
      simp only [Bool.and_eq_true] at hast
      obtain ⟨e1, e2⟩ := hast
      have e1 := Nat.eq_of_beq_eq_true e1
      have e2 := Nat.eq_of_beq_eq_true e2
      subst e1; subst e2
      exact lv_astore hx hb hd9 hl (ax_blt hkL) rfl (fun ls' h' => kk ls' (ax_lv_sub h' hsub))
    · next j hd9 =>
      simp only [Bool.and_eq_true] at hast
      obtain ⟨e1, e2⟩ := hast
      have e1 := Nat.eq_of_beq_eq_true e1
      have e2 := Nat.eq_of_beq_eq_true e2
      subst e1; subst e2
      exact lv_astore_n hx hb hd9 rfl hl (ax_blt hkL) rfl (fun ls' h' => kk ls' (ax_lv_sub h' hsub))
    · cases hast
/-- behind a call -/
theorem ax_called {A1 : Nat → Prop} {n1 mc1 ms1 : Nat} {w1 : AxW} {r1 : Option Value ⊕ Nat} {st0 rest : List Value} {av : Array Value}
    (hr : vx_Run p l e R s m args below meth c H locs cells slots mc1 ms1 (F0 m pc lsA st0) rest (ax_Qr D τ A1 σ n1 w1 r1 av) (ax_Xr D τ A1 σ n1 w1 r1) A1) (hS : va_S A s.heap H locs) (hA1 : ∀ q, A1 q → A q)
    (kk : ∀ v, r1 = .inl v → ∀ (H1 : Heap) (locs1 : List Loc) (σ1 : Nat → Nat), (∀ k, k ≤ n1 → σ1 k = σ k) → va_P D axCl (ax_W σ1 τ w1) H1 → va_D A (ax_W σ1 τ w1) → va_S A s.heap H1 locs1 → W p l e R s m args below meth c H1 locs1 (cells + mc1) (slots + ms1) Q (F0 m (pc + 3) lsA ((v.map (ax_v σ1)).toList ++ rest)))
    (kx : ∀ x9, r1 = .inr x9 → x9 < 6 → ∀ (H1 : Heap) (locs1 : List Loc) (σ1 : Nat → Nat) (q : Addr) (ce : Cell), (∀ k, k ≤ n1 → σ1 k = σ k) → va_P D axCl (ax_W σ1 τ w1) H1 → va_D A (ax_W σ1 τ w1) → va_S A s.heap H1 locs1 → H1[q]? = some ce → ce.vm = .none → s.vm.findClass (axEx x9) = some ce.cls →
      vx_W p l e R s m args below meth c H1 locs1 (cells + mc1) (slots + ms1) Q (F0 m pc lsA rest) q) : W p l e R s m args below meth c H locs cells slots Q (F0 m pc lsA st0) := by
  intro T hT X
  rcases hr T hT X with ⟨v, st₀, t, T', L9, h0, X', hL, e1, e2, ⟨⟨σ1, v1, hσ1, hr1, hv, hP1, hD1⟩, hF⟩, st⟩ | ⟨q, st₀, t, T', L9, E, ce, h0, X', hL, e1, e2, ⟨⟨σ1, x9, hσ1, hr1, hx6, hE, hP1, hD1⟩, hF⟩, hce, hcv, hcl, st⟩
  · cases hv
    obtain ⟨k1, k2, k3⟩ := vx_keep h0 e1 hS (fun q _ h => hA1 q h) hA1 hL hF
    obtain ⟨t2, a1, b1⟩ := kk v1 hr1 T'.heap (locs ++ L9) σ1 hσ1 (by rw [e1]; exact hP1) (hD1.weaken (fun _ _ _ h => hA1 _ h)) k3 T' rfl X'
    exact ⟨t2, st t2 a1, b1⟩
  · obtain ⟨k1, k2, k3⟩ := vx_keep h0 e1 hS (fun q _ h => hA1 q h) hA1 hL hF
    subst hE
    obtain ⟨t2, a1, b1⟩ := kx x9 hr1 hx6 T'.heap (locs ++ L9) σ1 q ce hσ1 (by rw [e1]; exact hP1) (hD1.weaken (fun _ _ _ h => hA1 _ h)) k3 (by rw [e1]; exact hce) hcv hcl T' rfl X'
    exact ⟨t2, st.trans a1, b1⟩
/-- what a callee of ours finds -/
def ax_Pc (D : va_G) (τ : Nat → ClassId) (bS L : Nat) (xs : Nat → Int32) (σ : Nat → Nat) (w : AxW) (vs : List Value) (sz : Nat) : Array Value → State → Prop := va_Pc vs (fun U => U.heap.size = sz ∧ va_P D axCl (ax_W σ τ w) U.heap ∧ va_D (fun _ => True) (ax_W σ τ w) ∧ ax_G D τ bS L xs (va_A (ax_W σ τ w) sz) U U.heap)
theorem ax_blind {vs : List Value} {sz : Nat} : FrameBlind (ax_Pc D τ bS L xs σ w vs sz) := fun a9 U g mk h => by
  obtain ⟨h1, h2, h3, h4, h5⟩ := h
  exact ⟨h1, h2, h3, h4, ax_G.to (U := U.calling g mk a9) h5 (State.WarmedH.refl U) (Nat.le_refl _) (fun _ _ _ => rfl) (fun _ h => h)⟩
end AXM
