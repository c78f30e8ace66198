/-! The law's own start: the claim out of what our machine comes to on every script. -/
def R_law : String := "PickPathsLaw"
def lw_P (b : Addr) (xs : List Int32) (args : Array Value) (s : State) : Prop := args = #[.ref b] ∧ s.IntsAt b xs ∧ xs.length ≤ 2050 ∧ (Jvm.Cond.and given_1 narrow_1).before args s = true
def lw_Q (_ : Array Value) (s : State) (o : Outcome) (t : State) : Prop := o = .returned (some (.int 1)) ∧ Framed s o t [] 1068 12728
def lw_Z (below : List Frame) (a : Array Value) (s : State) : State → Prop := fun t => ∃ o, t.status = .running ∧ Ended t below o ∧ lw_Q a s o t
def lw_At (p : Program) (s : State) (m : MethodId) (meth : Method) (c : Code) (b L : Nat) (xs : Nat → Int32) : Prop :=
  p.tables.exec = Jvm.exec ∧ c.code = code ∧ meth.sig.returnType = ret ∧ c.maxLocals = 7 ∧ s.vm.findClass R_law = some m.cls ∧ (∀ w ∈ lw_tbl, w.before #[Value.ref b] s = true) ∧ va_X b L xs s s.heap ∧ b < s.heap.size ∧ meth.locks = false ∧ (Jvm.Cond.and given_1 narrow_1).before #[Value.ref b] s = true
/-- ON EVERY SCRIPT OUR MACHINE ANSWERS 1, in the claim's room -/
def ax_Pure : Prop := ∀ (L : Nat) (xs : Nat → Int32), L ≤ 2050 → ∃ (n : Nat) (w : AxW) (a b : Nat), ax_ev L xs n 10 ML_law (0, [(0, .ref 0)], [], [], 0, 0) (w, .inl (some (.int 1)), a, b) ∧ a ≤ 1068 ∧ b ≤ 12728
theorem ax_n1 : ∀ e1, e1 < 6 → ∀ e2, e2 < 6 → e1 ≠ e2 → Cond.not (.castable (axEx e1) (axEx e2)) ∈ flatC (Jvm.Cond.and given_1 narrow_1) := by decide +kernel
theorem ax_n2 : Cond.isRef (.static Bundle.tN "UNASSIGNED_STACK" Bundle.steD) ∈ flatC (Jvm.Cond.and given_1 narrow_1) ∧ Cond.isRef (.static Bundle.tN "SUPPRESSED_SENTINEL" Bundle.listD) ∈ flatC (Jvm.Cond.and given_1 narrow_1) := by decide +kernel
theorem ax_n3 : Cond.laysStatic Bundle.tN "UNASSIGNED_STACK" Bundle.steD ∈ lw_tbl ∧ Cond.laysStatic Bundle.tN "SUPPRESSED_SENTINEL" Bundle.listD ∈ lw_tbl ∧ Cond.initialized Bundle.tN ∈ lw_tbl ∧ Cond.initialized "PickPaths" ∈ lw_tbl := by decide +kernel
theorem ax_n4 : ∀ y, y < 14 → Cond.stringRef "PickPaths" (axTh y).2.2.1 (axTh y).2.2.2.2 ∈ lw_tbl := by decide +kernel
theorem ax_n5 : Cond.methodLinkNest "PickPaths" 11 (axY MX3_init) "PickPaths" ∈ lw_tbl := by decide +kernel
theorem ax_n6 : ∀ ci, ci < 7 → Cond.instantiable (axRN ci) (axNF ci) ∈ lw_tbl := by decide +kernel
theorem ax_n7 : Cond.arrayClass .int ∈ lw_tbl ∧ Cond.arrayClass .boolean ∈ lw_tbl ∧ Cond.arrayClass .long ∈ lw_tbl := by decide +kernel
theorem ax_arr {args : Array Value} {s : State} {ty : FieldType} (h : (Cond.arrayClass ty).before args s = true) (hp : ∀ C, ty ≠ .object C) : ∃ cA : ClassId, ArrOfT s cA ty ∧ va_RA s cA ty := by
  obtain ⟨c, k, comp, h1, h2, h3⟩ := Cond.arrayClass_spec h
  refine ⟨c, fun n z => ⟨fun k h => (by cases h), k, h2, comp, h3⟩, ?_⟩
  cases ty with
  | object C => exact absurd rfl (hp C)
  | _ => exact h1
set_option maxHeartbeats 1000000 in
theorem whole_start (hpure : ax_Pure) {p : Program} {e : Env} {s : State} {m : MethodId} {below : List Frame} {meth : Method} {c : Code} (l : Launch) (hl : l.stackTraces = false) {b L : Nat} {xs : Nat → Int32} (hL : L ≤ 2050) (hnm : meth.name = "law") (htab : c.exceptionTable.toList = []) (C0 : lw_At p s m meth c b L xs) :
    W p l e room_1 s m #[Value.ref b] below meth c s.heap [] 0 0 (lw_Z below #[Value.ref b] s) (entryFrame m ([Value.ref b] : List Value).toArray 7) := by
  obtain ⟨hx, hb, hr, hml, hown, hts, hX, hbl, hlocks, hgv⟩ := C0
  have hs := flat_of_before _ hgv
  have hTB : ∀ w ∈ axTB, w.before #[Value.ref b] s = true := fun w hw => hts w (ax_TB_ok w hw).1
  have hKn : ∀ ci, ∃ (cC : ClassId) (iS : Nat → Nat), ci < 7 → u_Kn s (axRN ci) (axTT ci) (axNF ci) cC iS := fun ci => by
    by_cases h7 : ci < 7
    · obtain ⟨h1, h2, h3, h4⟩ := ax_class ci h7
      obtain ⟨cC, iS, h⟩ := u_known (C := axRN ci) (T := axTT ci) (N := axNF ci) (n := axNF ci) hTB (fun w h => ax_in_cls (h2 w h)) (hts _ (ax_n6 ci h7))
      exact ⟨cC, iS, fun _ => h⟩
    · exact ⟨0, fun _ => 0, fun h => absurd h h7⟩
  obtain ⟨dC, hdC⟩ := Classical.axiomOfChoice hKn
  obtain ⟨dI, hdI⟩ := Classical.axiomOfChoice hdC
  obtain ⟨t0, ht0⟩ := ax_arr (hts _ ax_n7.1) (fun C h => by cases h)
  obtain ⟨t1, ht1⟩ := ax_arr (hts _ ax_n7.2.1) (fun C h => by cases h)
  obtain ⟨t2, ht2⟩ := ax_arr (hts _ ax_n7.2.2) (fun C h => by cases h)
  obtain ⟨τ, hτ0, hτ1, hτ2⟩ : ∃ τ : Nat → ClassId, τ 0 = t0 ∧ τ 1 = t1 ∧ τ 2 = t2 := ⟨fun k => if k = 0 then t0 else if k = 1 then t1 else t2, rfl, rfl, rfl⟩
  have hK : va_K (dC, dI) axCl (axTys τ) s := by
    refine ⟨fun ci q hq => ?_, fun k q hq => ?_⟩
    · have h7 : ci < 7 := (List.getElem?_eq_some_iff.mp hq).1
      rw [(ax_class ci h7).1] at hq
      cases hq
      exact hdI ci h7
    · have hk : k < 3 := (List.getElem?_eq_some_iff.mp hq).1
      match k, hk, hq with
      | 0, _, hq => cases hq; rw [hτ0]; exact ht0
      | 1, _, hq => cases hq; rw [hτ1]; exact ht1
      | 2, _, hq => cases hq; rw [hτ2]; exact ht2
      | n + 3, h, _ => exact absurd h (by omega)
  have hAn : ∀ a : Nat, a < s.heap.size → ¬ (fun q : Nat => s.heap.size ≤ q) a := fun a h => Nat.not_le.mpr h
  obtain ⟨n31, n32, n33, n34⟩ := ax_n3
  have hZU := vx_Zqof (A := fun q : Nat => s.heap.size ≤ q) (hts _ n31) (hts _ n33) (hs _ ax_n2.1) hAn
  have hZS := vx_Zqof (A := fun q : Nat => s.heap.size ≤ q) (hts _ n32) (hts _ n33) (hs _ ax_n2.2) hAn
  have hstr : ∀ y, y < 14 → ∃ sa, vk_R "PickPaths" (axTh y).2.2.1 (axTh y).2.2.2.2 sa s := fun y hy => by
    have h1 := hts _ (ax_n4 y hy)
    have hcur : ∃ cur, s.vm.findClass "PickPaths" = some cur := by
      obtain ⟨q1, q2⟩ := hdI 5 (by decide)
      exact ⟨_, q2.1⟩
    obtain ⟨cur, hcur⟩ := hcur
    obtain ⟨k, cf, i, a, -, -, -, -, -, h2⟩ := Cond.stringRef_spec hcur h1
    exact ⟨a, vk_R.of h1 h2⟩
  have hG : ax_G (dC, dI) τ b L xs (fun q : Nat => s.heap.size ≤ q) s s.heap := ⟨hK, hX, hbl, hAn b hbl, hZU, hZS, hstr, fun e1 e2 h1 h2 h3 => va_Nc.of (hs _ (ax_n1 e1 h1 e2 h2 h3)), va_Nw.of rfl (hts _ ax_n5)⟩
  obtain ⟨n, w, a, b1, hev, ha, hb1⟩ := hpure L xs hL
  have C : ax_Cx ML_law p l s m #[Value.ref b] meth c (fun q : Nat => s.heap.size ≤ q) (dC, dI) τ b L xs :=
    ⟨by decide, hx, hb, hr, hml, hown, hTB, hlocks, hnm, htab, hG, fun _ h => h, hl⟩
  have hgo := ax_sound n 10 ML_law _ _ hev (by decide) p e room_1 s m #[Value.ref b] below meth c (fun q : Nat => s.heap.size ≤ q) (dC, dI) τ b 0 0 0 (fun _ => b) 1068 12728 C (by decide) (by decide) (by show a ≤ 0 + 1068; omega) (by show b1 ≤ 0 + 12728; omega) (by show a ≤ 0 + 1068; omega) (by show b1 ≤ 0 + 12728; omega)
  have hle := lv_entry ([.ref b]) (n := 7) (Nat.le_of_ble_eq_true rfl)
  rw [lg_entry_eq]
  generalize (lg_sl ([.ref b]) ++ List.replicate (7 - (lg_sl ([.ref b])).length) Slot.unset).toArray = lsA at hle ⊢
  have hW := hgo s.heap [] 0 0 (fun _ => b) lsA ⟨fun k q h => by simp [ax_W, ax_Wd] at h, ⟨fun i j p q h => by simp [ax_W, ax_Wd] at h, fun k q h => by simp [ax_W, ax_Wd] at h⟩, va_S.rf, hle, fun q hq => by
    simp only [List.mem_cons, List.not_mem_nil, or_false] at hq
    subst hq
    rfl, fun _ _ => rfl, Nat.le_refl _, rfl, rfl, rfl⟩
  intro T hT X
  obtain ⟨t, a9, o, b1', b2, b3⟩ := hW T hT X
  refine ⟨t, a9, o, b1', b2, ?_⟩
  rcases b3 with ⟨⟨⟨σ', v, -, hv, ho, -, -⟩, -⟩, L9, ⟨h1, h2, h3⟩, h4⟩ | ⟨q, -, E, ce, L9, ⟨⟨σ', x, -, hx9, -⟩, -⟩, -⟩
  · cases hv
    refine ⟨ho, h1, h2, h3.weaken (fun y hy hlt => ?_) (Nat.le_refl _) (Nat.le_refl _)⟩
    exact absurd (h4 y hy) (Nat.not_le.mpr hlt)
  · cases hx9
