/-! THE MACHINE OF OURS IS RIGHT: what it comes to, the Java machine comes to. -/
def ax_S (l : Launch) (L : Nat) (xs : Nat → Int32) (n : Nat) : Prop := ∀ (d i : Nat) (k : AxC) (res : AxR), ax_ev L xs n d i k res → 1 ≤ d →
  ∀ (p : Program) (e : Env) (R : Room) (s : State) (m : MethodId) (args : Array Value) (below : List Frame) (meth : Method) (c : Code) (A : Nat → Prop) (D : va_G) (τ : Nat → ClassId) (bS a0 b0 n0 : Nat) (σ0 : Nat → Nat) (mc ms : Nat),
    ax_Cx i p l s m args meth c A D τ bS L xs → d ≤ R.frames → 40 * d ≤ R.locals → res.2.2.1 ≤ a0 + R.cells → res.2.2.2 ≤ b0 + R.slots → res.2.2.1 ≤ a0 + mc → res.2.2.2 ≤ b0 + ms →
    ax_Go i p l e R s m args below meth c A D τ bS a0 b0 n0 σ0 (vx_MQ below (ax_Qr D τ A σ0 n0 res.1 res.2.1) (ax_Xr D τ A σ0 n0 res.1 res.2.1) args s mc ms A) k
section AXF
variable {l : Launch} {L : Nat} {xs : Nat → Int32} {D : va_G} {τ : Nat → ClassId} {bS : Nat} {σ : Nat → Nat} {w w1 : AxW} {r1 : Option Value ⊕ Nat} {n d j a b a1 b1 sz : Nat} {as : List Value}
abbrev ax_rm (d a b a1 b1 : Nat) : Room := { frames := d, cells := a1 - a, slots := b1 - b, locals := 40 * d }
theorem ax_c1_ok (h : ax_c1 as = true) : ∀ v ∈ as, v.category = 1 := fun v hv => Nat.eq_of_beq_eq_true (List.all_eq_true.mp h v hv)
/-- a method's body, from its entry -/
theorem ax_body (hl : l.stackTraces = false) (hS : ax_S l L xs n) (hj : j < 105) (hd : 1 ≤ d) (hev : ax_ev L xs n d j (0, ax_ent 0 as, [], w, a, b) (w1, r1, a1, b1)) (hc1 : ax_c1 as = true) (hlen : as.length = axNa j) (h0 : σ 0 = bS)
    {p : Program} {e : Env} {s : State} {m : MethodId} {args : Array Value} {below : List Frame} {meth : Method} {c : Code} {s₁ : State} (B : BodyLoose p l (axY j) (headSpec (axCode j :: axTB) (ax_rm d a b a1 b1)) (axB j) (axLo j) (axRe j) e s m args below meth c s₁) (hml : c.maxLocals = axLo j)
    (htab : c.exceptionTable.toList = tableOf (axHh j)) (hv : ax_Pc D τ bS L xs σ w (as.map (ax_v σ)) sz args s) :
    W p l e (headSpec (axCode j :: axTB) (ax_rm d a b a1 b1)).room s m args below meth c s.heap [] 0 0 (vx_MQ below (ax_Qr D τ (va_A (ax_W σ τ w) sz) σ w.length w1 r1) (ax_Xr D τ (va_A (ax_W σ τ w) sz) σ w.length w1 r1) args s (a1 - a) (b1 - b) (va_A (ax_W σ τ w) sz)) (entryFrame m args (axLo j)) := by
  obtain ⟨rfl, hsz, hP, hD0, hG⟩ := hv
  subst hsz
  have hcat := ax_c1_ok hc1
  have hcatv : ∀ v ∈ as.map (ax_v σ), v.category = 1 := fun v hv => by
    obtain ⟨u, hu, rfl⟩ := List.mem_map.mp hv
    rw [ax_v_cat]
    exact hcat u hu
  obtain ⟨hz1, hz2, hz3, hz4, hz5⟩ := ax_sizes j (by omega)
  have hlsl : (lg_sl (as.map (ax_v σ))).length ≤ axLo j := by rw [ax_sl_len _ hcatv, List.length_map, hlen]; exact hz1
  have hle := lv_entry (as.map (ax_v σ)) (n := axLo j) hlsl
  rw [lg_entry_eq]
  generalize (lg_sl (as.map (ax_v σ)) ++ List.replicate (axLo j - (lg_sl (as.map (ax_v σ))).length) Slot.unset).toArray = lsA at hle ⊢
  rw [ax_ent_args σ 0 as hcat] at hle
  have hts : ∀ u ∈ axTB, u.before (as.map (ax_v σ)).toArray s = true := fun u hu => atoms_spec (ws := axCode j :: axTB) B.pre u (List.mem_cons_of_mem _ hu)
  have hmono := ax_ev_mono n d j _ _ hev
  simp only at hmono
  have hA : ∀ q : Nat, s.heap.size ≤ q → va_A (ax_W σ τ w) s.heap.size q := fun q h => Or.inr h
  have C : ax_Cx j p l s m (as.map (ax_v σ)).toArray meth c (va_A (ax_W σ τ w) s.heap.size) D τ bS L xs :=
    ⟨by omega, B.exec, B.bytes, B.returns, hml, findClass_of_methodNamed B.named, hts, B.notSynchronized, (name_of_methodNamed B.named B.method).1, htab, hG, hA, hl⟩
  have hgo := hS d j _ _ hev hd p e (headSpec (axCode j :: axTB) (ax_rm d a b a1 b1)).room s m (as.map (ax_v σ)).toArray below meth c (va_A (ax_W σ τ w) s.heap.size) D τ bS a b w.length σ (a1 - a) (b1 - b) C (Nat.le_refl d) (Nat.le_refl _) (by show a1 ≤ a + (a1 - a); omega) (by show b1 ≤ b + (b1 - b); omega) (by show a1 ≤ a + (a1 - a); omega) (by show b1 ≤ b + (b1 - b); omega)
  exact hgo s.heap [] 0 0 σ lsA ⟨hP, hD0.self, va_S.rf, hle, ax_ent_cat 0 as hcat, fun _ _ => rfl, Nat.le_refl _, Nat.zero_add _, Nat.zero_add _, h0⟩
theorem ax_code0 (h : axHh j = []) : axCode j = Cond.code (axY j) (axB j) (axLo j) (axRe j) := by unfold axCode; rw [h]
theorem ax_codeH (h : axHh j ≠ []) : axCode j = Cond.codeWith (axY j) (axB j) (axLo j) (axRe j) (axHh j) := by
  unfold axCode
  cases hh : axHh j with
  | nil => exact absurd hh h
  | cons q r => rfl
/-- a method's contract -/
theorem ax_met (hl : l.stackTraces = false) (hS : ax_S l L xs n) (hj : j < 105) (hd : 1 ≤ d) (hev : ax_ev L xs n d j (0, ax_ent 0 as, [], w, a, b) (w1, r1, a1, b1)) (hc1 : ax_c1 as = true) (hlen : as.length = axNa j) (h0 : σ 0 = bS) (sz : Nat) (D : va_G) (τ : Nat → ClassId) :
    vx_Met l (axY j) (axCode j :: axTB) (ax_rm d a b a1 b1) (ax_Pc D τ bS L xs σ w (as.map (ax_v σ)) sz) (ax_Qr D τ (va_A (ax_W σ τ w) sz) σ w.length w1 r1) (ax_Xr D τ (va_A (ax_W σ τ w) sz) σ w.length w1 r1) (a1 - a) (b1 - b) (va_A (ax_W σ τ w) sz) := by
  obtain ⟨hz1, hz2, hz3, hz4, hz5⟩ := ax_sizes j (by omega)
  by_cases hh : axHh j = []
  · refine vx_ofW (cc := axB j) (maxL := axLo j) (ret := axRe j) (ws' := axTB) hz3 (by rw [ax_code0 hh]) ?_
    intro p e s m args below meth c s₁ B hml ht hv
    exact ax_body hl hS hj hd hev hc1 hlen h0 B hml (by rw [hh]; exact List.eq_nil_iff_forall_not_mem.mpr (fun x hx => ht x hx)) hv
  · refine vx_ofWH (cc := axB j) (maxL := axLo j) (ret := axRe j) (hh := axHh j) (ws' := axTB) hz3 (by rw [ax_codeH hh]) ?_
    intro p e s m args below meth c s₁ B hml hv
    exact ax_body hl hS hj hd hev hc1 hlen h0 B hml (vx_table (x := axY j) B (by rw [← ax_codeH hh]; exact atoms_spec (ws := axCode j :: axTB) B.pre _ List.mem_cons_self)) hv
/-- a contract that never throws -/
theorem ax_met0 {y : MethodName} {ws : List Cond} {rm : Room} {Pc : Array Value → State → Prop} {A : Nat → Prop} {n0 mc ms : Nat} {v : Option Value} (h : vx_Met l y ws rm Pc (ax_Qr D τ A σ n0 w1 (.inl v)) (ax_Xr D τ A σ n0 w1 (.inl v)) mc ms A) :
    Met l y ws rm Pc (ax_Qr D τ A σ n0 w1 (.inl v)) mc ms A := by
  intro p e h1 h2 h3 s m args below h4 h5 h6 h7
  obtain ⟨n9, o, g1, g2, g3, g4⟩ := h p e h1 h2 h3 s m args below h4 h5 h6 h7
  refine ⟨n9, o, g1, g2, g3, ?_⟩
  rcases g4 with g4 | ⟨q, -, E, ce, L9, ⟨⟨σ', x, -, hx, -⟩, -⟩, -⟩
  · exact g4
  · cases hx
theorem ax_runx {p : Program} {e : Env} {R : Room} {s : State} {m : MethodId} {args : Array Value} {below : List Frame} {meth : Method} {c : Code} {H : Heap} {locs : List Loc} {cells slots mc ms : Nat} {g : JFrame} {rest : List Value} {Qa : State → Outcome → State → Prop} {XC : String → State → State → Prop} {free : Addr → Prop}
    (h : va_Run p l e R s m args below meth c H locs cells slots mc ms g rest Qa free) : vx_Run p l e R s m args below meth c H locs cells slots mc ms g rest Qa XC free := fun T hT X => Or.inl (h T hT X)
end AXF
