/-- the one call of a nest mate's own constructor -/
theorem ax_nk4 : ∀ i, i < 106 → (axT i).all (fun q => match q with | (_, .invokespecial k, 4, y) => decide (axO i = "PickPaths") && Nat.beq k 11 && Nat.beq y MX3_init | _ => true) = true := by decide +kernel
theorem ax_nest {i pc j y bS L : Nat} {D : va_G} {τ : Nat → ClassId} {xs : Nat → Int32} {A : Nat → Prop} {s : State} {args : Array Value} {H : Heap} (hi : i < 106) (hat : ax_at (axT i) pc = some (.invokespecial j, 4, y)) (hG : ax_G D τ bS L xs A s H) : (Cond.methodLinkNest (axO i) j (axY y) "PickPaths").before args s = true := by
  have h := List.all_eq_true.mp (ax_nk4 i hi) _ (ax_at_mem _ _ hat)
  simp only [Bool.and_eq_true] at h
  obtain ⟨⟨h1, h2⟩, h3⟩ := h
  rw [of_decide_eq_true h1, Nat.eq_of_beq_eq_true h2, Nat.eq_of_beq_eq_true h3]
  exact va_Nw.use rfl hG.2.2.2.2.2.2.2.2
theorem ax_rc_ok {w : AxW} {y : Nat} {as : List Value} (h : ax_rc w y as) : ∃ (q : Nat) (as' : List Value) (fs : List Value), as = .ref (q + 1) :: as' ∧ ax_nth w q = some (.inr (axCi y, fs)) := by
  unfold ax_rc at h
  split at h
  · obtain ⟨fs, hw⟩ := h
    exact ⟨_, _, fs, rfl, hw⟩
  · exact h.elim
section AXR
variable {p : Program} {l : Launch} {e : Env} {R : Room} {s : State} {m : MethodId} {args : Array Value} {below : List Frame} {meth : Method} {c : Code} {A : Nat → Prop} {D : va_G} {τ : Nat → ClassId} {bS L a0 b0 n0 : Nat} {xs : Nat → Int32} {σ0 : Nat → Nat} {Q : State → Prop}
variable {i pc x y a b a1 b1 cells slots n d : Nat} {ls : AxL} {st as rest : List Value} {w w1 : AxW} {r1 : Option Value ⊕ Nat} {H : Heap} {locs : List Loc} {σ : Nat → Nat} {lsA : Array Slot}
set_option maxHeartbeats 1000000 in
/-- the call itself -/
theorem ax_run {ins : Instr} (hS : ax_S l L xs n) (hk : ax_kind ins x = 1) (hat : ax_at (axT i) pc = some (ins, x, y)) (hsp : ax_split (axNa y) [] st = some (as, rest)) (hwt : ax_wt rest = true) (hc1 : ax_c1 as = true) (hrc : (Nat.beq x 2 || Nat.beq x 3) = false → ax_rc w y as)
    (hd2 : 2 ≤ d) (hev : ax_ev L xs n (d - 1) y (0, ax_ent 0 as, [], w, a, b) (w1, r1, a1, b1)) (hsi : (Nat.beq x 1 || Nat.beq x 4) = true → r1 = .inl none)
    (C : ax_Cx i p l s m args meth c A D τ bS L xs) (hdf : d ≤ R.frames) (hdl : 40 * d ≤ R.locals) (I : ax_In i s A D τ bS a0 b0 n0 σ0 ls w a b H locs cells slots σ lsA) (hq1 : a1 ≤ a0 + R.cells) (hq2 : b1 ≤ b0 + R.slots) :
    ∃ av : Array Value, vx_Run p l e R s m args below meth c H locs cells slots (a1 - a) (b1 - b) (F0 m pc lsA (st.map (ax_v σ))) (rest.map (ax_v σ)) (ax_Qr D τ (va_A (ax_W σ τ w) H.size) σ w.length w1 r1 av) (ax_Xr D τ (va_A (ax_W σ τ w) H.size) σ w.length w1 r1) (va_A (ax_W σ τ w) H.size) := by
  obtain ⟨hi, hx, hb, hr, hml, hown, hts, hlocks, hnm, htab, hG, hA, hl9⟩ := C
  obtain ⟨hP, hD, hSv, hl, hc, hσ, hn0, hca, hcb, hs0⟩ := I
  have hst := ax_stat hi hat
  have hmono := ax_ev_mono n (d - 1) y _ _ hev
  simp only at hmono
  obtain ⟨hste, hlen⟩ := ax_split_of hsp
  have hA1 : ∀ q, va_A (ax_W σ τ w) H.size q → A q := fun q h => by
    rcases h with ⟨k9, e9, h⟩ | h
    · exact hD.2 k9 (q, e9) h
    · exact hA q (Nat.le_trans hSv.1 h)
  have hwr : 2 * (F0 m pc lsA (st.map (ax_v σ))).monitorRoom + ((rest.map (ax_v σ)).map fun v => v.category).sum ≤ 8 := by
    show 2 * 0 + _ ≤ 8
    rw [ax_v_cats]
    have := Nat.le_of_ble_eq_true hwt
    omega
  have hfix : CallFix p m c (axB i) (axLo i) s args axTB (axO i) := ⟨hx, hb, hml, hown, hts⟩
  have hws : ∀ u ∈ axCode y :: axTB, y < 105 → ∀ (a' : Array Value) (U : State), s.WarmedH U.vm → u.before a' U = true := fun u hu hy a' U hW => by
    have hu9 : u ∈ axTB := by
      rcases List.mem_cons.mp hu with h | h
      · rw [h]; exact ax_in_code hy
      · exact h
    exact ax_ride (ax_TB_ok u hu9).2 hW (hts u hu9)
  have hpre : ∀ U : State, U.heap = H → s.WarmedH U.vm → ax_Pc D τ bS L xs σ w (as.map (ax_v σ)) H.size (as.map (ax_v σ)).toArray U := fun U hU hW =>
    ⟨rfl, by rw [hU], by rw [hU]; exact hP, hD.weaken (fun _ _ _ _ => trivial), by
      rw [hU]
      exact ax_G.to hG hW hSv.1 hSv.2.1 hA1⟩
  have hne : ∀ {u : Cond}, u ∈ ax_need i (pc, ins, x, y) → ax_isN u = false → u.before args s = true := fun h1 h2 => hts _ (ax_in_need hi (ax_at_mem _ _ hat) h1 h2)
  have hrm : y < 105 → (ax_rm (d - 1) a b a1 b1).frames + 1 ≤ R.frames ∧ 8 + (axLo y + 11) + (ax_rm (d - 1) a b a1 b1).locals ≤ R.locals := fun hy => by
    have := (ax_sizes y (by omega)).2.1
    refine ⟨?_, ?_⟩
    · show d - 1 + 1 ≤ R.frames
      omega
    · show 8 + (axLo y + 11) + 40 * (d - 1) ≤ R.locals
      omega
  have hroom : cells + (a1 - a) ≤ R.cells ∧ slots + (b1 - b) ≤ R.slots := by omega
  have hnot : y < 105 → (axY y).cls ≠ "java/lang/invoke/MethodHandle" ∧ (axY y).cls ≠ "java/lang/invoke/VarHandle" := fun hy => (ax_sizes y (by omega)).2.2.2
  have hmet : y < 105 → vx_Met l (axY y) (axCode y :: axTB) (ax_rm (d - 1) a b a1 b1) (ax_Pc D τ bS L xs σ w (as.map (ax_v σ)) H.size) (ax_Qr D τ (va_A (ax_W σ τ w) H.size) σ w.length w1 r1) (ax_Xr D τ (va_A (ax_W σ τ w) H.size) σ w.length w1 r1) (a1 - a) (b1 - b) (va_A (ax_W σ τ w) H.size) :=
    fun hy => ax_met hl9 hS hy (by omega) hev hc1 hlen hs0 H.size D τ
  cases ins
  case invokevirtual j =>
    have hd := ax_decn hi hat (by rfl)
    simp only [ax_stc, Bool.and_eq_true] at hst
    obtain ⟨⟨⟨⟨⟨g1, g2⟩, g3⟩, g4⟩, g5⟩, g6⟩ := hst
    have g1 := Nat.eq_of_beq_eq_true g1
    have g2 := ax_blt g2
    have g3 : axHh y = [] := of_decide_eq_true g3
    have g4 := of_decide_eq_true g4
    have g6 : (axY y).cls = axRN (axCi y) := of_decide_eq_true g6
    subst g1
    obtain ⟨q, as', fs, has, hw⟩ := ax_rc_ok (hrc rfl)
    subst has
    · skip
      obtain ⟨hcl, hwsz, hty, hnmz⟩ := ax_class (axCi y) (ax_blt g5)
      obtain ⟨hrm1, hrm2⟩ := hrm g2
      have hcode : (Cond.code (axY y) (axB y) (axLo y) (axRe y)).before args s = true := by rw [← ax_code0 g3]; exact hts _ (ax_in_code g2)
      have cw : CallW R s args (axO i) (axY y).cls j (axY y) (axB y) (axLo y) (axRe y) (axCode y :: axTB) (ax_rm (d - 1) a b a1 b1) (a1 - a) (b1 - b) as'.length :=
        ⟨⟨rfl, rfl, hrm1, hrm2, fun u hu => hws u hu g2, by rw [ax_code0 g3]; exact List.mem_cons_self, hcode, hne (by simp [ax_need]) rfl, hnot g2, fun sig hsig => by
          unfold axPa at g4
          rw [hsig] at g4
          simp only [Option.map_some, Option.some.injEq] at g4
          simp only [List.length_cons] at hlen
          omega, hne (by simp [ax_need]) rfl⟩, hne (by simp [ax_need]) rfl, hne (by simp [ax_need]) rfl⟩
      refine ⟨_, vx_runV (b := σ (q + 1)) (As := as'.map (ax_v σ)) hfix (hmet g2) cw ⟨ax_blind, ?_, hpre⟩ rfl (List.length_map _) hl.1 ?_ hwr hd hroom⟩
      · have := va_recv hG.1 hP (ci := axCi y) (q0 := q) hcl (ax_W_some hw)
        rw [g6]
        exact this
      · show st.map (ax_v σ) = _
        rw [hste]
        simp [ax_v]
  case invokestatic j =>
    have hd := ax_decn hi hat (by rfl)
    simp only [ax_stc, Bool.or_eq_true, Bool.and_eq_true] at hst
    rcases hst with h5 | hst
    · have h5 := ax_blt h5
      exfalso
      have : Nat.blt x 5 = false := by
        cases h7 : Nat.blt x 5 with
        | false => rfl
        | true => have := ax_blt h7; omega
      simp [ax_kind, this] at hk
    obtain ⟨⟨g2, g4⟩, g5⟩ := hst
    have g2 := ax_blt g2
    have g4 := of_decide_eq_true g4
    obtain ⟨hrm1, hrm2⟩ := hrm g2
    have hsig9 : ∀ sig, parseMethodDescriptor (axY y).desc = some sig → as.length = sig.parameters.length := fun sig hsig => by
      unfold axPa at g4
      rw [hsig] at g4
      simp only [Option.map_some, Option.some.injEq] at g4
      omega
    have hstk : (F0 m pc lsA (st.map (ax_v σ))).stack = (as.map (ax_v σ)).reverse ++ rest.map (ax_v σ) := by
      show st.map (ax_v σ) = _
      rw [hste]
      simp
    rcases g5 with ⟨g6, g7⟩ | ⟨g6, g7⟩
    · have g6 := Nat.eq_of_beq_eq_true g6
      have g7 : axHh y = [] := of_decide_eq_true g7
      subst g6
      have hcode : (Cond.code (axY y) (axB y) (axLo y) (axRe y)).before args s = true := by rw [← ax_code0 g7]; exact hts _ (ax_in_code g2)
      have cw : CallB R s args (axO i) j (axY y) (axB y) (axLo y) (axRe y) (axCode y :: axTB) (ax_rm (d - 1) a b a1 b1) (a1 - a) (b1 - b) as.length ∧ (Cond.static (axY y)).before args s = true :=
        ⟨⟨rfl, rfl, hrm1, hrm2, fun u hu => hws u hu g2, by rw [ax_code0 g7]; exact List.mem_cons_self, hcode, hne (by simp [ax_need]) rfl, hnot g2, hsig9, hne (by simp [ax_need]) rfl⟩, hne (by simp [ax_need]) rfl⟩
      exact ⟨_, vx_runS (As := as.map (ax_v σ)) hfix (hmet g2) cw ⟨ax_blind, hpre⟩ rfl (List.length_map _) hl.1 hstk hwr hd hroom⟩
    · have g6 := Nat.eq_of_beq_eq_true g6
      have g7 : axHh y ≠ [] := fun h => by rw [decide_eq_true h] at g7; cases g7
      subst g6
      have hcode : (Cond.codeWith (axY y) (axB y) (axLo y) (axRe y) (axHh y)).before args s = true := by rw [← ax_codeH g7]; exact hts _ (ax_in_code g2)
      have cw : vx_CSW R s args (axO i) j (axY y) (axB y) (axLo y) (axRe y) (axHh y) (axCode y :: axTB) (ax_rm (d - 1) a b a1 b1) (a1 - a) (b1 - b) as.length :=
        ⟨⟨rfl, rfl, hrm1, hrm2, fun u hu => hws u hu g2, by rw [ax_codeH g7]; exact List.mem_cons_self⟩, hcode, hne (by simp [ax_need]) rfl, hnot g2, hsig9, hne (by simp [ax_need]) rfl, hne (by simp [ax_need]) rfl⟩
      exact ⟨_, vx_runSX (As := as.map (ax_v σ)) hfix (hmet g2) cw ⟨ax_blind, hpre⟩ rfl (List.length_map _) hl.1 hstk hwr hd hroom⟩
  case invokespecial j =>
    have hd := ax_decn hi hat (by rfl)
    have hlt : Nat.blt x 5 = true := by
      cases h7 : Nat.blt x 5 with
      | true => rfl
      | false => simp [ax_kind, h7] at hk
    have hlt := ax_blt hlt
    simp only [ax_stc, Bool.or_eq_true, Bool.and_eq_true] at hst
    rcases hst with (h5 | h5) | hst
    · have := Nat.eq_of_beq_eq_true h5; omega
    · have := Nat.eq_of_beq_eq_true h5; omega
    obtain ⟨⟨⟨⟨⟨g1, g2⟩, g3⟩, g4⟩, g5⟩, g6⟩ := hst
    have g2 := ax_blt g2
    have g3 : axHh y = [] := of_decide_eq_true g3
    have g4 := of_decide_eq_true g4
    have g5 : (axY y).name = "<init>" := of_decide_eq_true g5
    have g6 : axRe y = none := of_decide_eq_true g6
    obtain ⟨hrm1, hrm2⟩ := hrm g2
    have hx23 : (Nat.beq x 2 || Nat.beq x 3) = false := by
      rcases g1 with h | h <;> (have := Nat.eq_of_beq_eq_true h; subst this; rfl)
    have hr1 : r1 = .inl none := hsi (by
      rcases g1 with h | h <;> (have := Nat.eq_of_beq_eq_true h; subst this; rfl))
    subst hr1
    have hcode : (Cond.code (axY y) (axB y) (axLo y) none).before args s = true := by
      have := hts _ (ax_in_code g2)
      rw [ax_code0 g3, g6] at this
      exact this
    have hcm : Cond.code (axY y) (axB y) (axLo y) none ∈ axCode y :: axTB := by rw [ax_code0 g3, g6]; exact List.mem_cons_self
    obtain ⟨q, as', fs, has, hw⟩ := ax_rc_ok (hrc hx23)
    subst has
    · have hsig9 : ∀ sig, parseMethodDescriptor (axY y).desc = some sig → as'.length = sig.parameters.length := fun sig hsig => by
        unfold axPa at g4
        rw [hsig] at g4
        simp only [Option.map_some, Option.some.injEq] at g4
        simp only [List.length_cons] at hlen
        omega
      have hstk : (F0 m pc lsA (st.map (ax_v σ))).stack = (as'.map (ax_v σ)).reverse ++ .ref (σ (q + 1)) :: rest.map (ax_v σ) := by
        show st.map (ax_v σ) = _
        rw [hste]
        simp [ax_v]
      rcases g1 with h | h
      · have := Nat.eq_of_beq_eq_true h
        subst this
        have cw : CallB R s args (axO i) j (axY y) (axB y) (axLo y) none (axCode y :: axTB) (ax_rm (d - 1) a b a1 b1) (a1 - a) (b1 - b) as'.length ∧ (axY y).name = "<init>" ∧ (Cond.instanceMethod (axY y)).before args s = true :=
          ⟨⟨rfl, rfl, hrm1, hrm2, fun u hu => hws u hu g2, hcm, hcode, hne (by simp [ax_need]) rfl, hnot g2, hsig9, hne (by simp [ax_need]) rfl⟩, g5, hne (by simp [ax_need]) rfl⟩
        exact ⟨_, ax_runx (va_runI (b := σ (q + 1)) (As := as'.map (ax_v σ)) hfix (ax_met0 (hmet g2)) cw ⟨ax_blind, hpre⟩ rfl (List.length_map _) hl.1 hstk hwr hd hroom)⟩
      · have := Nat.eq_of_beq_eq_true h
        subst this
        have hnest : (Cond.methodLinkNest (axO i) j (axY y) "PickPaths").before args s = true := ax_nest hi hat hG
        have cw : va_CN R s args (axO i) j (axY y) "PickPaths" (axB y) (axLo y) none (axCode y :: axTB) (ax_rm (d - 1) a b a1 b1) (a1 - a) (b1 - b) as'.length ∧ (axY y).name = "<init>" ∧ (Cond.instanceMethod (axY y)).before args s = true :=
          ⟨⟨⟨rfl, rfl, hrm1, hrm2, fun u hu => hws u hu g2, hcm⟩, hcode, hne (by simp [ax_need]) rfl, hnot g2, hsig9, hnest⟩, g5, hne (by simp [ax_need]) rfl⟩
        exact ⟨_, ax_runx (va_runIN (b := σ (q + 1)) (As := as'.map (ax_v σ)) hfix (ax_met0 (hmet g2)) cw ⟨ax_blind, hpre⟩ rfl (List.length_map _) hl.1 hstk hwr hd hroom)⟩
  case new => simp only [ax_kind, Bool.cond_eq_ite] at hk; split at hk <;> cases hk
  all_goals cases hk
end AXR
