/-! walk, both sides -/
/-- the walk of a kind: n steps, the row of its stops -/
def WL (kind : Int) (X : Nat → Int) (F : Nat → Int → Int) (n : Int) (row : Int → Int) : Prop := (kind = 4 → WL4 X F n row) ∧ (kind = 3 → WL3 X F n row) ∧ (kind ≤ 2 → WLs (KK kind X F) X F n row)
/-- the class's cells behind a walk -/
def WR (kind : Int) (X : Nat → Int) (F : Nat → Int → Int) (X' : Nat → Int) (F' : Nat → Int → Int) : Prop :=
  (X' 0 = X 0 ∧ X' 1 = X 1 ∧ X' 2 = X 2 ∧ X' 4 = X 4 ∧ X' 5 = X 5 ∧ X' 6 = X 6) ∧ (F' 1 = F 1 ∧ F' 2 = F 2 ∧ F' 3 = F 3 ∧ F' 4 = F 4 ∧ F' 5 = F 5 ∧ F' 6 = F 6 ∧ F' 7 = F 7) ∧ SR X' F' ∧ WL kind X F (X' 3) (F' 0)
section K0
variable {X : Nat → Int} {F : Nat → Int → Int} {kind n n' : Int} {row row' : Int → Int}
theorem KK_0 : KK 0 X F = K0 X F := by
  funext s
  unfold KK
  rw [if_neg (by decide), if_neg (by decide)]
theorem KK_1 : KK 1 X F = K1 F := by
  funext s
  unfold KK
  rw [if_neg (by decide), if_pos rfl]
theorem KK_2 : KK 2 X F = K2 X F := by
  funext s
  unfold KK
  rw [if_pos rfl]
theorem WL_one (hX : 0 ≤ X 6) (hk : 0 ≤ kind ∧ kind ≤ 4) (h4 : kind = 4 → nW F (X 6) ≤ 8) (h : WL kind X F n row) (h' : WL kind X F n' row') : n = n' ∧ ∀ i, 0 ≤ i → i < n → row i = row' i := by
  by_cases c4 : kind = 4
  · exact WL4_one hX (h4 c4) (h.1 c4) (h'.1 c4)
  · by_cases c3 : kind = 3
    · exact WL3_one (h.2.1 c3) (h'.2.1 c3)
    · exact WLs_one (h.2.2 (by omega)) (h'.2.2 (by omega))
theorem WL_row (hX : 0 ≤ X 6) (hk : 0 ≤ kind ∧ kind ≤ 4) (h4 : kind = 4 → nW F (X 6) ≤ 8) (h : WL kind X F n row) : n = nW F (X 6) ∧ (∀ i, 0 ≤ i → i < n → 0 ≤ row i ∧ row i < X 6 ∧ wk F (row i) = 1) ∧ ∀ i j, 0 ≤ i → i < j → j < n → row i ≠ row j := by
  by_cases c4 : kind = 4
  · have w := WL4_row hX (h4 c4) (h.1 c4)
    exact ⟨(h.1 c4).1, w.1, w.2⟩
  · by_cases c3 : kind = 3
    · obtain ⟨a1, a2⟩ := h.2.1 c3
      refine ⟨a1, fun i i0 i1 => (a2 i i0 i1).1, fun i j i0 ij j1 => (a2 j (by omega) j1).2.1 i i0 ij⟩
    · obtain ⟨a1, a2, a3, a4⟩ := h.2.2 (by omega)
      exact ⟨a1, a2, fun i j i0 ij j1 => lx_ne (a4 i j i0 ij j1)⟩
theorem wk_5 {s : Int} (h : wk F s = 1) : 0 < F 5 s := by
  unfold wk at h
  by_cases c : F 6 s = 0 ∧ 0 < F 5 s ∧ F 1 (F 2 s) = 0
  · exact c.2.1
  · rw [if_neg c] at h
    omega
theorem SB_wr (hI : SB X F) {X' : Nat → Int} {F' : Nat → Int → Int} (hw : WR kind X F X' F') : SB X' F' := by
  obtain ⟨⟨x0, x1, x2, x4, x5, x6⟩, ⟨f1, f2, f3, f4, f5, f6, f7⟩, _, _⟩ := hw
  unfold SB pnt at *
  rw [x0, x2, x4, x5, x6, f1, f2, f3, f4, f5, f6, f7]
  exact hI
theorem RB_wr {M : Nat → Int} {G : Nat → Int → Int} (hm : RB X F M G) {X' : Nat → Int} {F' : Nat → Int → Int} (hw : WR kind X F X' F') : RB X' F' M G := by
  obtain ⟨⟨x0, x1, x2, x4, x5, x6⟩, ⟨f1, f2, f3, f4, f5, f6, f7⟩, _, _⟩ := hw
  unfold RB at *
  rw [x0, x1, x2, x4, x5, x6, f1, f2, f3, f5, f6]
  exact hm
end K0
section K1
variable {L : Nat} {xs : Nat → Int32} {X M : Nat → Int} {F G : Nat → Int → Int} {Y : Nat → Int} {E : Nat → Int → Int} {O : Int → Int} {d a b : Nat} {Q : BR → Prop} {row keys wt mem rs : Int → Int} {n l : Int}
theorem t_clear0 : bE L xs d MX3_clear (0, [(0, bR 2)], [], WD (PX X n l) (PF F row keys wt mem rs) M G O, a, b) (rV (WD (PX X 0 l) (PF F row keys wt mem rs) M G O) a b) :=
  go [] [] rfl rfl (rtv rfl rfl rfl)
theorem t_layAll (hI : SB X F) (kind : Int) (hk : 0 ≤ kind ∧ kind ≤ 4) (h4 : kind = 4 → nW F (X 6) ≤ 8) (hd : 7 ≤ d) : bE L xs d MX2_lay (0, [(0, bR 13), (1, bI kind), (2, bI (X 0)), (3, bR 2)], [], WD (PX X n l) (PF F row keys wt mem rs) M G O, a, b)
    (fun r => ∃ n l row keys wt mem rs, r = (WD (PX X n l) (PF F row keys wt mem rs) M G O, .inl none, a, b) ∧ WL kind X F n row) := by
  have hX := hI.1
  refine go [] [] rfl rfl (bc rfl (by omega) t_clear0 (fun h => by cases h) ?_)
  have key := for_up (P := fun s => ∀ wt : Int → Int, (∀ t, 0 ≤ t → t < s → wt t = wk F t) → bE L xs d MX2_lay (7, [(0, bR 13), (1, bI kind), (2, bI (X 0)), (3, bR 2), (4, bI s)], [], WD (PX X 0 l) (PF F row keys wt mem rs) M G O, a, b)
    (fun r => ∃ n l row keys wt mem rs, r = (WD (PX X n l) (PF F row keys wt mem rs) M G O, .inl none, a, b) ∧ WL kind X F n row)) (X 6) ?_ ?_ 0 (by omega) (by omega) wt (fun t t0 t1 => by omega)
  · exact go [7] [] rfl rfl key
  · intro wt hw
    by_cases c4 : kind = 4
    · refine go [] [0, 1] rfl ⟨Int.le_refl (X 6), c4, rfl⟩ (bcall rfl (by omega) (t_leastLay hI (h4 c4) (by omega)) ?_)
      rintro r ⟨n, l', row', mem', rs', rfl, hwl⟩
      refine ⟨_, _, _, _, rfl, (fun h => by cases h), ?_⟩
      exact go [] [] rfl rfl (rtv rfl rfl ⟨n, l', row', keys, wt, mem', rs', rfl, fun _ => hwl, fun q => by omega, fun q => by omega⟩)
    · by_cases c3 : kind = 3
      · refine go [] [0, 0, 1] rfl ⟨Int.le_refl (X 6), c4, c3, rfl⟩ (bcall rfl (by omega) (t_layNearest hI hw (by omega)) ?_)
        rintro r ⟨n, row', wt', rfl, hwl⟩
        refine ⟨_, _, _, _, rfl, (fun h => by cases h), ?_⟩
        exact go [] [] rfl rfl (rtv rfl rfl ⟨n, l, row', keys, wt', mem, rs, rfl, fun q => by omega, fun _ => hwl, fun q => by omega⟩)
      · refine go [] [0, 0, 0] rfl ⟨Int.le_refl (X 6), c4, c3, rfl⟩ (bcall rfl (by omega) (t_layByKeys hI hw kind (by omega) (by omega)) ?_)
        rintro r ⟨n, row', keys', rfl, hwl⟩
        refine ⟨_, _, _, _, rfl, (fun h => by cases h), ?_⟩
        exact rtv rfl rfl ⟨n, l, row', keys', wt, mem, rs, rfl, fun q => by omega, fun q => by omega, fun _ => hwl⟩
  · intro s s0 s1 ih wt hw
    have wc : bE L xs (d - 1) MX4_isWalked (0, [(0, bR 6), (1, bI s)], [], WD (PX X 0 l) (PF F row keys wt mem rs) M G O, a, b) (rI (WD (PX X 0 l) (PF F row keys wt mem rs) M G O) (wk F s) a b) :=
      t_isWalked (X := PX X 0 l) (F := PF F row keys wt mem rs) hI s s0 s1
    have w01 := wk_01 F s
    refine go [] [1] rfl ⟨s1, rfl⟩ (bc rfl (by omega) wc (fun h => by cases h) ?_)
    refine go [7] [] rfl ⟨(show 0 ≤ s ∧ s < ((10 : Nat) : Int) ∧ 0 ≤ wk F s ∧ wk F s ≤ 1 by omega), (show -2147483648 ≤ s + 1 ∧ s + 1 ≤ 2147483647 by omega), rfl⟩ (ih (up wt s (wk F s)) (fun t t0 t1 => ?_))
    by_cases e : t = s
    · rw [e, up_eq]
    · rw [up_ne _ e]; exact hw t t0 (by omega)
theorem t_walk3 (hI : SB X F) (kind : Int) (hk : 0 ≤ kind ∧ kind ≤ 4) (h4 : kind = 4 → nW F (X 6) ≤ 8) (hd : 8 ≤ d) : bE L xs d MX5_walk (0, [(0, bR 1), (1, bI kind)], [], WD X F M G O, a, b)
    (fun r => ∃ X' F', r = (WD X' F' M G O, .inl (some (bI (rl X' F'))), a, b) ∧ WR kind X F X' F') := by
  have hX := hI.1
  have lc : bE L xs (d - 1) MX2_lay (0, [(0, bR 13), (1, bI kind), (2, bI (X 0)), (3, bR 2)], [], WD X F M G O, a, b)
    (fun r => ∃ n l row keys wt mem rs, r = (WD (PX X n l) (PF F row keys wt mem rs) M G O, .inl none, a, b) ∧ WL kind X F n row) :=
    t_layAll (n := X 3) (l := X 7) (row := F 0) (keys := F 8) (wt := F 9) (mem := F 10) (rs := F 11) hI kind hk h4 (by omega)
  have rest : ∀ (n l : Int) (row keys wt mem rs : Int → Int), WL kind X F n row → bE L xs d MX5_walk (62, [(0, bR 1), (1, bI kind)], [], WD (PX X n l) (PF F row keys wt mem rs) M G O, a, b)
    (fun r => ∃ X' F', r = (WD X' F' M G O, .inl (some (bI (rl X' F'))), a, b) ∧ WR kind X F X' F') := by
    intro n l row keys wt mem rs hwl
    obtain ⟨w1, w2, w3⟩ := WL_row (by omega) hk h4 hwl
    have hnb := nW_b F (X 6) (by omega)
    have sr : SR (PX X n l) (PF F row keys wt mem rs) := by
      refine ⟨(show 0 ≤ n ∧ n ≤ 10 by omega), fun i i0 i1 => ?_, fun i j i0 ij j1 => w3 i j i0 ij j1⟩
      have q := w2 i i0 i1
      exact ⟨q.1, q.2.1, wk_5 q.2.2⟩
    have rc := t_routeLength (L := L) (xs := xs) (M := M) (G := G) (O := O) (d := d - 1) (a := a) (b := b) (X := PX X n l) (F := PF F row keys wt mem rs) hI sr (by omega)
    refine go [] [] rfl rfl (bc rfl (by omega) rc (fun h => by cases h) ?_)
    exact rti rfl rfl ⟨PX X n l, PF F row keys wt mem rs, rfl, ⟨rfl, rfl, rfl, rfl, rfl, rfl⟩, ⟨rfl, rfl, rfl, rfl, rfl, rfl, rfl⟩, sr, hwl⟩
  by_cases c4 : kind = 4
  · refine go [] [1, 0, 1] rfl (by omega) (bc rfl (by omega) (t_walkedOnes hI (by omega)) (fun h => by cases h) ?_)
    have := h4 c4
    refine go [] [0] rfl (by omega) (bcall rfl (by omega) lc ?_)
    rintro r ⟨n, l, row, keys, wt, mem, rs, rfl, hwl⟩
    exact ⟨_, _, _, _, rfl, (fun h => by cases h), rest n l row keys wt mem rs hwl⟩
  · refine go [] [1, 0, 0] rfl (by omega) (bcall rfl (by omega) lc ?_)
    rintro r ⟨n, l, row, keys, wt, mem, rs, rfl, hwl⟩
    exact ⟨_, _, _, _, rfl, (fun h => by cases h), rest n l row keys wt mem rs hwl⟩
theorem m_walk3 (hI : SB X F) (hm : RB X F M G) (kind : Int) (hk : 0 ≤ kind ∧ kind ≤ 4) (h4 : kind = 4 → nW F (X 6) ≤ 8) (hd : 8 ≤ d) {X' : Nat → Int} {F' : Nat → Int → Int} (hw : WR kind X F X' F') : bE L xs d MX6_walk (0, [(0, bR 19), (1, bI kind)], [], WD Y E M G O, a, b)
    (fun r => ∃ M' G', r = (WD Y E M' G' O, .inl (some (bI (rl X' F'))), a, b) ∧ M' 0 = 0 ∧ RB X' F' M' G' ∧ RR X' F' M' G') := by
  have hX := hI.1
  have hM := hm.1
  have sb := SB_wr hI hw
  -- the end: the length
  have fin : ∀ (n : Int) (row lf fr few co : Int → Int) (ls : BL), WL kind X F n row → (ls = [(0, bR 19), (1, bI kind), (2, bI (nW F (X 6)))] ∨ ∃ t, ls = [(0, bR 19), (1, bI kind), (2, bI (nW F (X 6))), (3, bI t)]) →
      bE L xs d MX6_walk (155, ls, [], WD Y E (PM M n) (PG G row lf fr few co) O, a, b) (fun r => ∃ M' G', r = (WD Y E M' G' O, .inl (some (bI (rl X' F'))), a, b) ∧ M' 0 = 0 ∧ RB X' F' M' G' ∧ RR X' F' M' G') := by
    intro n row lf fr few co ls hwl hls
    obtain ⟨e1, e2⟩ := WL_one (by omega) hk h4 hwl hw.2.2.2
    have rb : RB X' F' (PM M n) (PG G row lf fr few co) := RB_wr (M := PM M n) (G := PG G row lf fr few co) hm hw
    have rr : RR X' F' (PM M n) (PG G row lf fr few co) := ⟨e1, fun i i0 i1 => e2 i i0 (by omega)⟩
    have lc := m_length (L := L) (xs := xs) (Y := Y) (E := E) (O := O) (d := d - 1) (a := a) (b := b) sb hw.2.2.1 rb rr (by omega)
    rcases hls with rfl | ⟨t, rfl⟩
    · refine go [] [] rfl rfl (bc rfl (by omega) lc (fun h => by cases h) ?_)
      exact rti rfl rfl ⟨_, _, rfl, rfl, rb, rr⟩
    · refine go [] [] rfl rfl (bc rfl (by omega) lc (fun h => by cases h) ?_)
      exact rti rfl rfl ⟨_, _, rfl, rfl, rb, rr⟩
  -- the kinds
  have kinds : ∀ lf fr : Int → Int, (∀ s, 0 ≤ s → s < X 6 → lf s = wk F s) → (∀ s, 0 ≤ s → s < X 6 → fr s = 0 ∨ fr s = 1) →
      bE L xs d MX6_walk (89, [(0, bR 19), (1, bI kind), (2, bI (nW F (X 6)))], [], WD Y E (PM M 0) (PG G (G 5) lf fr (G 8) (G 9)) O, a, b) (fun r => ∃ M' G', r = (WD Y E M' G' O, .inl (some (bI (rl X' F'))), a, b) ∧ M' 0 = 0 ∧ RB X' F' M' G' ∧ RR X' F' M' G') := by
    intro lf fr hl hfr
    have hq : kind = 0 ∨ kind = 1 ∨ kind = 2 ∨ kind = 3 ∨ kind = 4 := by omega
    rcases hq with rfl | rfl | rfl | rfl | rfl
    · refine go [] [1] rfl ⟨rfl, rfl⟩ (bcall rfl (by omega) (m_through hI hm hfr hl (by omega)) ?_)
      rintro r ⟨n, row', lf', rfl, hwl⟩
      refine ⟨_, _, _, _, rfl, (fun h => by cases h), ?_⟩
      refine go [155] [0, 0, 0, 0] rfl ⟨(by decide : ¬ (0 : Int) = 1), (by decide : ¬ (0 : Int) = 2), (by decide : ¬ (0 : Int) = 3), (by decide : ¬ (0 : Int) = 4)⟩ (fin n row' lf' fr _ _ _ ⟨fun q => by omega, fun q => by omega, fun _ => ?_⟩ (Or.inl rfl))
      rw [KK_0]; exact hwl
    · refine go [104] [0, 1] rfl ⟨(by decide : ¬ (1 : Int) = 0), rfl, rfl⟩ (w_back hI hm hfr hl (by omega) (nW F (X 6)) ?_)
      intro n row' lf' hwl
      refine go [155] [0, 0, 0] rfl ⟨(by decide : ¬ (1 : Int) = 2), (by decide : ¬ (1 : Int) = 3), (by decide : ¬ (1 : Int) = 4)⟩ (fin n row' lf' fr _ _ _ ⟨fun q => by omega, fun q => by omega, fun _ => ?_⟩ (Or.inr ⟨_, rfl⟩))
      rw [KK_1]; exact hwl
    · refine go [] [0, 0, 1] rfl ⟨(by decide : ¬ (2 : Int) = 0), (by decide : ¬ (2 : Int) = 1), rfl, rfl⟩ (bcall rfl (by omega) (m_gaps hI hm hfr hl (by omega)) ?_)
      rintro r ⟨n, row', lf', fr', rfl, hwl⟩
      refine ⟨_, _, _, _, rfl, (fun h => by cases h), ?_⟩
      refine go [155] [0, 0] rfl ⟨(by decide : ¬ (2 : Int) = 3), (by decide : ¬ (2 : Int) = 4)⟩ (fin n row' lf' fr' _ _ _ ⟨fun q => by omega, fun q => by omega, fun _ => ?_⟩ (Or.inl rfl))
      rw [KK_2]; exact hwl
    · refine go [] [0, 0, 0, 1] rfl ⟨(by decide : ¬ (3 : Int) = 0), (by decide : ¬ (3 : Int) = 1), (by decide : ¬ (3 : Int) = 2), rfl, rfl⟩ (bcall rfl (by omega) (m_nearest hI hm hl (by omega)) ?_)
      rintro r ⟨n, row', lf', rfl, hwl⟩
      refine ⟨_, _, _, _, rfl, (fun h => by cases h), ?_⟩
      exact go [155] [0] rfl (by decide : ¬ (3 : Int) = 4) (fin n row' lf' fr _ _ _ ⟨fun q => by omega, fun _ => hwl, fun q => by omega⟩ (Or.inl rfl))
    · refine go [] [0, 0, 0, 0, 1] rfl ⟨(by decide : ¬ (4 : Int) = 0), (by decide : ¬ (4 : Int) = 1), (by decide : ¬ (4 : Int) = 2), (by decide : ¬ (4 : Int) = 3), rfl, rfl⟩ (bcall rfl (by omega) (m_least hI hm (h4 rfl) hl (by omega)) ?_)
      rintro r ⟨n, row', lf', few', co', rfl, hwl⟩
      refine ⟨_, _, _, _, rfl, (fun h => by cases h), ?_⟩
      exact fin n row' lf' fr few' co' _ ⟨fun _ => hwl, fun q => by omega, fun q => by omega⟩ (Or.inl rfl)
  -- what is left, and fronts
  have marks := for_up (P := fun s => ∀ lf fr : Int → Int, (∀ t, 0 ≤ t → t < s → lf t = wk F t ∧ fr t = 1) → bE L xs d MX6_walk (52, [(0, bR 19), (1, bI kind), (2, bI s)], [], WD Y E (PM M 0) (PG G (G 5) lf fr (G 8) (G 9)) O, a, b) (fun r => ∃ M' G', r = (WD Y E M' G' O, .inl (some (bI (rl X' F'))), a, b) ∧ M' 0 = 0 ∧ RB X' F' M' G' ∧ RR X' F' M' G')) (X 6) ?_ ?_ 0 (by omega) (by omega) (G 6) (G 7) (fun t t0 t1 => by omega)
  · refine go [] [] rfl rfl (bc rfl (by omega) (m_in _ _ _) (fun h => by cases h) ?_)
    rw [if_pos (by omega)]
    by_cases c4 : kind = 4
    · refine go [] [0, 1] rfl ⟨(by decide : ¬ (1 : Int) = 0), c4, rfl⟩ (bc rfl (by omega) (m_walked hI hm (by omega)) (fun h => by cases h) ?_)
      exact go [52] [0, 0] rfl ⟨h4 c4, Int.le_refl 0, rfl⟩ marks
    · exact go [52] [0, 0, 0] rfl ⟨(by decide : ¬ (1 : Int) = 0), c4, Int.le_refl 0, rfl⟩ marks
  · intro lf fr hlf
    have wc := m_walked (L := L) (xs := xs) (Y := Y) (E := E) (O := O) (d := d - 1) (a := a) (b := b) (M := PM M 0) (G := PG G (G 5) lf fr (G 8) (G 9)) hI hm (by omega)
    refine go [] [0] rfl ⟨(show M 6 ≤ X 6 by omega), rfl⟩ (bc rfl (by omega) wc (fun h => by cases h) ?_)
    exact go [89] [] rfl rfl (kinds lf fr (fun s s0 s1 => (hlf s s0 s1).1) (fun s s0 s1 => Or.inr (hlf s s0 s1).2))
  · intro s s0 s1 ih lf fr hlf
    have wc := m_isWalked (L := L) (xs := xs) (Y := Y) (E := E) (O := O) (d := d - 1) (a := a) (b := b) (M := PM M 0) (G := PG G (G 5) lf fr (G 8) (G 9)) hI hm s s0 s1
    have w01 := wk_01 F s
    refine go [] [1] rfl ⟨(show s < M 6 by omega), rfl⟩ (bc rfl (by omega) wc (fun h => by cases h) ?_)
    refine go [52] [] rfl ⟨(show 0 ≤ s ∧ s < ((10 : Nat) : Int) ∧ 0 ≤ wk F s ∧ wk F s ≤ 1 by omega), (show 0 ≤ s ∧ s < ((10 : Nat) : Int) ∧ (0 : Int) ≤ 1 ∧ (1 : Int) ≤ 1 by omega), (show -2147483648 ≤ s + 1 ∧ s + 1 ≤ 2147483647 by omega), rfl⟩ (ih (up lf s (wk F s)) (up fr s 1) (fun t t0 t1 => ?_))
    by_cases e : t = s
    · rw [e, up_eq, up_eq]
      exact ⟨rfl, rfl⟩
    · rw [up_ne _ e, up_ne _ e]; exact hlf t t0 (by omega)
end K1
