/-! The class's row: a stop comes in; walks by keys -/
def PX (X : Nat → Int) (n l : Int) : Nat → Int := un (un X 3 n) 7 l
def PF (F : Nat → Int → Int) (row keys wt mem rs : Int → Int) : Nat → Int → Int := un (un (un (un (un F 0 row) 8 keys) 9 wt) 10 mem) 11 rs
def ins (row : Int → Int) (k s : Int) : Int → Int := fun j => if j < k then row j else if j = k then s else row (j - 1)
section P2
variable {L : Nat} {xs : Nat → Int32} {X M : Nat → Int} {F G : Nat → Int → Int} {O : Int → Int} {d a b : Nat} {Q : BR → Prop} {row keys wt mem rs : Int → Int} {n l : Int}
theorem t_insert (k s : Int) (hn : 0 ≤ n ∧ n < 10) (hk : 0 ≤ k ∧ k ≤ n) : bE L xs d MX3_insert (0, [(0, bR 2), (1, bI k), (2, bI s)], [], WD (PX X n l) (PF F row keys wt mem rs) M G O, a, b)
    (fun r => ∃ row', r = (WD (PX X (n + 1) l) (PF F row' keys wt mem rs) M G O, .inl none, a, b) ∧ ∀ j, 0 ≤ j → j < n + 1 → row' j = ins row k s j) := by
  have main := for_down (P := fun i => k ≤ i → i ≤ n → ∀ V : Int → Int, (∀ j, 0 ≤ j → j < i → V j = row j) → (∀ j, i < j → j ≤ n → V j = row (j - 1)) →
      bE L xs d MX3_insert (18, [(0, bR 2), (1, bI k), (2, bI s), (3, bI i)], [], WD (PX X n l) (PF F V keys wt mem rs) M G O, a, b)
      (fun r => ∃ row', r = (WD (PX X (n + 1) l) (PF F row' keys wt mem rs) M G O, .inl none, a, b) ∧ ∀ j, 0 ≤ j → j < n + 1 → row' j = ins row k s j)) (fun h => by omega) ?_ n (by omega) (by omega) (by omega) row (fun j _ _ => rfl) (fun j h0 h1 => by omega)
  · exact go [18] [0] rfl ⟨(show n < ((10 : Nat) : Int) by omega), rfl⟩ main
  · intro i i0 ih hki hin V g1 g2
    by_cases he : i = k
    · subst he
      refine go [] [0] rfl ⟨Int.le_refl _, (show 0 ≤ i ∧ i < ((10 : Nat) : Int) by omega), (show -2147483648 ≤ n + 1 ∧ n + 1 ≤ 2147483647 by omega), rfl⟩ (rtv rfl rfl ⟨up V i s, rfl, ?_⟩)
      intro j j0 j1
      unfold ins
      by_cases hj : j < i
      · rw [if_pos hj, up_ne _ (by omega)]; exact g1 j j0 hj
      · rw [if_neg hj]
        by_cases hj2 : j = i
        · rw [if_pos hj2, hj2, up_eq]
        · rw [if_neg hj2, up_ne _ hj2]; exact g2 j (by omega) (by omega)
    · refine go [18] [1] rfl ⟨(show k < i by omega), (show -2147483648 ≤ i - 1 ∧ i - 1 ≤ 2147483647 by omega), (show 0 ≤ i - 1 ∧ i - 1 < ((10 : Nat) : Int) by omega), (show 0 ≤ i ∧ i < ((10 : Nat) : Int) by omega), (show -2147483648 ≤ i - 1 ∧ i - 1 ≤ 2147483647 by omega), rfl⟩ (ih (by omega) (by omega) (up V i (V (i - 1))) ?_ ?_)
      · intro j j0 j1
        rw [up_ne _ (by omega)]; exact g1 j j0 (by omega)
      · intro j j0 j1
        by_cases hj : j = i
        · subst hj
          rw [up_eq]; exact g1 (j - 1) (by omega) (by omega)
        · rw [up_ne _ hj]; exact g2 j (by omega) j1
theorem t_append (s : Int) (hn : 0 ≤ n ∧ n < 10) (hd : 2 ≤ d) : bE L xs d MX3_append (0, [(0, bR 2), (1, bI s)], [], WD (PX X n l) (PF F row keys wt mem rs) M G O, a, b)
    (fun r => ∃ row', r = (WD (PX X (n + 1) l) (PF F row' keys wt mem rs) M G O, .inl none, a, b) ∧ ∀ j, 0 ≤ j → j < n + 1 → row' j = up row n s j) := by
  refine go [] [] rfl rfl (bcall rfl hd (t_insert n s hn (by omega)) ?_)
  rintro r ⟨row', rfl, h⟩
  refine ⟨_, _, _, _, rfl, (fun h => by cases h), rtv rfl rfl ⟨row', rfl, fun j j0 j1 => ?_⟩⟩
  rw [h j j0 j1]
  unfold ins
  by_cases hj : j < n
  · rw [if_pos hj, up_ne _ (by omega)]
  · rw [if_neg hj, if_pos (by omega), show j = n by omega, up_eq]
/-- the class's row as stops come in by number -/
def IR (K : Int → Int) (F : Nat → Int → Int) (s n : Int) (row keys : Int → Int) : Prop :=
  n = nW F s ∧ (∀ i, 0 ≤ i → i < n → 0 ≤ row i ∧ row i < s ∧ wk F (row i) = 1 ∧ keys (row i) = K (row i)) ∧ (∀ t, 0 ≤ t → t < s → wk F t = 1 → ∃ i, 0 ≤ i ∧ i < n ∧ row i = t) ∧ (∀ i j, 0 ≤ i → i < j → j < n → lx K (row i) (row j))
theorem IR_in {K : Int → Int} {F : Nat → Int → Int} {s n : Int} {row keys row' : Int → Int} (h : IR K F s n row keys) (hs : 0 ≤ s) (hw : wk F s = 1) {k : Int} (hk : 0 ≤ k ∧ k ≤ n) (h1 : ∀ i, 0 ≤ i → i < k → K (row i) ≤ K s) (h2 : ∀ i, k ≤ i → i < n → K s < K (row i))
    (hrow : ∀ j, 0 ≤ j → j < n + 1 → row' j = ins row k s j) : IR K F (s + 1) (n + 1) row' (up keys s (K s)) := by
  obtain ⟨a1, a2, a3, a4⟩ := h
  have e : nW F (s + 1) = nW F s + wk F s := itr_s _ _ hs
  refine ⟨by rw [e, hw, a1], ?_, ?_, ?_⟩
  · intro i i0 i1
    rw [hrow i i0 i1]
    unfold ins
    by_cases c1 : i < k
    · rw [if_pos c1]
      obtain ⟨q1, q2, q3, q4⟩ := a2 i i0 (by omega)
      exact ⟨q1, by omega, q3, by rw [up_ne _ (by omega)]; exact q4⟩
    · rw [if_neg c1]
      by_cases c2 : i = k
      · rw [if_pos c2]
        exact ⟨hs, by omega, hw, up_eq _ _ _⟩
      · rw [if_neg c2]
        obtain ⟨q1, q2, q3, q4⟩ := a2 (i - 1) (by omega) (by omega)
        exact ⟨q1, by omega, q3, by rw [up_ne _ (by omega)]; exact q4⟩
  · intro t t0 t1 ht
    by_cases hts : t = s
    · refine ⟨k, hk.1, by omega, ?_⟩
      rw [hrow k hk.1 (by omega)]
      unfold ins
      rw [if_neg (by omega), if_pos rfl, hts]
    · obtain ⟨i, i0, i1, i2⟩ := a3 t t0 (by omega) ht
      by_cases c1 : i < k
      · refine ⟨i, i0, by omega, ?_⟩
        rw [hrow i i0 (by omega)]
        unfold ins
        rw [if_pos c1]; exact i2
      · refine ⟨i + 1, by omega, by omega, ?_⟩
        rw [hrow (i + 1) (by omega) (by omega)]
        unfold ins
        rw [if_neg (by omega), if_neg (by omega), show i + 1 - 1 = i by omega]; exact i2
  · intro i j i0 ij j1
    rw [hrow i i0 (by omega), hrow j (by omega) j1]
    unfold ins
    by_cases c1 : j < k
    · rw [if_pos c1, if_pos (by omega)]
      exact a4 i j i0 ij (by omega)
    · rw [if_neg c1]
      by_cases c2 : j = k
      · rw [if_pos c2, if_pos (by omega)]
        have q := h1 i i0 (by omega)
        have q2 := (a2 i i0 (by omega)).2.1
        by_cases he : K (row i) = K s
        · exact Or.inr ⟨he, q2⟩
        · exact Or.inl (by omega)
      · rw [if_neg c2]
        by_cases c3 : i < k
        · rw [if_pos c3]
          exact a4 i (j - 1) i0 (by omega) (by omega)
        · rw [if_neg c3]
          by_cases c4 : i = k
          · rw [if_pos c4]
            exact Or.inl (h2 (j - 1) (by omega) (by omega))
          · rw [if_neg c4]
            exact a4 (i - 1) (j - 1) (by omega) (by omega) (by omega)
theorem IR_no {K : Int → Int} {F : Nat → Int → Int} {s n : Int} {row keys : Int → Int} (h : IR K F s n row keys) (hs : 0 ≤ s) (hw : wk F s = 0) : IR K F (s + 1) n row keys := by
  obtain ⟨a1, a2, a3, a4⟩ := h
  have e : nW F (s + 1) = nW F s + wk F s := itr_s _ _ hs
  refine ⟨by rw [e, hw, a1]; omega, fun i i0 i1 => ?_, fun t t0 t1 ht => ?_, a4⟩
  · obtain ⟨q1, q2, q3, q4⟩ := a2 i i0 i1
    exact ⟨q1, by omega, q3, q4⟩
  · by_cases hts : t = s
    · subst hts; omega
    · exact a3 t t0 (by omega) ht
theorem t_layByKeys (hI : SB X F) (hw : ∀ s, 0 ≤ s → s < X 6 → wt s = wk F s) (kind : Int) (hk : 0 ≤ kind ∧ kind ≤ 2) (hd : 6 ≤ d) : bE L xs d MX2_layByKeys (0, [(0, bR 13), (1, bI kind), (2, bR 2)], [], WD (PX X 0 l) (PF F row keys wt mem rs) M G O, a, b)
    (fun r => ∃ n row' keys', r = (WD (PX X n l) (PF F row' keys' wt mem rs) M G O, .inl none, a, b) ∧ WLs (KK kind X F) X F n row') := by
  have hX := hI.1
  have key := for_up (P := fun s => ∀ (n : Int) (row keys : Int → Int) (ls : BL), IR (KK kind X F) F s n row keys → (ls = [(0, bR 13), (1, bI kind), (2, bR 2), (3, bI s)] ∨ ∃ t, ls = [(0, bR 13), (1, bI kind), (2, bR 2), (3, bI s), (4, bI t)]) →
      bE L xs d MX2_layByKeys (2, ls, [], WD (PX X n l) (PF F row keys wt mem rs) M G O, a, b) (fun r => ∃ n row' keys', r = (WD (PX X n l) (PF F row' keys' wt mem rs) M G O, .inl none, a, b) ∧ WLs (KK kind X F) X F n row')) (X 6) ?_ ?_ 0 (by omega) (by omega)
  · exact go [2] [] rfl rfl (key 0 row keys _ ⟨rfl, fun i i0 i1 => by omega, fun t t0 t1 => by omega, fun i j i0 ij j1 => by omega⟩ (Or.inl rfl))
  · intro n row keys ls hIR hls
    have hfin : WLs (KK kind X F) X F n row := ⟨hIR.1, fun i i0 i1 => by
      obtain ⟨q1, q2, q3, q4⟩ := hIR.2.1 i i0 i1
      exact ⟨q1, q2, q3⟩, hIR.2.2.1, hIR.2.2.2⟩
    rcases hls with rfl | ⟨t, rfl⟩
    · exact go [] [0] rfl (Int.le_refl (X 6)) (rtv rfl rfl ⟨n, row, keys, rfl, hfin⟩)
    · exact go [] [0] rfl (Int.le_refl (X 6)) (rtv rfl rfl ⟨n, row, keys, rfl, hfin⟩)
  · intro s s0 s1 ih n row keys ls hIR hls
    have hx : 0 ≤ s ∧ s < ((10 : Nat) : Int) := by omega
    have hr1 : -2147483648 ≤ s + 1 ∧ s + 1 ≤ 2147483647 := by omega
    have hnb := nW_b F s s0
    have hn1 := hIR.1
    have w := hw s s0 s1
    rcases wk_01 F s with h | h
    · have hw0 : wt s = 0 := by omega
      rcases hls with rfl | ⟨t, rfl⟩
      · exact go [2] [1, 0] rfl ⟨s1, hx, hw0, hr1, rfl⟩ (ih n row keys _ (IR_no hIR s0 h) (Or.inl rfl))
      · exact go [2] [1, 0] rfl ⟨s1, hx, hw0, hr1, rfl⟩ (ih n row keys _ (IR_no hIR s0 h) (Or.inr ⟨_, rfl⟩))
    · have hw1 : ¬ wt s = 0 := by omega
      have kc : bE L xs (d - 1) MX2_keyOf (0, [(0, bR 13), (1, bI kind), (2, bI s)], [], WD (PX X n l) (PF F row keys wt mem rs) M G O, a, b) (rI (WD (PX X n l) (PF F row keys wt mem rs) M G O) (KK kind X F s) a b) := t_keyOf (X := PX X n l) (F := PF F row keys wt mem rs) hI hw kind s hk s0 s1 (by omega)
      -- the place is sought from behind
      have seek := for_down (P := fun at_ => at_ ≤ n → (∀ i, at_ ≤ i → i < n → KK kind X F s < KK kind X F (row i)) → 0 ≤ at_ → bE L xs d MX2_layByKeys (40, [(0, bR 13), (1, bI kind), (2, bR 2), (3, bI s), (4, bI at_)], [], WD (PX X n l) (PF F row (up keys s (KK kind X F s)) wt mem rs) M G O, a, b)
          (fun r => ∃ n row' keys', r = (WD (PX X n l) (PF F row' keys' wt mem rs) M G O, .inl none, a, b) ∧ WLs (KK kind X F) X F n row')) (fun _ _ h => by omega) ?_ n (by omega) (Int.le_refl _) (fun i i0 i1 => by omega) (by omega)
      · rcases hls with rfl | ⟨t, rfl⟩
        · refine go [] [1, 1] rfl ⟨s1, hx, hw1, rfl⟩ (bc rfl (by omega) kc (fun h => by cases h) ?_)
          exact go [40] [] rfl ⟨hx, rfl⟩ seek
        · refine go [] [1, 1] rfl ⟨s1, hx, hw1, rfl⟩ (bc rfl (by omega) kc (fun h => by cases h) ?_)
          exact go [40] [] rfl ⟨hx, rfl⟩ seek
      · intro p p0 ihp hpn hgt _
        have fin : (∀ i, 0 ≤ i → i < p → KK kind X F (row i) ≤ KK kind X F s) → bE L xs d MX2_layByKeys (74, [(0, bR 13), (1, bI kind), (2, bR 2), (3, bI s), (4, bI p)], [], WD (PX X n l) (PF F row (up keys s (KK kind X F s)) wt mem rs) M G O, a, b)
          (fun r => ∃ n row' keys', r = (WD (PX X n l) (PF F row' keys' wt mem rs) M G O, .inl none, a, b) ∧ WLs (KK kind X F) X F n row') := by
          intro hle
          refine go [] [] rfl rfl (bcall rfl (by omega) (t_insert p s (by omega) (by omega)) ?_)
          rintro r ⟨row', rfl, hrow⟩
          refine ⟨_, _, _, _, rfl, (fun h => by cases h), ?_⟩
          exact go [2] [] rfl ⟨hr1, rfl⟩ (ih (n + 1) row' (up keys s (KK kind X F s)) _ (IR_in hIR s0 h ⟨p0, hpn⟩ hle hgt hrow) (Or.inr ⟨_, rfl⟩))
        by_cases hp : p = 0
        · subst hp
          exact go [74] [0] rfl (Int.le_refl 0) (fin (fun i i0 i1 => by omega))
        · obtain ⟨q1, q2, q3, q4⟩ := hIR.2.1 (p - 1) (by omega) (by omega)
          have hxp : 0 ≤ p - 1 ∧ p - 1 < ((10 : Nat) : Int) := by omega
          have hxr : 0 ≤ row (p - 1) ∧ row (p - 1) < ((10 : Nat) : Int) := by omega
          have hrp : -2147483648 ≤ p - 1 ∧ p - 1 ≤ 2147483647 := by omega
          have u1 : up keys s (KK kind X F s) (row (p - 1)) = KK kind X F (row (p - 1)) := by rw [up_ne _ (by omega)]; exact q4
          have u2 : up keys s (KK kind X F s) s = KK kind X F s := up_eq _ _ _
          by_cases hlt : KK kind X F s < KK kind X F (row (p - 1))
          · refine go [40] [1, 1] rfl ⟨(show 0 < p by omega), hrp, hxp, hxr, hx, (show up keys s (KK kind X F s) s < up keys s (KK kind X F s) (row (p - 1)) by omega), hrp, rfl⟩ (ihp (by omega) (fun i i0 i1 => ?_) (by omega))
            by_cases hi : i = p - 1
            · rw [hi]; exact hlt
            · exact hgt i (by omega) i1
          · refine go [74] [1, 0] rfl ⟨(show 0 < p by omega), hrp, hxp, hxr, hx, (show up keys s (KK kind X F s) (row (p - 1)) ≤ up keys s (KK kind X F s) s by omega)⟩ (fin (fun i i0 i1 => ?_))
            by_cases hi : i = p - 1
            · rw [hi]; omega
            · rcases hIR.2.2.2 i (p - 1) i0 (by omega) (by omega) with q | q
              · omega
              · omega
end P2
