/-! Walks by the nearest stop, both sides -/
section D1
variable {X : Nat → Int} {F : Nat → Int → Int}
/-- where the walk stands ahead of its step i -/
def at3 (X : Nat → Int) (row : Int → Int) (i : Int) : Int := if i = 0 then X 0 else row (i - 1)
/-- step k: the nearest of those that wait, of equal ones the lowest number -/
def NC (X : Nat → Int) (F : Nat → Int → Int) (row : Int → Int) (k : Int) : Prop :=
  (0 ≤ row k ∧ row k < X 6 ∧ wk F (row k) = 1) ∧ (∀ j, 0 ≤ j → j < k → row j ≠ row k) ∧
  ∀ t, 0 ≤ t → t < X 6 → wk F t = 1 → (∀ j, 0 ≤ j → j < k → row j ≠ t) → t ≠ row k → lx (fun u => F 7 (at3 X row k * 11 + u)) (row k) t
def WL3 (X : Nat → Int) (F : Nat → Int → Int) (n : Int) (row : Int → Int) : Prop := n = nW F (X 6) ∧ ∀ k, 0 ≤ k → k < n → NC X F row k
def NI (X : Nat → Int) (F : Nat → Int → Int) (i : Int) (row lf : Int → Int) : Prop :=
  (0 ≤ i ∧ i + itr (fun s acc => acc + lf s) 0 (X 6) = nW F (X 6)) ∧ (∀ s, 0 ≤ s → s < X 6 → lf s = 0 ∨ lf s = 1) ∧
  (∀ s, 0 ≤ s → s < X 6 → (lf s = 1 ↔ wk F s = 1 ∧ ∀ j, 0 ≤ j → j < i → row j ≠ s)) ∧ ∀ k, 0 ≤ k → k < i → NC X F row k
theorem at3_c {row row' : Int → Int} {k : Int} (k0 : 0 ≤ k) (h : ∀ j, 0 ≤ j → j < k → row' j = row j) : at3 X row' k = at3 X row k := by
  unfold at3
  by_cases e : k = 0
  · rw [if_pos e, if_pos e]
  · rw [if_neg e, if_neg e, h (k - 1) (by omega) (by omega)]
theorem NC_c {row row' : Int → Int} {k : Int} (k0 : 0 ≤ k) (h : ∀ j, 0 ≤ j → j ≤ k → row' j = row j) (hc : NC X F row k) : NC X F row' k := by
  obtain ⟨h1, h2, h3⟩ := hc
  have ek := h k k0 (Int.le_refl _)
  refine ⟨by rw [ek]; exact h1, ?_, ?_⟩
  · intro j j0 j1
    rw [ek, h j j0 (by omega)]
    exact h2 j j0 j1
  · intro t t0 t1 ht hj hne
    rw [ek] at hne
    rw [ek, at3_c k0 (fun j j0 j1 => h j j0 (by omega))]
    exact h3 t t0 t1 ht (fun j j0 j1 => by rw [← h j j0 (by omega)]; exact hj j j0 j1) hne
theorem WL3_one {n n' : Int} {row row' : Int → Int} (h : WL3 X F n row) (h' : WL3 X F n' row') : n = n' ∧ ∀ i, 0 ≤ i → i < n → row i = row' i := by
  obtain ⟨a1, a2⟩ := h
  obtain ⟨b1, b2⟩ := h'
  have hn : n = n' := by rw [a1, b1]
  refine ⟨hn, ?_⟩
  subst hn
  have key : ∀ k : Nat, ∀ i, 0 ≤ i → i < n → i < k → row i = row' i := by
    intro k
    induction k with
    | zero => intro i h0 _ h2; omega
    | succ k ih =>
      intro i h0 h1 h2
      have hj : ∀ j, 0 ≤ j → j < i → row j = row' j := fun j j0 j1 => ih j j0 (by omega) (by omega)
      obtain ⟨p1, p2, p3⟩ := a2 i h0 h1
      obtain ⟨q1, q2, q3⟩ := b2 i h0 h1
      by_cases e : row i = row' i
      · exact e
      · have r1 := p3 (row' i) q1.1 q1.2.1 q1.2.2 (fun j j0 j1 => by rw [hj j j0 j1]; exact q2 j j0 j1) (fun q => e q.symm)
        have r2 := q3 (row i) p1.1 p1.2.1 p1.2.2 (fun j j0 j1 => by rw [← hj j j0 j1]; exact p2 j j0 j1) e
        rw [at3_c (X := X) h0 hj] at r1
        exact (lx_asym r1 r2).elim
  intro i h0 h1
  exact key (i.toNat + 1) i h0 h1 (by omega)
theorem NI_0 {row lf : Int → Int} (hX : 0 ≤ X 6) (hl : ∀ s, 0 ≤ s → s < X 6 → lf s = wk F s) : NI X F 0 row lf := by
  refine ⟨⟨Int.le_refl _, ?_⟩, fun s s0 s1 => by rw [hl s s0 s1]; exact wk_01 F s, fun s s0 s1 => ?_, fun k k0 k1 => by omega⟩
  · rw [Int.zero_add]
    exact itr_congr (fun i x i0 i1 => by rw [hl i i0 i1]) (X 6) hX (Int.le_refl _)
  · rw [hl s s0 s1]
    exact ⟨fun h => ⟨h, fun j j0 j1 => by omega⟩, fun h => h.1⟩
theorem NI_add {i s : Int} {row row' lf : Int → Int} (h : NI X F i row lf) (s0 : 0 ≤ s) (s1 : s < X 6) (hs : lf s = 1) (hmin : ∀ t, 0 ≤ t → t < X 6 → lf t = 1 → t ≠ s → lx (fun u => F 7 (at3 X row i * 11 + u)) s t) (hrow : ∀ j, 0 ≤ j → j < i + 1 → row' j = up row i s j) : NI X F (i + 1) row' (up lf s 0) := by
  obtain ⟨⟨a0, a1⟩, a2, a3, a4⟩ := h
  have hc := cnt_up hs (X 6) (by omega)
  rw [if_pos ⟨s1, s0⟩] at hc
  have ei : row' i = s := by rw [hrow i a0 (by omega), up_eq]
  have ej : ∀ j, 0 ≤ j → j < i → row' j = row j := fun j j0 j1 => by rw [hrow j j0 (by omega), up_ne _ (by omega)]
  refine ⟨⟨by omega, by omega⟩, ?_, ?_, ?_⟩
  · intro t t0 t1; unfold up; split; exact Or.inl rfl; exact a2 t t0 t1
  · intro t t0 t1
    by_cases e : t = s
    · subst e
      rw [up_eq]
      exact ⟨fun q => by omega, fun q => absurd ei (q.2 i a0 (by omega))⟩
    · rw [up_ne _ e, a3 t t0 t1]
      constructor
      · rintro ⟨q1, q2⟩
        refine ⟨q1, fun j j0 j1 => ?_⟩
        by_cases c : j = i
        · rw [c, ei]; exact fun q => e q.symm
        · rw [ej j j0 (by omega)]; exact q2 j j0 (by omega)
      · rintro ⟨q1, q2⟩
        exact ⟨q1, fun j j0 j1 => by rw [← ej j j0 j1]; exact q2 j j0 (by omega)⟩
  · intro k k0 k1
    by_cases c : k = i
    · subst c
      have hw := (a3 s s0 s1).1 hs
      refine ⟨by rw [ei]; exact ⟨s0, s1, hw.1⟩, fun j j0 j1 => ?_, fun t t0 t1 ht hj hne => ?_⟩
      · rw [ei, ej j j0 j1]; exact hw.2 j j0 j1
      · rw [ei] at hne
        rw [ei, at3_c k0 ej]
        exact hmin t t0 t1 ((a3 t t0 t1).2 ⟨ht, fun j j0 j1 => by rw [← ej j j0 j1]; exact hj j j0 j1⟩) hne
    · exact NC_c k0 (fun j j0 j1 => ej j j0 (by omega)) (a4 k k0 (by omega))
theorem NI_ex {i : Int} {row lf : Int → Int} (hX : 0 ≤ X 6) (h : NI X F i row lf) (hi : i < nW F (X 6)) : ∃ t, 0 ≤ t ∧ t < X 6 ∧ lf t = 1 := by
  by_cases c : ∃ t, 0 ≤ t ∧ t < X 6 ∧ lf t = 1
  · exact c
  · have e : itr (fun s acc => acc + lf s) 0 (X 6) = 0 := by
      refine itr_ind (P := fun _ z => z = 0) (n := X 6) rfl ?_ (X 6) hX (Int.le_refl _)
      intro j z j0 j1 hz
      rcases h.2.1 j j0 j1 with q | q
      · rw [hz, q]; rfl
      · exact absurd ⟨j, j0, j1, q⟩ c
    have := h.1
    omega
theorem NI_at {i : Int} {row lf : Int → Int} (hI : SB X F) (h : NI X F i row lf) : pnt X (at3 X row i) := by
  unfold at3
  split
  · exact SB_here hI
  · have := h.1.1
    have q := (h.2.2.2 (i - 1) (by omega) (by omega)).1
    exact pnt_s q.1 q.2.1
theorem at3_s {row : Int → Int} {i : Int} (h : 0 ≤ i) : at3 X row (i + 1) = row i := by
  unfold at3
  rw [if_neg (by omega)]
  congr 1
  omega
end D1
section D2
variable {L : Nat} {xs : Nat → Int32} {X M : Nat → Int} {F G : Nat → Int → Int} {O : Int → Int} {d a b : Nat} {Q : BR → Prop} {row keys wt mem rs : Int → Int} {n l : Int}
theorem t_nearestFrom (hI : SB X F) (h01 : ∀ s, 0 ≤ s → s < X 6 → F 9 s = 0 ∨ F 9 s = 1) (at_ : Int) (hat : pnt X at_) (hex : ∃ t, 0 ≤ t ∧ t < X 6 ∧ F 9 t = 1) (hd : 2 ≤ d) : bE L xs d MX2_nearestFrom (0, [(0, bR 13), (1, bI at_)], [], WD X F M G O, a, b)
    (fun r => ∃ s, r = (WD X F M G O, .inl (some (bI s)), a, b) ∧ 0 ≤ s ∧ s < X 6 ∧ F 9 s = 1 ∧ ∀ t, 0 ≤ t → t < X 6 → F 9 t = 1 → t ≠ s → lx (fun u => F 7 (at_ * 11 + u)) s t) := by
  have hX := hI.1
  have hp := SB_pt hI hat
  have key := for_up (P := fun s => ∀ nr ls : Int, ((nr = 0 ∧ ls = 1000000 ∧ ∀ t, 0 ≤ t → t < s → F 9 t = 0) ∨ (0 ≤ nr ∧ nr < s ∧ F 9 nr = 1 ∧ ls = F 7 (at_ * 11 + nr) ∧ ∀ t, 0 ≤ t → t < s → F 9 t = 1 → t ≠ nr → lx (fun u => F 7 (at_ * 11 + u)) nr t)) →
      bE L xs d MX2_nearestFrom (8, [(0, bR 13), (1, bI at_), (2, bI nr), (3, bI ls), (4, bI s)], [], WD X F M G O, a, b)
      (fun r => ∃ s, r = (WD X F M G O, .inl (some (bI s)), a, b) ∧ 0 ≤ s ∧ s < X 6 ∧ F 9 s = 1 ∧ ∀ t, 0 ≤ t → t < X 6 → F 9 t = 1 → t ≠ s → lx (fun u => F 7 (at_ * 11 + u)) s t)) (X 6) ?_ ?_ 0 (by omega) (by omega) 0 1000000 (Or.inl ⟨rfl, rfl, fun t t0 t1 => by omega⟩)
  · exact go [8] [] rfl rfl key
  · intro nr ls hinv
    rcases hinv with ⟨e1, e2, hno⟩ | ⟨n0, n1, n2, n3, n4⟩
    · obtain ⟨t, t0, t1, t2⟩ := hex
      have := hno t t0 t1
      omega
    · exact go [] [0] rfl (by omega) (rti rfl rfl ⟨nr, rfl, n0, n1, n2, n4⟩)
  · intro s s0 s1 ih nr ls hinv
    rcases h01 s s0 s1 with h | h
    · refine go [8] [1, 0] rfl (by omega) (ih nr ls ?_)
      rcases hinv with ⟨e1, e2, hno⟩ | ⟨n0, n1, n2, n3, n4⟩
      · refine Or.inl ⟨e1, e2, fun t t0 t1 => ?_⟩
        by_cases e : t = s
        · rw [e]; exact h
        · exact hno t t0 (by omega)
      · refine Or.inr ⟨n0, by omega, n2, n3, fun t t0 t1 ht hne => ?_⟩
        by_cases e : t = s
        · rw [e] at ht; omega
        · exact n4 t t0 (by omega) ht hne
    · have w := fun (d : Nat) => t_way (L := L) (xs := xs) (X := X) (F := F) (M := M) (G := G) (O := O) (d := d) (a := a) (b := b) at_ s (by omega)
      have hw := SB_way hI hat (pnt_s s0 s1)
      refine go [] [1, 1] rfl (by omega) (bc rfl hd (w _) (fun h => by cases h) ?_)
      by_cases hlt : F 7 (at_ * 11 + s) < ls
      · refine go [] [1] rfl (by omega) (bc rfl hd (w _) (fun h => by cases h) ?_)
        refine go [8] [] rfl (by omega) (ih s (F 7 (at_ * 11 + s)) (Or.inr ⟨s0, by omega, h, rfl, fun t t0 t1 ht hne => ?_⟩))
        rcases hinv with ⟨e1, e2, hno⟩ | ⟨n0, n1, n2, n3, n4⟩
        · have := hno t t0 (by omega); omega
        · by_cases e : t = nr
          · rw [e]; exact Or.inl (by show F 7 (at_ * 11 + s) < F 7 (at_ * 11 + nr); omega)
          · have q := n4 t t0 (by omega) ht e
            refine Or.inl ?_
            show F 7 (at_ * 11 + s) < F 7 (at_ * 11 + t)
            rcases q with q | q
            · have q' : F 7 (at_ * 11 + nr) < F 7 (at_ * 11 + t) := q
              omega
            · have q' : F 7 (at_ * 11 + nr) = F 7 (at_ * 11 + t) := q.1
              omega
      · refine go [8] [0] rfl (by omega) (ih nr ls ?_)
        rcases hinv with ⟨e1, e2, hno⟩ | ⟨n0, n1, n2, n3, n4⟩
        · omega
        · refine Or.inr ⟨n0, by omega, n2, n3, fun t t0 t1 ht hne => ?_⟩
          by_cases e : t = s
          · rw [e]
            by_cases c : F 7 (at_ * 11 + nr) = F 7 (at_ * 11 + s)
            · exact Or.inr ⟨c, n1⟩
            · exact Or.inl (by show F 7 (at_ * 11 + nr) < F 7 (at_ * 11 + s); omega)
          · exact n4 t t0 (by omega) ht hne
theorem t_layNearest (hI : SB X F) (hw : ∀ s, 0 ≤ s → s < X 6 → wt s = wk F s) (hd : 3 ≤ d) : bE L xs d MX2_layNearest (0, [(0, bR 13), (1, bI (X 0)), (2, bR 2)], [], WD (PX X 0 l) (PF F row keys wt mem rs) M G O, a, b)
    (fun r => ∃ n row' wt', r = (WD (PX X n l) (PF F row' keys wt' mem rs) M G O, .inl none, a, b) ∧ WL3 X F n row') := by
  have hX := hI.1
  have hnb := nW_b F (X 6) (by omega)
  have key := for_up (P := fun i => ∀ (at_ : Int) (row wt : Int → Int) (ls : BL), NI X F i row wt → at_ = at3 X row i → (ls = [(0, bR 13), (1, bI (X 0)), (2, bR 2), (3, bI at_), (4, bI (nW F (X 6))), (5, bI i)] ∨ ∃ t, ls = [(0, bR 13), (1, bI (X 0)), (2, bR 2), (3, bI at_), (4, bI (nW F (X 6))), (5, bI i), (6, bI t)]) →
      bE L xs d MX2_layNearest (14, ls, [], WD (PX X i l) (PF F row keys wt mem rs) M G O, a, b)
      (fun r => ∃ n row' wt', r = (WD (PX X n l) (PF F row' keys wt' mem rs) M G O, .inl none, a, b) ∧ WL3 X F n row')) (nW F (X 6)) ?_ ?_ 0 (by omega) (by omega) (X 0) row wt _ (NI_0 (by omega) hw) rfl (Or.inl rfl)
  · have wc : bE L xs (d - 1) MX4_walkedOnes (0, [(0, bR 6)], [], WD (PX X 0 l) (PF F row keys wt mem rs) M G O, a, b) (rI (WD (PX X 0 l) (PF F row keys wt mem rs) M G O) (nW F (X 6)) a b) := t_walkedOnes (X := PX X 0 l) (F := PF F row keys wt mem rs) hI (by omega)
    refine go [] [] rfl rfl (bc rfl (by omega) wc (fun h => by cases h) ?_)
    exact go [14] [] rfl rfl key
  · intro at_ row wt ls h1 h2 hls
    have fin : WL3 X F (nW F (X 6)) row := ⟨rfl, h1.2.2.2⟩
    rcases hls with rfl | ⟨t, rfl⟩
    · exact go [] [0] rfl (Int.le_refl (nW F (X 6))) (rtv rfl rfl ⟨_, row, wt, rfl, fin⟩)
    · exact go [] [0] rfl (Int.le_refl (nW F (X 6))) (rtv rfl rfl ⟨_, row, wt, rfl, fin⟩)
  · intro i i0 i1 ih at_ row wt ls h1 h2 hls
    have hr1 : -2147483648 ≤ i + 1 ∧ i + 1 ≤ 2147483647 := by omega
    have hp := NI_at hI h1
    rw [← h2] at hp
    have hex := NI_ex (by omega) h1 i1
    have nc : bE L xs (d - 1) MX2_nearestFrom (0, [(0, bR 13), (1, bI at_)], [], WD (PX X i l) (PF F row keys wt mem rs) M G O, a, b)
      (fun r => ∃ s, r = (WD (PX X i l) (PF F row keys wt mem rs) M G O, .inl (some (bI s)), a, b) ∧ 0 ≤ s ∧ s < X 6 ∧ wt s = 1 ∧ ∀ t, 0 ≤ t → t < X 6 → wt t = 1 → t ≠ s → lx (fun u => F 7 (at_ * 11 + u)) s t) :=
      t_nearestFrom (X := PX X i l) (F := PF F row keys wt mem rs) hI h1.2.1 at_ hp hex (by omega)
    rcases hls with rfl | ⟨t, rfl⟩
    all_goals
      refine go [] [1] rfl ⟨i1, rfl⟩ (bcall rfl (by omega) nc ?_)
      rintro r ⟨s, rfl, s0, s1, s2, s3⟩
      refine ⟨_, _, _, _, rfl, (fun h => by cases h), ?_⟩
      refine go [] [] rfl ⟨(show 0 ≤ s ∧ s < ((10 : Nat) : Int) ∧ (0 : Int) ≤ 0 ∧ (0 : Int) ≤ 1 by omega), rfl⟩ (bcall rfl (by omega) (t_append (X := X) (F := F) (n := i) (l := l) (row := row) (keys := keys) (wt := up wt s 0) (mem := mem) (rs := rs) s (by omega) (by omega)) ?_)
      rintro r ⟨row', rfl, hrow⟩
      refine ⟨_, _, _, _, rfl, (fun h => by cases h), ?_⟩
      refine go [14] [] rfl ⟨hr1, rfl⟩ (ih s row' (up wt s 0) _ (NI_add h1 s0 s1 s2 ?_ hrow) ?_ (Or.inr ⟨_, rfl⟩))
      · rw [← h2]; exact s3
      · rw [at3_s i0, hrow i i0 (by omega), up_eq]
end D2
section D3
variable {L : Nat} {xs : Nat → Int32} {X M : Nat → Int} {F G : Nat → Int → Int} {Y : Nat → Int} {E : Nat → Int → Int} {O : Int → Int} {d a b : Nat} {Q : BR → Prop} {row lf fr few co : Int → Int} {n : Int}
theorem m_nearest (hI : SB X F) (hm : RB X F M G) (hl : ∀ s, 0 ≤ s → s < X 6 → lf s = wk F s) (hd : 3 ≤ d) :
    bE L xs d MX6_nearest (0, [(0, bR 19), (1, bI (nW F (X 6)))], [], WD Y E (PM M 0) (PG G row lf fr few co) O, a, b)
      (fun r => ∃ n' row' lf', r = (WD Y E (PM M n') (PG G row' lf' fr few co) O, .inl none, a, b) ∧ WL3 X F n' row') := by
  have hX := hI.1
  have hM := hm.1
  have hnb := nW_b F (X 6) (by omega)
  have key := for_up (P := fun i => ∀ (u : Int) (row lf : Int → Int) (ls : BL), NI X F i row lf → u = mp (at3 X row i) → (ls = [(0, bR 19), (1, bI (nW F (X 6))), (2, bI u), (3, bI i)] ∨ ∃ t v, ls = [(0, bR 19), (1, bI (nW F (X 6))), (2, bI u), (3, bI i), (4, bI t), (5, bI v)]) →
      bE L xs d MX6_nearest (7, ls, [], WD Y E (PM M i) (PG G row lf fr few co) O, a, b)
      (fun r => ∃ n' row' lf', r = (WD Y E (PM M n') (PG G row' lf' fr few co) O, .inl none, a, b) ∧ WL3 X F n' row')) (nW F (X 6)) ?_ ?_ 0 (by omega) (by omega) (M 5) row lf _ (NI_0 (by omega) hl) hM.2.2.2.2.1 (Or.inl rfl)
  · exact go [7] [] rfl rfl key
  · intro u row lf ls h1 h2 hls
    have fin : WL3 X F (nW F (X 6)) row := ⟨rfl, h1.2.2.2⟩
    rcases hls with rfl | ⟨t, v, rfl⟩
    · exact go [] [0] rfl (Int.le_refl (nW F (X 6))) (rtv rfl rfl ⟨_, row, lf, rfl, fin⟩)
    · exact go [] [0] rfl (Int.le_refl (nW F (X 6))) (rtv rfl rfl ⟨_, row, lf, rfl, fin⟩)
  · intro i i0 i1 ih u row lf ls h1 h2 hls
    have hr1 : -2147483648 ≤ i + 1 ∧ i + 1 ≤ 2147483647 := by omega
    have hp := NI_at hI h1
    have hex := NI_ex (by omega) h1 i1
    have wc := fun (q : Int) (q0 : 0 ≤ q) (q1 : q < X 6) => m_way (L := L) (xs := xs) (Y := Y) (E := E) (O := O) (d := d - 1) (a := a) (b := b) (M := PM M i) (G := PG G row lf fr few co) hI hm (at3 X row i) q hp (pnt_s q0 q1) (by omega)
    rw [← h2] at wc
    have inner := for_up (P := fun s => ∀ nx : Int, ((nx = -1 ∧ ∀ t, 0 ≤ t → t < s → lf t = 0) ∨ (0 ≤ nx ∧ nx < s ∧ lf nx = 1 ∧ ∀ t, 0 ≤ t → t < s → lf t = 1 → t ≠ nx → lx (fun u => F 7 (at3 X row i * 11 + u)) nx t)) →
        bE L xs d MX6_nearest (18, [(0, bR 19), (1, bI (nW F (X 6))), (2, bI u), (3, bI i), (4, bI nx), (5, bI s)], [], WD Y E (PM M i) (PG G row lf fr few co) O, a, b)
        (fun r => ∃ n' row' lf', r = (WD Y E (PM M n') (PG G row' lf' fr few co) O, .inl none, a, b) ∧ WL3 X F n' row')) (X 6) ?_ ?_ 0 (by omega) (by omega) (-1) (Or.inl ⟨rfl, fun t t0 t1 => by omega⟩)
    · rcases hls with rfl | ⟨t, v, rfl⟩
      · exact go [18] [1] rfl ⟨i1, rfl⟩ inner
      · exact go [18] [1] rfl ⟨i1, rfl⟩ inner
    · intro nx hinv
      rcases hinv with ⟨e1, hno⟩ | ⟨n0, n1, n2, n4⟩
      · obtain ⟨t, t0, t1, t2⟩ := hex
        have := hno t t0 t1
        omega
      · refine go [] [0] rfl ⟨(show M 6 ≤ X 6 by omega), rfl⟩ (bc rfl (by omega) (m_add nx (by omega) (by omega)) (fun h => by cases h) ?_)
        refine go [7] [] rfl ⟨hr1, rfl⟩ (ih nx (up row i nx) (up lf nx 0) _ (NI_add h1 n0 n1 n2 n4 (fun j _ _ => rfl)) ?_ (Or.inr ⟨_, _, rfl⟩))
        rw [at3_s i0, up_eq, mp_s (s := nx) (by omega)]
    · intro s s0 s1 ih2 nx hinv
      have hx : 0 ≤ s ∧ s < ((10 : Nat) : Int) := by omega
      have hs6 : s < M 6 := by omega
      have hr2 : -2147483648 ≤ s + 1 ∧ s + 1 ≤ 2147483647 := by omega
      rcases h1.2.1 s s0 s1 with h | h
      · refine go [18] [1, 0] rfl ⟨hs6, hx, h, hr2, rfl⟩ (ih2 nx ?_)
        rcases hinv with ⟨e1, hno⟩ | ⟨n0, n1, n2, n4⟩
        · refine Or.inl ⟨e1, fun t t0 t1 => ?_⟩
          by_cases e : t = s
          · rw [e]; exact h
          · exact hno t t0 (by omega)
        · refine Or.inr ⟨n0, by omega, n2, fun t t0 t1 ht hne => ?_⟩
          by_cases e : t = s
          · rw [e] at ht; omega
          · exact n4 t t0 (by omega) ht hne
      · have c1 : ¬ lf s = 0 := by omega
        rcases hinv with ⟨e1, hno⟩ | ⟨n0, n1, n2, n4⟩
        · subst e1
          refine go [18] [1, 1, 0] rfl ⟨hs6, hx, c1, rfl, hr2, rfl⟩ (ih2 s (Or.inr ⟨s0, by omega, h, fun t t0 t1 ht hne => ?_⟩))
          have := hno t t0 (by omega)
          omega
        · have w1 := wc s s0 s1
          have w2 := wc nx n0 (by omega)
          rw [mp_s (s := s) (by omega)] at w1
          rw [mp_s (s := nx) (by omega)] at w2
          have hne : ¬ nx = -1 := by omega
          refine go [] [1, 1, 1] rfl ⟨hs6, hx, c1, hne, rfl⟩ (bc rfl (by omega) w1 (fun h => by cases h) ?_)
          refine go [] [] rfl rfl (bc rfl (by omega) w2 (fun h => by cases h) ?_)
          by_cases hlt : F 7 (at3 X row i * 11 + s) < F 7 (at3 X row i * 11 + nx)
          · refine go [18] [1] rfl ⟨hlt, hr2, rfl⟩ (ih2 s (Or.inr ⟨s0, by omega, h, fun t t0 t1 ht hne => ?_⟩))
            by_cases e : t = nx
            · rw [e]; exact Or.inl hlt
            · refine Or.inl ?_
              show F 7 (at3 X row i * 11 + s) < F 7 (at3 X row i * 11 + t)
              rcases n4 t t0 (by omega) ht e with q | q
              · have q' : F 7 (at3 X row i * 11 + nx) < F 7 (at3 X row i * 11 + t) := q
                omega
              · have q' : F 7 (at3 X row i * 11 + nx) = F 7 (at3 X row i * 11 + t) := q.1
                omega
          · refine go [18] [0] rfl ⟨(show F 7 (at3 X row i * 11 + nx) ≤ F 7 (at3 X row i * 11 + s) by omega), hr2, rfl⟩ (ih2 nx (Or.inr ⟨n0, by omega, n2, fun t t0 t1 ht hne => ?_⟩))
            by_cases e : t = s
            · rw [e]
              by_cases c : F 7 (at3 X row i * 11 + nx) = F 7 (at3 X row i * 11 + s)
              · exact Or.inr ⟨c, n1⟩
              · exact Or.inl (by show F 7 (at3 X row i * 11 + nx) < F 7 (at3 X row i * 11 + s); omega)
            · exact n4 t t0 (by omega) ht hne
end D3
