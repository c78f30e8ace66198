/-! The class's least walk -/
section E1
variable {L : Nat} {xs : Nat → Int32} {X M : Nat → Int} {F G : Nat → Int → Int} {O : Int → Int} {d a b : Nat} {Q : BR → Prop} {row keys wt mem rs : Int → Int} {n l : Int}
theorem t_isIn (s x : Int) (hb : bt s x = 0 ∨ bt s x = 1) : bE L xs d MX1_isIn (0, [(0, bI s), (1, bI x)], [], WD X F M G O, a, b) (rI (WD X F M G O) (bt s x) a b) := by
  rcases hb with h | h
  · rw [h]
    exact go [] [0] rfl ⟨(show ¬ bt s x = 1 by omega), rfl⟩ (rtb rfl rfl (Or.inl rfl) rfl)
  · rw [h]
    exact go [] [1] rfl ⟨h, rfl⟩ (rtb rfl rfl (Or.inr rfl) rfl)
theorem t_lengthBy (hI : SB X F) (at_ s x : Int) (hat : pnt X at_) (hs : 0 ≤ s ∧ s < 256) (hx : 0 ≤ x ∧ x < 8) (hm : 0 ≤ F 10 x ∧ F 10 x < X 6) (hT : 0 ≤ F 11 (rm s x * 8 + x) ∧ F 11 (rm s x * 8 + x) ≤ 60000) (hd : 2 ≤ d) :
    bE L xs d MX1_lengthBy (0, [(0, bR 16), (1, bI at_), (2, bI s), (3, bI x)], [], WD X F M G O, a, b) (rI (WD X F M G O) (F 7 (at_ * 11 + F 10 x) + F 11 (rm s x * 8 + x)) a b) := by
  have hX := hI.1
  have hp := SB_pt hI hat
  have hw := SB_way hI hat (pnt_s hm.1 hm.2)
  have hr := rm_b hs hx
  refine go [] [] rfl (show 0 ≤ x ∧ x < ((8 : Nat) : Int) by omega) (bc rfl hd (t_way at_ (F 10 x) (by omega)) (fun h => by cases h) ?_)
  exact go [] [] rfl ⟨(show -2147483648 ≤ rm s x * 8 ∧ rm s x * 8 ≤ 2147483647 by omega), (show -2147483648 ≤ rm s x * 8 + x ∧ rm s x * 8 + x ≤ 2147483647 by omega), (show 0 ≤ rm s x * 8 + x ∧ rm s x * 8 + x < ((2048 : Nat) : Int) by omega), (show -2147483648 ≤ F 7 (at_ * 11 + F 10 x) + F 11 (rm s x * 8 + x) ∧ F 7 (at_ * 11 + F 10 x) + F 11 (rm s x * 8 + x) ≤ 2147483647 by omega)⟩ (rti rfl rfl rfl)
theorem t_bestNext (hI : SB X F) (at_ s : Int) (hat : pnt X at_) (h7 : 0 ≤ X 7 ∧ X 7 ≤ 8) (hs : 0 ≤ s ∧ s < 256) (hm : ∀ y, 0 ≤ y → y < X 7 → 0 ≤ F 10 y ∧ F 10 y < X 6) (hT : ∀ y, 0 ≤ y → y < X 7 → bt s y = 1 → 0 ≤ F 11 (rm s y * 8 + y) ∧ F 11 (rm s y * 8 + y) ≤ 60000) (hex : ∃ y, 0 ≤ y ∧ y < X 7 ∧ bt s y = 1) (hd : 3 ≤ d) :
    bE L xs d MX1_bestNext (0, [(0, bR 16), (1, bI at_), (2, bI s)], [], WD X F M G O, a, b)
    (fun r => ∃ y, r = (WD X F M G O, .inl (some (bI y)), a, b) ∧ 0 ≤ y ∧ y < X 7 ∧ bt s y = 1 ∧ ∀ z, 0 ≤ z → z < X 7 → bt s z = 1 → z ≠ y → lx (fun u => F 7 (at_ * 11 + F 10 u) + F 11 (rm s u * 8 + u)) y z) := by
  have hX := hI.1
  have key := for_up (P := fun x => ∀ (bs le : Int) (ls : BL), ((bs = 0 ∧ le = 1000000 ∧ ∀ t, 0 ≤ t → t < x → bt s t = 0) ∨ (0 ≤ bs ∧ bs < x ∧ bt s bs = 1 ∧ le = F 7 (at_ * 11 + F 10 bs) + F 11 (rm s bs * 8 + bs) ∧ ∀ t, 0 ≤ t → t < x → bt s t = 1 → t ≠ bs → lx (fun u => F 7 (at_ * 11 + F 10 u) + F 11 (rm s u * 8 + u)) bs t)) →
      (ls = [(0, bR 16), (1, bI at_), (2, bI s), (3, bI bs), (4, bI le), (5, bI x)] ∨ ∃ t, ls = [(0, bR 16), (1, bI at_), (2, bI s), (3, bI bs), (4, bI le), (5, bI x), (6, bI t)]) →
      bE L xs d MX1_bestNext (9, ls, [], WD X F M G O, a, b)
      (fun r => ∃ y, r = (WD X F M G O, .inl (some (bI y)), a, b) ∧ 0 ≤ y ∧ y < X 7 ∧ bt s y = 1 ∧ ∀ z, 0 ≤ z → z < X 7 → bt s z = 1 → z ≠ y → lx (fun u => F 7 (at_ * 11 + F 10 u) + F 11 (rm s u * 8 + u)) y z)) (X 7) ?_ ?_ 0 (by omega) (by omega) 0 1000000 _ (Or.inl ⟨rfl, rfl, fun t t0 t1 => by omega⟩) (Or.inl rfl)
  · exact go [9] [] rfl rfl key
  · intro bs le ls hinv hls
    rcases hinv with ⟨e1, e2, hno⟩ | ⟨n0, n1, n2, n3, n4⟩
    · obtain ⟨t, t0, t1, t2⟩ := hex
      have := hno t t0 t1
      omega
    · rcases hls with rfl | ⟨t, rfl⟩
      · exact go [] [0] rfl ⟨Int.le_refl (X 7), rfl⟩ (rti rfl rfl ⟨bs, rfl, n0, n1, n2, n4⟩)
      · exact go [] [0] rfl ⟨Int.le_refl (X 7), rfl⟩ (rti rfl rfl ⟨bs, rfl, n0, n1, n2, n4⟩)
  · intro x x0 x1 ih bs le ls hinv hls
    have hx8 : 0 ≤ x ∧ x < 8 := by omega
    have hr1 : -2147483648 ≤ x + 1 ∧ x + 1 ≤ 2147483647 := by omega
    have ic := t_isIn (L := L) (xs := xs) (X := X) (F := F) (M := M) (G := G) (O := O) (d := d - 1) (a := a) (b := b) s x (bt_01 hs hx8)
    rcases bt_01 hs hx8 with h | h
    · have skip : ((bs = 0 ∧ le = 1000000 ∧ ∀ t, 0 ≤ t → t < x + 1 → bt s t = 0) ∨ (0 ≤ bs ∧ bs < x + 1 ∧ bt s bs = 1 ∧ le = F 7 (at_ * 11 + F 10 bs) + F 11 (rm s bs * 8 + bs) ∧ ∀ t, 0 ≤ t → t < x + 1 → bt s t = 1 → t ≠ bs → lx (fun u => F 7 (at_ * 11 + F 10 u) + F 11 (rm s u * 8 + u)) bs t)) := by
        rcases hinv with ⟨e1, e2, hno⟩ | ⟨n0, n1, n2, n3, n4⟩
        · refine Or.inl ⟨e1, e2, fun t t0 t1 => ?_⟩
          by_cases e : t = x
          · rw [e]; exact h
          · exact hno t t0 (by omega)
        · refine Or.inr ⟨n0, by omega, n2, n3, fun t t0 t1 ht hne => ?_⟩
          by_cases e : t = x
          · rw [e] at ht; omega
          · exact n4 t t0 (by omega) ht hne
      rcases hls with rfl | ⟨t, rfl⟩
      · refine go [] [1] rfl ⟨x1, rfl⟩ (bc rfl (by omega) ic (fun h => by cases h) ?_)
        exact go [9] [0] rfl ⟨h, hr1, rfl⟩ (ih bs le _ skip (Or.inl rfl))
      · refine go [] [1] rfl ⟨x1, rfl⟩ (bc rfl (by omega) ic (fun h => by cases h) ?_)
        exact go [9] [0] rfl ⟨h, hr1, rfl⟩ (ih bs le _ skip (Or.inr ⟨_, rfl⟩))
    · have hmx := hm x x0 x1
      have hTx := hT x x0 x1 h
      have lc := t_lengthBy (L := L) (xs := xs) (X := X) (F := F) (M := M) (G := G) (O := O) (d := d - 1) (a := a) (b := b) hI at_ s x hat hs hx8 hmx hTx (by omega)
      have hw := SB_way hI hat (pnt_s hmx.1 hmx.2)
      rcases hls with rfl | ⟨t, rfl⟩
      all_goals
        refine go [] [1] rfl ⟨x1, rfl⟩ (bc rfl (by omega) ic (fun h => by cases h) ?_)
        refine go [] [1] rfl ⟨(show ¬ bt s x = 0 by omega), rfl⟩ (bc rfl (by omega) lc (fun h => by cases h) ?_)
        by_cases hlt : F 7 (at_ * 11 + F 10 x) + F 11 (rm s x * 8 + x) < le
        · refine go [9] [1] rfl ⟨hlt, hr1, rfl⟩ (ih x _ _ (Or.inr ⟨x0, by omega, h, rfl, fun t t0 t1 ht hne => ?_⟩) (Or.inr ⟨_, rfl⟩))
          rcases hinv with ⟨e1, e2, hno⟩ | ⟨n0, n1, n2, n3, n4⟩
          · have := hno t t0 (by omega); omega
          · refine Or.inl ?_
            show F 7 (at_ * 11 + F 10 x) + F 11 (rm s x * 8 + x) < F 7 (at_ * 11 + F 10 t) + F 11 (rm s t * 8 + t)
            by_cases e : t = bs
            · rw [e]; omega
            · rcases n4 t t0 (by omega) ht e with q | q
              · have q' : F 7 (at_ * 11 + F 10 bs) + F 11 (rm s bs * 8 + bs) < F 7 (at_ * 11 + F 10 t) + F 11 (rm s t * 8 + t) := q
                omega
              · have q' : F 7 (at_ * 11 + F 10 bs) + F 11 (rm s bs * 8 + bs) = F 7 (at_ * 11 + F 10 t) + F 11 (rm s t * 8 + t) := q.1
                omega
        · refine go [9] [0] rfl ⟨(show le ≤ F 7 (at_ * 11 + F 10 x) + F 11 (rm s x * 8 + x) by omega), hr1, rfl⟩ (ih bs le _ ?_ (Or.inr ⟨_, rfl⟩))
          rcases hinv with ⟨e1, e2, hno⟩ | ⟨n0, n1, n2, n3, n4⟩
          · omega
          · refine Or.inr ⟨n0, by omega, n2, n3, fun t t0 t1 ht hne => ?_⟩
            by_cases e : t = x
            · rw [e]
              by_cases c : F 7 (at_ * 11 + F 10 bs) + F 11 (rm s bs * 8 + bs) = F 7 (at_ * 11 + F 10 x) + F 11 (rm s x * 8 + x)
              · exact Or.inr ⟨c, n1⟩
              · exact Or.inl (by show F 7 (at_ * 11 + F 10 bs) + F 11 (rm s bs * 8 + bs) < F 7 (at_ * 11 + F 10 x) + F 11 (rm s x * 8 + x); omega)
            · exact n4 t t0 (by omega) ht hne
theorem MEM_s {s : Int} (s0 : 0 ≤ s) (hw : wk F s = 1) (h : MEM X F s mem) : MEM X F (s + 1) (up mem (nW F s) s) := by
  intro t t0 t1 ht
  by_cases e : t = s
  · rw [e, up_eq]
  · have h1 := nW_s (F := F) t0
    have h2 := nW_mono (F := F) (i := t + 1) (j := s) (by omega) (by omega)
    rw [up_ne _ (by omega)]
    exact h t t0 (by omega) ht
theorem MEM_n {s : Int} (hw : wk F s = 0) (h : MEM X F s mem) : MEM X F (s + 1) mem := by
  intro t t0 t1 ht
  by_cases e : t = s
  · rw [e] at ht; omega
  · exact h t t0 (by omega) ht
theorem t_gather (hI : SB X F) (h8 : nW F (X 6) ≤ 8) (hd : 2 ≤ d) : bE L xs d MX1_gather (0, [(0, bR 16)], [], WD (PX X n l) (PF F row keys wt mem rs) M G O, a, b)
    (fun r => ∃ mem', r = (WD (PX X n (nW F (X 6))) (PF F row keys wt mem' rs) M G O, .inl none, a, b) ∧ MEM X F (X 6) mem') := by
  have hX := hI.1
  have key := for_up (P := fun s => ∀ mem : Int → Int, MEM X F s mem → bE L xs d MX1_gather (7, [(0, bR 16), (1, bI s)], [], WD (PX X n (nW F s)) (PF F row keys wt mem rs) M G O, a, b)
    (fun r => ∃ mem', r = (WD (PX X n (nW F (X 6))) (PF F row keys wt mem' rs) M G O, .inl none, a, b) ∧ MEM X F (X 6) mem')) (X 6) ?_ ?_ 0 (by omega) (by omega) mem (fun s s0 s1 => by omega)
  · exact go [7] [] rfl rfl key
  · intro mem hm
    exact go [] [0] rfl (Int.le_refl (X 6)) (rtv rfl rfl ⟨mem, rfl, hm⟩)
  · intro s s0 s1 ih mem hm
    have hr1 : -2147483648 ≤ s + 1 ∧ s + 1 ≤ 2147483647 := by omega
    have hnb := nW_b F s s0
    have e := nW_s (F := F) s0
    have hmono := nW_mono (F := F) (i := s + 1) (j := X 6) (by omega) (by omega)
    by_cases c : nW F s < 8
    · have wc : bE L xs (d - 1) MX4_isWalked (0, [(0, bR 6), (1, bI s)], [], WD (PX X n (nW F s)) (PF F row keys wt mem rs) M G O, a, b) (rI (WD (PX X n (nW F s)) (PF F row keys wt mem rs) M G O) (wk F s) a b) :=
        t_isWalked (X := PX X n (nW F s)) (F := PF F row keys wt mem rs) hI s s0 s1
      refine go [] [1, 1] rfl ⟨s1, c, rfl⟩ (bc rfl hd wc (fun h => by cases h) ?_)
      rcases wk_01 F s with h | h
      · rw [e, h, Int.add_zero] at ih
        rw [h]
        exact go [7] [0] rfl ⟨rfl, hr1, rfl⟩ (ih mem (MEM_n h hm))
      · rw [e, h] at ih
        rw [h]
        exact go [7] [1] rfl ⟨(by decide : ¬ (1 : Int) = 0), (show 0 ≤ nW F s ∧ nW F s < ((8 : Nat) : Int) by omega), (show -2147483648 ≤ nW F s + 1 ∧ nW F s + 1 ≤ 2147483647 by omega), hr1, rfl⟩ (ih _ (MEM_s s0 h hm))
    · have h1 := wk_01 F s
      have e8 : nW F s = nW F (X 6) := by omega
      rw [e8]
      refine go [] [1, 0] rfl ⟨s1, (show 8 ≤ nW F (X 6) by omega)⟩ (rtv rfl rfl ⟨mem, rfl, fun t t0 t1 ht => ?_⟩)
      by_cases ct : t < s
      · exact hm t t0 ct ht
      · have q1 := nW_s (F := F) t0
        have q2 := nW_mono (F := F) (i := t + 1) (j := X 6) (by omega) (by omega)
        have q3 := nW_mono (F := F) (i := s) (j := t) (by omega) (by omega)
        omega
end E1
section E2
variable {L : Nat} {xs : Nat → Int32} {X M : Nat → Int} {F G : Nat → Int → Int} {O : Int → Int} {d a b : Nat} {Q : BR → Prop} {row keys wt mem rs : Int → Int} {n l m : Int}
theorem DC_up {m k x : Int} {T : Int → Int → Int} {y : Int} (hI : SB X F) (hm : m = nW F (X 6)) (h8 : 0 ≤ m ∧ m ≤ 8) (hmem : MEM X F (X 6) mem) (hk : 1 ≤ k ∧ k < 256) (hx : 0 ≤ x ∧ x < m) (hTD : TD F mem m k T) {T' : Int → Int → Int} (hT' : ∀ s t, 0 ≤ s → 0 ≤ t → t < m → ¬ (s = k ∧ t = x) → T' s t = T s t)
    (y0 : 0 ≤ y) (y1 : y < m) (y2 : bt k y = 1) (hv : T' k x = F 7 (mem x * 11 + mem y) + T (rm k y) y) (hmin : ∀ z, 0 ≤ z → z < m → bt k z = 1 → F 7 (mem x * 11 + mem y) + T (rm k y) y ≤ F 7 (mem x * 11 + mem z) + T (rm k z) z) : DC F mem m T' k x := by
  have hX := hI.1
  have ry := rm_b (s := k) (x := y) (by omega) (by omega)
  have ry2 := ry.2.2 y2
  obtain ⟨b1, b2, b3⟩ := hTD (rm k y) y ry.1 ry2 y0 y1 (bt_rm_eq (by omega) (by omega))
  obtain ⟨p0, p1, _⟩ := mem_k (by omega) hmem hx.1 (by omega)
  obtain ⟨q0, q1, _⟩ := mem_k (by omega) hmem y0 (by omega)
  have hw := SB_way hI (pnt_s p0 p1) (pnt_s q0 q1)
  refine ⟨fun e => by omega, fun _ => ⟨y, y0, y1, y2, ?_, fun z z0 z1 z2 => ?_⟩, by omega, by omega⟩
  · rw [hv, hT' (rm k y) y ry.1 y0 y1 (by omega)]
  · have rz := rm_b (s := k) (x := z) (by omega) (by omega)
    have rz2 := rz.2.2 z2
    rw [hv, hT' (rm k z) z rz.1 z0 z1 (by omega)]
    exact hmin z z0 z1 z2
theorem TD_up {m k x : Int} {T T' : Int → Int → Int} (h8 : 0 ≤ m ∧ m ≤ 8) (hk : 0 ≤ k ∧ k ≤ 256) (hTD : TD F mem m k T) (hT' : ∀ s t, 0 ≤ s → 0 ≤ t → t < m → ¬ (s = k ∧ t = x) → T' s t = T s t) : TD F mem m k T' := by
  intro s t s0 s1 t0 t1 hb
  refine DC_c h8 (by omega) (hT' s t s0 t0 t1 (by omega)) (fun s' x' q0 q1 q2 q3 => hT' s' x' q0 q2 q3 (by omega)) (hTD s t s0 s1 t0 t1 hb)
theorem t_fillRests (hI : SB X F) (hm : m = nW F (X 6)) (h8 : 0 ≤ m ∧ m ≤ 8) (hmem : MEM X F (X 6) mem) (hd : 4 ≤ d) : bE L xs d MX1_fillRests (0, [(0, bR 16)], [], WD (PX X n m) (PF F row keys wt mem rs) M G O, a, b)
    (fun r => ∃ rs', r = (WD (PX X n m) (PF F row keys wt mem rs') M G O, .inl none, a, b) ∧ TD F mem m (pw m) (fun s x => rs' (s * 8 + x))) := by
  have hX := hI.1
  have hp := pw_b h8
  have mk : ∀ y, 0 ≤ y → y < m → 0 ≤ mem y ∧ mem y < X 6 := fun y y0 y1 => by
    obtain ⟨p0, p1, _⟩ := mem_k (by omega) hmem y0 (by omega)
    exact ⟨p0, p1⟩
  have sets := for_up (P := fun k => 1 ≤ k → ∀ (rs : Int → Int) (ls : BL), TD F mem m k (fun s x => rs (s * 8 + x)) → (ls = [(0, bR 16), (1, bI k)] ∨ (∃ p, ls = [(0, bR 16), (1, bI k), (2, bI p)]) ∨ ∃ p q, ls = [(0, bR 16), (1, bI k), (2, bI p), (3, bI q)]) →
      bE L xs d MX1_fillRests (39, ls, [], WD (PX X n m) (PF F row keys wt mem rs) M G O, a, b)
      (fun r => ∃ rs', r = (WD (PX X n m) (PF F row keys wt mem rs') M G O, .inl none, a, b) ∧ TD F mem m (pw m) (fun s x => rs' (s * 8 + x)))) (pw m) ?_ ?_ 1 (by omega) (by omega) (Int.le_refl _)
  · have firsts := for_up (P := fun x => ∀ rs : Int → Int, (∀ t, 0 ≤ t → t < x → rs t = F 7 (mem t * 11 + 10)) → bE L xs d MX1_fillRests (2, [(0, bR 16), (1, bI x)], [], WD (PX X n m) (PF F row keys wt mem rs) M G O, a, b)
      (fun r => ∃ rs', r = (WD (PX X n m) (PF F row keys wt mem rs') M G O, .inl none, a, b) ∧ TD F mem m (pw m) (fun s x => rs' (s * 8 + x)))) m ?_ ?_ 0 (by omega) (by omega) rs (fun t t0 t1 => by omega)
    · exact go [2] [] rfl rfl firsts
    · intro rs hrs
      refine go [39] [0] rfl ⟨Int.le_refl m, rfl⟩ (sets rs _ (fun s x s0 s1 x0 x1 hb => ?_) (Or.inl rfl))
      have e : s = 0 := by omega
      subst e
      have hv : rs (0 * 8 + x) = F 7 (mem x * 11 + 10) := by
        rw [show 0 * 8 + x = x by omega]
        exact hrs x x0 x1
      have q := mk x x0 x1
      have hw := SB_way hI (pnt_s q.1 q.2) pnt_d
      exact ⟨fun _ => hv, fun q => absurd rfl q, by show 0 ≤ rs (0 * 8 + x); omega, by show rs (0 * 8 + x) ≤ 200 * (0 + 1); omega⟩
    · intro x x0 x1 ih rs hrs
      have q := mk x x0 x1
      have wc : bE L xs (d - 1) MX4_way (0, [(0, bR 6), (1, bI (mem x)), (2, bI 10)], [], WD (PX X n m) (PF F row keys wt mem rs) M G O, a, b) (rI (WD (PX X n m) (PF F row keys wt mem rs) M G O) (F 7 (mem x * 11 + 10)) a b) :=
        t_way (X := PX X n m) (F := PF F row keys wt mem rs) (mem x) 10 (by omega)
      refine go [] [1] rfl ⟨x1, (show 0 ≤ x ∧ x < ((8 : Nat) : Int) by omega), rfl⟩ (bc rfl (by omega) wc (fun h => by cases h) ?_)
      refine go [2] [] rfl ⟨(show 0 ≤ x ∧ x < ((2048 : Nat) : Int) by omega), (show -2147483648 ≤ x + 1 ∧ x + 1 ≤ 2147483647 by omega), rfl⟩ (ih (up rs x (F 7 (mem x * 11 + 10))) (fun t t0 t1 => ?_))
      by_cases e : t = x
      · rw [e, up_eq]
      · rw [up_ne _ e]; exact hrs t t0 (by omega)
  · intro _ rs ls hTD hls
    rcases hls with rfl | ⟨p, rfl⟩ | ⟨p, q, rfl⟩
    · exact go [] [0] rfl (Int.le_refl (pw m)) (rtv rfl rfl ⟨rs, rfl, hTD⟩)
    · exact go [] [0] rfl (Int.le_refl (pw m)) (rtv rfl rfl ⟨rs, rfl, hTD⟩)
    · exact go [] [0] rfl (Int.le_refl (pw m)) (rtv rfl rfl ⟨rs, rfl, hTD⟩)
  · intro k k0 k1 ih hk rs ls hTD hls
    have inner := for_up (P := fun x => ∀ (rs : Int → Int) (ls : BL), TD F mem m k (fun s x => rs (s * 8 + x)) → (∀ t, 0 ≤ t → t < x → bt k t = 0 → DC F mem m (fun s x => rs (s * 8 + x)) k t) → (ls = [(0, bR 16), (1, bI k), (2, bI x)] ∨ ∃ q, ls = [(0, bR 16), (1, bI k), (2, bI x), (3, bI q)]) →
      bE L xs d MX1_fillRests (51, ls, [], WD (PX X n m) (PF F row keys wt mem rs) M G O, a, b)
      (fun r => ∃ rs', r = (WD (PX X n m) (PF F row keys wt mem rs') M G O, .inl none, a, b) ∧ TD F mem m (pw m) (fun s x => rs' (s * 8 + x)))) m ?_ ?_ 0 (by omega) (by omega) rs
    · have i1 := inner [(0, bR 16), (1, bI k), (2, bI 0)] hTD (fun t t0 t1 => by omega) (Or.inl rfl)
      rcases hls with rfl | ⟨p, rfl⟩ | ⟨p, q, rfl⟩
      · exact go [51] [1] rfl ⟨k1, rfl⟩ i1
      · exact go [51] [1] rfl ⟨k1, rfl⟩ i1
      · exact go [51] [1] rfl ⟨k1, rfl⟩ (inner _ hTD (fun t t0 t1 => by omega) (Or.inr ⟨q, rfl⟩))
    · intro rs ls hTD hDC hls
      have hr1 : -2147483648 ≤ k + 1 ∧ k + 1 ≤ 2147483647 := by omega
      have nxt : TD F mem m (k + 1) (fun s x => rs (s * 8 + x)) := by
        intro s x s0 s1 x0 x1 hb
        by_cases e : s = k
        · subst e; exact hDC x x0 x1 hb
        · exact hTD s x s0 (by omega) x0 x1 hb
      rcases hls with rfl | ⟨q, rfl⟩
      · exact go [39] [0] rfl ⟨Int.le_refl m, hr1, rfl⟩ (ih (by omega) rs _ nxt (Or.inr (Or.inl ⟨_, rfl⟩)))
      · exact go [39] [0] rfl ⟨Int.le_refl m, hr1, rfl⟩ (ih (by omega) rs _ nxt (Or.inr (Or.inr ⟨_, _, rfl⟩)))
    · intro x x0 x1 ih2 rs ls hTD hDC hls
      have hr1 : -2147483648 ≤ x + 1 ∧ x + 1 ≤ 2147483647 := by omega
      have hx8 : 0 ≤ x ∧ x < 8 := by omega
      have hk8 : 0 ≤ k ∧ k < 256 := by omega
      have ic : bE L xs (d - 1) MX1_isIn (0, [(0, bI k), (1, bI x)], [], WD (PX X n m) (PF F row keys wt mem rs) M G O, a, b) (rI (WD (PX X n m) (PF F row keys wt mem rs) M G O) (bt k x) a b) := t_isIn (X := PX X n m) (F := PF F row keys wt mem rs) k x (bt_01 hk8 hx8)
      rcases bt_01 hk8 hx8 with h | h
      · have hT : ∀ y, 0 ≤ y → y < m → bt k y = 1 → 0 ≤ rs (rm k y * 8 + y) ∧ rs (rm k y * 8 + y) ≤ 60000 := by
          intro y y0 y1 y2
          have ry := rm_b (s := k) (x := y) (by omega) (by omega)
          have ry2 := ry.2.2 y2
          obtain ⟨b1, b2, b3, b4⟩ := hTD (rm k y) y ry.1 ry2 y0 y1 (bt_rm_eq (by omega) (by omega))
          have b3' : 0 ≤ rs (rm k y * 8 + y) := b3
          have b4' : rs (rm k y * 8 + y) ≤ 200 * (rm k y + 1) := b4
          omega
        have hex : ∃ y, 0 ≤ y ∧ y < m ∧ bt k y = 1 := by
          obtain ⟨y, y0, y1, y2⟩ := bt_ex (s := k) (by omega)
          exact ⟨y, y0, bt_lt h8 ⟨by omega, k1⟩ ⟨y0, y1⟩ y2, y2⟩
        have q := mk x x0 x1
        have bc1 : bE L xs (d - 1) MX1_bestNext (0, [(0, bR 16), (1, bI (mem x)), (2, bI k)], [], WD (PX X n m) (PF F row keys wt mem rs) M G O, a, b)
          (fun r => ∃ y, r = (WD (PX X n m) (PF F row keys wt mem rs) M G O, .inl (some (bI y)), a, b) ∧ 0 ≤ y ∧ y < m ∧ bt k y = 1 ∧ ∀ z, 0 ≤ z → z < m → bt k z = 1 → z ≠ y → lx (fun u => F 7 (mem x * 11 + mem u) + rs (rm k u * 8 + u)) y z) :=
          t_bestNext (X := PX X n m) (F := PF F row keys wt mem rs) hI (mem x) k (pnt_s q.1 q.2) h8 hk8 mk hT hex (by omega)
        rcases hls with rfl | ⟨q, rfl⟩
        all_goals
          refine go [] [1] rfl ⟨x1, rfl⟩ (bc rfl (by omega) ic (fun h => by cases h) ?_)
          refine go [] [1] rfl ⟨h, (show 0 ≤ x ∧ x < ((8 : Nat) : Int) by omega), rfl⟩ (bcall rfl (by omega) bc1 ?_)
          rintro r ⟨y, rfl, y0, y1, y2, y3⟩
          refine ⟨_, _, _, _, rfl, (fun h => by cases h), ?_⟩
          have qq := mk x x0 x1
          have lc : bE L xs (d - 1) MX1_lengthBy (0, [(0, bR 16), (1, bI (mem x)), (2, bI k), (3, bI y)], [], WD (PX X n m) (PF F row keys wt mem rs) M G O, a, b) (rI (WD (PX X n m) (PF F row keys wt mem rs) M G O) (F 7 (mem x * 11 + mem y) + rs (rm k y * 8 + y)) a b) :=
            t_lengthBy (X := PX X n m) (F := PF F row keys wt mem rs) hI (mem x) k y (pnt_s qq.1 qq.2) hk8 (by omega) (mk y y0 y1) (hT y y0 y1 y2) (by omega)
          refine go [] [] rfl ⟨(show -2147483648 ≤ k * 8 ∧ k * 8 ≤ 2147483647 by omega), (show -2147483648 ≤ k * 8 + x ∧ k * 8 + x ≤ 2147483647 by omega), (show 0 ≤ x ∧ x < ((8 : Nat) : Int) by omega), rfl⟩ (bc rfl (by omega) lc (fun h => by cases h) ?_)
          have hT' : ∀ s t, 0 ≤ s → 0 ≤ t → t < m → ¬ (s = k ∧ t = x) → (fun s t => up rs (k * 8 + x) (F 7 (mem x * 11 + mem y) + rs (rm k y * 8 + y)) (s * 8 + t)) s t = (fun s t => rs (s * 8 + t)) s t := by
            intro s t s0 t0 t1 hne
            exact up_ne _ (by omega)
          refine go [51] [] rfl ⟨(show 0 ≤ k * 8 + x ∧ k * 8 + x < ((2048 : Nat) : Int) by omega), hr1, rfl⟩ (ih2 (up rs (k * 8 + x) (F 7 (mem x * 11 + mem y) + rs (rm k y * 8 + y))) _ (TD_up h8 (by omega) hTD hT') (fun t t0 t1 hb => ?_) (Or.inr ⟨_, rfl⟩))
          by_cases e : t = x
          · subst e
            refine DC_up hI hm h8 hmem ⟨hk, by omega⟩ ⟨x0, x1⟩ hTD hT' y0 y1 y2 (up_eq _ _ _) (fun z z0 z1 z2 => ?_)
            by_cases ez : z = y
            · rw [ez]; exact Int.le_refl _
            · show F 7 (mem t * 11 + mem y) + rs (rm k y * 8 + y) ≤ F 7 (mem t * 11 + mem z) + rs (rm k z * 8 + z)
              rcases y3 z z0 z1 z2 ez with q | q
              · have q' : F 7 (mem t * 11 + mem y) + rs (rm k y * 8 + y) < F 7 (mem t * 11 + mem z) + rs (rm k z * 8 + z) := q
                omega
              · have q' : F 7 (mem t * 11 + mem y) + rs (rm k y * 8 + y) = F 7 (mem t * 11 + mem z) + rs (rm k z * 8 + z) := q.1
                omega
          · exact DC_c h8 hk8 (hT' k t (by omega) t0 (by omega) (by omega)) (fun s' x' q0 q1 q2 q3 => hT' s' x' q0 q2 q3 (by omega)) (hDC t t0 (by omega) hb)
      · have nxt : ∀ t, 0 ≤ t → t < x + 1 → bt k t = 0 → DC F mem m (fun s x => rs (s * 8 + x)) k t := by
          intro t t0 t1 hb
          by_cases e : t = x
          · rw [e] at hb; omega
          · exact hDC t t0 (by omega) hb
        rcases hls with rfl | ⟨q, rfl⟩
        · refine go [] [1] rfl ⟨x1, rfl⟩ (bc rfl (by omega) ic (fun h => by cases h) ?_)
          exact go [51] [0] rfl ⟨(show ¬ bt k x = 0 by omega), hr1, rfl⟩ (ih2 rs _ hTD nxt (Or.inl rfl))
        · refine go [] [1] rfl ⟨x1, rfl⟩ (bc rfl (by omega) ic (fun h => by cases h) ?_)
          exact go [51] [0] rfl ⟨(show ¬ bt k x = 0 by omega), hr1, rfl⟩ (ih2 rs _ hTD nxt (Or.inr ⟨_, rfl⟩))
theorem GI_at {i s : Int} {T : Int → Int → Int} (hI : SB X F) (hm : m = nW F (X 6)) (hmem : MEM X F (X 6) mem) (h : GI X F m mem T i s row) : pnt X (at3 X row i) := by
  have hX := hI.1
  unfold at3
  split
  · exact SB_here hI
  · have := h.1.1
    obtain ⟨y, y0, y1, y2, y3, y4⟩ := h.2.2.2 (i - 1) (by omega) (by omega)
    obtain ⟨p0, p1, _⟩ := mem_k (by omega) hmem y0 (by omega)
    rw [y3]
    exact pnt_s p0 p1
theorem t_leastLay (hI : SB X F) (h8 : nW F (X 6) ≤ 8) (hd : 5 ≤ d) : bE L xs d MX1_lay (0, [(0, bR 16), (1, bI (X 0)), (2, bR 2)], [], WD (PX X 0 l) (PF F row keys wt mem rs) M G O, a, b)
    (fun r => ∃ n l' row' mem' rs', r = (WD (PX X n l') (PF F row' keys wt mem' rs') M G O, .inl none, a, b) ∧ WL4 X F n row') := by
  have hX := hI.1
  have hnb := nW_b F (X 6) (by omega)
  obtain ⟨m, hm⟩ : ∃ m, m = nW F (X 6) := ⟨_, rfl⟩
  have h8' : 0 ≤ m ∧ m ≤ 8 := by omega
  have hp := pw_b h8'
  refine go [] [] rfl rfl (bcall rfl (by omega) (t_gather hI h8 (by omega)) ?_)
  rintro r ⟨mem, rfl, hmem⟩
  rw [← hm]
  refine ⟨_, _, _, _, rfl, (fun h => by cases h), ?_⟩
  refine go [] [] rfl rfl (bcall rfl (by omega) (t_fillRests hI hm h8' hmem (by omega)) ?_)
  rintro r ⟨rs, rfl, hTD⟩
  refine ⟨_, _, _, _, rfl, (fun h => by cases h), ?_⟩
  have mk : ∀ y, 0 ≤ y → y < m → 0 ≤ mem y ∧ mem y < X 6 := fun y y0 y1 => by
    obtain ⟨p0, p1, _⟩ := mem_k (by omega) hmem y0 (by omega)
    exact ⟨p0, p1⟩
  have key := for_up (P := fun i => ∀ (at_ s : Int) (row : Int → Int) (ls : BL), GI X F m mem (fun s x => rs (s * 8 + x)) i s row → at_ = at3 X row i → (ls = [(0, bR 16), (1, bI (X 0)), (2, bR 2), (3, bI at_), (4, bI s), (5, bI i)] ∨ ∃ t, ls = [(0, bR 16), (1, bI (X 0)), (2, bR 2), (3, bI at_), (4, bI s), (5, bI i), (6, bI t)]) →
      bE L xs d MX1_lay (23, ls, [], WD (PX X i m) (PF F row keys wt mem rs) M G O, a, b)
      (fun r => ∃ n l' row' mem' rs', r = (WD (PX X n l') (PF F row' keys wt mem' rs') M G O, .inl none, a, b) ∧ WL4 X F n row')) m ?_ ?_ 0 (by omega) (by omega) (X 0) (pw m - 1) row _ (GI_0 h8') rfl (Or.inl rfl)
  · exact go [23] [] rfl ⟨(show -2147483648 ≤ pw m - 1 ∧ pw m - 1 ≤ 2147483647 by omega), rfl⟩ key
  · intro at_ s row ls h1 h2 hls
    have fin : WL4 X F m row := ⟨hm, mem, _, hmem, hTD, h1.2.2.2⟩
    rcases hls with rfl | ⟨t, rfl⟩
    · exact go [] [0] rfl (Int.le_refl m) (rtv rfl rfl ⟨m, m, row, mem, rs, rfl, fin⟩)
    · exact go [] [0] rfl (Int.le_refl m) (rtv rfl rfl ⟨m, m, row, mem, rs, rfl, fin⟩)
  · intro i i0 i1 ih at_ s row ls h1 h2 hls
    have hr1 : -2147483648 ≤ i + 1 ∧ i + 1 ≤ 2147483647 := by omega
    have hp2 := GI_at hI hm hmem h1
    rw [← h2] at hp2
    have hs := h1.2.1
    have hs8 : 0 ≤ s ∧ s < 256 := by omega
    have hex := GI_ex h8' h1 i1
    have hT : ∀ y, 0 ≤ y → y < m → bt s y = 1 → 0 ≤ rs (rm s y * 8 + y) ∧ rs (rm s y * 8 + y) ≤ 60000 := by
      intro y y0 y1 y2
      have ry := rm_b (s := s) (x := y) (by omega) (by omega)
      have ry2 := ry.2.2 y2
      obtain ⟨b1, b2, b3, b4⟩ := hTD (rm s y) y ry.1 (by omega) y0 y1 (bt_rm_eq (by omega) (by omega))
      have b3' : 0 ≤ rs (rm s y * 8 + y) := b3
      have b4' : rs (rm s y * 8 + y) ≤ 200 * (rm s y + 1) := b4
      omega
    have bc1 : bE L xs (d - 1) MX1_bestNext (0, [(0, bR 16), (1, bI at_), (2, bI s)], [], WD (PX X i m) (PF F row keys wt mem rs) M G O, a, b)
      (fun r => ∃ y, r = (WD (PX X i m) (PF F row keys wt mem rs) M G O, .inl (some (bI y)), a, b) ∧ 0 ≤ y ∧ y < m ∧ bt s y = 1 ∧ ∀ z, 0 ≤ z → z < m → bt s z = 1 → z ≠ y → lx (fun u => F 7 (at_ * 11 + mem u) + rs (rm s u * 8 + u)) y z) :=
      t_bestNext (X := PX X i m) (F := PF F row keys wt mem rs) hI at_ s hp2 h8' hs8 mk hT hex (by omega)
    rcases hls with rfl | ⟨t, rfl⟩
    all_goals
      refine go [] [1] rfl ⟨i1, rfl⟩ (bcall rfl (by omega) bc1 ?_)
      rintro r ⟨y, rfl, y0, y1, y2, y3⟩
      refine ⟨_, _, _, _, rfl, (fun h => by cases h), ?_⟩
      refine go [] [] rfl ⟨(show 0 ≤ y ∧ y < ((8 : Nat) : Int) by omega), rfl⟩ (bcall rfl (by omega) (t_append (X := X) (F := F) (n := i) (l := m) (row := row) (keys := keys) (wt := wt) (mem := mem) (rs := rs) (mem y) (by omega) (by omega)) ?_)
      rintro r ⟨row', rfl, hrow⟩
      refine ⟨_, _, _, _, rfl, (fun h => by cases h), ?_⟩
      refine go [23] [] rfl ⟨hr1, rfl⟩ (ih (mem y) (rm s y) row' _ (GI_add (by omega) hm h8' hmem h1 y0 y1 y2 ?_ hrow) ?_ (Or.inr ⟨_, rfl⟩))
      · rw [← h2]; exact y3
      · rw [at3_s i0, hrow i i0 (by omega), up_eq]
end E2
