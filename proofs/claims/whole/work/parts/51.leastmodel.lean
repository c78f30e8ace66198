/-! The reference's least walk -/
section H1
variable {L : Nat} {xs : Nat → Int32} {X M : Nat → Int} {F G : Nat → Int → Int} {Y : Nat → Int} {E : Nat → Int → Int} {O : Int → Int} {d a b : Nat} {Q : BR → Prop} {row lf fr few mem co : Int → Int} {n m : Int}
/-- what the reference's set loop may have left in its locals -/
def tl4 (tl : BL) : Prop := tl = [] ∨ (∃ p q, tl = [(5, bI p), (6, bI q)]) ∨ (∃ p q r, tl = [(5, bI p), (6, bI q), (7, bI r)]) ∨ ∃ p q r t, tl = [(5, bI p), (6, bI q), (7, bI r), (8, bI t)]
set_option maxRecDepth 100000 in
theorem at_332 : ax_at (axT MX6_least) 332 = some (.return_, 0, 0) := rfl
theorem m_greedy (hI : SB X F) (hm0 : RB X F M G) (hm : m = nW F (X 6)) (h8 : 0 ≤ m ∧ m ≤ 8) (hmem : MEM X F (X 6) mem) (hTD : TD F mem m (pw m) (fun s x => co (8 * s + x))) (kk : Int) (hd : 3 ≤ d) :
    ∀ i, 0 ≤ i → i ≤ m → ∀ (s u : Int) (row lf : Int → Int) (tl : BL), GI X F m mem (fun s x => co (8 * s + x)) i s row → u = mp (at3 X row i) → tl4 tl →
    bE L xs d MX6_least (209, (0, bR 19) :: (1, bI m) :: (2, bI kk) :: (3, bI s) :: (4, bI u) :: tl, [], WD Y E (PM M i) (PG G row lf fr mem co) O, a, b)
      (fun r => ∃ n' row' lf' few' co', r = (WD Y E (PM M n') (PG G row' lf' fr few' co') O, .inl none, a, b) ∧ WL4 X F n' row') := by
  have hX := hI.1
  have hp := pw_b h8
  have mk : ∀ y, 0 ≤ y → y < m → 0 ≤ mem y ∧ mem y < X 6 := fun y y0 y1 => by
    obtain ⟨p0, p1, _⟩ := mem_k (by omega) hmem y0 (by omega)
    exact ⟨p0, p1⟩
  refine for_up (P := fun i => ∀ (s u : Int) (row lf : Int → Int) (tl : BL), GI X F m mem (fun s x => co (8 * s + x)) i s row → u = mp (at3 X row i) → tl4 tl →
    bE L xs d MX6_least (209, (0, bR 19) :: (1, bI m) :: (2, bI kk) :: (3, bI s) :: (4, bI u) :: tl, [], WD Y E (PM M i) (PG G row lf fr mem co) O, a, b)
      (fun r => ∃ n' row' lf' few' co', r = (WD Y E (PM M n') (PG G row' lf' fr few' co') O, .inl none, a, b) ∧ WL4 X F n' row')) m ?_ ?_
  · intro s u row lf tl h1 h2 htl
    have hs0 : s = 0 := by
      by_cases c : s = 0
      · exact c
      · have := GI_z h8 h1 c; omega
    have fin : WL4 X F m row := ⟨hm, mem, _, hmem, hTD, h1.2.2.2⟩
    rcases htl with rfl | ⟨p, q, rfl⟩ | ⟨p, q, r, rfl⟩ | ⟨p, q, r, t, rfl⟩
    all_goals exact go [] [0] rfl hs0 (rtv at_332 rfl ⟨m, row, lf, mem, co, rfl, fin⟩)
  · intro i i0 i1 ih s u row lf tl h1 h2 htl
    have hs0 : ¬ s = 0 := fun c => by
      have := GI_end h8 h1 c; omega
    have hp2 := GI_at hI hm hmem h1
    have hs := h1.2.1
    have hs8 : 0 ≤ s ∧ s < 256 := by omega
    have hex := GI_ex h8 h1 i1
    have hT : ∀ y, 0 ≤ y → y < m → bt s y = 1 → 0 ≤ co (8 * rm s y + y) ∧ co (8 * rm s y + y) ≤ 60000 := by
      intro y y0 y1 y2
      have ry := rm_b (s := s) (x := y) (by omega) (by omega)
      have ry2 := ry.2.2 y2
      obtain ⟨b1, b2, b3, b4⟩ := hTD (rm s y) y ry.1 (by omega) y0 y1 (bt_rm_eq (by omega) (by omega))
      have b3' : 0 ≤ co (8 * rm s y + y) := b3
      have b4' : co (8 * rm s y + y) ≤ 200 * (rm s y + 1) := b4
      omega
    have inner := for_up (P := fun x => ∀ (nx bs : Int) (tl : BL), ((nx = -1 ∧ bs = 1000000 ∧ ∀ t, 0 ≤ t → t < x → bt s t = 0) ∨ (0 ≤ nx ∧ nx < x ∧ bt s nx = 1 ∧ bs = F 7 (at3 X row i * 11 + mem nx) + co (8 * rm s nx + nx) ∧ ∀ t, 0 ≤ t → t < x → bt s t = 1 → t ≠ nx → lx (fun u => F 7 (at3 X row i * 11 + mem u) + co (8 * rm s u + u)) nx t)) → (tl = [] ∨ ∃ v, tl = [(8, bI v)]) →
      bE L xs d MX6_least (223, (0, bR 19) :: (1, bI m) :: (2, bI kk) :: (3, bI s) :: (4, bI u) :: (5, bI nx) :: (6, bI bs) :: (7, bI x) :: tl, [], WD Y E (PM M i) (PG G row lf fr mem co) O, a, b)
      (fun r => ∃ n' row' lf' few' co', r = (WD Y E (PM M n') (PG G row' lf' fr few' co') O, .inl none, a, b) ∧ WL4 X F n' row')) m ?_ ?_ 0 (by omega) (by omega) (-1) 1000000
    · have i1 := fun tl h => inner tl (Or.inl ⟨rfl, rfl, fun t t0 t1 => by omega⟩) h
      rcases htl with rfl | ⟨p, q, rfl⟩ | ⟨p, q, r, rfl⟩ | ⟨p, q, r, t, rfl⟩
      · exact go [223] [1] rfl ⟨hs0, rfl⟩ (i1 [] (Or.inl rfl))
      · exact go [223] [1] rfl ⟨hs0, rfl⟩ (i1 [] (Or.inl rfl))
      · exact go [223] [1] rfl ⟨hs0, rfl⟩ (i1 [] (Or.inl rfl))
      · exact go [223] [1] rfl ⟨hs0, rfl⟩ (i1 [(8, bI t)] (Or.inr ⟨t, rfl⟩))
    · intro nx bs tl hinv htl
      rcases hinv with ⟨e1, e2, hno⟩ | ⟨n0, n1, n2, n3, n4⟩
      · obtain ⟨t, t0, t1, t2⟩ := hex
        have := hno t t0 t1
        omega
      · have q := mk nx n0 n1
        have hx : 0 ≤ nx ∧ nx < ((8 : Nat) : Int) := by omega
        have g := GI_add (row' := up row i (mem nx)) (by omega) hm h8 hmem h1 n0 n1 n2 n4 (fun j _ _ => rfl)
        have ea : mem nx = mp (at3 X (up row i (mem nx)) (i + 1)) := by
          rw [at3_s i0, up_eq, mp_s (s := mem nx) (by omega)]
        rcases htl with rfl | ⟨v, rfl⟩
        · refine go [] [0] rfl ⟨Int.le_refl m, hx⟩ (bc rfl (by omega) (m_add (mem nx) (by omega) (by omega)) (fun h => by cases h) ?_)
          exact go [209] [] rfl ⟨hx, rfl⟩ (ih (rm s nx) (mem nx) (up row i (mem nx)) (up lf (mem nx) 0) _ g ea (Or.inr (Or.inr (Or.inl ⟨_, _, _, rfl⟩))))
        · refine go [] [0] rfl ⟨Int.le_refl m, hx⟩ (bc rfl (by omega) (m_add (mem nx) (by omega) (by omega)) (fun h => by cases h) ?_)
          exact go [209] [] rfl ⟨hx, rfl⟩ (ih (rm s nx) (mem nx) (up row i (mem nx)) (up lf (mem nx) 0) _ g ea (Or.inr (Or.inr (Or.inr ⟨_, _, _, _, rfl⟩))))
    · intro x x0 x1 ih2 nx bs tl hinv htl
      have hx8 : 0 ≤ x ∧ x < 8 := by omega
      have hx : 0 ≤ x ∧ x < ((8 : Nat) : Int) := by omega
      have hr1 : -2147483648 ≤ x + 1 ∧ x + 1 ≤ 2147483647 := by omega
      rcases bt_01 hs8 hx8 with h | h
      · have skip : ((nx = -1 ∧ bs = 1000000 ∧ ∀ t, 0 ≤ t → t < x + 1 → bt s t = 0) ∨ (0 ≤ nx ∧ nx < x + 1 ∧ bt s nx = 1 ∧ bs = F 7 (at3 X row i * 11 + mem nx) + co (8 * rm s nx + nx) ∧ ∀ t, 0 ≤ t → t < x + 1 → bt s t = 1 → t ≠ nx → lx (fun u => F 7 (at3 X row i * 11 + mem u) + co (8 * rm s u + u)) nx t)) := by
          rcases hinv with ⟨e1, e2, hno⟩ | ⟨n0, n1, n2, n3, n4⟩
          · refine Or.inl ⟨e1, e2, fun t t0 t1 => ?_⟩
            by_cases e : t = x
            · rw [e]; exact h
            · exact hno t t0 (by omega)
          · refine Or.inr ⟨n0, by omega, n2, n3, fun t t0 t1 ht hne => ?_⟩
            by_cases e : t = x
            · rw [e] at ht; omega
            · exact n4 t t0 (by omega) ht hne
        rcases htl with rfl | ⟨v, rfl⟩
        · exact go [223] [1, 1] rfl ⟨x1, h, hr1, rfl⟩ (ih2 nx bs _ skip (Or.inl rfl))
        · exact go [223] [1, 1] rfl ⟨x1, h, hr1, rfl⟩ (ih2 nx bs _ skip (Or.inr ⟨_, rfl⟩))
      · have q := mk x x0 x1
        have hTx := hT x x0 x1 h
        have hw := SB_way hI hp2 (pnt_s q.1 q.2)
        have hr := rm_b hs8 hx8
        have wc := m_way (L := L) (xs := xs) (Y := Y) (E := E) (O := O) (d := d - 1) (a := a) (b := b) (M := PM M i) (G := PG G row lf fr mem co) hI hm0 (at3 X row i) (mem x) hp2 (pnt_s q.1 q.2) (by omega)
        rw [← h2, mp_s (s := mem x) (by omega)] at wc
        have c1 : -2147483648 ≤ 8 * rm s x ∧ 8 * rm s x ≤ 2147483647 := by omega
        have c2 : -2147483648 ≤ 8 * rm s x + x ∧ 8 * rm s x + x ≤ 2147483647 := by omega
        have c3 : 0 ≤ 8 * rm s x + x ∧ 8 * rm s x + x < ((2048 : Nat) : Int) := by omega
        have c4 : -2147483648 ≤ F 7 (at3 X row i * 11 + mem x) + co (8 * rm s x + x) ∧ F 7 (at3 X row i * 11 + mem x) + co (8 * rm s x + x) ≤ 2147483647 := by omega
        have hb0 : ¬ bt s x = 0 := by omega
        rcases htl with rfl | ⟨v, rfl⟩
        all_goals
          refine go [] [1, 0] rfl ⟨x1, hb0, hx⟩ (bc rfl (by omega) wc (fun h => by cases h) ?_)
          by_cases hlt : F 7 (at3 X row i * 11 + mem x) + co (8 * rm s x + x) < bs
          · refine go [223] [0] rfl ⟨c1, c2, c3, c4, hlt, hr1, rfl⟩ (ih2 x _ _ (Or.inr ⟨x0, by omega, h, rfl, fun t t0 t1 ht hne => ?_⟩) (Or.inr ⟨_, rfl⟩))
            rcases hinv with ⟨e1, e2, hno⟩ | ⟨n0, n1, n2, n3, n4⟩
            · have := hno t t0 (by omega); omega
            · refine Or.inl ?_
              show F 7 (at3 X row i * 11 + mem x) + co (8 * rm s x + x) < F 7 (at3 X row i * 11 + mem t) + co (8 * rm s t + t)
              by_cases e : t = nx
              · rw [e]; omega
              · rcases n4 t t0 (by omega) ht e with q | q
                · have q' : F 7 (at3 X row i * 11 + mem nx) + co (8 * rm s nx + nx) < F 7 (at3 X row i * 11 + mem t) + co (8 * rm s t + t) := q
                  omega
                · have q' : F 7 (at3 X row i * 11 + mem nx) + co (8 * rm s nx + nx) = F 7 (at3 X row i * 11 + mem t) + co (8 * rm s t + t) := q.1
                  omega
          · refine go [223] [1] rfl ⟨c1, c2, c3, c4, (show bs ≤ F 7 (at3 X row i * 11 + mem x) + co (8 * rm s x + x) by omega), hr1, rfl⟩ (ih2 nx bs _ ?_ (Or.inr ⟨_, rfl⟩))
            rcases hinv with ⟨e1, e2, hno⟩ | ⟨n0, n1, n2, n3, n4⟩
            · omega
            · refine Or.inr ⟨n0, by omega, n2, n3, fun t t0 t1 ht hne => ?_⟩
              by_cases e : t = x
              · rw [e]
                by_cases c : F 7 (at3 X row i * 11 + mem nx) + co (8 * rm s nx + nx) = F 7 (at3 X row i * 11 + mem x) + co (8 * rm s x + x)
                · exact Or.inr ⟨c, n1⟩
                · exact Or.inl (by show F 7 (at3 X row i * 11 + mem nx) + co (8 * rm s nx + nx) < F 7 (at3 X row i * 11 + mem x) + co (8 * rm s x + x); omega)
              · exact n4 t t0 (by omega) ht hne
end H1
section H2
variable {L : Nat} {xs : Nat → Int32} {X M : Nat → Int} {F G : Nat → Int → Int} {Y : Nat → Int} {E : Nat → Int → Int} {O : Int → Int} {d a b : Nat} {Q : BR → Prop} {row lf fr few mem co : Int → Int} {n m : Int}
def tl3 (tl : BL) : Prop := tl = [] ∨ (∃ p q, tl = [(5, bI p), (6, bI q)]) ∨ ∃ p q r, tl = [(5, bI p), (6, bI q), (7, bI r)]
/-- the best so far, for the set k and its member l -/
def JB (F : Nat → Int → Int) (mem co : Int → Int) (k l x best : Int) : Prop :=
  (k = 0 → best = F 7 (mem l * 11 + 10)) ∧
  (k ≠ 0 → (best = 1000000 ∧ ∀ z, 0 ≤ z → z < x → bt k z = 1 → z = l) ∨ ∃ y, 0 ≤ y ∧ y < x ∧ bt k y = 1 ∧ y ≠ l ∧ best = F 7 (mem l * 11 + mem y) + co (8 * rm k y + y) ∧ ∀ z, 0 ≤ z → z < x → bt k z = 1 → z ≠ l → best ≤ F 7 (mem l * 11 + mem z) + co (8 * rm k z + z))
theorem JB_skip {k l x best : Int} (h : JB F mem co k l x best) (hx : bt k x = 0 ∨ x = l) : JB F mem co k l (x + 1) best := by
  refine ⟨h.1, fun hk => ?_⟩
  rcases h.2 hk with ⟨e1, e2⟩ | ⟨y, y0, y1, y2, y3, y4, y5⟩
  · refine Or.inl ⟨e1, fun z z0 z1 hz => ?_⟩
    by_cases e : z = x
    · subst e
      rcases hx with q | q
      · omega
      · exact q
    · exact e2 z z0 (by omega) hz
  · refine Or.inr ⟨y, y0, by omega, y2, y3, y4, fun z z0 z1 hz hzl => ?_⟩
    by_cases e : z = x
    · subst e
      rcases hx with q | q
      · omega
      · exact absurd q hzl
    · exact y5 z z0 (by omega) hz hzl
/-- a row of rests: the set k, all members -/
theorem m_sets (hI : SB X F) (hm0 : RB X F M G) (hm : m = nW F (X 6)) (h8 : 0 ≤ m ∧ m ≤ 8) (hmem : MEM X F (X 6) mem) (kk : Int) (hd : 3 ≤ d) (k : Int) (k0 : 0 ≤ k) (k1 : k < pw m)
    (cont : ∀ (co : Int → Int) (tl : BL), TD F mem m (k + 1) (fun s x => co (8 * s + x)) → tl3 tl → bE L xs d MX6_least (42, (0, bR 19) :: (1, bI m) :: (2, bI kk) :: (3, bI (k + 1)) :: (4, bI m) :: tl, [], WD Y E (PM M 0) (PG G row lf fr mem co) O, a, b) Q) :
    ∀ l, 0 ≤ l → l ≤ m → ∀ (co : Int → Int) (tl : BL), TD F mem m k (fun s x => co (8 * s + x)) → (∀ t, 0 ≤ t → t < l → bt k t = 0 → DC F mem m (fun s x => co (8 * s + x)) k t) → tl3 tl →
    bE L xs d MX6_least (52, (0, bR 19) :: (1, bI m) :: (2, bI kk) :: (3, bI k) :: (4, bI l) :: tl, [], WD Y E (PM M 0) (PG G row lf fr mem co) O, a, b) Q := by
  have hX := hI.1
  have hp := pw_b h8
  have hk8 : 0 ≤ k ∧ k < 256 := by omega
  have mk : ∀ y, 0 ≤ y → y < m → 0 ≤ mem y ∧ mem y < X 6 := fun y y0 y1 => by
    obtain ⟨p0, p1, _⟩ := mem_k (by omega) hmem y0 (by omega)
    exact ⟨p0, p1⟩
  refine for_up (P := fun l => ∀ (co : Int → Int) (tl : BL), TD F mem m k (fun s x => co (8 * s + x)) → (∀ t, 0 ≤ t → t < l → bt k t = 0 → DC F mem m (fun s x => co (8 * s + x)) k t) → tl3 tl →
    bE L xs d MX6_least (52, (0, bR 19) :: (1, bI m) :: (2, bI kk) :: (3, bI k) :: (4, bI l) :: tl, [], WD Y E (PM M 0) (PG G row lf fr mem co) O, a, b) Q) m ?_ ?_
  · intro co tl hTD hDC htl
    have hr1 : -2147483648 ≤ k + 1 ∧ k + 1 ≤ 2147483647 := by omega
    have nxt : TD F mem m (k + 1) (fun s x => co (8 * s + x)) := by
      intro s x s0 s1 x0 x1 hb
      by_cases e : s = k
      · subst e; exact hDC x x0 x1 hb
      · exact hTD s x s0 (by omega) x0 x1 hb
    have c := cont co tl nxt htl
    rcases htl with rfl | ⟨p, q, rfl⟩ | ⟨p, q, r, rfl⟩
    all_goals exact go [42] [0] rfl ⟨Int.le_refl m, hr1, rfl⟩ c
  · intro l l0 l1 ih co tl hTD hDC htl
    have hl : 0 ≤ l ∧ l < ((8 : Nat) : Int) := by omega
    have hr1 : -2147483648 ≤ l + 1 ∧ l + 1 ≤ 2147483647 := by omega
    have ql := mk l l0 l1
    have hT : ∀ y, 0 ≤ y → y < m → bt k y = 1 → 0 ≤ co (8 * rm k y + y) ∧ co (8 * rm k y + y) ≤ 60000 := by
      intro y y0 y1 y2
      have ry := rm_b (s := k) (x := y) (by omega) (by omega)
      have ry2 := ry.2.2 y2
      obtain ⟨b1, b2, b3, b4⟩ := hTD (rm k y) y ry.1 ry2 y0 y1 (bt_rm_eq (by omega) (by omega))
      have b3' : 0 ≤ co (8 * rm k y + y) := b3
      have b4' : co (8 * rm k y + y) ≤ 200 * (rm k y + 1) := b4
      omega
    have inner := for_up (P := fun x => ∀ (best : Int) (tl : BL), JB F mem co k l x best → (tl = [] ∨ ∃ v, tl = [(7, bI v)]) →
      bE L xs d MX6_least (84, (0, bR 19) :: (1, bI m) :: (2, bI kk) :: (3, bI k) :: (4, bI l) :: (5, bI best) :: (6, bI x) :: tl, [], WD Y E (PM M 0) (PG G row lf fr mem co) O, a, b) Q) m ?_ ?_ 0 (by omega) (by omega)
    · by_cases hk : k = 0
      · have wc := m_way (L := L) (xs := xs) (Y := Y) (E := E) (O := O) (d := d - 1) (a := a) (b := b) (M := PM M 0) (G := PG G row lf fr mem co) hI hm0 (mem l) 10 (pnt_s ql.1 ql.2) pnt_d (by omega)
        rw [mp_d, mp_s (s := mem l) (by omega)] at wc
        have i1 := fun tl h => inner (F 7 (mem l * 11 + 10)) tl ⟨fun _ => rfl, fun q => absurd hk q⟩ h
        rcases htl with rfl | ⟨p, q, rfl⟩ | ⟨p, q, r, rfl⟩
        · refine go [] [1, 1] rfl ⟨l1, hk, hl, rfl⟩ (bc rfl (by omega) wc (fun h => by cases h) ?_)
          exact go [84] [] rfl rfl (i1 [] (Or.inl rfl))
        · refine go [] [1, 1] rfl ⟨l1, hk, hl, rfl⟩ (bc rfl (by omega) wc (fun h => by cases h) ?_)
          exact go [84] [] rfl rfl (i1 [] (Or.inl rfl))
        · refine go [] [1, 1] rfl ⟨l1, hk, hl, rfl⟩ (bc rfl (by omega) wc (fun h => by cases h) ?_)
          exact go [84] [] rfl rfl (i1 [(7, bI r)] (Or.inr ⟨_, rfl⟩))
      · have i1 := fun tl h => inner 1000000 tl ⟨fun q => absurd q hk, fun _ => Or.inl ⟨rfl, fun z z0 z1 => by omega⟩⟩ h
        rcases htl with rfl | ⟨p, q, rfl⟩ | ⟨p, q, r, rfl⟩
        · exact go [84] [1, 0] rfl ⟨l1, hk, rfl⟩ (i1 [] (Or.inl rfl))
        · exact go [84] [1, 0] rfl ⟨l1, hk, rfl⟩ (i1 [] (Or.inl rfl))
        · exact go [84] [1, 0] rfl ⟨l1, hk, rfl⟩ (i1 [(7, bI r)] (Or.inr ⟨_, rfl⟩))
    · intro best tl hJ htl
      have hT' : ∀ s t, 0 ≤ s → 0 ≤ t → t < m → ¬ (s = k ∧ t = l) → (fun s t => up co (8 * k + l) best (8 * s + t)) s t = (fun s t => co (8 * s + t)) s t := by
        intro s t s0 t0 t1 hne
        exact up_ne _ (by omega)
      have hv : (fun s t => up co (8 * k + l) best (8 * s + t)) k l = best := up_eq _ _ _
      have nTD : TD F mem m k (fun s t => up co (8 * k + l) best (8 * s + t)) := TD_up h8 (by omega) hTD hT'
      have nDC : ∀ t, 0 ≤ t → t < l + 1 → bt k t = 0 → DC F mem m (fun s t => up co (8 * k + l) best (8 * s + t)) k t := by
        intro t t0 t1 hb
        by_cases e : t = l
        · subst e
          by_cases hk : k = 0
          · have hw := SB_way hI (pnt_s ql.1 ql.2) pnt_d
            have e1 := hJ.1 hk
            exact ⟨fun _ => hv.trans e1, fun q => absurd hk q, by rw [hv]; omega, by rw [hv]; omega⟩
          · rcases hJ.2 hk with ⟨e1, e2⟩ | ⟨y, y0, y1, y2, y3, y4, y5⟩
            · obtain ⟨z, z0, z1, z2⟩ := bt_ex (s := k) (by omega)
              have z3 := bt_lt h8 ⟨k0, k1⟩ ⟨z0, z1⟩ z2
              have := e2 z z0 z3 z2
              subst this
              omega
            · refine DC_up hI hm h8 hmem ⟨by omega, by omega⟩ ⟨t0, by omega⟩ hTD hT' y0 y1 y2 (hv.trans y4) (fun z z0 z1 z2 => ?_)
              have := y5 z z0 z1 z2 (fun q => by rw [q] at z2; omega)
              rw [y4] at this
              exact this
        · exact DC_c h8 hk8 (hT' k t k0 t0 (by omega) (by omega)) (fun s' x' q0 q1 q2 q3 => hT' s' x' q0 q2 q3 (by omega)) (hDC t t0 (by omega) hb)
      have c1 : -2147483648 ≤ 8 * k ∧ 8 * k ≤ 2147483647 := by omega
      have c2 : -2147483648 ≤ 8 * k + l ∧ 8 * k + l ≤ 2147483647 := by omega
      have c3 : 0 ≤ 8 * k + l ∧ 8 * k + l < ((2048 : Nat) : Int) := by omega
      rcases htl with rfl | ⟨v, rfl⟩
      · exact go [52] [0] rfl ⟨Int.le_refl m, c1, c2, c3, hr1, rfl⟩ (ih (up co (8 * k + l) best) _ nTD nDC (Or.inr (Or.inl ⟨_, _, rfl⟩)))
      · exact go [52] [0] rfl ⟨Int.le_refl m, c1, c2, c3, hr1, rfl⟩ (ih (up co (8 * k + l) best) _ nTD nDC (Or.inr (Or.inr ⟨_, _, _, rfl⟩)))
    · intro x x0 x1 ih2 best tl hJ htl
      have hx8 : 0 ≤ x ∧ x < 8 := by omega
      have hx : 0 ≤ x ∧ x < ((8 : Nat) : Int) := by omega
      have hr2 : -2147483648 ≤ x + 1 ∧ x + 1 ≤ 2147483647 := by omega
      rcases bt_01 hk8 hx8 with h | h
      · rcases htl with rfl | ⟨v, rfl⟩
        · exact go [84] [1, 0] rfl ⟨x1, h, hr2, rfl⟩ (ih2 best _ (JB_skip hJ (Or.inl h)) (Or.inl rfl))
        · exact go [84] [1, 0] rfl ⟨x1, h, hr2, rfl⟩ (ih2 best _ (JB_skip hJ (Or.inl h)) (Or.inr ⟨_, rfl⟩))
      · have hb0 : ¬ bt k x = 0 := by omega
        by_cases hxl : x = l
        · rcases htl with rfl | ⟨v, rfl⟩
          · exact go [84] [1, 1, 1] rfl ⟨x1, hb0, hxl, hr2, rfl⟩ (ih2 best _ (JB_skip hJ (Or.inr hxl)) (Or.inl rfl))
          · exact go [84] [1, 1, 1] rfl ⟨x1, hb0, hxl, hr2, rfl⟩ (ih2 best _ (JB_skip hJ (Or.inr hxl)) (Or.inr ⟨_, rfl⟩))
        · have q := mk x x0 x1
          have hTx := hT x x0 x1 h
          have hw := SB_way hI (pnt_s ql.1 ql.2) (pnt_s q.1 q.2)
          have hr := rm_b hk8 hx8
          have hkz : k ≠ 0 := fun e => by
            rw [e, bt_z hx8] at h
            omega
          have wc := m_way (L := L) (xs := xs) (Y := Y) (E := E) (O := O) (d := d - 1) (a := a) (b := b) (M := PM M 0) (G := PG G row lf fr mem co) hI hm0 (mem l) (mem x) (pnt_s ql.1 ql.2) (pnt_s q.1 q.2) (by omega)
          rw [mp_s (s := mem l) (by omega), mp_s (s := mem x) (by omega)] at wc
          have c1 : -2147483648 ≤ 8 * rm k x ∧ 8 * rm k x ≤ 2147483647 := by omega
          have c2 : -2147483648 ≤ 8 * rm k x + x ∧ 8 * rm k x + x ≤ 2147483647 := by omega
          have c3 : 0 ≤ 8 * rm k x + x ∧ 8 * rm k x + x < ((2048 : Nat) : Int) := by omega
          have c4 : -2147483648 ≤ F 7 (mem l * 11 + mem x) + co (8 * rm k x + x) ∧ F 7 (mem l * 11 + mem x) + co (8 * rm k x + x) ≤ 2147483647 := by omega
          rcases htl with rfl | ⟨v, rfl⟩
          all_goals
            refine go [] [1, 1, 0] rfl ⟨x1, hb0, hxl, hl, hx⟩ (bc rfl (by omega) wc (fun h => by cases h) ?_)
            by_cases hlt : F 7 (mem l * 11 + mem x) + co (8 * rm k x + x) < best
            · refine go [84] [1] rfl ⟨c1, c2, c3, c4, hlt, hr2, rfl⟩ (ih2 (F 7 (mem l * 11 + mem x) + co (8 * rm k x + x)) _ ⟨fun q => absurd q hkz, fun _ => Or.inr ⟨x, x0, by omega, h, hxl, rfl, fun z z0 z1 hz hzl => ?_⟩⟩ (Or.inr ⟨_, rfl⟩))
              by_cases e : z = x
              · rw [e]; exact Int.le_refl _
              · rcases hJ.2 hkz with ⟨e1, e2⟩ | ⟨y, y0, y1, y2, y3, y4, y5⟩
                · exact absurd (e2 z z0 (by omega) hz) hzl
                · have := y5 z z0 (by omega) hz hzl
                  omega
            · refine go [84] [0] rfl ⟨c1, c2, c3, c4, (show best ≤ F 7 (mem l * 11 + mem x) + co (8 * rm k x + x) by omega), hr2, rfl⟩ (ih2 best _ ⟨fun q => absurd q hkz, fun _ => ?_⟩ (Or.inr ⟨_, rfl⟩))
              rcases hJ.2 hkz with ⟨e1, e2⟩ | ⟨y, y0, y1, y2, y3, y4, y5⟩
              · omega
              · refine Or.inr ⟨y, y0, by omega, y2, y3, y4, fun z z0 z1 hz hzl => ?_⟩
                by_cases e : z = x
                · rw [e]; omega
                · exact y5 z z0 (by omega) hz hzl
theorem m_least (hI : SB X F) (hm0 : RB X F M G) (h8 : nW F (X 6) ≤ 8) (hl : ∀ s, 0 ≤ s → s < X 6 → lf s = wk F s) (hd : 3 ≤ d) :
    bE L xs d MX6_least (0, [(0, bR 19), (1, bI (nW F (X 6)))], [], WD Y E (PM M 0) (PG G row lf fr few co) O, a, b)
      (fun r => ∃ n' row' lf' few' co', r = (WD Y E (PM M n') (PG G row' lf' fr few' co') O, .inl none, a, b) ∧ WL4 X F n' row') := by
  have hX := hI.1
  have hM := hm0.1
  have hnb := nW_b F (X 6) (by omega)
  obtain ⟨m, hm⟩ : ∃ m, m = nW F (X 6) := ⟨_, rfl⟩
  have h8' : 0 ≤ m ∧ m ≤ 8 := by omega
  have hp := pw_b h8'
  rw [← hm]
  have key := for_up (P := fun s => ∀ mem : Int → Int, MEM X F s mem → bE L xs d MX6_least (4, [(0, bR 19), (1, bI m), (2, bI (nW F s)), (3, bI s)], [], WD Y E (PM M 0) (PG G row lf fr mem co) O, a, b)
      (fun r => ∃ n' row' lf' few' co', r = (WD Y E (PM M n') (PG G row' lf' fr few' co') O, .inl none, a, b) ∧ WL4 X F n' row')) (X 6) ?_ ?_ 0 (by omega) (by omega) few (fun s s0 s1 => by omega)
  · exact go [4] [] rfl rfl key
  · intro mem hmem
    have sets := for_up (P := fun k => ∀ (co : Int → Int) (ls : BL), TD F mem m k (fun s x => co (8 * s + x)) → ((ls = [(0, bR 19), (1, bI m), (2, bI (nW F (X 6))), (3, bI k)] ∧ k = 0) ∨ ∃ tl, tl3 tl ∧ ls = (0, bR 19) :: (1, bI m) :: (2, bI (nW F (X 6))) :: (3, bI k) :: (4, bI m) :: tl) →
      bE L xs d MX6_least (42, ls, [], WD Y E (PM M 0) (PG G row lf fr mem co) O, a, b)
      (fun r => ∃ n' row' lf' few' co', r = (WD Y E (PM M n') (PG G row' lf' fr few' co') O, .inl none, a, b) ∧ WL4 X F n' row')) (pw m) ?_ ?_ 0 (by omega) (by omega) co _ (fun s x s0 s1 => by omega) (Or.inl ⟨rfl, rfl⟩)
    · exact go [42] [0] rfl ⟨(show M 6 ≤ X 6 by omega), rfl⟩ sets
    · intro co ls hTD hls
      rcases hls with ⟨_, e⟩ | ⟨tl, htl, rfl⟩
      · omega
      · have g := fun tl h => m_greedy (L := L) (xs := xs) (Y := Y) (E := E) (O := O) (a := a) (b := b) (fr := fr) hI hm0 hm h8' hmem hTD (nW F (X 6)) hd 0 (Int.le_refl _) h8'.1 (pw m - 1) (M 5) row lf tl (GI_0 h8') hM.2.2.2.2.1 h
        have hr1 : -2147483648 ≤ pw m - 1 ∧ pw m - 1 ≤ 2147483647 := by omega
        rcases htl with rfl | ⟨p, q, rfl⟩ | ⟨p, q, r, rfl⟩
        · exact go [209] [0] rfl ⟨Int.le_refl (pw m), hr1, rfl⟩ (g _ (Or.inl rfl))
        · exact go [209] [0] rfl ⟨Int.le_refl (pw m), hr1, rfl⟩ (g _ (Or.inr (Or.inl ⟨_, _, rfl⟩)))
        · exact go [209] [0] rfl ⟨Int.le_refl (pw m), hr1, rfl⟩ (g _ (Or.inr (Or.inr (Or.inl ⟨_, _, _, rfl⟩))))
    · intro k k0 k1 ih co ls hTD hls
      have g := fun tl h => m_sets (L := L) (xs := xs) (Y := Y) (E := E) (O := O) (a := a) (b := b) (fr := fr) (row := row) (lf := lf) hI hm0 hm h8' hmem (nW F (X 6)) hd k k0 k1 (fun co tl h1 h2 => ih co _ h1 (Or.inr ⟨tl, h2, rfl⟩)) 0 (Int.le_refl _) h8'.1 co tl hTD (fun t t0 t1 => by omega) h
      rcases hls with ⟨rfl, _⟩ | ⟨tl, htl, rfl⟩
      · exact go [52] [1] rfl ⟨k1, rfl⟩ (g [] (Or.inl rfl))
      · rcases htl with rfl | ⟨p, q, rfl⟩ | ⟨p, q, r, rfl⟩
        · exact go [52] [1] rfl ⟨k1, rfl⟩ (g _ (Or.inl rfl))
        · exact go [52] [1] rfl ⟨k1, rfl⟩ (g _ (Or.inr (Or.inl ⟨_, _, rfl⟩)))
        · exact go [52] [1] rfl ⟨k1, rfl⟩ (g _ (Or.inr (Or.inr ⟨_, _, _, rfl⟩)))
  · intro s s0 s1 ih mem hmem
    have hx : 0 ≤ s ∧ s < ((10 : Nat) : Int) := by omega
    have hs6 : s < M 6 := by omega
    have hr1 : -2147483648 ≤ s + 1 ∧ s + 1 ≤ 2147483647 := by omega
    have w := hl s s0 s1
    have e := nW_s (F := F) s0
    have hnb2 := nW_b F s s0
    have hmono := nW_mono (F := F) (i := s + 1) (j := X 6) (by omega) (by omega)
    rcases wk_01 F s with h | h
    · rw [e, h, Int.add_zero] at ih
      exact go [4] [1, 1] rfl ⟨hs6, hx, (show lf s = 0 by omega), hr1, rfl⟩ (ih mem (MEM_n h hmem))
    · rw [e, h] at ih
      exact go [4] [1, 0] rfl ⟨hs6, hx, (show ¬ lf s = 0 by omega), (show 0 ≤ nW F s ∧ nW F s < ((8 : Nat) : Int) by omega), (show -2147483648 ≤ nW F s + 1 ∧ nW F s + 1 ≤ 2147483647 by omega), hr1, rfl⟩ (ih _ (MEM_s s0 h hmem))
end H2
