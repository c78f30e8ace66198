/-! Rules over whole numbers. -/
/-- along simple instructions up to one of the places 'stops', or up to a call or an end; what the path asks -/
def bx_pu (L : Nat) (xs : Nat → Int32) (i : Nat) (stops : List Nat) : Nat → List Nat → BC → Option (Prop × BC)
  | 0, _, _ => none
  | k + 1, bs, c => match ax_at (axT i) c.1 with
    | none => none
    | some (ins, x, y) => cond (Nat.beq (ax_kind ins x) 0) (match bx_alts L xs ins x y c with
      | none => none
      | some (.inl c1) => cond (ax_halt i stops c1.1) (some ((0 : Int) = 0, c1)) (bx_pu L xs i stops k bs c1)
      | some (.inr alts) => match alts with
        | [] => none
        | [(P, c1)] => cond (ax_halt i stops c1.1) (some (P, c1)) (match bx_pu L xs i stops k bs c1 with
          | some (P2, c2) => some (P ∧ P2, c2)
          | none => none)
        | q1 :: q2 :: r => (match bs with
          | [] => none
          | j :: bs => (match ax_nth (q1 :: q2 :: r) j with
            | none => none
            | some (P, c1) => cond (ax_halt i stops c1.1) (some (P, c1)) (match bx_pu L xs i stops k bs c1 with
              | some (P2, c2) => some (P ∧ P2, c2)
              | none => none)))) none
/-- from here method i comes to an end of which Q holds -/
def bE (L : Nat) (xs : Nat → Int32) (d i : Nat) (c : BC) (Q : BR → Prop) : Prop := L ≤ 2050 → b_ok c → ∃ r, ax_Ev L xs d i (b_c c) (b_r r) ∧ b_okr r ∧ Q r
section BRU
variable {L : Nat} {xs : Nat → Int32} {d i pc y a b a1 b1 : Nat} {ls : BL} {st as rest : List BV} {w w1 : BW} {sp : Bool} {Q : BR → Prop}
theorem bE_step {ins : Instr} {x : Nat} {c c1 : BC} (hat : ax_at (axT i) c.1 = some (ins, x, y)) (hk : ax_kind ins x = 0) (hn : bx_next (bx_alts L xs ins x y c) c1) (h : bE L xs d i c1 Q) : bE L xs d i c Q := by
  intro hL hok
  obtain ⟨g1, g2⟩ := bx_sound hL hok hn
  obtain ⟨r, r1, r2, r3⟩ := h hL g2
  obtain ⟨pc, ls, st, w, a, b⟩ := c
  exact ⟨r, ev_alt hat hk g1 r1, r2, r3⟩
theorem bE_pu (stops : List Nat) : ∀ (k : Nat) (bs : List Nat) {c c1 : BC} {P : Prop}, bx_pu L xs i stops k bs c = some (P, c1) → P → bE L xs d i c1 Q → bE L xs d i c Q
  | 0, bs, c, c1, P, h, hp, hE => by cases h
  | k + 1, bs, c, c1, P, h, hp, hE => by
    simp only [bx_pu] at h
    split at h
    · cases h
    · next ins x y hat =>
      cases hk : Nat.beq (ax_kind ins x) 0 with
      | false => rw [hk] at h; cases h
      | true =>
        rw [hk] at h
        have hk := Nat.eq_of_beq_eq_true hk
        simp only [cond_true] at h
        split at h
        · cases h
        · next c2 h2 =>
          refine bE_step hat hk (c1 := c2) (by rw [h2]; rfl) ?_
          cases hs : ax_halt i stops c2.1 with
          | true =>
            rw [hs] at h
            simp only [cond_true, Option.some.injEq, Prod.mk.injEq] at h
            rw [h.2]; exact hE
          | false => rw [hs] at h; exact bE_pu stops k bs h hp hE
        · next alts h2 =>
          split at h
          · cases h
          · next P1 c2 =>
            cases hs : ax_halt i stops c2.1 with
            | true =>
              rw [hs] at h
              simp only [cond_true, Option.some.injEq, Prod.mk.injEq] at h
              rw [← h.1] at hp
              exact bE_step hat hk (c1 := c2) (by rw [h2]; exact ⟨P1, List.mem_cons_self, hp⟩) (by rw [h.2]; exact hE)
            | false =>
              rw [hs] at h
              simp only [cond_false] at h
              split at h
              · next P2 c3 h3 =>
                simp only [Option.some.injEq, Prod.mk.injEq] at h
                obtain ⟨e1, e2⟩ := h
                subst e1; subst e2
                exact bE_step hat hk (c1 := c2) (by rw [h2]; exact ⟨P1, List.mem_cons_self, hp.1⟩) (bE_pu stops k bs h3 hp.2 hE)
              · cases h
          · next q1 q2 r =>
            split at h
            · cases h
            · next j bs1 =>
              split at h
              · cases h
              · next P1 c2 h4 =>
                rw [ax_nth_eq] at h4
                cases hs : ax_halt i stops c2.1 with
                | true =>
                  rw [hs] at h
                  simp only [cond_true, Option.some.injEq, Prod.mk.injEq] at h
                  rw [← h.1] at hp
                  exact bE_step hat hk (c1 := c2) (by rw [h2]; exact ⟨P1, List.mem_of_getElem? h4, hp⟩) (by rw [h.2]; exact hE)
                | false =>
                  rw [hs] at h
                  simp only [cond_false] at h
                  split at h
                  · next P2 c3 h3 =>
                    simp only [Option.some.injEq, Prod.mk.injEq] at h
                    obtain ⟨e1, e2⟩ := h
                    subst e1; subst e2
                    exact bE_step hat hk (c1 := c2) (by rw [h2]; exact ⟨P1, List.mem_of_getElem? h4, hp.1⟩) (bE_pu stops k bs1 h3 hp.2 hE)
                  · cases h
/-- go along a path -/
theorem go (stops bs : List Nat) {c c1 : BC} {P : Prop} (h : bx_pu L xs i stops 200 bs c = some (P, c1)) (hp : P) (hE : bE L xs d i c1 Q) : bE L xs d i c Q := bE_pu stops 200 bs h hp hE
def bx_split : Nat → List BV → List BV → Option (List BV × List BV)
  | 0, acc, r => some (acc, r)
  | n + 1, acc, v :: r => bx_split n (v :: acc) r
  | _ + 1, _, [] => none
def bx_ent : Nat → List BV → BL
  | _, [] => []
  | k, v :: r => (k, v) :: bx_ent (k + 1) r
def bx_c1 (as : List BV) : Bool := as.all (fun v => Nat.beq (bx_cat v) 1)
def bx_rb (w : BW) (j : Nat) : List BV → Bool
  | .inr (.inl (c + 1)) :: _ => (match ax_nth w c with
    | some (.inr (ci, _)) => Nat.beq ci (axCi j)
    | _ => false)
  | _ => false
def bx_cd (i : Nat) : BC → Option (Nat × List BV × List BV × Bool)
  | (pc, ls, st, w, _, _) => match ax_at (axT i) pc with
    | none => none
    | some (ins, x, y) => cond (Nat.beq (ax_kind ins x) 1) (match bx_split (axNa y) [] st with
      | none => none
      | some (as, rest) => cond (bx_fr w.length ls rest && bx_wt rest && bx_c1 as && ((Nat.beq x 2 || Nat.beq x 3) || bx_rb w y as)) (some (y, as, rest, Nat.beq x 1 || Nat.beq x 4)) none) none
theorem b_split : ∀ (n : Nat) (acc st : List BV), ax_split n (acc.map b_v) (st.map b_v) = (bx_split n acc st).map (fun q => (q.1.map b_v, q.2.map b_v))
  | 0, acc, st => rfl
  | n + 1, acc, [] => rfl
  | n + 1, acc, v :: r => b_split n (v :: acc) r
theorem b_split_ok : ∀ (n : Nat) (acc st : List BV) {as rest : List BV}, bx_split n acc st = some (as, rest) → (∀ v ∈ acc, b_okv v) → (∀ v ∈ st, b_okv v) → (∀ v ∈ as, b_okv v) ∧ (∀ v ∈ rest, b_okv v)
  | 0, acc, st, as, rest, h, h1, h2 => by cases h; exact ⟨h1, h2⟩
  | n + 1, acc, [], as, rest, h, h1, h2 => by cases h
  | n + 1, acc, v :: r, as, rest, h, h1, h2 => b_split_ok n (v :: acc) r h (b_cons (b_hd h2) h1) (b_tl h2)
theorem b_ent : ∀ (k : Nat) (as : List BV), ax_ent k (as.map b_v) = b_l (bx_ent k as)
  | _, [] => rfl
  | k, v :: r => congrArg (fun q => (k, b_v v) :: q) (b_ent (k + 1) r)
theorem b_ent_ok : ∀ (k : Nat) (as : List BV), (∀ v ∈ as, b_okv v) → ∀ q ∈ bx_ent k as, b_okv q.2
  | _, [], _ => fun q h => by cases h
  | k, v :: r, h => fun q hq => by
    rcases List.mem_cons.mp hq with g | g
    · rw [g]; exact b_hd h
    · exact b_ent_ok (k + 1) r (b_tl h) q g
theorem b_c1 (as : List BV) : ax_c1 (as.map b_v) = bx_c1 as := by
  unfold ax_c1 bx_c1
  rw [List.all_map]
  congr 1
  funext v
  exact congrArg (fun n => Nat.beq n 1) (b_cat v)
theorem b_rb {w : BW} {j : Nat} {as : List BV} (h : bx_rb w j as = true) : ax_rb (w.map b_e) j (as.map b_v) = true := by
  unfold bx_rb at h
  split at h
  · split at h
    · next ci fs hw =>
      simp only [ax_rb, List.map_cons, b_v]
      rw [b_nth, hw]
      exact h
    · cases h
  · cases h
theorem b_cd (h : bx_cd i (pc, ls, st, w, a, b) = some (y, as, rest, sp)) : ax_cd i (b_c (pc, ls, st, w, a, b)) = some (y, as.map b_v, rest.map b_v, sp) ∧ ((∀ v ∈ st, b_okv v) → (∀ v ∈ as, b_okv v) ∧ (∀ v ∈ rest, b_okv v)) := by
  simp only [bx_cd] at h
  split at h
  · cases h
  · next ins x y1 hat =>
    cases hk : Nat.beq (ax_kind ins x) 1 with
    | false => rw [hk] at h; cases h
    | true =>
      rw [hk] at h
      simp only [cond_true] at h
      split at h
      · cases h
      · next as1 rest1 hs =>
        cases hc : (bx_fr w.length ls rest1 && bx_wt rest1 && bx_c1 as1 && ((Nat.beq x 2 || Nat.beq x 3) || bx_rb w y1 as1)) with
        | false => rw [hc] at h; cases h
        | true =>
          rw [hc] at h
          simp only [cond_true, Option.some.injEq, Prod.mk.injEq] at h
          obtain ⟨e1, e2, e3, e4⟩ := h
          subst e1; subst e2; subst e3; subst e4
          refine ⟨?_, fun h2 => b_split_ok _ _ _ hs (fun v hv => by cases hv) h2⟩
          simp only [Bool.and_eq_true, Bool.or_eq_true] at hc
          obtain ⟨⟨⟨q1, q2⟩, q3⟩, q4⟩ := hc
          simp only [ax_cd, b_c]
          rw [hat]
          simp only [hk, cond_true]
          have hs2 := b_split (axNa y1) [] st
          rw [hs] at hs2
          simp only [List.map_nil, Option.map] at hs2
          rw [hs2]
          simp only [List.length_map, b_fr, b_wt, b_c1, q1, q2, q3, Bool.true_and]
          rcases q4 with q4 | q4
          · rcases q4 with q4 | q4
            · simp only [q4, Bool.true_or, cond_true]
            · simp only [q4, Bool.true_or, Bool.or_true, cond_true]
          · simp only [b_rb q4, Bool.or_true, cond_true]
/-- a call, with a picture of its end -/
theorem bcall {Q1 : BR → Prop} (h : bx_cd i (pc, ls, st, w, a, b) = some (y, as, rest, sp)) (hd : 2 ≤ d) (hc : bE L xs (d - 1) y (0, bx_ent 0 as, [], w, a, b) Q1)
    (ht : ∀ r, Q1 r → ∃ w1 v a1 b1, r = (w1, .inl v, a1, b1) ∧ (sp = true → v = none) ∧ bE L xs d i (pc + 3, ls, v.toList ++ rest, w1, a1, b1) Q) : bE L xs d i (pc, ls, st, w, a, b) Q := by
  intro hL hok
  obtain ⟨g1, g2⟩ := b_cd h
  obtain ⟨k1, k2⟩ := g2 hok.2.1
  obtain ⟨r, r1, r2, r3⟩ := hc hL ⟨b_ent_ok 0 as k1, (fun v hv => by cases hv), hok.2.2⟩
  obtain ⟨w1, v, a1, b1, rfl, hsp, hE⟩ := ht r r3
  obtain ⟨r9, s1, s2, s3⟩ := hE hL ⟨hok.1, by
    cases v with
    | none => exact k2
    | some v => exact b_cons r2.2 k2, r2.1⟩
  refine ⟨r9, ?_, s2, s3⟩
  simp only [b_c, ← b_ent] at r1
  refine ev_call (v := v.map b_v) g1 hd r1 (fun q => by rw [hsp q]; rfl) ?_
  have e : (v.map b_v).toList ++ rest.map b_v = (v.toList ++ rest).map b_v := by
    cases v <;> rfl
  rw [e]
  exact s1
/-- a call whose end is known exactly -/
theorem bc {v : Option BV} (h : bx_cd i (pc, ls, st, w, a, b) = some (y, as, rest, sp)) (hd : 2 ≤ d) (hc : bE L xs (d - 1) y (0, bx_ent 0 as, [], w, a, b) (fun r => r = (w1, .inl v, a1, b1))) (hsp : sp = true → v = none)
    (ht : bE L xs d i (pc + 3, ls, v.toList ++ rest, w1, a1, b1) Q) : bE L xs d i (pc, ls, st, w, a, b) Q :=
  bcall h hd hc (fun r hr => ⟨w1, v, a1, b1, hr, hsp, ht⟩)
/-- a call that throws, through -/
theorem bcX {x9 : Nat} (h : bx_cd i (pc, ls, st, w, a, b) = some (y, as, rest, false)) (hd : 2 ≤ d) (hh : axHh i = []) (hc : bE L xs (d - 1) y (0, bx_ent 0 as, [], w, a, b) (fun r => r = (w1, .inr x9, a1, b1))) (hq : Q (w1, .inr x9, a1, b1)) : bE L xs d i (pc, ls, st, w, a, b) Q := by
  intro hL hok
  obtain ⟨g1, g2⟩ := b_cd h
  obtain ⟨k1, k2⟩ := g2 hok.2.1
  obtain ⟨r, r1, r2, r3⟩ := hc hL ⟨b_ent_ok 0 as k1, (fun v hv => by cases hv), hok.2.2⟩
  subst r3
  simp only [b_c, ← b_ent] at r1
  exact ⟨(w1, .inr x9, a1, b1), ev_callX g1 hd hh r1, r2, hq⟩
/-- a call that throws, caught -/
theorem bcC {x9 h9 k9 : Nat} (h : bx_cd i (pc, ls, st, w, a, b) = some (y, as, rest, false)) (hd : 2 ≤ d) (hh : axHh i ≠ []) (hx : ax_hd i x9 = some (h9, k9)) (hc : bE L xs (d - 1) y (0, bx_ent 0 as, [], w, a, b) (fun r => r = (w1, .inr x9, a1, b1)))
    (ht : bE L xs d i (h9, bx_del ls k9, [], w1, a1, b1) Q) : bE L xs d i (pc, ls, st, w, a, b) Q := by
  intro hL hok
  obtain ⟨g1, g2⟩ := b_cd h
  obtain ⟨k1, k2⟩ := g2 hok.2.1
  obtain ⟨r, r1, r2, r3⟩ := hc hL ⟨b_ent_ok 0 as k1, (fun v hv => by cases hv), hok.2.2⟩
  subst r3
  obtain ⟨r9, s1, s2, s3⟩ := ht hL ⟨b_del_ok hok.1, (fun v hv => by cases hv), r2.1⟩
  simp only [b_c, ← b_ent] at r1
  simp only [b_c, ← b_del] at s1
  exact ⟨r9, ev_callC g1 hd hh r1 hx s1, s2, s3⟩
theorem rti {z : Int} {x : Nat} (hat : ax_at (axT i) pc = some (.ireturn, x, y)) (hr : axRe i = some .int) (hq : Q (w, .inl (some (bI z)), a, b)) : bE L xs d i (pc, ls, [bI z], w, a, b) Q :=
  fun _ hok => ⟨(w, .inl (some (bI z)), a, b), ev_ret hat hr, ⟨hok.2.2, hok.2.1 _ List.mem_cons_self⟩, hq⟩
theorem rtb {z : Int} {x : Nat} (hat : ax_at (axT i) pc = some (.ireturn, x, y)) (hr : axRe i = some .boolean) (hz : z = 0 ∨ z = 1) (hq : Q (w, .inl (some (bI z)), a, b)) : bE L xs d i (pc, ls, [bI z], w, a, b) Q :=
  fun _ hok => ⟨(w, .inl (some (bI z)), a, b), ev_retb hat hr (by rcases hz with rfl | rfl; exact Or.inl rfl; exact Or.inr rfl), ⟨hok.2.2, hok.2.1 _ List.mem_cons_self⟩, hq⟩
theorem rtv {x : Nat} (hat : ax_at (axT i) pc = some (.return_, x, y)) (hr : axRe i = none) (hq : Q (w, .inl none, a, b)) : bE L xs d i (pc, ls, [], w, a, b) Q :=
  fun _ hok => ⟨(w, .inl none, a, b), ev_retv hat hr, ⟨hok.2.2, trivial⟩, hq⟩
theorem thr {j x : Nat} (hat : ax_at (axT i) pc = some (.new j, x, y)) (hk : ax_kind (.new j) x = 3) (hd : 7 ≤ d) (hw : bx_wt st = true) (hq : Q (w, .inr (x - 100), a + 1, b + 6)) : bE L xs d i (pc, ls, st, w, a, b) Q :=
  fun _ hok => ⟨(w, .inr (x - 100), a + 1, b + 6), ev_thr hat hk hd (by rw [b_wt]; exact hw), ⟨hok.2.2, trivial⟩, hq⟩
theorem bE.imp {c : BC} {Q2 : BR → Prop} (h : bE L xs d i c Q) (hq : ∀ r, Q r → Q2 r) : bE L xs d i c Q2 := fun hL hok => by
  obtain ⟨r, h1, h2, h3⟩ := h hL hok
  exact ⟨r, h1, h2, hq r h3⟩
end BRU
/-- a loop that counts up -/
theorem for_up {P : Int → Prop} (n : Int) (hend : P n) (hstep : ∀ i, 0 ≤ i → i < n → P (i + 1) → P i) : ∀ i, 0 ≤ i → i ≤ n → P i := by
  intro i h0 h1
  obtain ⟨k, hk⟩ : ∃ k : Nat, n - i = k := ⟨(n - i).toNat, by omega⟩
  induction k generalizing i with
  | zero => have : i = n := by omega
            subst this; exact hend
  | succ k ih => exact hstep i h0 (by omega) (ih (i + 1) (by omega) (by omega) (by omega))
/-- what a loop makes -/
def itN {α : Type} (g : Int → α → α) (a0 : α) : Nat → α
  | 0 => a0
  | k + 1 => g (k : Int) (itN g a0 k)
def itr {α : Type} (g : Int → α → α) (a0 : α) (i : Int) : α := itN g a0 i.toNat
theorem itr_0 {α : Type} (g : Int → α → α) (a0 : α) : itr g a0 0 = a0 := rfl
theorem itr_s {α : Type} (g : Int → α → α) (a0 : α) {i : Int} (h : 0 ≤ i) : itr g a0 (i + 1) = g i (itr g a0 i) := by
  unfold itr
  have e : (i + 1).toNat = i.toNat + 1 := by omega
  rw [e, itN]
  have e2 : ((i.toNat : Nat) : Int) = i := by omega
  rw [e2]
theorem itr_ind {α : Type} {g : Int → α → α} {a0 : α} (P : Int → α → Prop) {n : Int} (h0 : P 0 a0) (hs : ∀ i x, 0 ≤ i → i < n → P i x → P (i + 1) (g i x)) : ∀ i, 0 ≤ i → i ≤ n → P i (itr g a0 i) := by
  intro i h1 h2
  obtain ⟨k, rfl⟩ : ∃ k : Nat, i = k := ⟨i.toNat, by omega⟩
  induction k with
  | zero => exact h0
  | succ k ih =>
    have e : ((k + 1 : Nat) : Int) = (k : Int) + 1 := by omega
    rw [e, itr_s _ _ (by omega)]
    exact hs k _ (by omega) (by omega) (ih (by omega) (by omega))
theorem itr_congr {α : Type} {g g' : Int → α → α} {a0 : α} {n : Int} (hs : ∀ i x, 0 ≤ i → i < n → g i x = g' i x) : ∀ i, 0 ≤ i → i ≤ n → itr g a0 i = itr g' a0 i := by
  intro i h1 h2
  obtain ⟨k, rfl⟩ : ∃ k : Nat, i = k := ⟨i.toNat, by omega⟩
  induction k with
  | zero => rfl
  | succ k ih =>
    have e : ((k + 1 : Nat) : Int) = (k : Int) + 1 := by omega
    rw [e, itr_s _ _ (by omega), itr_s _ _ (by omega), ih (by omega) (by omega)]
    exact hs k _ (by omega) (by omega)
