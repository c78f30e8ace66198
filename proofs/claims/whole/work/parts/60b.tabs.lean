/-! Paths by a part of a long method's table. -/
def bx_haltT (T : List AxI) (stops : List Nat) (pc : Nat) : Bool := stops.any (Nat.beq pc) || (match ax_at T pc with
  | none => true
  | some (ins, x, _) => !Nat.beq (ax_kind ins x) 0)
def bx_puT (L : Nat) (xs : Nat → Int32) (T : List AxI) (stops : List Nat) : Nat → List Nat → BC → Option (Prop × BC)
  | 0, _, _ => none
  | k + 1, bs, c => match ax_at T c.1 with
    | none => none
    | some (ins, x, y) => cond (Nat.beq (ax_kind ins x) 0) (match bx_alts L xs ins x y c with
      | none => none
      | some (.inl c1) => cond (bx_haltT T stops c1.1) (some ((0 : Int) = 0, c1)) (bx_puT L xs T stops k bs c1)
      | some (.inr alts) => match alts with
        | [] => none
        | [(P, c1)] => cond (bx_haltT T stops c1.1) (some (P, c1)) (match bx_puT L xs T stops k bs c1 with
          | some (P2, c2) => some (P ∧ P2, c2)
          | none => none)
        | q1 :: q2 :: r => (match bs with
          | [] => none
          | j :: bs => (match ax_nth (q1 :: q2 :: r) j with
            | none => none
            | some (P, c1) => cond (bx_haltT T stops c1.1) (some (P, c1)) (match bx_puT L xs T stops k bs c1 with
              | some (P2, c2) => some (P ∧ P2, c2)
              | none => none)))) none
def bx_cdT (T : List AxI) : BC → Option (Nat × List BV × List BV × Bool)
  | (pc, ls, st, w, _, _) => match ax_at T pc with
    | none => none
    | some (ins, x, y) => cond (Nat.beq (ax_kind ins x) 1) (match bx_split (axNa y) [] st with
      | none => none
      | some (as, rest) => cond (bx_fr w.length ls rest && bx_wt rest && bx_c1 as && ((Nat.beq x 2 || Nat.beq x 3) || bx_rb w y as)) (some (y, as, rest, Nat.beq x 1 || Nat.beq x 4)) none) none
/-- the part is a part -/
def inT (i : Nat) (T : List AxI) : Prop := ∀ pc ins x y, ax_at T pc = some (ins, x, y) → ax_at (axT i) pc = some (ins, x, y)
theorem inT_of {i : Nat} {T : List AxI} (h : T.all (fun e => decide (ax_at (axT i) e.1 = some e.2)) = true) : inT i T := by
  intro pc ins x y hat
  exact of_decide_eq_true (List.all_eq_true.mp h _ (ax_at_mem _ _ hat))
section BTU
variable {L : Nat} {xs : Nat → Int32} {d i pc y a b a1 b1 : Nat} {ls : BL} {st as rest : List BV} {w w1 : BW} {sp : Bool} {Q : BR → Prop} {T : List AxI}
theorem bE_puT (hT : inT i T) (stops : List Nat) : ∀ (k : Nat) (bs : List Nat) {c c1 : BC} {P : Prop}, bx_puT L xs T stops k bs c = some (P, c1) → P → bE L xs d i c1 Q → bE L xs d i c Q
  | 0, bs, c, c1, P, h, hp, hE => by cases h
  | k + 1, bs, c, c1, P, h, hp, hE => by
    simp only [bx_puT] at h
    split at h
    · cases h
    · next ins x y hat =>
      have hat := hT _ _ _ _ hat
      cases hk : Nat.beq (ax_kind ins x) 0 with
      | false => rw [hk] at h; cases h
      | true =>
        rw [hk] at h
        have hk := Nat.eq_of_beq_eq_true hk
        simp only [cond_true] at h
        split at h
        · cases h
        · next c2 h2 =>
          refine bE_step hat hk (c1 := c2) (by rw [h2]; rfl) ?_
          cases hs : bx_haltT T stops c2.1 with
          | true =>
            rw [hs] at h
            simp only [cond_true, Option.some.injEq, Prod.mk.injEq] at h
            rw [h.2]; exact hE
          | false => rw [hs] at h; exact bE_puT hT stops k bs h hp hE
        · next alts h2 =>
          split at h
          · cases h
          · next P1 c2 =>
            cases hs : bx_haltT T stops c2.1 with
            | true =>
              rw [hs] at h
              simp only [cond_true, Option.some.injEq, Prod.mk.injEq] at h
              rw [← h.1] at hp
              exact bE_step hat hk (c1 := c2) (by rw [h2]; exact ⟨P1, List.mem_cons_self, hp⟩) (by rw [h.2]; exact hE)
            | false =>
              rw [hs] at h
              simp only [cond_false] at h
              split at h
              · next P2 c3 h3 =>
                simp only [Option.some.injEq, Prod.mk.injEq] at h
                obtain ⟨e1, e2⟩ := h
                subst e1; subst e2
                exact bE_step hat hk (c1 := c2) (by rw [h2]; exact ⟨P1, List.mem_cons_self, hp.1⟩) (bE_puT hT stops k bs h3 hp.2 hE)
              · cases h
          · next q1 q2 r =>
            split at h
            · cases h
            · next j bs1 =>
              split at h
              · cases h
              · next P1 c2 h4 =>
                rw [ax_nth_eq] at h4
                cases hs : bx_haltT T stops c2.1 with
                | true =>
                  rw [hs] at h
                  simp only [cond_true, Option.some.injEq, Prod.mk.injEq] at h
                  rw [← h.1] at hp
                  exact bE_step hat hk (c1 := c2) (by rw [h2]; exact ⟨P1, List.mem_of_getElem? h4, hp⟩) (by rw [h.2]; exact hE)
                | false =>
                  rw [hs] at h
                  simp only [cond_false] at h
                  split at h
                  · next P2 c3 h3 =>
                    simp only [Option.some.injEq, Prod.mk.injEq] at h
                    obtain ⟨e1, e2⟩ := h
                    subst e1; subst e2
                    exact bE_step hat hk (c1 := c2) (by rw [h2]; exact ⟨P1, List.mem_of_getElem? h4, hp.1⟩) (bE_puT hT stops k bs1 h3 hp.2 hE)
                  · cases h
theorem goT (hT : inT i T) (stops bs : List Nat) {c c1 : BC} {P : Prop} (h : bx_puT L xs T stops 200 bs c = some (P, c1)) (hp : P) (hE : bE L xs d i c1 Q) : bE L xs d i c Q := bE_puT hT stops 200 bs h hp hE
theorem cdT (hT : inT i T) {c : BC} (h : bx_cdT T c = some (y, as, rest, sp)) : bx_cd i c = some (y, as, rest, sp) := by
  obtain ⟨pc, ls, st, w, a, b⟩ := c
  simp only [bx_cdT] at h
  split at h
  · cases h
  · next ins x y hat =>
    simp only [bx_cd]
    rw [hT _ _ _ _ hat]
    exact h
theorem bcT {v : Option BV} (hT : inT i T) (h : bx_cdT T (pc, ls, st, w, a, b) = some (y, as, rest, sp)) (hd : 2 ≤ d) (hc : bE L xs (d - 1) y (0, bx_ent 0 as, [], w, a, b) (fun r => r = (w1, .inl v, a1, b1))) (hsp : sp = true → v = none)
    (ht : bE L xs d i (pc + 3, ls, v.toList ++ rest, w1, a1, b1) Q) : bE L xs d i (pc, ls, st, w, a, b) Q := bc (cdT hT h) hd hc hsp ht
theorem bcallT {Q1 : BR → Prop} (hT : inT i T) (h : bx_cdT T (pc, ls, st, w, a, b) = some (y, as, rest, sp)) (hd : 2 ≤ d) (hc : bE L xs (d - 1) y (0, bx_ent 0 as, [], w, a, b) Q1)
    (ht : ∀ r, Q1 r → ∃ w1 v a1 b1, r = (w1, .inl v, a1, b1) ∧ (sp = true → v = none) ∧ bE L xs d i (pc + 3, ls, v.toList ++ rest, w1, a1, b1) Q) : bE L xs d i (pc, ls, st, w, a, b) Q := bcall (cdT hT h) hd hc ht
end BTU
