/-! The same with a picture of the end. -/
def EvP (L : Nat) (xs : Nat → Int32) (d i : Nat) (c : AxC) (Q : AxR → Prop) : Prop := ∃ r, ax_Ev L xs d i c r ∧ Q r
def ax_halt (i : Nat) (stops : List Nat) (pc : Nat) : Bool := stops.any (Nat.beq pc) || (match ax_at (axT i) pc with
  | none => true
  | some (ins, x, _) => !Nat.beq (ax_kind ins x) 0)
/-- along simple instructions up to one of the places 'stops', or up to a call or an end -/
def ax_pu (L : Nat) (xs : Nat → Int32) (i : Nat) (stops : List Nat) : Nat → List Nat → AxC → Option (Prop × AxC)
  | 0, _, _ => none
  | k + 1, bs, c => match ax_at (axT i) c.1 with
    | none => none
    | some (ins, x, y) => cond (Nat.beq (ax_kind ins x) 0) (match ax_alts L xs ins x y c with
      | none => none
      | some (.inl c1) => cond (ax_halt i stops c1.1) (some (True, c1)) (ax_pu L xs i stops k bs c1)
      | some (.inr alts) => match alts with
        | [] => none
        | [(P, c1)] => cond (ax_halt i stops c1.1) (some (P ∧ True, c1)) (match ax_pu L xs i stops k bs c1 with
          | some (P2, c2) => some (P ∧ P2, c2)
          | none => none)
        | q1 :: q2 :: r => (match bs with
          | [] => none
          | j :: bs => (match ax_nth (q1 :: q2 :: r) j with
            | none => none
            | some (P, c1) => cond (ax_halt i stops c1.1) (some (P ∧ True, c1)) (match ax_pu L xs i stops k bs c1 with
              | some (P2, c2) => some (P ∧ P2, c2)
              | none => none)))) none
section AXP
variable {L : Nat} {xs : Nat → Int32} {d i pc y a b a1 b1 : Nat} {ls : AxL} {st as rest : List Value} {w w1 : AxW} {res : AxR} {sp : Bool} {Q : AxR → Prop}
theorem ev_pu (stops : List Nat) : ∀ (k : Nat) (bs : List Nat) {c c1 : AxC} {P : Prop}, ax_pu L xs i stops k bs c = some (P, c1) → P → ax_Ev L xs d i c1 res → ax_Ev L xs d i c res
  | 0, bs, c, c1, P, h, hp, hE => by cases h
  | k + 1, bs, c, c1, P, h, hp, hE => by
    obtain ⟨pc, ls, st, w, a, b⟩ := c
    simp only [ax_pu] at h
    split at h
    · cases h
    · next ins x y hat =>
      cases hk : Nat.beq (ax_kind ins x) 0 with
      | false => rw [hk] at h; cases h
      | true =>
        rw [hk] at h
        have hk := Nat.eq_of_beq_eq_true hk
        simp only [cond_true] at h
        split at h
        · cases h
        · next c2 h2 =>
          refine ev_alt hat hk (c := c2) (by rw [h2]; rfl) ?_
          cases hs : ax_halt i stops c2.1 with
          | true =>
            rw [hs] at h
            simp only [cond_true, Option.some.injEq, Prod.mk.injEq] at h
            rw [h.2]; exact hE
          | false => rw [hs] at h; exact ev_pu stops k bs h hp hE
        · next alts h2 =>
          split at h
          · cases h
          · next P1 c2 =>
            cases hs : ax_halt i stops c2.1 with
            | true =>
              rw [hs] at h
              simp only [cond_true, Option.some.injEq, Prod.mk.injEq] at h
              rw [← h.1] at hp
              exact ev_alt hat hk (c := c2) (by rw [h2]; exact ⟨P1, List.mem_cons_self, hp.1⟩) (by rw [h.2]; exact hE)
            | false =>
              rw [hs] at h
              simp only [cond_false] at h
              split at h
              · next P2 c3 h3 =>
                simp only [Option.some.injEq, Prod.mk.injEq] at h
                obtain ⟨e1, e2⟩ := h
                subst e1; subst e2
                exact ev_alt hat hk (c := c2) (by rw [h2]; exact ⟨P1, List.mem_cons_self, hp.1⟩) (ev_pu stops k bs h3 hp.2 hE)
              · cases h
          · next q1 q2 r =>
            split at h
            · cases h
            · next j bs1 =>
              split at h
              · cases h
              · next P1 c2 h4 =>
                rw [ax_nth_eq] at h4
                cases hs : ax_halt i stops c2.1 with
                | true =>
                  rw [hs] at h
                  simp only [cond_true, Option.some.injEq, Prod.mk.injEq] at h
                  rw [← h.1] at hp
                  exact ev_alt hat hk (c := c2) (by rw [h2]; exact ⟨P1, List.mem_of_getElem? h4, hp.1⟩) (by rw [h.2]; exact hE)
                | false =>
                  rw [hs] at h
                  simp only [cond_false] at h
                  split at h
                  · next P2 c3 h3 =>
                    simp only [Option.some.injEq, Prod.mk.injEq] at h
                    obtain ⟨e1, e2⟩ := h
                    subst e1; subst e2
                    exact ev_alt hat hk (c := c2) (by rw [h2]; exact ⟨P1, List.mem_of_getElem? h4, hp.1⟩) (ev_pu stops k bs1 h3 hp.2 hE)
                  · cases h
theorem gu (stops bs : List Nat) {c c1 : AxC} {P : Prop} (h : ax_pu L xs i stops 200 bs c = some (P, c1)) (hp : P) (hE : EvP L xs d i c1 Q) : EvP L xs d i c Q := by
  obtain ⟨r, h1, h2⟩ := hE
  exact ⟨r, ev_pu stops 200 bs h hp h1, h2⟩
theorem gu' (stops bs : List Nat) {c c1 : AxC} {P : Prop} (h : ax_pu L xs i stops 200 bs c = some (P, c1)) (hp : P) (hE : ax_Ev L xs d i c1 res) : ax_Ev L xs d i c res := ev_pu stops 200 bs h hp hE
/-- a call whose end is known exactly -/
theorem gc {v : Option Value} (h : ax_cd i (pc, ls, st, w, a, b) = some (y, as, rest, sp)) (hd : 2 ≤ d) (hc : ax_Ev L xs (d - 1) y (0, ax_ent 0 as, [], w, a, b) (w1, .inl v, a1, b1)) (hsp : sp = true → v = none)
    (ht : EvP L xs d i (pc + 3, ls, v.toList ++ rest, w1, a1, b1) Q) : EvP L xs d i (pc, ls, st, w, a, b) Q := by
  obtain ⟨r, h1, h2⟩ := ht
  exact ⟨r, ev_call h hd hc hsp h1, h2⟩
/-- a call with a picture of its end -/
theorem gq {Q1 : AxR → Prop} (h : ax_cd i (pc, ls, st, w, a, b) = some (y, as, rest, false)) (hd : 2 ≤ d) (hc : EvP L xs (d - 1) y (0, ax_ent 0 as, [], w, a, b) Q1)
    (ht : ∀ r, Q1 r → ∃ w1 v a1 b1, r = (w1, .inl v, a1, b1) ∧ EvP L xs d i (pc + 3, ls, v.toList ++ rest, w1, a1, b1) Q) : EvP L xs d i (pc, ls, st, w, a, b) Q := by
  obtain ⟨r, h1, h2⟩ := hc
  obtain ⟨w1, v, a1, b1, rfl, r2, h3, h4⟩ := ht r h2
  exact ⟨r2, ev_call h hd h1 (fun h => by cases h) h3, h4⟩
theorem ge {c : AxC} (h : ax_Ev L xs d i c res) (hq : Q res) : EvP L xs d i c Q := ⟨res, h, hq⟩
theorem EvP.imp {c : AxC} {Q2 : AxR → Prop} (h : EvP L xs d i c Q) (hq : ∀ r, Q r → Q2 r) : EvP L xs d i c Q2 := by
  obtain ⟨r, h1, h2⟩ := h
  exact ⟨r, h1, hq r h2⟩
end AXP
/-! Numbers -/
theorem nI_inj {a b : Nat} (ha : a < 2 ^ 31) (hb : b < 2 ^ 31) (h : nI a = nI b) : a = b := (nI_eq ha hb).mp h
theorem vp_nI {k n : Nat} (h : k < n) (hn : n < 2 ^ 31) : vp_in (nI k) n := vp_in_nI h hn
theorem nI_cl {k : Nat} (h : k < 2 ^ 31) : (nI k).toNatClampNeg = k := nI_clamp h
/-- up to here it holds, counted -/
def cnt (P : Nat → Bool) : Nat → Nat
  | 0 => 0
  | k + 1 => cnt P k + (cond (P k) 1 0)
theorem cnt_le (P : Nat → Bool) : ∀ k, cnt P k ≤ k
  | 0 => Nat.le_refl _
  | k + 1 => by
    have := cnt_le P k
    simp only [cnt]
    cases P k <;> simp <;> omega
