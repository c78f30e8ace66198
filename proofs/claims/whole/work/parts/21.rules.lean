/-! Rules of our machine, for paths, calls and ends. -/
theorem ax_ev_succ {L : Nat} {xs : Nat → Int32} : ∀ (n d i : Nat) (k : AxC) (res : AxR), ax_ev L xs n d i k res → ax_ev L xs (n + 1) d i k res := by
  intro n
  induction n with
  | zero => intro d i k res h; exact h.elim
  | succ n ih =>
    intro d i k res h
    obtain ⟨pc, ls, st, w, a, b⟩ := k
    rw [ax_ev] at h ⊢
    revert h
    split
    · exact fun h => h
    · split
      · split
        · exact fun h => h
        · exact fun h => ih _ _ _ _ h
        · rintro ⟨q, h1, h2, h3⟩
          exact ⟨q, h1, h2, ih _ _ _ _ h3⟩
      · split
        · exact fun h => h
        · rintro ⟨h1, h2, h3, h4, h5, w1, r1, a1, b1, h6, h7, h8⟩
          refine ⟨h1, h2, h3, h4, h5, w1, r1, a1, b1, ih _ _ _ _ h6, h7, ?_⟩
          revert h8
          split
          · exact fun h => ih _ _ _ _ h
          · split
            · exact fun h => h
            · rintro ⟨g1, g2, g3, g4⟩
              exact ⟨g1, g2, g3, ih _ _ _ _ g4⟩
      · exact fun h => h
      · exact fun h => h
theorem ax_ev_le {L : Nat} {xs : Nat → Int32} {n m d i : Nat} {k : AxC} {res : AxR} (h : ax_ev L xs n d i k res) (hm : n ≤ m) : ax_ev L xs m d i k res := by
  obtain ⟨j, rfl⟩ := Nat.le.dest hm
  clear hm
  induction j with
  | zero => exact h
  | succ j ih => exact ax_ev_succ _ _ _ _ _ ih
/-- along simple instructions: k of them, with the ways that are taken where there are several; what must hold, and where it ends -/
def ax_path (L : Nat) (xs : Nat → Int32) (i : Nat) : Nat → List Nat → AxC → Option (Prop × AxC)
  | 0, _, c => some (True, c)
  | k + 1, bs, c => match ax_at (axT i) c.1 with
    | none => none
    | some (ins, x, y) => cond (Nat.beq (ax_kind ins x) 0) (match ax_alts L xs ins x y c with
      | none => none
      | some (.inl c1) => ax_path L xs i k bs c1
      | some (.inr alts) => match alts with
        | [] => none
        | [(P, c1)] => (match ax_path L xs i k bs c1 with
          | some (P2, c2) => some (P ∧ P2, c2)
          | none => none)
        | q1 :: q2 :: r => (match bs with
          | [] => none
          | j :: bs => (match ax_nth (q1 :: q2 :: r) j with
            | none => none
            | some (P, c1) => (match ax_path L xs i k bs c1 with
              | some (P2, c2) => some (P ∧ P2, c2)
              | none => none)))) none
theorem ev_alt {L : Nat} {xs : Nat → Int32} {d i pc x y a b : Nat} {ls : AxL} {st : List Value} {w : AxW} {ins : Instr} {c : AxC} {res : AxR} (hat : ax_at (axT i) pc = some (ins, x, y)) (hk : ax_kind ins x = 0) (hn : ax_next (ax_alts L xs ins x y (pc, ls, st, w, a, b)) c) (h : ax_Ev L xs d i c res) :
    ax_Ev L xs d i (pc, ls, st, w, a, b) res := by
  obtain ⟨n, h⟩ := h
  refine ⟨n + 1, ?_⟩
  rw [ax_ev, hat]
  simp only [hk]
  unfold ax_next at hn
  split at hn
  · exact hn.elim
  · next h9 => rw [h9]; subst hn; exact h
  · next h9 => rw [h9]; obtain ⟨P, h1, h2⟩ := hn; exact ⟨(P, c), h1, h2, h⟩
theorem ev_go {L : Nat} {xs : Nat → Int32} {d i : Nat} {res : AxR} : ∀ (k : Nat) (bs : List Nat) {c c1 : AxC} {P : Prop}, ax_path L xs i k bs c = some (P, c1) → P → ax_Ev L xs d i c1 res → ax_Ev L xs d i c res
  | 0, bs, c, c1, P, h, hp, hE => by
    simp only [ax_path, Option.some.injEq, Prod.mk.injEq] at h
    rw [h.2]
    exact hE
  | k + 1, bs, c, c1, P, h, hp, hE => by
    obtain ⟨pc, ls, st, w, a, b⟩ := c
    simp only [ax_path] at h
    split at h
    · cases h
    · next ins x y hat =>
      cases hk : Nat.beq (ax_kind ins x) 0 with
      | false => rw [hk] at h; cases h
      | true =>
        rw [hk] at h
        have hk := Nat.eq_of_beq_eq_true hk
        simp only [cond_true] at h
        split at h
        · cases h
        · next c2 h2 => exact ev_alt hat hk (c := c2) (by rw [h2]; rfl) (ev_go k bs h hp hE)
        · next alts h2 =>
          split at h
          · cases h
          · next P1 c2 =>
            split at h
            · next P2 c3 h3 =>
              simp only [Option.some.injEq, Prod.mk.injEq] at h
              obtain ⟨e1, e2⟩ := h
              subst e1; subst e2
              exact ev_alt hat hk (c := c2) (by rw [h2]; exact ⟨P1, List.mem_cons_self, hp.1⟩) (ev_go k bs h3 hp.2 hE)
            · cases h
          · next q1 q2 r =>
            split at h
            · cases h
            · next j bs1 =>
              split at h
              · cases h
              · next P1 c2 h4 =>
                split at h
                · next P2 c3 h3 =>
                  simp only [Option.some.injEq, Prod.mk.injEq] at h
                  obtain ⟨e1, e2⟩ := h
                  subst e1; subst e2
                  rw [ax_nth_eq] at h4
                  exact ev_alt hat hk (c := c2) (by rw [h2]; exact ⟨P1, List.mem_of_getElem? h4, hp.1⟩) (ev_go k bs1 h3 hp.2 hE)
                · cases h
/-- the receiver, as a program decides it -/
def ax_rb (w : AxW) (j : Nat) : List Value → Bool
  | .ref (c + 1) :: _ => (match ax_nth w c with
    | some (.inr (ci, _)) => Nat.beq ci (axCi j)
    | _ => false)
  | _ => false
theorem ax_rb_ok {w : AxW} {j : Nat} {as : List Value} (h : ax_rb w j as = true) : ax_rc w j as := by
  unfold ax_rb at h
  split at h
  · split at h
    · next ci fs hw =>
      rw [Nat.eq_of_beq_eq_true h] at hw
      exact ⟨_, hw⟩
    · cases h
  · cases h
/-- a call's data: the callee, its arguments, what stays; whether it is a constructor's -/
def ax_cd (i : Nat) : AxC → Option (Nat × List Value × List Value × Bool)
  | (pc, ls, st, w, _, _) => match ax_at (axT i) pc with
    | none => none
    | some (ins, x, y) => cond (Nat.beq (ax_kind ins x) 1) (match ax_split (axNa y) [] st with
      | none => none
      | some (as, rest) => cond (ax_fr w.length ls rest && ax_wt rest && ax_c1 as && ((Nat.beq x 2 || Nat.beq x 3) || ax_rb w y as)) (some (y, as, rest, Nat.beq x 1 || Nat.beq x 4)) none) none
section AXV
variable {L : Nat} {xs : Nat → Int32} {d i pc y a b a1 b1 : Nat} {ls : AxL} {st as rest : List Value} {w w1 : AxW} {res : AxR} {sp : Bool}
theorem ax_cd_ok (h : ax_cd i (pc, ls, st, w, a, b) = some (y, as, rest, sp)) : ∃ ins x, ax_at (axT i) pc = some (ins, x, y) ∧ ax_kind ins x = 1 ∧ ax_split (axNa y) [] st = some (as, rest) ∧ ax_fr w.length ls rest = true ∧ ax_wt rest = true ∧ ax_c1 as = true ∧ ((Nat.beq x 2 || Nat.beq x 3) = false → ax_rc w y as) ∧ (Nat.beq x 1 || Nat.beq x 4) = sp := by
  simp only [ax_cd] at h
  split at h
  · cases h
  · next ins x y1 hat =>
    cases hk : Nat.beq (ax_kind ins x) 1 with
    | false => rw [hk] at h; cases h
    | true =>
      rw [hk] at h
      simp only [cond_true] at h
      split at h
      · cases h
      · next as1 rest1 hsp =>
        cases hq : (ax_fr w.length ls rest1 && ax_wt rest1 && ax_c1 as1 && ((Nat.beq x 2 || Nat.beq x 3) || ax_rb w y1 as1)) with
        | false => rw [hq] at h; cases h
        | true =>
          rw [hq] at h
          simp only [cond_true, Option.some.injEq, Prod.mk.injEq] at h
          obtain ⟨rfl, rfl, rfl, rfl⟩ := h
          simp only [Bool.and_eq_true] at hq
          obtain ⟨⟨⟨q1, q2⟩, q3⟩, q4⟩ := hq
          refine ⟨ins, x, hat, Nat.eq_of_beq_eq_true hk, hsp, q1, q2, q3, fun h9 => ?_, rfl⟩
          rw [h9, Bool.false_or] at q4
          exact ax_rb_ok q4
/-- a call that returns -/
theorem ev_call {v : Option Value} (h : ax_cd i (pc, ls, st, w, a, b) = some (y, as, rest, sp)) (hd : 2 ≤ d) (hc : ax_Ev L xs (d - 1) y (0, ax_ent 0 as, [], w, a, b) (w1, .inl v, a1, b1)) (hsp : sp = true → v = none)
    (ht : ax_Ev L xs d i (pc + 3, ls, v.toList ++ rest, w1, a1, b1) res) : ax_Ev L xs d i (pc, ls, st, w, a, b) res := by
  obtain ⟨ins, x, h1, h2, h3, h4, h5, h6, h7, h8⟩ := ax_cd_ok h
  obtain ⟨n1, hc⟩ := hc
  obtain ⟨n2, ht⟩ := ht
  refine ⟨max n1 n2 + 1, ?_⟩
  rw [ax_ev, h1]
  simp only [h2]
  rw [h3]
  exact ⟨h4, h5, h6, h7, hd, w1, .inl v, a1, b1, ax_ev_le hc (Nat.le_max_left _ _), fun h9 => by rw [hsp (h8 ▸ h9)], ax_ev_le ht (Nat.le_max_right _ _)⟩
/-- a call that throws, and nothing catches it here -/
theorem ev_callX {x9 : Nat} (h : ax_cd i (pc, ls, st, w, a, b) = some (y, as, rest, false)) (hd : 2 ≤ d) (hh : axHh i = []) (hc : ax_Ev L xs (d - 1) y (0, ax_ent 0 as, [], w, a, b) (w1, .inr x9, a1, b1)) : ax_Ev L xs d i (pc, ls, st, w, a, b) (w1, .inr x9, a1, b1) := by
  obtain ⟨ins, x, h1, h2, h3, h4, h5, h6, h7, h8⟩ := ax_cd_ok h
  obtain ⟨n1, hc⟩ := hc
  refine ⟨n1 + 1, ?_⟩
  rw [ax_ev, h1]
  simp only [h2]
  rw [h3]
  refine ⟨h4, h5, h6, h7, hd, w1, .inr x9, a1, b1, hc, (fun h9 => by rw [h8] at h9; cases h9), ?_⟩
  simp only [hh]
/-- a call that throws, and it is caught here -/
theorem ev_callC {x9 h9 k9 : Nat} (h : ax_cd i (pc, ls, st, w, a, b) = some (y, as, rest, false)) (hd : 2 ≤ d) (hh : axHh i ≠ []) (hc : ax_Ev L xs (d - 1) y (0, ax_ent 0 as, [], w, a, b) (w1, .inr x9, a1, b1)) (hx : ax_hd i x9 = some (h9, k9))
    (ht : ax_Ev L xs d i (h9, ax_del ls k9, [], w1, a1, b1) res) : ax_Ev L xs d i (pc, ls, st, w, a, b) res := by
  obtain ⟨ins, x, h1, h2, h3, h4, h5, h6, h7, h8⟩ := ax_cd_ok h
  obtain ⟨n1, hc⟩ := hc
  obtain ⟨n2, ht⟩ := ht
  refine ⟨max n1 n2 + 1, ?_⟩
  rw [ax_ev, h1]
  simp only [h2]
  rw [h3]
  refine ⟨h4, h5, h6, h7, hd, w1, .inr x9, a1, b1, ax_ev_le hc (Nat.le_max_left _ _), (fun h9 => by rw [h8] at h9; cases h9), ?_⟩
  simp only
  split
  · next h0 => exact absurd h0 hh
  · exact ⟨h9, k9, hx, ax_ev_le ht (Nat.le_max_right _ _)⟩
/-- ends -/
theorem ev_ret {z : Int32} {x : Nat} (hat : ax_at (axT i) pc = some (.ireturn, x, y)) (hr : axRe i = some .int) : ax_Ev L xs d i (pc, ls, [.int z], w, a, b) (w, .inl (some (.int z)), a, b) := by
  refine ⟨1, ?_⟩
  rw [ax_ev, hat]
  refine ⟨?_, rfl⟩
  unfold ax_rv
  rw [hr]
  trivial
theorem ev_retb {z : Int32} {x : Nat} (hat : ax_at (axT i) pc = some (.ireturn, x, y)) (hr : axRe i = some .boolean) (hz : z = 0 ∨ z = 1) : ax_Ev L xs d i (pc, ls, [.int z], w, a, b) (w, .inl (some (.int z)), a, b) := by
  refine ⟨1, ?_⟩
  rw [ax_ev, hat]
  refine ⟨?_, rfl⟩
  unfold ax_rv
  rw [hr]
  exact hz
theorem ev_retv {x : Nat} (hat : ax_at (axT i) pc = some (.return_, x, y)) (hr : axRe i = none) : ax_Ev L xs d i (pc, ls, [], w, a, b) (w, .inl none, a, b) := by
  refine ⟨1, ?_⟩
  rw [ax_ev, hat]
  exact ⟨hr, rfl⟩
theorem ev_thr {j x : Nat} (hat : ax_at (axT i) pc = some (.new j, x, y)) (hk : ax_kind (.new j) x = 3) (hd : 7 ≤ d) (hw : ax_wt st = true) : ax_Ev L xs d i (pc, ls, st, w, a, b) (w, .inr (x - 100), a + 1, b + 6) := by
  refine ⟨1, ?_⟩
  rw [ax_ev, hat]
  simp only [hk]
  exact ⟨hd, hw, by first | rfl | trivial⟩
end AXV
