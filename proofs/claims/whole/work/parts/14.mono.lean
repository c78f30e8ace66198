/-! Counts and cells only grow. -/
theorem ax_alts_mono {L : Nat} {xs : Nat → Int32} {ins : Instr} {x y pc a b : Nat} {ls : AxL} {st : List Value} {w : AxW} {k : AxC} (hn : ax_next (ax_alts L xs ins x y (pc, ls, st, w, a, b)) k) :
    a ≤ k.2.2.2.2.1 ∧ b ≤ k.2.2.2.2.2 ∧ w.length ≤ k.2.2.2.1.length := by
  cases ins
  case tableswitch =>
    simp only [ax_alts] at hn
    split at hn
    · obtain ⟨P, hm, -⟩ := hn
      obtain ⟨q, -, he⟩ := List.mem_map.mp hm
      cases he
      exact ⟨Nat.le_refl _, Nat.le_refl _, Nat.le_refl _⟩
    · exact hn.elim
  case lookupswitch =>
    simp only [ax_alts] at hn
    split at hn
    · obtain ⟨P, hm, -⟩ := hn
      obtain ⟨q, -, he⟩ := List.mem_map.mp hm
      cases he
      exact ⟨Nat.le_refl _, Nat.le_refl _, Nat.le_refl _⟩
    · exact hn.elim
  all_goals
    simp only [ax_alts, ax_b2, Bool.cond_eq_ite] at hn
    (repeat' split at hn)
  all_goals first
    | exact hn.elim
    | (cases hn; exact ⟨Nat.le_refl _, Nat.le_refl _, Nat.le_refl _⟩)
    | (cases hn; simp [ax_upd_eq]; done)
    | (obtain ⟨P, hm, -⟩ := hn
       rcases List.mem_cons.mp hm with hm | hm
       · cases hm; simp [ax_upd_eq]
       · first
         | (rw [List.mem_singleton] at hm; cases hm; simp [ax_upd_eq]; done)
         | cases hm)
theorem ax_ev_mono {L : Nat} {xs : Nat → Int32} : ∀ (n d i : Nat) (k : AxC) (res : AxR), ax_ev L xs n d i k res → k.2.2.2.2.1 ≤ res.2.2.1 ∧ k.2.2.2.2.2 ≤ res.2.2.2 ∧ k.2.2.2.1.length ≤ res.1.length := by
  intro n
  induction n with
  | zero => intro d i k res h; exact h.elim
  | succ n ih =>
    intro d i k res h
    obtain ⟨pc, ls, st, w, a, b⟩ := k
    simp only [ax_ev] at h
    split at h
    · exact h.elim
    · next ins x y hat =>
      split at h
      · split at h
        · exact h.elim
        · next c9 hc9 =>
          have h1 := ax_alts_mono (k := c9) (show ax_next (ax_alts L xs ins x y (pc, ls, st, w, a, b)) c9 by rw [hc9]; rfl)
          have h2 := ih d i c9 res h
          exact ⟨Nat.le_trans h1.1 h2.1, Nat.le_trans h1.2.1 h2.2.1, Nat.le_trans h1.2.2 h2.2.2⟩
        · next q9 hc9 =>
          obtain ⟨q, hq, hp, h⟩ := h
          have h1 := ax_alts_mono (k := q.2) (show ax_next (ax_alts L xs ins x y (pc, ls, st, w, a, b)) q.2 by rw [hc9]; exact ⟨q.1, hq, hp⟩)
          have h2 := ih d i q.2 res h
          exact ⟨Nat.le_trans h1.1 h2.1, Nat.le_trans h1.2.1 h2.2.1, Nat.le_trans h1.2.2 h2.2.2⟩
      · split at h
        · exact h.elim
        · obtain ⟨-, -, -, -, -, w1, r1, a1, b1, h1, -, h2⟩ := h
          have h3 := ih _ _ _ _ h1
          simp only at h3
          split at h2
          · have h4 := ih _ _ _ _ h2
            exact ⟨Nat.le_trans h3.1 h4.1, Nat.le_trans h3.2.1 h4.2.1, Nat.le_trans h3.2.2 h4.2.2⟩
          · split at h2
            · subst h2; exact h3
            · obtain ⟨h9, k9, -, h2⟩ := h2
              have h4 := ih _ _ _ _ h2
              exact ⟨Nat.le_trans h3.1 h4.1, Nat.le_trans h3.2.1 h4.2.1, Nat.le_trans h3.2.2 h4.2.2⟩
      · split at h
        · obtain ⟨-, rfl⟩ := h
          exact ⟨Nat.le_refl _, Nat.le_refl _, Nat.le_refl _⟩
        · obtain ⟨-, rfl⟩ := h
          exact ⟨Nat.le_refl _, Nat.le_refl _, Nat.le_refl _⟩
        · exact h.elim
      · obtain ⟨-, -, rfl⟩ := h
        exact ⟨Nat.le_succ _, Nat.le_add_right _ _, Nat.le_refl _⟩
