set_option maxHeartbeats 2000000 in
/-- WHAT OUR MACHINE COMES TO, THE JAVA MACHINE COMES TO -/
theorem ax_sound {l : Launch} {L : Nat} {xs : Nat → Int32} : ∀ n, ax_S l L xs n := by
  intro n
  induction n with
  | zero => intro d i k res h; exact h.elim
  | succ n ih =>
    intro d i k res h hd p e R s m args below meth c A D τ bS a0 b0 n0 σ0 mc ms C hdf hdl hq1 hq2 hm1 hm2 H locs cells slots σ lsA I
    obtain ⟨pc, ls, st, w, a, b⟩ := k
    have hR : 1 ≤ R.frames ∧ 40 ≤ R.locals := by omega
    have I : ax_In i s A D τ bS a0 b0 n0 σ0 ls w a b H locs cells slots σ lsA := I
    simp only [ax_ev] at h
    split at h
    · exact h.elim
    · next ins x y hat =>
      split at h
      · next hk =>
        split at h
        · exact h.elim
        · next c9 hc9 =>
          have h2 := ax_ev_mono n d i c9 res h
          exact ax_simple hk hat (show ax_next (ax_alts L xs ins x y (pc, ls, st, w, a, b)) c9 by rw [hc9]; rfl) C hR I ⟨Nat.le_trans h2.1 hq1, Nat.le_trans h2.2.1 hq2⟩ (ih d i c9 res h hd p e R s m args below meth c A D τ bS a0 b0 n0 σ0 mc ms C hdf hdl hq1 hq2 hm1 hm2)
        · next q9 hc9 =>
          obtain ⟨q, hq, hp, h⟩ := h
          have h2 := ax_ev_mono n d i q.2 res h
          exact ax_simple hk hat (show ax_next (ax_alts L xs ins x y (pc, ls, st, w, a, b)) q.2 by rw [hc9]; exact ⟨q.1, hq, hp⟩) C hR I ⟨Nat.le_trans h2.1 hq1, Nat.le_trans h2.2.1 hq2⟩ (ih d i q.2 res h hd p e R s m args below meth c A D τ bS a0 b0 n0 σ0 mc ms C hdf hdl hq1 hq2 hm1 hm2)
      · next hk =>
        split at h
        · exact h.elim
        · next as rest hsp =>
          obtain ⟨hfr, hwt, hc1, hrc, hd2, w1, r1, a1, b1, hev, hsi, h2⟩ := h
          have hmono := ax_ev_mono n (d - 1) y _ _ hev
          simp only at hmono
          have hfin : a1 ≤ res.2.2.1 ∧ b1 ≤ res.2.2.2 := by
            split at h2
            · have := ax_ev_mono n d i _ _ h2; exact ⟨this.1, this.2.1⟩
            · split at h2
              · subst h2; exact ⟨Nat.le_refl _, Nat.le_refl _⟩
              · obtain ⟨h9, k9, -, h2⟩ := h2
                have := ax_ev_mono n d i _ _ h2; exact ⟨this.1, this.2.1⟩
          obtain ⟨av, hrun⟩ := ax_run (e := e) (below := below) ih hk hat hsp hwt hc1 hrc hd2 hev hsi C hdf hdl I (by omega) (by omega)
          obtain ⟨hi, hx, hb, hr, hml, hown, hts, hlocks, hnm, htab, hG, hA, hl9⟩ := id C
          obtain ⟨hP, hD, hSv, hl, hc, hσ, hn0, hca, hcb, hs0⟩ := id I
          simp only [ax_fr, Bool.and_eq_true] at hfr
          obtain ⟨hf1, hf2⟩ := hfr
          have hA1 : ∀ q, va_A (ax_W σ τ w) H.size q → A q := fun q h => by
            rcases h with ⟨k9, e9, h⟩ | h
            · exact hD.2 k9 (q, e9) h
            · exact hA q (Nat.le_trans hSv.1 h)
          refine ax_called hrun hSv hA1 (fun v hv H1 locs1 σ1 hσ1 h1 h3 h4 => ?_) (fun x9 hv hx6 H1 locs1 σ1 q ce hσ1 h1 h3 h4 hce hcv hcl => ?_)
          · subst hv
            simp only at h2
            have hgo := ih d i _ _ h2 hd p e R s m args below meth c A D τ bS a0 b0 n0 σ0 mc ms C hdf hdl hq1 hq2 hm1 hm2 H1 locs1 (cells + (a1 - a)) (slots + (b1 - b)) σ1 lsA
              ⟨h1, h3, h4, by rw [ax_l_ext hσ1 hf1]; exact hl, hc, fun k9 h9 => (hσ1 k9 (by omega)).trans (hσ k9 h9), by simp only; omega, by simp only; omega, by simp only; omega, (hσ1 0 (Nat.zero_le _)).trans hs0⟩
            have hst : (v.map (ax_v σ1)).toList ++ rest.map (ax_v σ) = (v.toList ++ rest).map (ax_v σ1) := by
              rw [List.map_append, ax_vs_ext hσ1 hf2]
              cases v <;> rfl
            rw [hst]
            exact hgo
          · subst hv
            simp only at h2
            split at h2
            · next hh =>
              subst h2
              refine vx_out (fun z hz => by rw [htab, hh] at hz; cases hz) hlocks hce hcv hcl (fun t ht hW => ⟨⟨σ1, x9, fun k9 h9 => (hσ1 k9 (by omega)).trans (hσ k9 h9), rfl, hx6, rfl, by rw [ht]; exact h1, h3⟩, h4.F ht⟩) h4.2.2 (by simp only at hm1; omega) (by simp only at hm2; omega)
            · next q0 r0 hh =>
              obtain ⟨h9, k9, hhd, h2⟩ := h2
              have hII : ax_isI ins = true := by
                cases ins <;> first | rfl | (simp only [ax_kind, Bool.cond_eq_ite] at hk; first | cases hk | (split at hk <;> cases hk))
              have hlσ : lv_has lsA (axLo i) (ax_l σ1 ls) := by rw [ax_l_ext hσ1 hf1]; exact hl
              refine ax_caughtHere hat hII (by rw [hh]; exact fun h => nomatch h) hx6 hhd C hlσ hc hce hcv hcl (fun lsB hB => ?_)
              have hgo := ih d i _ _ h2 hd p e R s m args below meth c A D τ bS a0 b0 n0 σ0 mc ms C hdf hdl hq1 hq2 hm1 hm2 H1 locs1 (cells + (a1 - a)) (slots + (b1 - b)) σ1 lsB
                ⟨h1, h3, h4, hB, fun z hz => hc z (ax_del_mem ls k9 hz).1, fun k8 h8 => (hσ1 k8 (by omega)).trans (hσ k8 h8), by simp only; omega, by simp only; omega, by simp only; omega, (hσ1 0 (Nat.zero_le _)).trans hs0⟩
              exact hgo
      · next hk =>
        split at h
        · next z =>
          obtain ⟨hz, rfl⟩ := h
          exact ax_iret hat hz C I hm1 hm2
        · obtain ⟨hz, rfl⟩ := h
          exact ax_vret hat hz C I hm1 hm2
        · exact h.elim
      · next hk0 hk1 hk2 =>
        obtain ⟨h7, hwt, rfl⟩ := h
        simp only at hq1 hq2 hm1 hm2
        cases ins
        case new j =>
          refine ax_thrown (j := j) ?_ hat hwt (by omega) (by omega) C I hq1 hq2 hm1 hm2
          cases h9 : Nat.blt x 100 with
          | true => exact absurd (by simp [ax_kind, h9]) hk0
          | false => simp [ax_kind, h9]
        all_goals first
          | exact absurd rfl hk0
          | exact absurd rfl hk1
          | exact absurd rfl hk2
          | (exfalso
             simp only [ax_kind, Bool.cond_eq_ite] at hk0 hk1
             split at hk0
             · next h9 => rw [if_pos h9] at hk1; exact hk1 rfl
             · exact hk0 rfl)
