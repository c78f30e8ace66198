/-! .. instruction by instruction. -/
section BSN
variable {L : Nat} {xs : Nat → Int32} {x y pc a b : Nat} {ls : BL} {st : List BV} {w : BW} {k : BC}
theorem bs_iload {j : Nat} (hL : L ≤ 2050) (h1 : ∀ q ∈ ls, b_okv q.2) (h2 : ∀ v ∈ st, b_okv v) (h3 : ∀ e ∈ w, b_oke e) (hn : bx_next (bx_alts L xs (.iload j) x y (pc, ls, st, w, a, b)) k) : ax_next (ax_alts L xs (.iload j) x y (b_c (pc, ls, st, w, a, b))) (b_c k) ∧ b_ok k := by
  simp only [bx_alts] at hn
  split at hn
  · next z hz =>
    cases hn
    refine ⟨?_, h1, b_cons (b_get_ok h1 hz) h2, h3⟩
    simp only [ax_alts, b_c]
    rw [b_get, hz]
    exact rfl
  · exact hn.elim
theorem bs_iload_n {j : Fin 4} (hL : L ≤ 2050) (h1 : ∀ q ∈ ls, b_okv q.2) (h2 : ∀ v ∈ st, b_okv v) (h3 : ∀ e ∈ w, b_oke e) (hn : bx_next (bx_alts L xs (.iload_n j) x y (pc, ls, st, w, a, b)) k) : ax_next (ax_alts L xs (.iload_n j) x y (b_c (pc, ls, st, w, a, b))) (b_c k) ∧ b_ok k := by
  simp only [bx_alts] at hn
  split at hn
  · next z hz =>
    cases hn
    refine ⟨?_, h1, b_cons (b_get_ok h1 hz) h2, h3⟩
    simp only [ax_alts, b_c]
    rw [b_get, hz]
    exact rfl
  · exact hn.elim
theorem bs_aload {j : Nat} (hL : L ≤ 2050) (h1 : ∀ q ∈ ls, b_okv q.2) (h2 : ∀ v ∈ st, b_okv v) (h3 : ∀ e ∈ w, b_oke e) (hn : bx_next (bx_alts L xs (.aload j) x y (pc, ls, st, w, a, b)) k) : ax_next (ax_alts L xs (.aload j) x y (b_c (pc, ls, st, w, a, b))) (b_c k) ∧ b_ok k := by
  simp only [bx_alts] at hn
  split at hn
  · next z hz =>
    cases hn
    refine ⟨?_, h1, b_cons (b_get_ok h1 hz) h2, h3⟩
    simp only [ax_alts, b_c]
    rw [b_get, hz]
    exact rfl
  · exact hn.elim
theorem bs_aload_n {j : Fin 4} (hL : L ≤ 2050) (h1 : ∀ q ∈ ls, b_okv q.2) (h2 : ∀ v ∈ st, b_okv v) (h3 : ∀ e ∈ w, b_oke e) (hn : bx_next (bx_alts L xs (.aload_n j) x y (pc, ls, st, w, a, b)) k) : ax_next (ax_alts L xs (.aload_n j) x y (b_c (pc, ls, st, w, a, b))) (b_c k) ∧ b_ok k := by
  simp only [bx_alts] at hn
  split at hn
  · next z hz =>
    cases hn
    refine ⟨?_, h1, b_cons (b_get_ok h1 hz) h2, h3⟩
    simp only [ax_alts, b_c]
    rw [b_get, hz]
    exact rfl
  · exact hn.elim
theorem bs_istore {j : Nat} (hL : L ≤ 2050) (h1 : ∀ q ∈ ls, b_okv q.2) (h2 : ∀ v ∈ st, b_okv v) (h3 : ∀ e ∈ w, b_oke e) (hn : bx_next (bx_alts L xs (.istore j) x y (pc, ls, st, w, a, b)) k) : ax_next (ax_alts L xs (.istore j) x y (b_c (pc, ls, st, w, a, b))) (b_c k) ∧ b_ok k := by
  simp only [bx_alts] at hn
  split at hn
  · next z r =>
    cases hn
    exact ⟨congrArg (fun q => ((pc + 2, q, r.map b_v, w.map b_e, a, b) : AxC)) (b_set ls j (.inl z)), b_set_ok h1 (b_hd h2), b_tl h2, h3⟩
  · exact hn.elim
theorem bs_istore_n {j : Fin 4} (hL : L ≤ 2050) (h1 : ∀ q ∈ ls, b_okv q.2) (h2 : ∀ v ∈ st, b_okv v) (h3 : ∀ e ∈ w, b_oke e) (hn : bx_next (bx_alts L xs (.istore_n j) x y (pc, ls, st, w, a, b)) k) : ax_next (ax_alts L xs (.istore_n j) x y (b_c (pc, ls, st, w, a, b))) (b_c k) ∧ b_ok k := by
  simp only [bx_alts] at hn
  split at hn
  · next z r =>
    cases hn
    exact ⟨congrArg (fun q => ((pc + 1, q, r.map b_v, w.map b_e, a, b) : AxC)) (b_set ls j.val (.inl z)), b_set_ok h1 (b_hd h2), b_tl h2, h3⟩
  · exact hn.elim
theorem bs_astore {j : Nat} (hL : L ≤ 2050) (h1 : ∀ q ∈ ls, b_okv q.2) (h2 : ∀ v ∈ st, b_okv v) (h3 : ∀ e ∈ w, b_oke e) (hn : bx_next (bx_alts L xs (.astore j) x y (pc, ls, st, w, a, b)) k) : ax_next (ax_alts L xs (.astore j) x y (b_c (pc, ls, st, w, a, b))) (b_c k) ∧ b_ok k := by
  simp only [bx_alts] at hn
  split at hn
  · next z r =>
    cases hn
    exact ⟨congrArg (fun q => ((pc + 2, q, r.map b_v, w.map b_e, a, b) : AxC)) (b_set ls j (.inr (.inl z))), b_set_ok h1 (b_hd h2), b_tl h2, h3⟩
  · exact hn.elim
theorem bs_astore_n {j : Fin 4} (hL : L ≤ 2050) (h1 : ∀ q ∈ ls, b_okv q.2) (h2 : ∀ v ∈ st, b_okv v) (h3 : ∀ e ∈ w, b_oke e) (hn : bx_next (bx_alts L xs (.astore_n j) x y (pc, ls, st, w, a, b)) k) : ax_next (ax_alts L xs (.astore_n j) x y (b_c (pc, ls, st, w, a, b))) (b_c k) ∧ b_ok k := by
  simp only [bx_alts] at hn
  split at hn
  · next z r =>
    cases hn
    exact ⟨congrArg (fun q => ((pc + 1, q, r.map b_v, w.map b_e, a, b) : AxC)) (b_set ls j.val (.inr (.inl z))), b_set_ok h1 (b_hd h2), b_tl h2, h3⟩
  · exact hn.elim
theorem bs_iconst {v : Int} (hL : L ≤ 2050) (h1 : ∀ q ∈ ls, b_okv q.2) (h2 : ∀ v ∈ st, b_okv v) (h3 : ∀ e ∈ w, b_oke e) (hn : bx_next (bx_alts L xs (.iconst v) x y (pc, ls, st, w, a, b)) k) : ax_next (ax_alts L xs (.iconst v) x y (b_c (pc, ls, st, w, a, b))) (b_c k) ∧ b_ok k := by
  simp only [bx_alts] at hn
  cases hv : bx_sm 6 v with
  | false => rw [hv] at hn; exact hn.elim
  | true =>
    rw [hv] at hn
    cases hn
    have := b_sm hv
    exact ⟨rfl, h1, b_cons ⟨by omega, by omega⟩ h2, h3⟩
theorem bs_bipush {v : Int} (hL : L ≤ 2050) (h1 : ∀ q ∈ ls, b_okv q.2) (h2 : ∀ v ∈ st, b_okv v) (h3 : ∀ e ∈ w, b_oke e) (hn : bx_next (bx_alts L xs (.bipush v) x y (pc, ls, st, w, a, b)) k) : ax_next (ax_alts L xs (.bipush v) x y (b_c (pc, ls, st, w, a, b))) (b_c k) ∧ b_ok k := by
  simp only [bx_alts] at hn
  cases hv : bx_sm 128 v with
  | false => rw [hv] at hn; exact hn.elim
  | true =>
    rw [hv] at hn
    cases hn
    have q := b_b8 hv
    exact ⟨congrArg (fun z => ((pc + 2, b_l ls, Value.int z :: st.map b_v, w.map b_e, a, b) : AxC)) q.1, h1, b_cons q.2 h2, h3⟩
theorem bs_sipush {v : Int} (hL : L ≤ 2050) (h1 : ∀ q ∈ ls, b_okv q.2) (h2 : ∀ v ∈ st, b_okv v) (h3 : ∀ e ∈ w, b_oke e) (hn : bx_next (bx_alts L xs (.sipush v) x y (pc, ls, st, w, a, b)) k) : ax_next (ax_alts L xs (.sipush v) x y (b_c (pc, ls, st, w, a, b))) (b_c k) ∧ b_ok k := by
  simp only [bx_alts] at hn
  cases hv : bx_sm 32768 v with
  | false => rw [hv] at hn; exact hn.elim
  | true =>
    rw [hv] at hn
    cases hn
    have q := b_b16 hv
    exact ⟨congrArg (fun z => ((pc + 3, b_l ls, Value.int z :: st.map b_v, w.map b_e, a, b) : AxC)) q.1, h1, b_cons q.2 h2, h3⟩
theorem bs_ldc {j : Nat} (hL : L ≤ 2050) (h1 : ∀ q ∈ ls, b_okv q.2) (h2 : ∀ v ∈ st, b_okv v) (h3 : ∀ e ∈ w, b_oke e) (hn : bx_next (bx_alts L xs (.ldc j) x y (pc, ls, st, w, a, b)) k) : ax_next (ax_alts L xs (.ldc j) x y (b_c (pc, ls, st, w, a, b))) (b_c k) ∧ b_ok k := by
  simp only [bx_alts] at hn
  cases hv : Nat.blt x 2147483648 with
  | false => rw [hv] at hn; exact hn.elim
  | true =>
    rw [hv] at hn
    cases hz : Nat.beq x 0 with
    | true => rw [hz] at hn; exact hn.elim
    | false =>
      rw [hz] at hn
      cases hn
      refine ⟨?_, h1, b_cons (b_nat (ax_blt hv)).2 h2, h3⟩
      simp only [ax_alts, b_c, hz]
      exact rfl
theorem bs_iinc {j : Nat} {v : Int} (hL : L ≤ 2050) (h1 : ∀ q ∈ ls, b_okv q.2) (h2 : ∀ v ∈ st, b_okv v) (h3 : ∀ e ∈ w, b_oke e) (hn : bx_next (bx_alts L xs (.iinc j v) x y (pc, ls, st, w, a, b)) k) : ax_next (ax_alts L xs (.iinc j v) x y (b_c (pc, ls, st, w, a, b))) (b_c k) ∧ b_ok k := by
  simp only [bx_alts] at hn
  split at hn
  · next z hz =>
    obtain ⟨hp, rfl⟩ := b_one hn
    refine ⟨?_, b_set_ok h1 hp, h2, h3⟩
    simp only [ax_alts, b_c]
    rw [b_get, hz]
    show _ = _
    rw [← b_set]
    simp only [b_v, Int32.ofInt_add]
  · exact hn.elim
theorem bs_iadd (hL : L ≤ 2050) (h1 : ∀ q ∈ ls, b_okv q.2) (h2 : ∀ v ∈ st, b_okv v) (h3 : ∀ e ∈ w, b_oke e) (hn : bx_next (bx_alts L xs (.iadd) x y (pc, ls, st, w, a, b)) k) : ax_next (ax_alts L xs (.iadd) x y (b_c (pc, ls, st, w, a, b))) (b_c k) ∧ b_ok k := by
  simp only [bx_alts] at hn
  split at hn
  · next q p r =>
    obtain ⟨hp, rfl⟩ := b_one hn
    refine ⟨?_, h1, b_cons hp (b_tl (b_tl h2)), h3⟩
    show _ = _
    simp only [b_c, b_v, List.map_cons, Int32.ofInt_add]
  · exact hn.elim
theorem bs_isub (hL : L ≤ 2050) (h1 : ∀ q ∈ ls, b_okv q.2) (h2 : ∀ v ∈ st, b_okv v) (h3 : ∀ e ∈ w, b_oke e) (hn : bx_next (bx_alts L xs (.isub) x y (pc, ls, st, w, a, b)) k) : ax_next (ax_alts L xs (.isub) x y (b_c (pc, ls, st, w, a, b))) (b_c k) ∧ b_ok k := by
  simp only [bx_alts] at hn
  split at hn
  · next q p r =>
    obtain ⟨hp, rfl⟩ := b_one hn
    refine ⟨?_, h1, b_cons hp (b_tl (b_tl h2)), h3⟩
    show _ = _
    simp only [b_c, b_v, List.map_cons, Int32.ofInt_sub]
  · exact hn.elim
theorem bs_imul (hL : L ≤ 2050) (h1 : ∀ q ∈ ls, b_okv q.2) (h2 : ∀ v ∈ st, b_okv v) (h3 : ∀ e ∈ w, b_oke e) (hn : bx_next (bx_alts L xs (.imul) x y (pc, ls, st, w, a, b)) k) : ax_next (ax_alts L xs (.imul) x y (b_c (pc, ls, st, w, a, b))) (b_c k) ∧ b_ok k := by
  simp only [bx_alts] at hn
  split at hn
  · next q p r =>
    obtain ⟨hp, rfl⟩ := b_one hn
    refine ⟨?_, h1, b_cons hp (b_tl (b_tl h2)), h3⟩
    show _ = _
    simp only [b_c, b_v, List.map_cons, Int32.ofInt_mul]
  · exact hn.elim
theorem bs_iand (hL : L ≤ 2050) (h1 : ∀ q ∈ ls, b_okv q.2) (h2 : ∀ v ∈ st, b_okv v) (h3 : ∀ e ∈ w, b_oke e) (hn : bx_next (bx_alts L xs (.iand) x y (pc, ls, st, w, a, b)) k) : ax_next (ax_alts L xs (.iand) x y (b_c (pc, ls, st, w, a, b))) (b_c k) ∧ b_ok k := by
  simp only [bx_alts] at hn
  split at hn
  · next q p r =>
    cases hn
    refine ⟨?_, h1, b_cons (b_in32 _) (b_tl (b_tl h2)), h3⟩
    show _ = _
    simp only [b_c, b_v, List.map_cons, bAnd, b_ofInt]
  · exact hn.elim
theorem bs_ixor (hL : L ≤ 2050) (h1 : ∀ q ∈ ls, b_okv q.2) (h2 : ∀ v ∈ st, b_okv v) (h3 : ∀ e ∈ w, b_oke e) (hn : bx_next (bx_alts L xs (.ixor) x y (pc, ls, st, w, a, b)) k) : ax_next (ax_alts L xs (.ixor) x y (b_c (pc, ls, st, w, a, b))) (b_c k) ∧ b_ok k := by
  simp only [bx_alts] at hn
  split at hn
  · next q p r =>
    cases hn
    refine ⟨?_, h1, b_cons (b_in32 _) (b_tl (b_tl h2)), h3⟩
    show _ = _
    simp only [b_c, b_v, List.map_cons, bXor, b_ofInt]
  · exact hn.elim
theorem bs_ishl (hL : L ≤ 2050) (h1 : ∀ q ∈ ls, b_okv q.2) (h2 : ∀ v ∈ st, b_okv v) (h3 : ∀ e ∈ w, b_oke e) (hn : bx_next (bx_alts L xs (.ishl) x y (pc, ls, st, w, a, b)) k) : ax_next (ax_alts L xs (.ishl) x y (b_c (pc, ls, st, w, a, b))) (b_c k) ∧ b_ok k := by
  simp only [bx_alts] at hn
  split at hn
  · next q p r =>
    cases hn
    refine ⟨?_, h1, b_cons (b_in32 _) (b_tl (b_tl h2)), h3⟩
    show _ = _
    simp only [b_c, b_v, List.map_cons, bShl, b_ofInt]
  · exact hn.elim
theorem bs_ishr (hL : L ≤ 2050) (h1 : ∀ q ∈ ls, b_okv q.2) (h2 : ∀ v ∈ st, b_okv v) (h3 : ∀ e ∈ w, b_oke e) (hn : bx_next (bx_alts L xs (.ishr) x y (pc, ls, st, w, a, b)) k) : ax_next (ax_alts L xs (.ishr) x y (b_c (pc, ls, st, w, a, b))) (b_c k) ∧ b_ok k := by
  simp only [bx_alts] at hn
  split at hn
  · next q p r =>
    cases hn
    refine ⟨?_, h1, b_cons (b_in32 _) (b_tl (b_tl h2)), h3⟩
    show _ = _
    simp only [b_c, b_v, List.map_cons, bShr, b_ofInt]
  · exact hn.elim
theorem bs_idiv (hL : L ≤ 2050) (h1 : ∀ q ∈ ls, b_okv q.2) (h2 : ∀ v ∈ st, b_okv v) (h3 : ∀ e ∈ w, b_oke e) (hn : bx_next (bx_alts L xs (.idiv) x y (pc, ls, st, w, a, b)) k) : ax_next (ax_alts L xs (.idiv) x y (b_c (pc, ls, st, w, a, b))) (b_c k) ∧ b_ok k := by
  simp only [bx_alts] at hn
  split at hn
  · next q p r =>
    obtain ⟨hp, rfl⟩ := b_one hn
    have g := b_div hp.1 hp.2 (b_hd (b_tl h2)) (b_hd h2)
    refine ⟨?_, h1, b_cons g.2 (b_tl (b_tl h2)), h3⟩
    have e : b_c (pc + 1, ls, Sum.inl (p / q) :: r, w, a, b) = (pc + 1, b_l ls, Value.int (Int32.ofInt p / Int32.ofInt q) :: r.map b_v, w.map b_e, a, b) := by
      rw [g.1]; rfl
    rw [e]
    exact a_one (b_nz (b_hd h2) hp.2)
  · exact hn.elim
theorem bs_irem (hL : L ≤ 2050) (h1 : ∀ q ∈ ls, b_okv q.2) (h2 : ∀ v ∈ st, b_okv v) (h3 : ∀ e ∈ w, b_oke e) (hn : bx_next (bx_alts L xs (.irem) x y (pc, ls, st, w, a, b)) k) : ax_next (ax_alts L xs (.irem) x y (b_c (pc, ls, st, w, a, b))) (b_c k) ∧ b_ok k := by
  simp only [bx_alts] at hn
  split at hn
  · next q p r =>
    obtain ⟨hp, rfl⟩ := b_one hn
    have g := b_rem hp.1 hp.2 (b_hd (b_tl h2)) (b_hd h2)
    refine ⟨?_, h1, b_cons g.2 (b_tl (b_tl h2)), h3⟩
    have e : b_c (pc + 1, ls, Sum.inl (p % q) :: r, w, a, b) = (pc + 1, b_l ls, Value.int (Int32.ofInt p - Int32.ofInt p / Int32.ofInt q * Int32.ofInt q) :: r.map b_v, w.map b_e, a, b) := by
      rw [g.1]; rfl
    rw [e]
    exact a_one (b_nz (b_hd h2) hp.2)
  · exact hn.elim
theorem bs_i2l (hL : L ≤ 2050) (h1 : ∀ q ∈ ls, b_okv q.2) (h2 : ∀ v ∈ st, b_okv v) (h3 : ∀ e ∈ w, b_oke e) (hn : bx_next (bx_alts L xs (.i2l) x y (pc, ls, st, w, a, b)) k) : ax_next (ax_alts L xs (.i2l) x y (b_c (pc, ls, st, w, a, b))) (b_c k) ∧ b_ok k := by
  simp only [bx_alts] at hn
  split at hn
  · next p r =>
    cases hn
    exact ⟨congrArg (fun z => ((pc + 1, b_l ls, Value.long z :: r.map b_v, w.map b_e, a, b) : AxC)) (b_i2l (b_hd h2)), h1, b_cons (b_hd h2 : b_in p) (b_tl h2), h3⟩
  · exact hn.elim
theorem bs_lcmp (hL : L ≤ 2050) (h1 : ∀ q ∈ ls, b_okv q.2) (h2 : ∀ v ∈ st, b_okv v) (h3 : ∀ e ∈ w, b_oke e) (hn : bx_next (bx_alts L xs (.lcmp) x y (pc, ls, st, w, a, b)) k) : ax_next (ax_alts L xs (.lcmp) x y (b_c (pc, ls, st, w, a, b))) (b_c k) ∧ b_ok k := by
  simp only [bx_alts] at hn
  split at hn
  · next q p r =>
    cases hn
    have g := b_lcmp (p := p) (q := q) (b_hd (b_tl h2)) (b_hd h2)
    exact ⟨congrArg (fun z => ((pc + 1, b_l ls, Value.int z :: r.map b_v, w.map b_e, a, b) : AxC)) g.1, h1, b_cons g.2 (b_tl (b_tl h2)), h3⟩
  · exact hn.elim
theorem bs_dup (hL : L ≤ 2050) (h1 : ∀ q ∈ ls, b_okv q.2) (h2 : ∀ v ∈ st, b_okv v) (h3 : ∀ e ∈ w, b_oke e) (hn : bx_next (bx_alts L xs (.dup) x y (pc, ls, st, w, a, b)) k) : ax_next (ax_alts L xs (.dup) x y (b_c (pc, ls, st, w, a, b))) (b_c k) ∧ b_ok k := by
  simp only [bx_alts] at hn
  split at hn
  · cases hn
    exact ⟨rfl, h1, b_cons (b_hd h2) h2, h3⟩
  · cases hn
    exact ⟨rfl, h1, b_cons (b_hd h2) h2, h3⟩
  · exact hn.elim
theorem bs_goto {o : Int} (hL : L ≤ 2050) (h1 : ∀ q ∈ ls, b_okv q.2) (h2 : ∀ v ∈ st, b_okv v) (h3 : ∀ e ∈ w, b_oke e) (hn : bx_next (bx_alts L xs (.goto o) x y (pc, ls, st, w, a, b)) k) : ax_next (ax_alts L xs (.goto o) x y (b_c (pc, ls, st, w, a, b))) (b_c k) ∧ b_ok k := by
  cases hn
  exact ⟨rfl, h1, h2, h3⟩
theorem bs_if_icmp {c : ClassFile.Cond} {o : Int} (hL : L ≤ 2050) (h1 : ∀ q ∈ ls, b_okv q.2) (h2 : ∀ v ∈ st, b_okv v) (h3 : ∀ e ∈ w, b_oke e) (hn : bx_next (bx_alts L xs (.if_icmp c o) x y (pc, ls, st, w, a, b)) k) : ax_next (ax_alts L xs (.if_icmp c o) x y (b_c (pc, ls, st, w, a, b))) (b_c k) ∧ b_ok k := by
  simp only [bx_alts] at hn
  split at hn
  · next q p r =>
    obtain ⟨g1, g2⟩ := b_cmp (b_hd (b_tl h2)) (b_hd h2) hn
    refine ⟨g1, ?_⟩
    rcases g2 with rfl | rfl
    · exact ⟨h1, b_tl (b_tl h2), h3⟩
    · exact ⟨h1, b_tl (b_tl h2), h3⟩
  · exact hn.elim
theorem bs_ifCond {c : ClassFile.Cond} {o : Int} (hL : L ≤ 2050) (h1 : ∀ q ∈ ls, b_okv q.2) (h2 : ∀ v ∈ st, b_okv v) (h3 : ∀ e ∈ w, b_oke e) (hn : bx_next (bx_alts L xs (.ifCond c o) x y (pc, ls, st, w, a, b)) k) : ax_next (ax_alts L xs (.ifCond c o) x y (b_c (pc, ls, st, w, a, b))) (b_c k) ∧ b_ok k := by
  simp only [bx_alts] at hn
  split at hn
  · next p r =>
    obtain ⟨g1, g2⟩ := b_cmp (b_hd h2) (y := 0) ⟨by omega, by omega⟩ hn
    refine ⟨g1, ?_⟩
    rcases g2 with rfl | rfl
    · exact ⟨h1, b_tl h2, h3⟩
    · exact ⟨h1, b_tl h2, h3⟩
  · exact hn.elim
theorem bs_tableswitch {dflt lo hi : Int} {offs : Array Int} (hL : L ≤ 2050) (h1 : ∀ q ∈ ls, b_okv q.2) (h2 : ∀ v ∈ st, b_okv v) (h3 : ∀ e ∈ w, b_oke e) (hn : bx_next (bx_alts L xs (.tableswitch dflt lo hi offs) x y (pc, ls, st, w, a, b)) k) : ax_next (ax_alts L xs (.tableswitch dflt lo hi offs) x y (b_c (pc, ls, st, w, a, b))) (b_c k) ∧ b_ok k := by
  simp only [bx_alts] at hn
  split at hn
  · next p r =>
    obtain ⟨P, g1, g2⟩ := hn
    rcases List.mem_cons.mp g1 with g1 | g1
    · cases g1
      refine ⟨⟨_, List.mem_cons_self, ?_⟩, h1, b_tl h2, h3⟩
      rw [b_toInt (b_hd h2)]
      exact g2
    · obtain ⟨⟨P', q1, q2⟩, pc', rfl⟩ := b_sw (b_hd h2) offs.toList 0 P k g1 g2
      exact ⟨⟨P', List.mem_cons_of_mem _ q1, q2⟩, h1, b_tl h2, h3⟩
  · exact hn.elim
theorem bs_lookupswitch {dflt : Int} {ps : Array (Int × Int)} (hL : L ≤ 2050) (h1 : ∀ q ∈ ls, b_okv q.2) (h2 : ∀ v ∈ st, b_okv v) (h3 : ∀ e ∈ w, b_oke e) (hn : bx_next (bx_alts L xs (.lookupswitch dflt ps) x y (pc, ls, st, w, a, b)) k) : ax_next (ax_alts L xs (.lookupswitch dflt ps) x y (b_c (pc, ls, st, w, a, b))) (b_c k) ∧ b_ok k := by
  simp only [bx_alts] at hn
  split at hn
  · next p r =>
    obtain ⟨P, g1, g2⟩ := hn
    obtain ⟨⟨P', q1, q2⟩, pc', rfl⟩ := b_lk (b_hd h2) _ P k g1 g2
    exact ⟨⟨P', q1, q2⟩, h1, b_tl h2, h3⟩
  · exact hn.elim
theorem bs_getfield {j : Nat} (hL : L ≤ 2050) (h1 : ∀ q ∈ ls, b_okv q.2) (h2 : ∀ v ∈ st, b_okv v) (h3 : ∀ e ∈ w, b_oke e) (hn : bx_next (bx_alts L xs (.getfield j) x y (pc, ls, st, w, a, b)) k) : ax_next (ax_alts L xs (.getfield j) x y (b_c (pc, ls, st, w, a, b))) (b_c k) ∧ b_ok k := by
  simp only [bx_alts] at hn
  split at hn
  · next c r =>
    split at hn
    · next ci fs hw =>
      cases hb : Nat.beq ci x with
      | false => rw [hb] at hn; exact hn.elim
      | true =>
        rw [hb] at hn
        simp only [cond_true] at hn
        split at hn
        · next v hv =>
          cases hn
          refine ⟨?_, h1, b_cons ((h3 _ (b_nth_mem hw) : ∀ v ∈ fs, b_okv v) _ (b_nth_mem hv)) (b_tl h2), h3⟩
          simp only [ax_alts, b_c, List.map_cons, b_v]
          rw [b_nth, hw]
          simp only [Option.map, b_e, hb, cond_true]
          rw [b_nth, hv]
          exact rfl
        · exact hn.elim
    · exact hn.elim
  · exact hn.elim
theorem bs_putfield {j : Nat} (hL : L ≤ 2050) (h1 : ∀ q ∈ ls, b_okv q.2) (h2 : ∀ v ∈ st, b_okv v) (h3 : ∀ e ∈ w, b_oke e) (hn : bx_next (bx_alts L xs (.putfield j) x y (pc, ls, st, w, a, b)) k) : ax_next (ax_alts L xs (.putfield j) x y (b_c (pc, ls, st, w, a, b))) (b_c k) ∧ b_ok k := by
  simp only [bx_alts] at hn
  split at hn
  · next v c r =>
    split at hn
    · next ci fs hw =>
      cases hb : (Nat.beq ci x && Nat.blt y fs.length && ax_fit (axTy x y) (b_v v)) with
      | false => rw [hb] at hn; exact hn.elim
      | true =>
        rw [hb] at hn
        cases hn
        have hfs : ∀ v ∈ fs, b_okv v := h3 _ (b_nth_mem hw)
        refine ⟨?_, h1, b_tl (b_tl h2), b_updw h3 ?_⟩
        · show ax_next (ax_alts L xs (.putfield j) x y (pc, b_l ls, b_v v :: Value.ref (c + 1) :: r.map b_v, w.map b_e, a, b)) _
          simp only [ax_alts]
          rw [b_nth, hw]
          simp only [Option.map, b_e, List.length_map, hb, cond_true]
          show _ = _
          rw [b_upd b_v]
          simp only [b_c, ← b_upd b_e]
          rfl
        · intro u hu
          rcases b_upd_mem hu with g | g
          · rw [g]; exact b_hd h2
          · exact hfs u g
    · exact hn.elim
  · exact hn.elim
theorem bs_iaload (hL : L ≤ 2050) (h1 : ∀ q ∈ ls, b_okv q.2) (h2 : ∀ v ∈ st, b_okv v) (h3 : ∀ e ∈ w, b_oke e) (hn : bx_next (bx_alts L xs (.iaload) x y (pc, ls, st, w, a, b)) k) : ax_next (ax_alts L xs (.iaload) x y (b_c (pc, ls, st, w, a, b))) (b_c k) ∧ b_ok k := by
  simp only [bx_alts] at hn
  split at hn
  · next j r =>
    obtain ⟨hp, rfl⟩ := b_one hn
    have g := b_idx hp.1 hp.2 (by omega)
    refine ⟨?_, h1, b_cons (b_in32 _) (b_tl (b_tl h2)), h3⟩
    have e : b_c (pc + 1, ls, Sum.inl (xs j.toNat).toInt :: r, w, a, b) = (pc + 1, b_l ls, Value.int (xs (Int32.ofInt j).toNatClampNeg) :: r.map b_v, w.map b_e, a, b) := by
      rw [g.2.2]
      simp only [b_c, List.map_cons, b_v, b_ofInt]
    rw [e]
    exact a_one g.1
  · next j c r =>
    split at hn
    · next n f hw =>
      cases hb : Nat.blt n 2147483648 with
      | false => rw [hb] at hn; exact hn.elim
      | true =>
        rw [hb] at hn
        obtain ⟨hp, rfl⟩ := b_one hn
        have g := b_idx hp.1 hp.2 (Nat.le_of_lt (ax_blt hb))
        have hf : ∀ j, b_in (f j) := h3 _ (b_nth_mem hw)
        refine ⟨?_, h1, b_cons (hf j) (b_tl (b_tl h2)), h3⟩
        simp only [ax_alts, b_c, List.map_cons, b_v]
        rw [b_nth, hw]
        refine ⟨_, List.mem_cons.mpr (Or.inl ?_), g.1⟩
        simp only [g.2.1]
    · exact hn.elim
  · exact hn.elim
theorem bs_baload (hL : L ≤ 2050) (h1 : ∀ q ∈ ls, b_okv q.2) (h2 : ∀ v ∈ st, b_okv v) (h3 : ∀ e ∈ w, b_oke e) (hn : bx_next (bx_alts L xs (.baload) x y (pc, ls, st, w, a, b)) k) : ax_next (ax_alts L xs (.baload) x y (b_c (pc, ls, st, w, a, b))) (b_c k) ∧ b_ok k := by
  simp only [bx_alts] at hn
  split at hn
  · next j c r =>
    split at hn
    · next n f hw =>
      cases hb : Nat.blt n 2147483648 with
      | false => rw [hb] at hn; exact hn.elim
      | true =>
        rw [hb] at hn
        obtain ⟨hp, rfl⟩ := b_one hn
        have g := b_idx hp.1 hp.2 (Nat.le_of_lt (ax_blt hb))
        have hf : ∀ j, b_in (f j) := h3 _ (b_nth_mem hw)
        refine ⟨?_, h1, b_cons (hf j) (b_tl (b_tl h2)), h3⟩
        simp only [ax_alts, b_c, List.map_cons, b_v]
        rw [b_nth, hw]
        refine ⟨_, List.mem_cons.mpr (Or.inl ?_), g.1⟩
        simp only [g.2.1]
    · exact hn.elim
  · exact hn.elim
theorem bs_laload (hL : L ≤ 2050) (h1 : ∀ q ∈ ls, b_okv q.2) (h2 : ∀ v ∈ st, b_okv v) (h3 : ∀ e ∈ w, b_oke e) (hn : bx_next (bx_alts L xs (.laload) x y (pc, ls, st, w, a, b)) k) : ax_next (ax_alts L xs (.laload) x y (b_c (pc, ls, st, w, a, b))) (b_c k) ∧ b_ok k := by
  simp only [bx_alts] at hn
  split at hn
  · next j c r =>
    split at hn
    · next n f hw =>
      cases hb : Nat.blt n 2147483648 with
      | false => rw [hb] at hn; exact hn.elim
      | true =>
        rw [hb] at hn
        obtain ⟨hp, rfl⟩ := b_one hn
        have g := b_idx hp.1 hp.2 (Nat.le_of_lt (ax_blt hb))
        have hf : ∀ j, b_in (f j) := h3 _ (b_nth_mem hw)
        refine ⟨?_, h1, b_cons (hf j) (b_tl (b_tl h2)), h3⟩
        simp only [ax_alts, b_c, List.map_cons, b_v]
        rw [b_nth, hw]
        refine ⟨_, List.mem_cons.mpr (Or.inl ?_), g.1⟩
        simp only [g.2.1]
    · exact hn.elim
  · exact hn.elim
theorem bs_iastore (hL : L ≤ 2050) (h1 : ∀ q ∈ ls, b_okv q.2) (h2 : ∀ v ∈ st, b_okv v) (h3 : ∀ e ∈ w, b_oke e) (hn : bx_next (bx_alts L xs (.iastore) x y (pc, ls, st, w, a, b)) k) : ax_next (ax_alts L xs (.iastore) x y (b_c (pc, ls, st, w, a, b))) (b_c k) ∧ b_ok k := by
  simp only [bx_alts] at hn
  split at hn
  · next v j c r =>
    split at hn
    · next n f hw =>
      cases hb : Nat.blt n 2147483648 with
      | false => rw [hb] at hn; exact hn.elim
      | true =>
        rw [hb] at hn
        obtain ⟨hp, rfl⟩ := b_one hn
        have g := b_idx hp.1 hp.2 (Nat.le_of_lt (ax_blt hb))
        have hf : ∀ j, b_in (f j) := h3 _ (b_nth_mem hw)
        refine ⟨?_, h1, b_tl (b_tl (b_tl h2)), b_updw h3 (b_upok hf (b_hd h2 : b_in v))⟩
        simp only [ax_alts, b_c, List.map_cons, b_v]
        rw [b_nth, hw]
        refine ⟨_, List.mem_cons.mpr (Or.inl ?_), g.1⟩
        rw [g.2.2, b_up32 hp.1]
        rw [← b_upd b_e]
        rfl
    · exact hn.elim
  · exact hn.elim
theorem bs_bastore (hL : L ≤ 2050) (h1 : ∀ q ∈ ls, b_okv q.2) (h2 : ∀ v ∈ st, b_okv v) (h3 : ∀ e ∈ w, b_oke e) (hn : bx_next (bx_alts L xs (.bastore) x y (pc, ls, st, w, a, b)) k) : ax_next (ax_alts L xs (.bastore) x y (b_c (pc, ls, st, w, a, b))) (b_c k) ∧ b_ok k := by
  simp only [bx_alts] at hn
  split at hn
  · next v j c r =>
    split at hn
    · next n f hw =>
      cases hb : Nat.blt n 2147483648 with
      | false => rw [hb] at hn; exact hn.elim
      | true =>
        rw [hb] at hn
        obtain ⟨hp, rfl⟩ := b_one hn
        have g := b_idx hp.1 hp.2.1 (Nat.le_of_lt (ax_blt hb))
        have hf : ∀ j, b_in (f j) := h3 _ (b_nth_mem hw)
        refine ⟨?_, h1, b_tl (b_tl (b_tl h2)), b_updw h3 (b_upok hf (b_hd h2 : b_in v))⟩
        simp only [ax_alts, b_c, List.map_cons, b_v]
        rw [b_nth, hw]
        refine ⟨_, List.mem_cons.mpr (Or.inl ?_), g.1⟩
        rw [g.2.2, b_nar hp.2.2.1 hp.2.2.2, b_up32 hp.1]
        rw [← b_upd b_e]
        rfl
    · exact hn.elim
  · exact hn.elim
theorem bs_lastore (hL : L ≤ 2050) (h1 : ∀ q ∈ ls, b_okv q.2) (h2 : ∀ v ∈ st, b_okv v) (h3 : ∀ e ∈ w, b_oke e) (hn : bx_next (bx_alts L xs (.lastore) x y (pc, ls, st, w, a, b)) k) : ax_next (ax_alts L xs (.lastore) x y (b_c (pc, ls, st, w, a, b))) (b_c k) ∧ b_ok k := by
  simp only [bx_alts] at hn
  split at hn
  · next v j c r =>
    split at hn
    · next n f hw =>
      cases hb : Nat.blt n 2147483648 with
      | false => rw [hb] at hn; exact hn.elim
      | true =>
        rw [hb] at hn
        obtain ⟨hp, rfl⟩ := b_one hn
        have g := b_idx hp.1 hp.2 (Nat.le_of_lt (ax_blt hb))
        have hf : ∀ j, b_in (f j) := h3 _ (b_nth_mem hw)
        refine ⟨?_, h1, b_tl (b_tl (b_tl h2)), b_updw h3 (b_upok hf (b_hd h2 : b_in v))⟩
        simp only [ax_alts, b_c, List.map_cons, b_v]
        rw [b_nth, hw]
        refine ⟨_, List.mem_cons.mpr (Or.inl ?_), g.1⟩
        rw [g.2.2, b_up64 hp.1]
        rw [← b_upd b_e]
        rfl
    · exact hn.elim
  · exact hn.elim
theorem bs_arraylength (hL : L ≤ 2050) (h1 : ∀ q ∈ ls, b_okv q.2) (h2 : ∀ v ∈ st, b_okv v) (h3 : ∀ e ∈ w, b_oke e) (hn : bx_next (bx_alts L xs (.arraylength) x y (pc, ls, st, w, a, b)) k) : ax_next (ax_alts L xs (.arraylength) x y (b_c (pc, ls, st, w, a, b))) (b_c k) ∧ b_ok k := by
  simp only [bx_alts] at hn
  split at hn
  · next r =>
    cases hn
    exact ⟨rfl, h1, b_cons (b_nat (n := L) (by omega)).2 (b_tl h2), h3⟩
  · next c r =>
    split at hn
    · next n f hw =>
      cases hb : Nat.blt n 2147483648 with
      | false => rw [hb] at hn; exact hn.elim
      | true =>
        rw [hb] at hn
        cases hn
        refine ⟨?_, h1, b_cons (b_nat (ax_blt hb)).2 (b_tl h2), h3⟩
        simp only [ax_alts, b_c, List.map_cons, b_v]
        rw [b_nth, hw]
        exact rfl
    · exact hn.elim
  · exact hn.elim
theorem bs_newarray {t : ArrayType} (hL : L ≤ 2050) (h1 : ∀ q ∈ ls, b_okv q.2) (h2 : ∀ v ∈ st, b_okv v) (h3 : ∀ e ∈ w, b_oke e) (hn : bx_next (bx_alts L xs (.newarray t) x y (pc, ls, st, w, a, b)) k) : ax_next (ax_alts L xs (.newarray t) x y (b_c (pc, ls, st, w, a, b))) (b_c k) ∧ b_ok k := by
  simp only [bx_alts] at hn
  split at hn
  · next j r =>
    cases hb : (bx_fr w.length ls r && w.all (bx_we w.length) && Nat.blt x 2147483648 && Nat.blt y 3) with
    | false => rw [hb] at hn; exact hn.elim
    | true =>
      rw [hb] at hn
      obtain ⟨hp, rfl⟩ := b_one hn
      simp only [Bool.and_eq_true] at hb
      obtain ⟨⟨⟨q1, q2⟩, q3⟩, q4⟩ := hb
      refine ⟨?_, h1, b_cons trivial (b_tl h2), ?_⟩
      · simp only [ax_alts, b_c, List.map_cons, b_v]
        rw [List.length_map, b_fr, q1, b_wall q2]
        refine ⟨_, List.mem_cons.mpr (Or.inl ?_), (?_ : Int32.ofInt j = nI x)⟩
        · have hy := ax_blt q4
          have e : (w ++ [Sum.inl (y, x, fun _ => (0 : Int))]).map b_e = w.map b_e ++ [ax_anew x y] := by
            rw [List.map_append]
            match y, hy with
            | 0, _ => rfl
            | 1, _ => rfl
            | 2, _ => rfl
            | n + 3, h => exact absurd h (by omega)
          rw [e]
        · rw [hp]; rfl
      · intro e he
        rcases List.mem_append.mp he with g | g
        · exact h3 e g
        · rcases List.mem_cons.mp g with g | g
          · rw [g]; exact fun _ => (⟨by omega, by omega⟩ : b_in 0)
          · cases g
  · exact hn.elim
theorem bs_new {j : Nat} (hL : L ≤ 2050) (h1 : ∀ q ∈ ls, b_okv q.2) (h2 : ∀ v ∈ st, b_okv v) (h3 : ∀ e ∈ w, b_oke e) (hn : bx_next (bx_alts L xs (.new j) x y (pc, ls, st, w, a, b)) k) : ax_next (ax_alts L xs (.new j) x y (b_c (pc, ls, st, w, a, b))) (b_c k) ∧ b_ok k := by
  simp only [bx_alts] at hn
  cases hb : (bx_fr w.length ls st && w.all (bx_we w.length) && Nat.blt x 7) with
  | false => rw [hb] at hn; exact hn.elim
  | true =>
    rw [hb] at hn
    cases hn
    simp only [Bool.and_eq_true] at hb
    obtain ⟨⟨q1, q2⟩, q3⟩ := hb
    refine ⟨?_, h1, b_cons trivial h2, ?_⟩
    · simp only [ax_alts, b_c, List.map_cons, b_v]
      rw [List.length_map, b_fr, q1, b_wall q2]
      show _ = _
      rw [List.map_append]
      simp only [List.map_cons, List.map_nil, b_e, b_dfl x (ax_blt q3)]
    · intro e he
      rcases List.mem_append.mp he with g | g
      · exact h3 e g
      · rcases List.mem_cons.mp g with g | g
        · rw [g]; exact b_dfl_ok x
        · cases g
theorem bs_invokespecial {j : Nat} (hL : L ≤ 2050) (h1 : ∀ q ∈ ls, b_okv q.2) (h2 : ∀ v ∈ st, b_okv v) (h3 : ∀ e ∈ w, b_oke e) (hn : bx_next (bx_alts L xs (.invokespecial j) x y (pc, ls, st, w, a, b)) k) : ax_next (ax_alts L xs (.invokespecial j) x y (b_c (pc, ls, st, w, a, b))) (b_c k) ∧ b_ok k := by
  simp only [bx_alts] at hn
  split at hn
  · next z r =>
    cases hb : bx_wt r with
    | false => rw [hb] at hn; exact hn.elim
    | true =>
      rw [hb] at hn
      cases hn
      refine ⟨?_, h1, b_tl h2, h3⟩
      simp only [ax_alts, b_c, List.map_cons, b_v]
      rw [b_wt, hb]
      exact rfl
  · exact hn.elim
theorem bs_invokestatic {j : Nat} (hL : L ≤ 2050) (h1 : ∀ q ∈ ls, b_okv q.2) (h2 : ∀ v ∈ st, b_okv v) (h3 : ∀ e ∈ w, b_oke e) (hn : bx_next (bx_alts L xs (.invokestatic j) x y (pc, ls, st, w, a, b)) k) : ax_next (ax_alts L xs (.invokestatic j) x y (b_c (pc, ls, st, w, a, b))) (b_c k) ∧ b_ok k := by
  simp only [bx_alts] at hn
  split at hn
  · next q p r =>
    cases hb : bx_wt r with
    | false => rw [hb] at hn; exact hn.elim
    | true =>
      rw [hb] at hn
      cases hn
      have hq : b_in q := b_hd h2
      have hp : b_in p := b_hd (b_tl h2)
      have e := b_lt hp hq
      by_cases h : p < q
      · have e2 : max p q = q := by omega
        rw [e2]
        refine ⟨?_, h1, b_cons hq (b_tl (b_tl h2)), h3⟩
        simp only [ax_alts, b_c, List.map_cons, b_v]
        rw [b_wt, hb, if_pos (e.mpr h)]
        exact rfl
      · have e2 : max p q = p := by omega
        rw [e2]
        refine ⟨?_, h1, b_cons hp (b_tl (b_tl h2)), h3⟩
        simp only [ax_alts, b_c, List.map_cons, b_v]
        rw [b_wt, hb, if_neg (fun g => h (e.mp g))]
        exact rfl
  · next q p r =>
    cases hb : bx_wt r with
    | false => rw [hb] at hn; exact hn.elim
    | true =>
      rw [hb] at hn
      cases hn
      have hq : b_in q := b_hd h2
      have hp : b_in p := b_hd (b_tl h2)
      have e := b_lt hq hp
      by_cases h : q < p
      · have e2 : min p q = q := by omega
        rw [e2]
        refine ⟨?_, h1, b_cons hq (b_tl (b_tl h2)), h3⟩
        simp only [ax_alts, b_c, List.map_cons, b_v]
        rw [b_wt, hb, if_pos (e.mpr h)]
        exact rfl
      · have e2 : min p q = p := by omega
        rw [e2]
        refine ⟨?_, h1, b_cons hp (b_tl (b_tl h2)), h3⟩
        simp only [ax_alts, b_c, List.map_cons, b_v]
        rw [b_wt, hb, if_neg (fun g => h (e.mp g))]
        exact rfl
  · next p r =>
    cases hb : bx_wt r with
    | false => rw [hb] at hn; exact hn.elim
    | true =>
      rw [hb] at hn
      obtain ⟨hq, rfl⟩ := b_one hn
      have hp : b_in p := b_hd h2
      have e : (0 : Int32) ≤ Int32.ofInt p ↔ 0 ≤ p := b_le (x := 0) ⟨by omega, by omega⟩ hp
      by_cases h : 0 ≤ p
      · have e2 : max p (-p) = p := by omega
        rw [e2]
        refine ⟨?_, h1, b_cons hp (b_tl h2), h3⟩
        simp only [ax_alts, b_c, List.map_cons, b_v]
        rw [b_wt, hb, if_pos (e.mpr h)]
        exact rfl
      · have e2 : max p (-p) = 0 - p := by omega
        rw [e2]
        refine ⟨?_, h1, b_cons (⟨by have := hp.2; omega, by have := hp.2; omega⟩ : b_in (0 - p)) (b_tl h2), h3⟩
        simp only [ax_alts, b_c, List.map_cons, b_v]
        rw [b_wt, hb, if_neg (fun g => h (e.mp g)), Int32.ofInt_sub]
        exact rfl
  · exact hn.elim
theorem bx_sound {ins : Instr} {c : BC} (hL : L ≤ 2050) (hok : b_ok c) (hn : bx_next (bx_alts L xs ins x y c) k) : ax_next (ax_alts L xs ins x y (b_c c)) (b_c k) ∧ b_ok k := by
  obtain ⟨pc, ls, st, w, a, b⟩ := c
  obtain ⟨h1, h2, h3⟩ := hok
  cases ins with
  | iload _ => exact bs_iload hL h1 h2 h3 hn
  | iload_n _ => exact bs_iload_n hL h1 h2 h3 hn
  | aload _ => exact bs_aload hL h1 h2 h3 hn
  | aload_n _ => exact bs_aload_n hL h1 h2 h3 hn
  | istore _ => exact bs_istore hL h1 h2 h3 hn
  | istore_n _ => exact bs_istore_n hL h1 h2 h3 hn
  | astore _ => exact bs_astore hL h1 h2 h3 hn
  | astore_n _ => exact bs_astore_n hL h1 h2 h3 hn
  | iconst _ => exact bs_iconst hL h1 h2 h3 hn
  | bipush _ => exact bs_bipush hL h1 h2 h3 hn
  | sipush _ => exact bs_sipush hL h1 h2 h3 hn
  | ldc _ => exact bs_ldc hL h1 h2 h3 hn
  | iinc _ _ => exact bs_iinc hL h1 h2 h3 hn
  | iadd => exact bs_iadd hL h1 h2 h3 hn
  | isub => exact bs_isub hL h1 h2 h3 hn
  | imul => exact bs_imul hL h1 h2 h3 hn
  | iand => exact bs_iand hL h1 h2 h3 hn
  | ixor => exact bs_ixor hL h1 h2 h3 hn
  | ishl => exact bs_ishl hL h1 h2 h3 hn
  | ishr => exact bs_ishr hL h1 h2 h3 hn
  | idiv => exact bs_idiv hL h1 h2 h3 hn
  | irem => exact bs_irem hL h1 h2 h3 hn
  | i2l => exact bs_i2l hL h1 h2 h3 hn
  | lcmp => exact bs_lcmp hL h1 h2 h3 hn
  | dup => exact bs_dup hL h1 h2 h3 hn
  | goto _ => exact bs_goto hL h1 h2 h3 hn
  | if_icmp _ _ => exact bs_if_icmp hL h1 h2 h3 hn
  | ifCond _ _ => exact bs_ifCond hL h1 h2 h3 hn
  | tableswitch _ _ _ _ => exact bs_tableswitch hL h1 h2 h3 hn
  | lookupswitch _ _ => exact bs_lookupswitch hL h1 h2 h3 hn
  | getfield _ => exact bs_getfield hL h1 h2 h3 hn
  | putfield _ => exact bs_putfield hL h1 h2 h3 hn
  | iaload => exact bs_iaload hL h1 h2 h3 hn
  | baload => exact bs_baload hL h1 h2 h3 hn
  | laload => exact bs_laload hL h1 h2 h3 hn
  | iastore => exact bs_iastore hL h1 h2 h3 hn
  | bastore => exact bs_bastore hL h1 h2 h3 hn
  | lastore => exact bs_lastore hL h1 h2 h3 hn
  | arraylength => exact bs_arraylength hL h1 h2 h3 hn
  | newarray _ => exact bs_newarray hL h1 h2 h3 hn
  | new _ => exact bs_new hL h1 h2 h3 hn
  | invokespecial _ => exact bs_invokespecial hL h1 h2 h3 hn
  | invokestatic _ => exact bs_invokestatic hL h1 h2 h3 hn
  | _ => exact hn.elim
end BSN
