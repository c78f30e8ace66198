/-! The law's loop -/
/-- the law answers 1, in the claim's room -/
def QL (r : BR) : Prop := ∃ w a b, r = (w, .inl (some (bI 1)), a, b) ∧ a ≤ 1068 ∧ b ≤ 12728
section V3
variable {L : Nat} {xs : Nat → Int32}
theorem law_loop (hL : L ≤ 2050) : ∀ (n : Nat) (t : Int) (X : Nat → Int) (F : Nat → Int → Int) (M : Nat → Int) (G : Nat → Int → Int) (O : Int → Int) (ls : BL) (a b : Nat), 0 ≤ t → t ≤ 600 → (L : Int) + 4 - (2 + 4 * t) ≤ n → INV t X F M G → LSx (2 + 4 * t) ls → (a : Int) ≤ 30 + t → (b : Int) ≤ 4452 + 6 * t →
    bE L xs 10 ML_law (43, ls, [], WD X F M G O, a, b) QL := by
  have fin : ∀ (t : Int) (X : Nat → Int) (F : Nat → Int → Int) (M : Nat → Int) (G : Nat → Int → Int) (O : Int → Int) (ls : BL) (a b : Nat), 0 ≤ t → t ≤ 600 → (L : Int) - 4 < 2 + 4 * t → LSx (2 + 4 * t) ls → (a : Int) ≤ 30 + t → (b : Int) ≤ 4452 + 6 * t →
      bE L xs 10 ML_law (43, ls, [], WD X F M G O, a, b) QL := by
    intro t X F M G O ls a b h0 h1 h2 hls ha hb
    rcases hls with rfl | ⟨k, rfl⟩ | ⟨k, e, rfl⟩
    · exact goT hTLe [] [0] rfl (by omega) (rtb (hTLe _ _ _ _ rfl) rfl (Or.inr rfl) ⟨_, _, _, rfl, by omega, by omega⟩)
    · exact goT hTLe [] [0] rfl (by omega) (rtb (hTLe _ _ _ _ rfl) rfl (Or.inr rfl) ⟨_, _, _, rfl, by omega, by omega⟩)
    · exact goT hTLe [] [0] rfl (by omega) (rtb (hTLe _ _ _ _ rfl) rfl (Or.inr rfl) ⟨_, _, _, rfl, by omega, by omega⟩)
  intro n
  induction n with
  | zero =>
    intro t X F M G O ls a b h0 h1 h2 inv hls ha hb
    exact fin t X F M G O ls a b h0 h1 (by omega) hls ha hb
  | succ n ih =>
    intro t X F M G O ls a b h0 h1 h2 inv hls ha hb
    by_cases hi : 2 + 4 * t ≤ (L : Int) - 4
    · have hK : KT L xs QL (2 + 4 * t) t a b := by
        intro X F M G O ls a' b' inv hls ha' hb'
        have e : 2 + 4 * t + 4 = 2 + 4 * (t + 1) := by omega
        rw [e] at hls
        exact ih (t + 1) X F M G O ls a' b' (by omega) (by omega) (by omega) inv hls (by omega) (by omega)
      by_cases c0 : bAnd (xs (2 + 4 * t).toNat).toInt 15 = 0
      · exact op0 hK inv hls (by omega) (by omega) hL c0
      by_cases c1 : bAnd (xs (2 + 4 * t).toNat).toInt 15 = 1
      · exact op1 hK inv hls (by omega) (by omega) hL c1
      by_cases c2 : bAnd (xs (2 + 4 * t).toNat).toInt 15 = 2
      · exact op2 hK inv hls (by omega) (by omega) hL c2
      by_cases c3 : bAnd (xs (2 + 4 * t).toNat).toInt 15 = 3
      · exact op3 hK inv hls (by omega) (by omega) hL c3
      by_cases c4 : bAnd (xs (2 + 4 * t).toNat).toInt 15 = 4
      · exact op4 hK inv hls (by omega) (by omega) hL c4
      by_cases c5 : bAnd (xs (2 + 4 * t).toNat).toInt 15 = 5
      · exact op5 hK inv hls (by omega) (by omega) hL c5
      by_cases c6 : bAnd (xs (2 + 4 * t).toNat).toInt 15 = 6
      · exact op6 hK inv hls (by omega) (by omega) hL c6
      by_cases c7 : bAnd (xs (2 + 4 * t).toNat).toInt 15 = 7
      · exact op7 hK inv hls (by omega) (by omega) hL c7
      by_cases c8 : bAnd (xs (2 + 4 * t).toNat).toInt 15 = 8
      · exact op8 hK inv hls (by omega) (by omega) hL c8
      by_cases c9 : bAnd (xs (2 + 4 * t).toNat).toInt 15 = 9
      · exact op9 hK inv hls (by omega) (by omega) hL c9
      by_cases c10 : bAnd (xs (2 + 4 * t).toNat).toInt 15 = 10
      · exact op10 hK inv hls (by omega) (by omega) hL c10
      by_cases c11 : bAnd (xs (2 + 4 * t).toNat).toInt 15 = 11
      · exact op11 hK inv hls (by omega) (by omega) hL c11
      by_cases c12 : bAnd (xs (2 + 4 * t).toNat).toInt 15 = 12
      · exact op12 hK inv hls (by omega) (by omega) hL c12
      by_cases c13 : bAnd (xs (2 + 4 * t).toNat).toInt 15 = 13
      · exact op13 hK inv hls (by omega) (by omega) hL c13
      have inv2 : INV (t + 1) X F M G := by
        obtain ⟨hI, hr, hm, hmr, g0, g1⟩ := inv
        exact ⟨hI, hr, hm, hmr, g0, by omega⟩
      rcases hls with rfl | ⟨k, rfl⟩ | ⟨k, e, rfl⟩
      · exact goT hTLe [43] [1, 0] rfl (by omega) (hK _ _ _ _ _ _ _ _ inv2 (Or.inl rfl) (by omega) (by omega))
      · exact goT hTLe [43] [1, 0] rfl (by omega) (hK _ _ _ _ _ _ _ _ inv2 (Or.inr (Or.inl ⟨_, rfl⟩)) (by omega) (by omega))
      · exact goT hTLe [43] [1, 0] rfl (by omega) (hK _ _ _ _ _ _ _ _ inv2 (Or.inr (Or.inr ⟨_, _, rfl⟩)) (by omega) (by omega))
    · exact fin t X F M G O ls a b h0 h1 (by omega) hls ha hb
end V3
