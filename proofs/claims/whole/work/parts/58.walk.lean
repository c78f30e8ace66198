/-! walk, both sides -/
/-- the walk of a kind: n steps, the row of its stops -/
def WL (kind : Int) (X : Nat → Int) (F : Nat → Int → Int) (n : Int) (row : Int → Int) : Prop := sorry
/-- the class's cells behind a walk -/
def WR (kind : Int) (X : Nat → Int) (F : Nat → Int → Int) (X' : Nat → Int) (F' : Nat → Int → Int) : Prop :=
  (X' 0 = X 0 ∧ X' 1 = X 1 ∧ X' 2 = X 2 ∧ X' 4 = X 4 ∧ X' 5 = X 5 ∧ X' 6 = X 6) ∧ (F' 1 = F 1 ∧ F' 2 = F 2 ∧ F' 3 = F 3 ∧ F' 4 = F 4 ∧ F' 5 = F 5 ∧ F' 6 = F 6 ∧ F' 7 = F 7) ∧ SR X' F' ∧ WL kind X F (X' 3) (F' 0)
section K1
variable {L : Nat} {xs : Nat → Int32} {X M : Nat → Int} {F G : Nat → Int → Int} {Y : Nat → Int} {E : Nat → Int → Int} {O : Int → Int} {d a b : Nat} {Q : BR → Prop}
theorem t_walk3 (hI : SB X F) (kind : Int) (hk : 0 ≤ kind ∧ kind ≤ 4) (h4 : kind = 4 → nW F (X 6) ≤ 8) (hd : 8 ≤ d) : bE L xs d MX5_walk (0, [(0, bR 1), (1, bI kind)], [], WD X F M G O, a, b)
    (fun r => ∃ X' F', r = (WD X' F' M G O, .inl (some (bI (rl X' F'))), a, b) ∧ WR kind X F X' F') := sorry
theorem m_walk3 (hI : SB X F) (hm : RB X F M G) (kind : Int) (hk : 0 ≤ kind ∧ kind ≤ 4) (h4 : kind = 4 → nW F (X 6) ≤ 8) (hd : 8 ≤ d) {X' : Nat → Int} {F' : Nat → Int → Int} (hw : WR kind X F X' F') : bE L xs d MX6_walk (0, [(0, bR 19), (1, bI kind)], [], WD Y E M G O, a, b)
    (fun r => ∃ M' G', r = (WD Y E M' G' O, .inl (some (bI (rl X' F'))), a, b) ∧ M' 0 = 0 ∧ RB X' F' M' G' ∧ RR X' F' M' G') := sorry
end K1
