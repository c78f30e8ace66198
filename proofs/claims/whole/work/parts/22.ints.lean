/-! The same machine over whole numbers: what a path asks is said of numbers without bound, sums with the bound that they keep. -/
abbrev BV : Type := Int ⊕ (Nat ⊕ (Int ⊕ Unit))
abbrev bI (z : Int) : BV := .inl z
abbrev bR (k : Nat) : BV := .inr (.inl k)
abbrev bJ (z : Int) : BV := .inr (.inr (.inl z))
abbrev bN : BV := .inr (.inr (.inr ()))
abbrev BE : Type := (Nat × Nat × (Int → Int)) ⊕ (Nat × List BV)
abbrev BW : Type := List BE
abbrev BL : Type := List (Nat × BV)
abbrev BC : Type := Nat × BL × List BV × BW × Nat × Nat
abbrev BR : Type := BW × (Option BV ⊕ Nat) × Nat × Nat
def b_v : BV → Value
  | .inl z => .int (Int32.ofInt z)
  | .inr (.inl k) => .ref k
  | .inr (.inr (.inl z)) => .long (Int64.ofInt z)
  | .inr (.inr (.inr _)) => .null
def b_e : BE → va_E
  | .inl (0, n, f) => .inl (0, n, .inl (fun j => Int32.ofInt (f (j : Int))))
  | .inl (1, n, f) => .inl (1, n, .inl (fun j => Int32.ofInt (f (j : Int))))
  | .inl (_, n, f) => .inl (2, n, .inr (.inl (fun j => Int64.ofInt (f (j : Int)))))
  | .inr (ci, fs) => .inr (ci, fs.map b_v)
def b_l (ls : BL) : AxL := ls.map (fun q => (q.1, b_v q.2))
def b_c : BC → AxC
  | (pc, ls, st, w, a, b) => (pc, b_l ls, st.map b_v, w.map b_e, a, b)
def b_o : Option BV ⊕ Nat → Option Value ⊕ Nat
  | .inl v => .inl (v.map b_v)
  | .inr e => .inr e
def b_r : BR → AxR
  | (w, r, a, b) => (w.map b_e, b_o r, a, b)
def b_in (z : Int) : Prop := -2147483648 ≤ z ∧ z ≤ 2147483647
def b_okv : BV → Prop
  | .inl z => b_in z
  | .inr (.inl _) => True
  | .inr (.inr (.inl z)) => b_in z
  | .inr (.inr (.inr _)) => True
def b_oke : BE → Prop
  | .inl (_, _, f) => ∀ j, b_in (f j)
  | .inr (_, fs) => ∀ v ∈ fs, b_okv v
def b_ok : BC → Prop
  | (_, ls, st, w, _, _) => (∀ q ∈ ls, b_okv q.2) ∧ (∀ v ∈ st, b_okv v) ∧ (∀ e ∈ w, b_oke e)
def b_oko : Option BV ⊕ Nat → Prop
  | .inl (some v) => b_okv v
  | _ => True
def b_okr : BR → Prop
  | (w, r, _, _) => (∀ e ∈ w, b_oke e) ∧ b_oko r
/-- a row, changed at one place -/
def up (f : Int → Int) (k v : Int) : Int → Int := fun j => if j = k then v else f j
def bx_get : BL → Nat → Option BV
  | [], _ => none
  | (i, v) :: r, k => cond (Nat.beq i k) (some v) (bx_get r k)
def bx_del : BL → Nat → BL
  | [], _ => []
  | (i, v) :: r, k => cond (Nat.beq i k) (bx_del r k) ((i, v) :: bx_del r k)
def bx_set : BL → Nat → BV → BL
  | [], k, v => [(k, v)]
  | (i, u) :: r, k, v => cond (Nat.beq i k) ((k, v) :: bx_del r k) ((i, u) :: bx_set r k v)
def bx_wv (n : Nat) : BV → Bool
  | .inr (.inl k) => Nat.ble k n
  | _ => true
def bx_we (n : Nat) : BE → Bool
  | .inl _ => true
  | .inr (_, fs) => fs.all (bx_wv n)
def bx_fr (n : Nat) (ls : BL) (st : List BV) : Bool := ls.all (fun q => bx_wv n q.2) && st.all (bx_wv n)
def bx_cat : BV → Nat
  | .inr (.inr (.inl _)) => 2
  | _ => 1
def bx_wt (r : List BV) : Bool := Nat.ble (r.map bx_cat).sum 8
def bx_sm (n : Nat) : Int → Bool
  | .ofNat k => Nat.blt k n
  | .negSucc k => Nat.blt k n
def bx_dfl (ci : Nat) : List BV := (List.range (axNF ci)).map (fun k => match axTy ci k with | .int => bI 0 | .boolean => bI 0 | _ => bN)
def bAnd (x y : Int) : Int := (Int32.ofInt x &&& Int32.ofInt y).toInt
def bXor (x y : Int) : Int := (Int32.ofInt x ^^^ Int32.ofInt y).toInt
def bShl (x y : Int) : Int := (Int32.ofInt x <<< (Int32.ofInt y &&& 31)).toInt
def bShr (x y : Int) : Int := (Int32.ofInt x >>> (Int32.ofInt y &&& 31)).toInt
def bx_sw (pc : Nat) (x : Int) (lo : Int) : Nat → List Int → List (Prop × Nat)
  | _, [] => []
  | j, off :: r => (x = lo + (j : Int), ax_tg pc off) :: bx_sw pc x lo (j + 1) r
def bx_lk (pc : Nat) (x : Int) (ps : List (Int × Int)) (dflt : Int) : List Int → List (Prop × Nat)
  | [] => []
  | off :: r => (Op.lookupswitch.offset ps dflt x = off, ax_tg pc off) :: bx_lk pc x ps dflt r
def bx_cmp (c : ClassFile.Cond) (x y : Int) (c1 c2 : BC) : Option (BC ⊕ List (Prop × BC)) := match c with
  | .eq => some (.inr [(x = y, c1), (¬ x = y, c2)])
  | .ne => some (.inr [(¬ x = y, c1), (x = y, c2)])
  | .lt => some (.inr [(x < y, c1), (y ≤ x, c2)])
  | .ge => some (.inr [(y ≤ x, c1), (x < y, c2)])
  | .gt => some (.inr [(y < x, c1), (x ≤ y, c2)])
  | .le => some (.inr [(x ≤ y, c1), (y < x, c2)])
def bx_alts (L : Nat) (xs : Nat → Int32) (ins : Instr) (x y : Nat) : BC → Option (BC ⊕ List (Prop × BC))
  | (pc, ls, st, w, a, b) => match ins with
    | .iload k => (match bx_get ls k with | some (.inl z) => some (.inl (pc + 2, ls, .inl z :: st, w, a, b)) | _ => none)
    | .iload_n k => (match bx_get ls k.val with | some (.inl z) => some (.inl (pc + 1, ls, .inl z :: st, w, a, b)) | _ => none)
    | .aload k => (match bx_get ls k with | some (.inr (.inl z)) => some (.inl (pc + 2, ls, .inr (.inl z) :: st, w, a, b)) | _ => none)
    | .aload_n k => (match bx_get ls k.val with | some (.inr (.inl z)) => some (.inl (pc + 1, ls, .inr (.inl z) :: st, w, a, b)) | _ => none)
    | .istore k => (match st with | .inl z :: r => some (.inl (pc + 2, bx_set ls k (.inl z), r, w, a, b)) | _ => none)
    | .istore_n k => (match st with | .inl z :: r => some (.inl (pc + 1, bx_set ls k.val (.inl z), r, w, a, b)) | _ => none)
    | .astore k => (match st with | .inr (.inl z) :: r => some (.inl (pc + 2, bx_set ls k (.inr (.inl z)), r, w, a, b)) | _ => none)
    | .astore_n k => (match st with | .inr (.inl z) :: r => some (.inl (pc + 1, bx_set ls k.val (.inr (.inl z)), r, w, a, b)) | _ => none)
    | .iconst v => cond (bx_sm 6 v) (some (.inl (pc + 1, ls, .inl v :: st, w, a, b))) none
    | .bipush v => cond (bx_sm 128 v) (some (.inl (pc + 2, ls, .inl v :: st, w, a, b))) none
    | .sipush v => cond (bx_sm 32768 v) (some (.inl (pc + 3, ls, .inl v :: st, w, a, b))) none
    | .ldc _ => cond (Nat.blt x 2147483648) (cond (Nat.beq x 0) none (some (.inl (pc + 2, ls, .inl (x : Int) :: st, w, a, b)))) none
    | .iinc k v => (match bx_get ls k with | some (.inl z) => some (.inr [(-2147483648 ≤ z + v ∧ z + v ≤ 2147483647, (pc + 3, bx_set ls k (.inl (z + v)), st, w, a, b))]) | _ => none)
    | .iadd => (match st with | .inl q :: .inl p :: r => some (.inr [(-2147483648 ≤ p + q ∧ p + q ≤ 2147483647, (pc + 1, ls, .inl (p + q) :: r, w, a, b))]) | _ => none)
    | .isub => (match st with | .inl q :: .inl p :: r => some (.inr [(-2147483648 ≤ p - q ∧ p - q ≤ 2147483647, (pc + 1, ls, .inl (p - q) :: r, w, a, b))]) | _ => none)
    | .imul => (match st with | .inl q :: .inl p :: r => some (.inr [(-2147483648 ≤ p * q ∧ p * q ≤ 2147483647, (pc + 1, ls, .inl (p * q) :: r, w, a, b))]) | _ => none)
    | .iand => (match st with | .inl q :: .inl p :: r => some (.inl (pc + 1, ls, .inl (bAnd p q) :: r, w, a, b)) | _ => none)
    | .ixor => (match st with | .inl q :: .inl p :: r => some (.inl (pc + 1, ls, .inl (bXor p q) :: r, w, a, b)) | _ => none)
    | .ishl => (match st with | .inl q :: .inl p :: r => some (.inl (pc + 1, ls, .inl (bShl p q) :: r, w, a, b)) | _ => none)
    | .ishr => (match st with | .inl q :: .inl p :: r => some (.inl (pc + 1, ls, .inl (bShr p q) :: r, w, a, b)) | _ => none)
    | .idiv => (match st with | .inl q :: .inl p :: r => some (.inr [(0 ≤ p ∧ 0 < q, (pc + 1, ls, .inl (p / q) :: r, w, a, b))]) | _ => none)
    | .irem => (match st with | .inl q :: .inl p :: r => some (.inr [(0 ≤ p ∧ 0 < q, (pc + 1, ls, .inl (p % q) :: r, w, a, b))]) | _ => none)
    | .i2l => (match st with | .inl p :: r => some (.inl (pc + 1, ls, .inr (.inr (.inl p)) :: r, w, a, b)) | _ => none)
    | .lcmp => (match st with | .inr (.inr (.inl q)) :: .inr (.inr (.inl p)) :: r => some (.inl (pc + 1, ls, .inl (if q < p then 1 else if p = q then 0 else -1) :: r, w, a, b)) | _ => none)
    | .dup => (match st with | .inr (.inl z) :: r => some (.inl (pc + 1, ls, .inr (.inl z) :: .inr (.inl z) :: r, w, a, b)) | .inl z :: r => some (.inl (pc + 1, ls, .inl z :: .inl z :: r, w, a, b)) | _ => none)
    | .goto _ => some (.inl (x, ls, st, w, a, b))
    | .if_icmp c _ => (match st with | .inl q :: .inl p :: r => bx_cmp c p q (x, ls, r, w, a, b) (pc + 3, ls, r, w, a, b) | _ => none)
    | .ifCond c _ => (match st with | .inl p :: r => bx_cmp c p 0 (x, ls, r, w, a, b) (pc + 3, ls, r, w, a, b) | _ => none)
    | .tableswitch dflt lo hi offs => (match st with | .inl p :: r => some (.inr (((p < lo ∨ hi < p, ax_tg pc dflt) :: bx_sw pc p lo 0 offs.toList).map (fun q => (q.1, (q.2, ls, r, w, a, b))))) | _ => none)
    | .lookupswitch dflt ps => (match st with | .inl p :: r => some (.inr ((bx_lk pc p ps.toList dflt (dflt :: ps.toList.map (fun q => q.2))).map (fun q => (q.1, (q.2, ls, r, w, a, b))))) | _ => none)
    | .getfield _ => (match st with
      | .inr (.inl (c + 1)) :: r => (match ax_nth w c with
        | some (.inr (ci, fs)) => cond (Nat.beq ci x) (match ax_nth fs y with | some v => some (.inl (pc + 3, ls, v :: r, w, a, b)) | none => none) none
        | _ => none)
      | _ => none)
    | .putfield _ => (match st with
      | v :: .inr (.inl (c + 1)) :: r => (match ax_nth w c with
        | some (.inr (ci, fs)) => cond (Nat.beq ci x && Nat.blt y fs.length && ax_fit (axTy x y) (b_v v)) (some (.inl (pc + 3, ls, r, ax_upd w c (.inr (x, ax_upd fs y v)), a, b))) none
        | _ => none)
      | _ => none)
    | .iaload => (match st with
      | .inl j :: .inr (.inl 0) :: r => some (.inr [(0 ≤ j ∧ j < (L : Int), (pc + 1, ls, .inl (xs j.toNat).toInt :: r, w, a, b))])
      | .inl j :: .inr (.inl (c + 1)) :: r => (match ax_nth w c with
        | some (.inl (0, n, f)) => cond (Nat.blt n 2147483648) (some (.inr [(0 ≤ j ∧ j < (n : Int), (pc + 1, ls, .inl (f j) :: r, w, a, b))])) none
        | _ => none)
      | _ => none)
    | .baload => (match st with
      | .inl j :: .inr (.inl (c + 1)) :: r => (match ax_nth w c with
        | some (.inl (1, n, f)) => cond (Nat.blt n 2147483648) (some (.inr [(0 ≤ j ∧ j < (n : Int), (pc + 1, ls, .inl (f j) :: r, w, a, b))])) none
        | _ => none)
      | _ => none)
    | .laload => (match st with
      | .inl j :: .inr (.inl (c + 1)) :: r => (match ax_nth w c with
        | some (.inl (2, n, f)) => cond (Nat.blt n 2147483648) (some (.inr [(0 ≤ j ∧ j < (n : Int), (pc + 1, ls, .inr (.inr (.inl (f j))) :: r, w, a, b))])) none
        | _ => none)
      | _ => none)
    | .iastore => (match st with
      | .inl v :: .inl j :: .inr (.inl (c + 1)) :: r => (match ax_nth w c with
        | some (.inl (0, n, f)) => cond (Nat.blt n 2147483648) (some (.inr [(0 ≤ j ∧ j < (n : Int), (pc + 1, ls, r, ax_upd w c (.inl (0, n, up f j v)), a, b))])) none
        | _ => none)
      | _ => none)
    | .bastore => (match st with
      | .inl v :: .inl j :: .inr (.inl (c + 1)) :: r => (match ax_nth w c with
        | some (.inl (1, n, f)) => cond (Nat.blt n 2147483648) (some (.inr [(0 ≤ j ∧ j < (n : Int) ∧ 0 ≤ v ∧ v ≤ 1, (pc + 1, ls, r, ax_upd w c (.inl (1, n, up f j v)), a, b))])) none
        | _ => none)
      | _ => none)
    | .lastore => (match st with
      | .inr (.inr (.inl v)) :: .inl j :: .inr (.inl (c + 1)) :: r => (match ax_nth w c with
        | some (.inl (2, n, f)) => cond (Nat.blt n 2147483648) (some (.inr [(0 ≤ j ∧ j < (n : Int), (pc + 1, ls, r, ax_upd w c (.inl (2, n, up f j v)), a, b))])) none
        | _ => none)
      | _ => none)
    | .arraylength => (match st with
      | .inr (.inl 0) :: r => some (.inl (pc + 1, ls, .inl (L : Int) :: r, w, a, b))
      | .inr (.inl (c + 1)) :: r => (match ax_nth w c with
        | some (.inl (0, n, _)) => cond (Nat.blt n 2147483648) (some (.inl (pc + 1, ls, .inl (n : Int) :: r, w, a, b))) none
        | _ => none)
      | _ => none)
    | .newarray _ => (match st with
      | .inl j :: r => cond (bx_fr w.length ls r && w.all (bx_we w.length) && Nat.blt x 2147483648 && Nat.blt y 3) (some (.inr [(j = (x : Int), (pc + 2, ls, .inr (.inl (w.length + 1)) :: r, w ++ [.inl (y, x, fun _ => 0)], a + 1, b + x))])) none
      | _ => none)
    | .new _ => cond (bx_fr w.length ls st && w.all (bx_we w.length) && Nat.blt x 7) (some (.inl (pc + 3, ls, .inr (.inl (w.length + 1)) :: st, w ++ [.inr (x, bx_dfl x)], a + 1, b + axNF x))) none
    | .invokespecial _ => (match x, st with | 5, .inr (.inl _) :: r => cond (bx_wt r) (some (.inl (pc + 3, ls, r, w, a, b))) none | _, _ => none)
    | .invokestatic _ => (match x, st with
      | 6, .inl q :: .inl p :: r => cond (bx_wt r) (some (.inl (pc + 3, ls, .inl (max p q) :: r, w, a, b))) none
      | 7, .inl q :: .inl p :: r => cond (bx_wt r) (some (.inl (pc + 3, ls, .inl (min p q) :: r, w, a, b))) none
      | 8, .inl p :: r => cond (bx_wt r) (some (.inr [(-2147483648 < p, (pc + 3, ls, .inl (max p (-p)) :: r, w, a, b))])) none
      | _, _ => none)
    | _ => none
