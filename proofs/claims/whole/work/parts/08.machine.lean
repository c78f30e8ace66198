/-! A machine of our own over the program as data: cells by their numbers (the number 0 is the script, k + 1 is cell k), and what it means. -/
abbrev AxW : Type := List va_E
abbrev AxL : Type := List (Nat × Value)
/-- place, locals, operand stack, cells, how many cells and slots were made -/
abbrev AxC : Type := Nat × AxL × List Value × AxW × Nat × Nat
/-- the cells behind a call; what it returned, or which exception it threw; the two counts -/
abbrev AxR : Type := AxW × (Option Value ⊕ Nat) × Nat × Nat
def ax_at : List AxI → Nat → Option (Instr × Nat × Nat)
  | [], _ => none
  | (p, i, x, y) :: r, pc => cond (Nat.beq p pc) (some (i, x, y)) (ax_at r pc)
def ax_get : AxL → Nat → Option Value
  | [], _ => none
  | (i, v) :: r, k => cond (Nat.beq i k) (some v) (ax_get r k)
def ax_del : AxL → Nat → AxL
  | [], _ => []
  | (i, v) :: r, k => cond (Nat.beq i k) (ax_del r k) ((i, v) :: ax_del r k)
def ax_set : AxL → Nat → Value → AxL
  | [], k, v => [(k, v)]
  | (i, u) :: r, k, v => cond (Nat.beq i k) ((k, v) :: ax_del r k) ((i, u) :: ax_set r k v)
def ax_nth {α : Type} : List α → Nat → Option α
  | [], _ => none
  | a :: _, 0 => some a
  | _ :: r, n + 1 => ax_nth r n
def ax_upd {α : Type} : List α → Nat → α → List α
  | [], _, _ => []
  | _ :: r, 0, b => b :: r
  | a :: r, n + 1, b => a :: ax_upd r n b
def ax_fit : FieldType → Value → Bool
  | .int, .int _ => true
  | .object _, .ref _ => true
  | .array _, .ref _ => true
  | _, _ => false
def ax_dfl (ci : Nat) : List Value := (List.range (axNF ci)).map (fun k => defaultValue (axTy ci k))
/-- references go no further than the cells that there are -/
def ax_wv (n : Nat) : Value → Bool
  | .ref k => Nat.ble k n
  | _ => true
def ax_we (n : Nat) : va_E → Bool
  | .inl (_, _, .inl _) => true
  | .inl (_, _, .inr (.inl _)) => true
  | .inl _ => false
  | .inr (_, fs) => fs.all (ax_wv n)
def ax_fr (n : Nat) (ls : AxL) (st : List Value) : Bool := ls.all (fun q => ax_wv n q.2) && st.all (ax_wv n)
def ax_cmp (c : ClassFile.Cond) (x y : Int32) : Prop := match c with
  | .eq => x = y
  | .ne => ¬ x = y
  | .lt => x < y
  | .ge => y ≤ x
  | .gt => y < x
  | .le => x ≤ y
/-- what stays on the stack under a call weighs little -/
def ax_wt (r : List Value) : Bool := Nat.ble (r.map fun v => v.category).sum 8
def ax_tg (pc : Nat) (off : Int) : Nat := ((pc : Int) + off).toNat
def ax_sw (pc : Nat) (x : Int32) (lo : Int) : Nat → List Int → List (Prop × Nat)
  | _, [] => []
  | j, off :: r => (x.toInt = lo + (j : Int), ax_tg pc off) :: ax_sw pc x lo (j + 1) r
def ax_lk (pc : Nat) (x : Int32) (ps : List (Int × Int)) (dflt : Int) : List Int → List (Prop × Nat)
  | [] => []
  | off :: r => (Op.lookupswitch.offset ps dflt x.toInt = off, ax_tg pc off) :: ax_lk pc x ps dflt r
def ax_anew (n : Nat) : Nat → va_E
  | 0 => .inl (0, n, .inl (fun _ => 0))
  | 1 => .inl (1, n, .inl (fun _ => 0))
  | _ => .inl (2, n, .inr (.inl (fun _ => 0)))
/-- two numbers on the stack give one -/
def ax_b2 (f : Int32 → Int32 → Int32) (pc : Nat) (ls : AxL) (w : AxW) (a b : Nat) : List Value → Option (AxC ⊕ List (Prop × AxC))
  | .int y :: .int x :: r => some (.inl (pc + 1, ls, .int (f x y) :: r, w, a, b))
  | _ => none
/-- what a simple instruction may do: one way, or several, each with what it asks -/
def ax_alts (L : Nat) (xs : Nat → Int32) (ins : Instr) (x y : Nat) : AxC → Option (AxC ⊕ List (Prop × AxC))
  | (pc, ls, st, w, a, b) => match ins with
    | .iload k => (match ax_get ls k with | some (.int z) => some (.inl (pc + 2, ls, .int z :: st, w, a, b)) | _ => none)
    | .iload_n k => (match ax_get ls k.val with | some (.int z) => some (.inl (pc + 1, ls, .int z :: st, w, a, b)) | _ => none)
    | .aload k => (match ax_get ls k with | some (.ref z) => some (.inl (pc + 2, ls, .ref z :: st, w, a, b)) | _ => none)
    | .aload_n k => (match ax_get ls k.val with | some (.ref z) => some (.inl (pc + 1, ls, .ref z :: st, w, a, b)) | _ => none)
    | .istore k => (match st with | .int z :: r => some (.inl (pc + 2, ax_set ls k (.int z), r, w, a, b)) | _ => none)
    | .istore_n k => (match st with | .int z :: r => some (.inl (pc + 1, ax_set ls k.val (.int z), r, w, a, b)) | _ => none)
    | .astore k => (match st with | .ref z :: r => some (.inl (pc + 2, ax_set ls k (.ref z), r, w, a, b)) | _ => none)
    | .astore_n k => (match st with | .ref z :: r => some (.inl (pc + 1, ax_set ls k.val (.ref z), r, w, a, b)) | _ => none)
    | .iconst v => some (.inl (pc + 1, ls, .int (Int32.ofInt v) :: st, w, a, b))
    | .bipush v => some (.inl (pc + 2, ls, .int (Int8.ofInt v).toInt32 :: st, w, a, b))
    | .sipush v => some (.inl (pc + 3, ls, .int (Int16.ofInt v).toInt32 :: st, w, a, b))
    | .ldc _ => cond (Nat.beq x 0) none (some (.inl (pc + 2, ls, .int (Int32.ofNat x) :: st, w, a, b)))
    | .iinc k v => (match ax_get ls k with | some (.int z) => some (.inl (pc + 3, ax_set ls k (.int (z + Int32.ofInt v)), st, w, a, b)) | _ => none)
    | .iadd => ax_b2 (fun p q => p + q) pc ls w a b st
    | .isub => ax_b2 (fun p q => p - q) pc ls w a b st
    | .imul => ax_b2 (fun p q => p * q) pc ls w a b st
    | .iand => ax_b2 (fun p q => p &&& q) pc ls w a b st
    | .ixor => ax_b2 (fun p q => p ^^^ q) pc ls w a b st
    | .ishl => ax_b2 (fun p q => p <<< (q &&& 31)) pc ls w a b st
    | .ishr => ax_b2 (fun p q => p >>> (q &&& 31)) pc ls w a b st
    | .idiv => (match st with | .int q :: .int p :: r => some (.inr [(¬ q = 0, (pc + 1, ls, .int (p / q) :: r, w, a, b))]) | _ => none)
    | .irem => (match st with | .int q :: .int p :: r => some (.inr [(¬ q = 0, (pc + 1, ls, .int (p - p / q * q) :: r, w, a, b))]) | _ => none)
    | .i2l => (match st with | .int p :: r => some (.inl (pc + 1, ls, .long p.toInt64 :: r, w, a, b)) | _ => none)
    | .lcmp => (match st with | .long q :: .long p :: r => some (.inl (pc + 1, ls, .int (lg_cmp p q) :: r, w, a, b)) | _ => none)
    | .dup => (match st with | .ref z :: r => some (.inl (pc + 1, ls, .ref z :: .ref z :: r, w, a, b)) | .int z :: r => some (.inl (pc + 1, ls, .int z :: .int z :: r, w, a, b)) | _ => none)
    | .goto _ => some (.inl (x, ls, st, w, a, b))
    | .if_icmp c _ => (match st with | .int q :: .int p :: r => some (.inr [(ax_cmp c p q, (x, ls, r, w, a, b)), (¬ ax_cmp c p q, (pc + 3, ls, r, w, a, b))]) | _ => none)
    | .ifCond c _ => (match st with | .int p :: r => some (.inr [(ax_cmp c p 0, (x, ls, r, w, a, b)), (¬ ax_cmp c p 0, (pc + 3, ls, r, w, a, b))]) | _ => none)
    | .tableswitch dflt lo hi offs => (match st with | .int p :: r => some (.inr (((p.toInt < lo ∨ hi < p.toInt, ax_tg pc dflt) :: ax_sw pc p lo 0 offs.toList).map (fun q => (q.1, (q.2, ls, r, w, a, b))))) | _ => none)
    | .lookupswitch dflt ps => (match st with | .int p :: r => some (.inr ((ax_lk pc p ps.toList dflt (dflt :: ps.toList.map (fun q => q.2))).map (fun q => (q.1, (q.2, ls, r, w, a, b))))) | _ => none)
    | .getfield _ => (match st with
      | .ref (c + 1) :: r => (match ax_nth w c with
        | some (.inr (ci, fs)) => cond (Nat.beq ci x) (match ax_nth fs y with | some v => some (.inl (pc + 3, ls, v :: r, w, a, b)) | none => none) none
        | _ => none)
      | _ => none)
    | .putfield _ => (match st with
      | v :: .ref (c + 1) :: r => (match ax_nth w c with
        | some (.inr (ci, fs)) => cond (Nat.beq ci x && Nat.blt y fs.length && ax_fit (axTy x y) v) (some (.inl (pc + 3, ls, r, ax_upd w c (.inr (x, ax_upd fs y v)), a, b))) none
        | _ => none)
      | _ => none)
    | .iaload => (match st with
      | .int j :: .ref 0 :: r => some (.inr [(vp_in j L, (pc + 1, ls, .int (xs j.toNatClampNeg) :: r, w, a, b))])
      | .int j :: .ref (c + 1) :: r => (match ax_nth w c with
        | some (.inl (0, n, .inl f)) => some (.inr [(vp_in j n, (pc + 1, ls, .int (f j.toNatClampNeg) :: r, w, a, b))])
        | _ => none)
      | _ => none)
    | .baload => (match st with
      | .int j :: .ref (c + 1) :: r => (match ax_nth w c with
        | some (.inl (1, n, .inl f)) => some (.inr [(vp_in j n, (pc + 1, ls, .int (f j.toNatClampNeg) :: r, w, a, b))])
        | _ => none)
      | _ => none)
    | .laload => (match st with
      | .int j :: .ref (c + 1) :: r => (match ax_nth w c with
        | some (.inl (2, n, .inr (.inl f))) => some (.inr [(vp_in j n, (pc + 1, ls, .long (f j.toNatClampNeg) :: r, w, a, b))])
        | _ => none)
      | _ => none)
    | .iastore => (match st with
      | .int v :: .int j :: .ref (c + 1) :: r => (match ax_nth w c with
        | some (.inl (0, n, .inl f)) => some (.inr [(vp_in j n, (pc + 1, ls, r, ax_upd w c (.inl (0, n, .inl (upd f j.toNatClampNeg v))), a, b))])
        | _ => none)
      | _ => none)
    | .bastore => (match st with
      | .int v :: .int j :: .ref (c + 1) :: r => (match ax_nth w c with
        | some (.inl (1, n, .inl f)) => some (.inr [(vp_in j n, (pc + 1, ls, r, ax_upd w c (.inl (1, n, .inl (upd f j.toNatClampNeg (vp_nar .boolean v)))), a, b))])
        | _ => none)
      | _ => none)
    | .lastore => (match st with
      | .long v :: .int j :: .ref (c + 1) :: r => (match ax_nth w c with
        | some (.inl (2, n, .inr (.inl f))) => some (.inr [(vp_in j n, (pc + 1, ls, r, ax_upd w c (.inl (2, n, .inr (.inl (vp_updL f j.toNatClampNeg v)))), a, b))])
        | _ => none)
      | _ => none)
    | .arraylength => (match st with
      | .ref 0 :: r => some (.inl (pc + 1, ls, .int (Int32.ofNat L) :: r, w, a, b))
      | .ref (c + 1) :: r => (match ax_nth w c with
        | some (.inl (0, n, _)) => some (.inl (pc + 1, ls, .int (Int32.ofNat n) :: r, w, a, b))
        | _ => none)
      | _ => none)
    | .newarray _ => (match st with
      | .int j :: r => cond (ax_fr w.length ls r && w.all (ax_we w.length)) (some (.inr [(j = nI x, (pc + 2, ls, .ref (w.length + 1) :: r, w ++ [ax_anew x y], a + 1, b + x))])) none
      | _ => none)
    | .new _ => cond (ax_fr w.length ls st && w.all (ax_we w.length)) (some (.inl (pc + 3, ls, .ref (w.length + 1) :: st, w ++ [.inr (x, ax_dfl x)], a + 1, b + axNF x))) none
    | .invokespecial _ => (match x, st with | 5, .ref _ :: r => cond (ax_wt r) (some (.inl (pc + 3, ls, r, w, a, b))) none | _, _ => none)
    | .invokestatic _ => (match x, st with
      | 6, .int q :: .int p :: r => cond (ax_wt r) (some (.inl (pc + 3, ls, .int (if p < q then q else p) :: r, w, a, b))) none
      | 7, .int q :: .int p :: r => cond (ax_wt r) (some (.inl (pc + 3, ls, .int (if q < p then q else p) :: r, w, a, b))) none
      | 8, .int p :: r => cond (ax_wt r) (some (.inl (pc + 3, ls, .int (if 0 ≤ p then p else 0 - p) :: r, w, a, b))) none
      | _, _ => none)
    | _ => none
/-- how an instruction is taken: 0 a simple one, 1 a call of an own method, 2 a return, 3 a throw -/
def ax_kind (ins : Instr) (x : Nat) : Nat := match ins with
  | .ireturn => 2
  | .return_ => 2
  | .invokevirtual _ => 1
  | .invokespecial _ => cond (Nat.blt x 5) 1 0
  | .invokestatic _ => cond (Nat.blt x 5) 1 0
  | .new _ => cond (Nat.blt x 100) 0 3
  | _ => 0
/-- the arguments (the receiver among them) off the stack, in their order; and what stays -/
def ax_split : Nat → List Value → List Value → Option (List Value × List Value)
  | 0, acc, r => some (acc, r)
  | n + 1, acc, v :: r => ax_split n (v :: acc) r
  | _ + 1, _, [] => none
def ax_ent : Nat → List Value → AxL
  | _, [] => []
  | k, v :: r => (k, v) :: ax_ent (k + 1) r
/-- where an exception is caught: the handler's first instruction keeps it in a local; the place behind that, and the local -/
def ax_hd : Nat → Nat → Option (Nat × Nat)
  | 95, 0 => some (17, 5)
  | 95, 1 => some (21, 5)
  | 95, 2 => some (25, 5)
  | 96, 0 => some (15, 4)
  | 97, 1 => some (13, 3)
  | 97, 3 => some (16, 3)
  | 98, 4 => some (13, 3)
  | 99, 3 => some (12, 2)
  | 100, 0 => some (13, 3)
  | 100, 3 => some (16, 3)
  | 101, 1 => some (9, 2)
  | 102, 0 => some (13, 3)
  | 102, 5 => some (16, 3)
  | 103, 0 => some (15, 4)
  | 104, 0 => some (15, 4)
  | 104, 1 => some (19, 4)
  | _, _ => none
/-- the value of a returning method's result: what the type allows -/
def ax_rv (i : Nat) (z : Int32) : Prop := match axRe i with
  | some .int => True
  | some .boolean => z = 0 ∨ z = 1
  | _ => False
/-- all of one slot -/
def ax_c1 (as : List Value) : Bool := as.all (fun v => Nat.beq v.category 1)
/-- the receiver is of the callee's own class -/
def ax_rc (w : AxW) (j : Nat) : List Value → Prop
  | .ref (c + 1) :: _ => ∃ fs, ax_nth w c = some (.inr (axCi j, fs))
  | _ => False
/-- THE MACHINE: from this place, with fuel n and d calls deep at most, method i comes to this end -/
def ax_ev (L : Nat) (xs : Nat → Int32) : Nat → Nat → Nat → AxC → AxR → Prop
  | 0, _, _, _, _ => False
  | n + 1, d, i, (pc, ls, st, w, a, b), res => match ax_at (axT i) pc with
    | none => False
    | some (ins, x, y) => match ax_kind ins x with
      | 0 => (match ax_alts L xs ins x y (pc, ls, st, w, a, b) with
        | none => False
        | some (.inl c) => ax_ev L xs n d i c res
        | some (.inr alts) => ∃ q ∈ alts, q.1 ∧ ax_ev L xs n d i q.2 res)
      | 1 => (match ax_split (axNa y) [] st with
        | none => False
        | some (as, rest) => ax_fr w.length ls rest = true ∧ ax_wt rest = true ∧ ax_c1 as = true ∧ ((Nat.beq x 2 || Nat.beq x 3) = false → ax_rc w y as) ∧ 2 ≤ d ∧
            ∃ (w1 : AxW) (r1 : Option Value ⊕ Nat) (a1 b1 : Nat), ax_ev L xs n (d - 1) y (0, ax_ent 0 as, [], w, a, b) (w1, r1, a1, b1) ∧ ((Nat.beq x 1 || Nat.beq x 4) = true → r1 = .inl none) ∧
              (match r1 with
              | .inl v => ax_ev L xs n d i (pc + 3, ls, v.toList ++ rest, w1, a1, b1) res
              | .inr e => (match axHh i with
                | [] => res = (w1, .inr e, a1, b1)
                | _ :: _ => ∃ (h k : Nat), ax_hd i e = some (h, k) ∧ ax_ev L xs n d i (h, ax_del ls k, [], w1, a1, b1) res)))
      | 2 => (match ins, st with
        | .ireturn, [.int z] => ax_rv i z ∧ res = (w, .inl (some (.int z)), a, b)
        | .return_, [] => axRe i = none ∧ res = (w, .inl none, a, b)
        | _, _ => False)
      | _ => 7 ≤ d ∧ ax_wt st = true ∧ res = (w, .inr (x - 100), a + 1, b + 6)
/-- .. with some fuel -/
def ax_Ev (L : Nat) (xs : Nat → Int32) (d i : Nat) (c : AxC) (res : AxR) : Prop := ∃ n, ax_ev L xs n d i c res
