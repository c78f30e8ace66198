/-! What is checked of the program as data, by program: that its rows are the class files' own, and which words of the tables they need. -/
def axO (i : Nat) : String := (axY i).cls
def axEx : Nat → String
  | 0 => "java/util/NoSuchElementException" | 1 => "java/lang/IllegalArgumentException" | 2 => "java/lang/UnsupportedOperationException" | 3 => "java/lang/IllegalStateException" | 4 => "java/lang/ArrayIndexOutOfBoundsException" | _ => "java/lang/ArithmeticException"
def axEn : Nat → List String
  | 4 => ["java/lang/IndexOutOfBoundsException", "java/lang/RuntimeException", "java/lang/Exception"]
  | _ => ["java/lang/RuntimeException", "java/lang/Exception"]
/-- the throws: the exception; the entries of its class, of the text and of the constructor; the text -/
def axTh : Nat → Nat × Nat × Nat × Nat × String
  | 0 => (1, 61, 63, 65, "no such place")
  | 1 => (1, 61, 68, 65, "pieces are 0 to 100")
  | 2 => (2, 73, 75, 77, "no room for another stop")
  | 3 => (1, 61, 90, 65, "no such kind of walk")
  | 4 => (3, 96, 98, 100, "too many stops for the least walk")
  | 5 => (4, 109, 111, 113, "no such step is left")
  | 6 => (3, 96, 118, 100, "the walk has no stop left")
  | 7 => (3, 96, 123, 100, "the aisle of the next stop is closed")
  | 8 => (3, 96, 138, 100, "the stop is not open")
  | 9 => (1, 61, 148, 65, "a cart has room for 1 to 1000 pieces")
  | 10 => (5, 153, 155, 157, "no metres were walked")
  | 11 => (1, 61, 161, 65, "nothing is told under this number")
  | 12 => (0, 175, 177, 179, "no such aisle")
  | _ => (0, 175, 180, 179, "no such stop")
def axPa (j : Nat) : Option Nat := (parseMethodDescriptor (axY j).desc).map (fun d => d.parameters.length)
def ax_ln : Instr → Nat
  | .iload _ => 2 | .aload _ => 2 | .istore _ => 2 | .astore _ => 2 | .bipush _ => 2 | .ldc _ => 2 | .newarray _ => 2
  | .sipush _ => 3 | .iinc _ _ => 3 | .goto _ => 3 | .if_icmp _ _ => 3 | .ifCond _ _ => 3 | .getfield _ => 3 | .putfield _ => 3 | .new _ => 3
  | .invokespecial _ => 3 | .invokestatic _ => 3 | .invokevirtual _ => 3
  | _ => 1
def ax_isw : Instr → Bool
  | .tableswitch .. => true
  | .lookupswitch .. => true
  | _ => false
def ax_dec (bytes : ByteArray) (q : AxI) : Bool := match decode bytes q.1 with
  | .ok (i, n) => decide (i = q.2.1) && (ax_isw i || Nat.beq n (ax_ln i))
  | .error _ => false
def ax_need (i : Nat) (q : AxI) : List Cond := match q with
  | (_, ins, x, y) => match ins with
    | .getfield k => [.fieldLink (axO i) k (axTT x y).1 (axTT x y).2.1 (axTT x y).2.2.1]
    | .putfield k => [.fieldLink (axO i) k (axTT x y).1 (axTT x y).2.1 (axTT x y).2.2.1]
    | .new k => cond (Nat.blt x 100) [.classLink (axO i) k (axRN x), .instantiable (axRN x) (axNF x), .initialized (axRN x)] [.classLink (axO i) k (axEx (x - 100)), .initialized (axEx (x - 100))]
    | .newarray t => [.arrayClass (newarray.typeOf t)]
    | .ldc k => cond (Nat.beq x 0) [] [.constant (axO i) k (Int32.ofNat x)]
    | .invokespecial k => (match x with
      | 5 => [.methodLink (axO i) k objectInit, .instanceMethod objectInit, .code objectInit ⟨#[0xb1]⟩ 1 none]
      | 1 => [.methodLink (axO i) k (axY y), .instanceMethod (axY y), .initialized (axY y).cls]
      | 4 => [.methodLinkNest (axO i) k (axY y) "PickPaths", .instanceMethod (axY y), .initialized (axY y).cls]
      | _ => [])
    | .invokevirtual k => [.methodLink (axO i) k (axY y), .instanceMethod (axY y), .selects (axY y).cls (axY y) (axY y), .initialized (axY y).cls]
    | .invokestatic k => (match x with
      | 2 => [.methodLink (axO i) k (axY y), .static (axY y), .initialized (axY y).cls]
      | 3 => [.methodLink (axO i) k (axY y), .static (axY y), .initialized (axY y).cls]
      | 6 => [.methodLink (axO i) k Lib.Math.max.name, .static Lib.Math.max.name, .initialized "java/lang/Math", .code Lib.Math.max.name Lib.Math.max.code 2 (some .int)]
      | 7 => [.methodLink (axO i) k Lib.Math.min.name, .static Lib.Math.min.name, .initialized "java/lang/Math", .code Lib.Math.min.name Lib.Math.min.code 2 (some .int)]
      | 8 => [.methodLink (axO i) k Lib.Math.abs.name, .static Lib.Math.abs.name, .initialized "java/lang/Math", .code Lib.Math.abs.name Lib.Math.abs.code 1 (some .int)]
      | _ => [])
    | _ => []
def ax_tgs (pc : Nat) (off : Int) : Bool := decide (0 ≤ (pc : Int) + off)
/-- what must hold of a row whatever the state -/
def ax_stc (i : Nat) (q : AxI) : Bool := match q with
  | (pc, ins, x, y) => match ins with
    | .istore k => Nat.blt k (axLo i)
    | .istore_n k => Nat.blt k.val (axLo i)
    | .astore k => Nat.blt k (axLo i)
    | .astore_n k => Nat.blt k.val (axLo i)
    | .iinc k _ => Nat.blt k (axLo i)
    | .goto off => decide ((pc : Int) + off = (x : Int))
    | .if_icmp _ off => decide ((pc : Int) + off = (x : Int))
    | .ifCond _ off => decide ((pc : Int) + off = (x : Int))
    | .tableswitch dflt lo hi offs => ax_tgs pc dflt && offs.toList.all (ax_tgs pc) && decide (hi - lo + 1 = (offs.toList.length : Int))
    | .lookupswitch dflt ps => ax_tgs pc dflt && ps.toList.all (fun z => ax_tgs pc z.2) && (ps.toList.zip (ps.toList.drop 1)).all (fun (a, next) => a.1 < next.1)
    | .newarray t => decide (newarray.typeOf t = ax_aty y) && Nat.blt y 3 && Nat.ble x 60000
    | .getfield _ => Nat.blt x 7 && Nat.blt y (axNF x)
    | .putfield _ => Nat.blt x 7 && Nat.blt y (axNF x) && (!(axTT x y).2.2.2 || (decide ((axY i).name = "<init>") && decide ((axTT x y).1 = axO i)))
    | .new k => (Nat.blt x 7) || (Nat.ble 100 x && Nat.blt x 106 && Nat.blt y 14 && decide (axHh i = []) && decide (axO i = "PickPaths") && decide ((axTh y).1 = x - 100) && decide ((axTh y).2.1 = k)
        && ax_dec (axB i) (pc + 3, .dup, 0, 0) && ax_dec (axB i) (pc + 4, .ldc (axTh y).2.2.1, 0, 0) && ax_dec (axB i) (pc + 6, .invokespecial (axTh y).2.2.2.1, 0, 0) && ax_dec (axB i) (pc + 9, .athrow, 0, 0))
    | .invokevirtual _ => Nat.beq x 0 && Nat.blt y 105 && decide (axHh y = []) && decide (some (axNa y) = (axPa y).map (· + 1)) && Nat.blt (axCi y) 7 && decide ((axY y).cls = axRN (axCi y))
    | .invokespecial _ => Nat.beq x 5 || Nat.beq x 9 || ((Nat.beq x 1 || Nat.beq x 4) && Nat.blt y 105 && decide (axHh y = []) && decide (some (axNa y) = (axPa y).map (· + 1)) && decide ((axY y).name = "<init>") && decide (axRe y = none))
    | .invokestatic _ => Nat.blt 5 x || (Nat.blt y 105 && decide (some (axNa y) = axPa y) && ((Nat.beq x 2 && decide (axHh y = [])) || (Nat.beq x 3 && !decide (axHh y = []))))
    | _ => true
def axCode (i : Nat) : Cond := match axHh i with
  | [] => .code (axY i) (axB i) (axLo i) (axRe i)
  | h :: hs => .codeWith (axY i) (axB i) (axLo i) (axRe i) (h :: hs)

theorem dkX0_init : inX0_init.all (ax_dec cX0_init) = true := by decide +kernel
theorem skX0_init : inX0_init.all (ax_stc 0) = true := by decide +kernel
theorem nkX0_init : (inX0_init.flatMap (ax_need 0)).map some = ([89, 64, 65, 111, 101, 90, 91, 43, 92, 93, 94, 43, 95, 96, 90, 91, 43, 92, 93, 94, 43, 95, 99] : List Nat).map (fun p => lw_tbl[p]?) := by decide +kernel
theorem dkX0_hasAisle : inX0_hasAisle.all (ax_dec cX0_hasAisle) = true := by decide +kernel
theorem skX0_hasAisle : inX0_hasAisle.all (ax_stc 1) = true := by decide +kernel
theorem nkX0_hasAisle : (inX0_hasAisle.flatMap (ax_need 1)).map some = ([96] : List Nat).map (fun p => lw_tbl[p]?) := by decide +kernel
theorem dkX0_hasPlace : inX0_hasPlace.all (ax_dec cX0_hasPlace) = true := by decide +kernel
theorem skX0_hasPlace : inX0_hasPlace.all (ax_stc 2) = true := by decide +kernel
theorem nkX0_hasPlace : (inX0_hasPlace.flatMap (ax_need 2)).map some = ([99] : List Nat).map (fun p => lw_tbl[p]?) := by decide +kernel
theorem dkX0_backDepth : inX0_backDepth.all (ax_dec cX0_backDepth) = true := by decide +kernel
theorem skX0_backDepth : inX0_backDepth.all (ax_stc 3) = true := by decide +kernel
theorem nkX0_backDepth : (inX0_backDepth.flatMap (ax_need 3)).map some = ([99] : List Nat).map (fun p => lw_tbl[p]?) := by decide +kernel
theorem dkX0_placeDepth : inX0_placeDepth.all (ax_dec cX0_placeDepth) = true := by decide +kernel
theorem skX0_placeDepth : inX0_placeDepth.all (ax_stc 4) = true := by decide +kernel
theorem nkX0_placeDepth : (inX0_placeDepth.flatMap (ax_need 4)).map some = ([] : List Nat).map (fun p => lw_tbl[p]?) := by decide +kernel
theorem dkX0_between : inX0_between.all (ax_dec cX0_between) = true := by decide +kernel
theorem skX0_between : inX0_between.all (ax_stc 5) = true := by decide +kernel
theorem nkX0_between : (inX0_between.flatMap (ax_need 5)).map some = ([399, 400, 43, 401, 402, 99, 399, 400, 43, 401, 399, 400, 43, 401, 90, 91, 43, 92, 399, 400, 43, 401] : List Nat).map (fun p => lw_tbl[p]?) := by decide +kernel
theorem dkX1_init : inX1_init.all (ax_dec cX1_init) = true := by decide +kernel
theorem skX1_init : inX1_init.all (ax_stc 6) = true := by decide +kernel
theorem nkX1_init : (inX1_init.flatMap (ax_need 6)).map some = ([164, 64, 65, 83, 166, 167, 83, 168, 165] : List Nat).map (fun p => lw_tbl[p]?) := by decide +kernel
theorem dkX1_lay : inX1_lay.all (ax_dec cX1_lay) = true := by decide +kernel
theorem skX1_lay : inX1_lay.all (ax_stc 7) = true := by decide +kernel
theorem nkX1_lay : (inX1_lay.flatMap (ax_need 7)).map some = ([452, 454, 4, 46, 457, 459, 5, 46, 167, 167, 465, 467, 6, 46, 166, 474, 475, 476, 41] : List Nat).map (fun p => lw_tbl[p]?) := by decide +kernel
theorem dkX1_gather : inX1_gather.all (ax_dec cX1_gather) = true := by decide +kernel
theorem skX1_gather : inX1_gather.all (ax_stc 8) = true := by decide +kernel
theorem nkX1_gather : (inX1_gather.flatMap (ax_need 8)).map some = ([167, 165, 133, 167, 165, 456, 233, 234, 44, 166, 167, 167, 167] : List Nat).map (fun p => lw_tbl[p]?) := by decide +kernel
theorem dkX1_fillRests : inX1_fillRests.all (ax_dec cX1_fillRests) = true := by decide +kernel
theorem skX1_fillRests : inX1_fillRests.all (ax_stc 9) = true := by decide +kernel
theorem nkX1_fillRests : (inX1_fillRests.flatMap (ax_need 9)).map some = ([167, 168, 165, 166, 461, 225, 226, 44, 167, 167, 462, 463, 46, 166, 465, 467, 6, 46, 168, 166, 470, 472, 7, 46] : List Nat).map (fun p => lw_tbl[p]?) := by decide +kernel
theorem dkX1_bestNext : inX1_bestNext.all (ax_dec cX1_bestNext) = true := by decide +kernel
theorem skX1_bestNext : inX1_bestNext.all (ax_stc 10) = true := by decide +kernel
theorem nkX1_bestNext : (inX1_bestNext.flatMap (ax_need 10)).map some = ([469, 167, 462, 463, 46, 470, 472, 7, 46] : List Nat).map (fun p => lw_tbl[p]?) := by decide +kernel
theorem dkX1_isIn : inX1_isIn.all (ax_dec cX1_isIn) = true := by decide +kernel
theorem skX1_isIn : inX1_isIn.all (ax_stc 11) = true := by decide +kernel
theorem nkX1_isIn : (inX1_isIn.flatMap (ax_need 11)).map some = ([] : List Nat).map (fun p => lw_tbl[p]?) := by decide +kernel
theorem dkX1_lengthBy : inX1_lengthBy.all (ax_dec cX1_lengthBy) = true := by decide +kernel
theorem skX1_lengthBy : inX1_lengthBy.all (ax_stc 12) = true := by decide +kernel
theorem nkX1_lengthBy : (inX1_lengthBy.flatMap (ax_need 12)).map some = ([165, 166, 461, 225, 226, 44, 168] : List Nat).map (fun p => lw_tbl[p]?) := by decide +kernel
theorem dkX2_init : inX2_init.all (ax_dec cX2_init) = true := by decide +kernel
theorem skX2_init : inX2_init.all (ax_stc 13) = true := by decide +kernel
theorem nkX2_init : (inX2_init.flatMap (ax_need 13)).map some = ([158, 64, 65, 83, 181, 111, 182, 178, 179, 159, 160, 46, 161, 162, 46, 180] : List Nat).map (fun p => lw_tbl[p]?) := by decide +kernel
theorem dkX2_lay : inX2_lay.all (ax_dec cX2_lay) = true := by decide +kernel
theorem skX2_lay : inX2_lay.all (ax_stc 14) = true := by decide +kernel
theorem nkX2_lay : (inX2_lay.flatMap (ax_need 14)).map some = ([443, 444, 445, 41, 179, 131, 182, 179, 447, 233, 234, 44, 180, 448, 449, 450, 46, 482, 484, 8, 45, 494, 496, 10, 45] : List Nat).map (fun p => lw_tbl[p]?) := by decide +kernel
theorem dkX2_layNearest : inX2_layNearest.all (ax_dec cX2_layNearest) = true := by decide +kernel
theorem skX2_layNearest : inX2_layNearest.all (ax_stc 15) = true := by decide +kernel
theorem nkX2_layNearest : (inX2_layNearest.flatMap (ax_need 15)).map some = ([179, 486, 246, 247, 44, 487, 489, 9, 45, 182, 493, 475, 476, 41] : List Nat).map (fun p => lw_tbl[p]?) := by decide +kernel
theorem dkX2_nearestFrom : inX2_nearestFrom.all (ax_dec cX2_nearestFrom) = true := by decide +kernel
theorem skX2_nearestFrom : inX2_nearestFrom.all (ax_stc 16) = true := by decide +kernel
theorem nkX2_nearestFrom : (inX2_nearestFrom.flatMap (ax_need 16)).map some = ([491, 179, 131, 182, 179, 492, 225, 226, 44, 179, 492, 225, 226, 44] : List Nat).map (fun p => lw_tbl[p]?) := by decide +kernel
theorem dkX2_layByKeys : inX2_layByKeys.all (ax_dec cX2_layByKeys) = true := by decide +kernel
theorem skX2_layByKeys : inX2_layByKeys.all (ax_stc 17) = true := by decide +kernel
theorem nkX2_layByKeys : (inX2_layByKeys.flatMap (ax_need 17)).map some = ([179, 131, 182, 181, 498, 500, 11, 45, 77, 181, 74, 181, 543, 479, 480, 41] : List Nat).map (fun p => lw_tbl[p]?) := by decide +kernel
theorem dkX2_keyOf : inX2_keyOf.all (ax_dec cX2_keyOf) = true := by decide +kernel
theorem skX2_keyOf : inX2_keyOf.all (ax_stc 18) = true := by decide +kernel
theorem nkX2_keyOf : (inX2_keyOf.flatMap (ax_need 18)).map some = ([502, 504, 12, 45, 179, 119, 514, 516, 15, 45, 539, 541, 20, 45] : List Nat).map (fun p => lw_tbl[p]?) := by decide +kernel
theorem dkX2_throughKey : inX2_throughKey.all (ax_dec cX2_throughKey) = true := by decide +kernel
theorem skX2_throughKey : inX2_throughKey.all (ax_stc 19) = true := by decide +kernel
theorem nkX2_throughKey : (inX2_throughKey.flatMap (ax_need 19)).map some = ([179, 119, 506, 508, 13, 45, 514, 516, 15, 45, 522, 524, 17, 45] : List Nat).map (fun p => lw_tbl[p]?) := by decide +kernel
theorem dkX2_gapKey : inX2_gapKey.all (ax_dec cX2_gapKey) = true := by decide +kernel
theorem skX2_gapKey : inX2_gapKey.all (ax_stc 20) = true := by decide +kernel
theorem nkX2_gapKey : (inX2_gapKey.flatMap (ax_need 20)).map some = ([179, 119, 506, 508, 13, 45, 514, 516, 15, 45, 518, 520, 16, 45, 522, 524, 17, 45, 179, 125, 526, 528, 18, 45, 522, 524, 17, 45, 514, 516, 15, 45] : List Nat).map (fun p => lw_tbl[p]?) := by decide +kernel
theorem dkX2_upward : inX2_upward.all (ax_dec cX2_upward) = true := by decide +kernel
theorem skX2_upward : inX2_upward.all (ax_stc 21) = true := by decide +kernel
theorem nkX2_upward : (inX2_upward.flatMap (ax_need 21)).map some = ([179, 122] : List Nat).map (fun p => lw_tbl[p]?) := by decide +kernel
theorem dkX2_downward : inX2_downward.all (ax_dec cX2_downward) = true := by decide +kernel
theorem skX2_downward : inX2_downward.all (ax_stc 22) = true := by decide +kernel
theorem nkX2_downward : (inX2_downward.flatMap (ax_need 22)).map some = ([179, 122] : List Nat).map (fun p => lw_tbl[p]?) := by decide +kernel
theorem dkX2_usedAislesBelow : inX2_usedAislesBelow.all (ax_dec cX2_usedAislesBelow) = true := by decide +kernel
theorem skX2_usedAislesBelow : inX2_usedAislesBelow.all (ax_stc 23) = true := by decide +kernel
theorem nkX2_usedAislesBelow : (inX2_usedAislesBelow.flatMap (ax_need 23)).map some = ([510, 512, 14, 45] : List Nat).map (fun p => lw_tbl[p]?) := by decide +kernel
theorem dkX2_isUsedAbove : inX2_isUsedAbove.all (ax_dec cX2_isUsedAbove) = true := by decide +kernel
theorem skX2_isUsedAbove : inX2_isUsedAbove.all (ax_stc 24) = true := by decide +kernel
theorem nkX2_isUsedAbove : (inX2_isUsedAbove.flatMap (ax_need 24)).map some = ([178, 97, 510, 512, 14, 45] : List Nat).map (fun p => lw_tbl[p]?) := by decide +kernel
theorem dkX2_isUsed : inX2_isUsed.all (ax_dec cX2_isUsed) = true := by decide +kernel
theorem skX2_isUsed : inX2_isUsed.all (ax_stc 25) = true := by decide +kernel
theorem nkX2_isUsed : (inX2_isUsed.flatMap (ax_need 25)).map some = ([179, 131, 182, 179, 119] : List Nat).map (fun p => lw_tbl[p]?) := by decide +kernel
theorem dkX2_gapStart : inX2_gapStart.all (ax_dec cX2_gapStart) = true := by decide +kernel
theorem skX2_gapStart : inX2_gapStart.all (ax_stc 26) = true := by decide +kernel
theorem nkX2_gapStart : (inX2_gapStart.flatMap (ax_need 26)).map some = ([179, 131, 530, 532, 19, 45] : List Nat).map (fun p => lw_tbl[p]?) := by decide +kernel
theorem dkX2_nextDepth : inX2_nextDepth.all (ax_dec cX2_nextDepth) = true := by decide +kernel
theorem skX2_nextDepth : inX2_nextDepth.all (ax_stc 27) = true := by decide +kernel
theorem nkX2_nextDepth : (inX2_nextDepth.flatMap (ax_need 27)).map some = ([178, 534, 535, 536, 42, 179, 131, 182, 179, 119, 179, 125, 179, 125, 538, 91, 43, 92] : List Nat).map (fun p => lw_tbl[p]?) := by decide +kernel
theorem dkX3_init : inX3_init.all (ax_dec cX3_init) = true := by decide +kernel
theorem skX3_init : inX3_init.all (ax_stc 28) = true := by decide +kernel
theorem nkX3_init : (inX3_init.flatMap (ax_need 28)).map some = ([71, 64, 65, 83, 72, 75] : List Nat).map (fun p => lw_tbl[p]?) := by decide +kernel
theorem dkX3_clear : inX3_clear.all (ax_dec cX3_clear) = true := by decide +kernel
theorem skX3_clear : inX3_clear.all (ax_stc 29) = true := by decide +kernel
theorem nkX3_clear : (inX3_clear.flatMap (ax_need 29)).map some = ([75] : List Nat).map (fun p => lw_tbl[p]?) := by decide +kernel
theorem dkX3_insert : inX3_insert.all (ax_dec cX3_insert) = true := by decide +kernel
theorem skX3_insert : inX3_insert.all (ax_stc 30) = true := by decide +kernel
theorem nkX3_insert : (inX3_insert.flatMap (ax_need 30)).map some = ([75, 72, 75, 72, 72, 72, 75, 75] : List Nat).map (fun p => lw_tbl[p]?) := by decide +kernel
theorem dkX3_append : inX3_append.all (ax_dec cX3_append) = true := by decide +kernel
theorem skX3_append : inX3_append.all (ax_stc 31) = true := by decide +kernel
theorem nkX3_append : (inX3_append.flatMap (ax_need 31)).map some = ([75, 478, 479, 480, 41] : List Nat).map (fun p => lw_tbl[p]?) := by decide +kernel
theorem dkX3_drop : inX3_drop.all (ax_dec cX3_drop) = true := by decide +kernel
theorem skX3_drop : inX3_drop.all (ax_stc 32) = true := by decide +kernel
theorem nkX3_drop : (inX3_drop.flatMap (ax_need 32)).map some = ([75, 72, 72, 72, 75] : List Nat).map (fun p => lw_tbl[p]?) := by decide +kernel
theorem dkX4_init : inX4_init.all (ax_dec cX4_init) = true := by decide +kernel
theorem skX4_init : inX4_init.all (ax_stc 33) = true := by decide +kernel
theorem nkX4_init : (inX4_init.flatMap (ax_need 33)).map some = ([117, 64, 65, 83, 118, 83, 121, 83, 124, 83, 126, 83, 128, 130, 83, 135, 134] : List Nat).map (fun p => lw_tbl[p]?) := by decide +kernel
theorem dkX4_add : inX4_add.all (ax_dec cX4_add) = true := by decide +kernel
theorem skX4_add : inX4_add.all (ax_stc 34) = true := by decide +kernel
theorem nkX4_add : (inX4_add.flatMap (ax_need 34)).map some = ([130, 118, 121, 124, 134, 387, 388, 389, 42, 126, 128, 391, 393, 3, 44, 391, 393, 3, 44, 130, 130] : List Nat).map (fun p => lw_tbl[p]?) := by decide +kernel
theorem dkX4_measure : inX4_measure.all (ax_dec cX4_measure) = true := by decide +kernel
theorem skX4_measure : inX4_measure.all (ax_stc 35) = true := by decide +kernel
theorem nkX4_measure : (inX4_measure.flatMap (ax_need 35)).map some = ([134, 118, 124, 118, 124, 395, 396, 397, 42, 135, 135] : List Nat).map (fun p => lw_tbl[p]?) := by decide +kernel
theorem dkX4_way : inX4_way.all (ax_dec cX4_way) = true := by decide +kernel
theorem skX4_way : inX4_way.all (ax_stc 36) = true := by decide +kernel
theorem nkX4_way : (inX4_way.flatMap (ax_need 36)).map some = ([135] : List Nat).map (fun p => lw_tbl[p]?) := by decide +kernel
theorem dkX4_isWalked : inX4_isWalked.all (ax_dec cX4_isWalked) = true := by decide +kernel
theorem skX4_isWalked : inX4_isWalked.all (ax_stc 37) = true := by decide +kernel
theorem nkX4_isWalked : (inX4_isWalked.flatMap (ax_need 37)).map some = ([128, 126, 134, 103, 118] : List Nat).map (fun p => lw_tbl[p]?) := by decide +kernel
theorem dkX4_walkedOnes : inX4_walkedOnes.all (ax_dec cX4_walkedOnes) = true := by decide +kernel
theorem skX4_walkedOnes : inX4_walkedOnes.all (ax_stc 38) = true := by decide +kernel
theorem nkX4_walkedOnes : (inX4_walkedOnes.flatMap (ax_need 38)).map some = ([130, 249, 233, 234, 44] : List Nat).map (fun p => lw_tbl[p]?) := by decide +kernel
theorem dkX4_doneOnes : inX4_doneOnes.all (ax_dec cX4_doneOnes) = true := by decide +kernel
theorem skX4_doneOnes : inX4_doneOnes.all (ax_stc 39) = true := by decide +kernel
theorem nkX4_doneOnes : (inX4_doneOnes.flatMap (ax_need 39)).map some = ([130, 128] : List Nat).map (fun p => lw_tbl[p]?) := by decide +kernel
theorem dkX4_openIn : inX4_openIn.all (ax_dec cX4_openIn) = true := by decide +kernel
theorem skX4_openIn : inX4_openIn.all (ax_stc 40) = true := by decide +kernel
theorem nkX4_openIn : (inX4_openIn.flatMap (ax_need 40)).map some = ([130, 118, 128] : List Nat).map (fun p => lw_tbl[p]?) := by decide +kernel
theorem dkX5_init : inX5_init.all (ax_dec cX5_init) = true := by decide +kernel
theorem skX5_init : inX5_init.all (ax_stc 41) = true := by decide +kernel
theorem nkX5_init : (inX5_init.flatMap (ax_need 41)).map some = ([63, 64, 65, 66, 67, 41, 68, 69, 41, 197, 198, 199, 200, 84, 85, 42, 86, 87, 42, 194, 112, 113, 44, 194, 114, 115, 44, 195, 153, 154, 45, 194, 195, 155, 156, 45, 196] : List Nat).map (fun p => lw_tbl[p]?) := by decide +kernel
theorem dkX5_stop : inX5_stop.all (ax_dec cX5_stop) = true := by decide +kernel
theorem skX5_stop : inX5_stop.all (ax_stc 42) = true := by decide +kernel
theorem nkX5_stop : (inX5_stop.flatMap (ax_need 42)).map some = ([267, 269, 1, 40, 194, 346, 347, 348, 42, 350, 52, 350, 52, 195, 132, 367, 53, 195, 383, 384, 385, 44] : List Nat).map (fun p => lw_tbl[p]?) := by decide +kernel
theorem dkX5_closed : inX5_closed.all (ax_dec cX5_closed) = true := by decide +kernel
theorem skX5_closed : inX5_closed.all (ax_stc 43) = true := by decide +kernel
theorem nkX5_closed : (inX5_closed.flatMap (ax_need 43)).map some = ([267, 269, 1, 40, 194, 102, 195, 410, 411, 412, 44] : List Nat).map (fun p => lw_tbl[p]?) := by decide +kernel
theorem dkX5_walk : inX5_walk.all (ax_dec cX5_walk) = true := by decide +kernel
theorem skX5_walk : inX5_walk.all (ax_stc 44) = true := by decide +kernel
theorem nkX5_walk : (inX5_walk.flatMap (ax_need 44)).map some = ([350, 52, 195, 245, 246, 247, 44, 423, 54, 196, 198, 197, 439, 440, 441, 45, 220, 222, 0, 40] : List Nat).map (fun p => lw_tbl[p]?) := by decide +kernel
theorem dkX5_step : inX5_step.all (ax_dec cX5_step) = true := by decide +kernel
theorem skX5_step : inX5_step.all (ax_stc 45) = true := by decide +kernel
theorem nkX5_step : (inX5_step.flatMap (ax_need 45)).map some = ([197, 76, 552, 56, 197, 73] : List Nat).map (fun p => lw_tbl[p]?) := by decide +kernel
theorem dkX5_go : inX5_go.all (ax_dec cX5_go) = true := by decide +kernel
theorem skX5_go : inX5_go.all (ax_stc 46) = true := by decide +kernel
theorem nkX5_go : (inX5_go.flatMap (ax_need 46)).map some = ([197, 76, 423, 54, 197, 73, 194, 102, 195, 120, 423, 54, 199, 195, 198, 224, 225, 226, 44, 199, 195, 129, 198, 197, 582, 583, 584, 41] : List Nat).map (fun p => lw_tbl[p]?) := by decide +kernel
theorem dkX5_missing : inX5_missing.all (ax_dec cX5_missing) = true := by decide +kernel
theorem skX5_missing : inX5_missing.all (ax_stc 47) = true := by decide +kernel
theorem nkX5_missing : (inX5_missing.flatMap (ax_need 47)).map some = ([593, 595, 21, 40, 195, 129, 423, 54, 195, 129, 197, 582, 583, 584, 41, 220, 222, 0, 40] : List Nat).map (fun p => lw_tbl[p]?) := by decide +kernel
theorem dkX5_left : inX5_left.all (ax_dec cX5_left) = true := by decide +kernel
theorem skX5_left : inX5_left.all (ax_stc 48) = true := by decide +kernel
theorem nkX5_left : (inX5_left.flatMap (ax_need 48)).map some = ([220, 222, 0, 40] : List Nat).map (fun p => lw_tbl[p]?) := by decide +kernel
theorem dkX5_bound : inX5_bound.all (ax_dec cX5_bound) = true := by decide +kernel
theorem skX5_bound : inX5_bound.all (ax_stc 49) = true := by decide +kernel
theorem nkX5_bound : (inX5_bound.flatMap (ax_need 49)).map some = ([195, 132, 195, 232, 233, 234, 44, 195, 198, 224, 225, 226, 44, 195, 224, 225, 226, 44, 236, 94, 43, 95] : List Nat).map (fun p => lw_tbl[p]?) := by decide +kernel
theorem dkX5_cart : inX5_cart.all (ax_dec cX5_cart) = true := by decide +kernel
theorem skX5_cart : inX5_cart.all (ax_stc 50) = true := by decide +kernel
theorem nkX5_cart : (inX5_cart.flatMap (ax_need 50)).map some = ([350, 52, 200] : List Nat).map (fun p => lw_tbl[p]?) := by decide +kernel
theorem dkX5_full : inX5_full.all (ax_dec cX5_full) = true := by decide +kernel
theorem skX5_full : inX5_full.all (ax_stc 51) = true := by decide +kernel
theorem nkX5_full : (inX5_full.flatMap (ax_need 51)).map some = ([198, 197, 76, 197, 73, 195, 127, 200, 195, 224, 225, 226, 44, 195, 224, 225, 226, 44, 195, 224, 225, 226, 44] : List Nat).map (fun p => lw_tbl[p]?) := by decide +kernel
theorem dkX5_share : inX5_share.all (ax_dec cX5_share) = true := by decide +kernel
theorem skX5_share : inX5_share.all (ax_stc 52) = true := by decide +kernel
theorem nkX5_share : (inX5_share.flatMap (ax_need 52)).map some = ([593, 595, 21, 40, 199, 615, 57, 195, 198, 224, 225, 226, 44, 199] : List Nat).map (fun p => lw_tbl[p]?) := by decide +kernel
theorem dkX5_far : inX5_far.all (ax_dec cX5_far) = true := by decide +kernel
theorem skX5_far : inX5_far.all (ax_stc 53) = true := by decide +kernel
theorem nkX5_far : (inX5_far.flatMap (ax_need 53)).map some = ([593, 595, 21, 40, 593, 595, 21, 40, 195, 224, 225, 226, 44] : List Nat).map (fun p => lw_tbl[p]?) := by decide +kernel
theorem dkX5_told : inX5_told.all (ax_dec cX5_told) = true := by decide +kernel
theorem skX5_told : inX5_told.all (ax_stc 54) = true := by decide +kernel
theorem nkX5_told : (inX5_told.flatMap (ax_need 54)).map some = ([593, 595, 21, 40, 195, 120, 195, 123, 195, 127, 195, 129, 195, 232, 233, 234, 44, 350, 52] : List Nat).map (fun p => lw_tbl[p]?) := by decide +kernel
theorem dkX5_count : inX5_count.all (ax_dec cX5_count) = true := by decide +kernel
theorem skX5_count : inX5_count.all (ax_stc 55) = true := by decide +kernel
theorem nkX5_count : (inX5_count.flatMap (ax_need 55)).map some = ([195, 132, 195, 245, 246, 247, 44, 197, 76, 194, 98, 194, 100, 199, 195, 250, 251, 252, 44, 198, 198] : List Nat).map (fun p => lw_tbl[p]?) := by decide +kernel
theorem dkX5_requireAisle : inX5_requireAisle.all (ax_dec cX5_requireAisle) = true := by decide +kernel
theorem skX5_requireAisle : inX5_requireAisle.all (ax_stc 56) = true := by decide +kernel
theorem nkX5_requireAisle : (inX5_requireAisle.flatMap (ax_need 56)).map some = ([194, 271, 272, 273, 42, 275, 51] : List Nat).map (fun p => lw_tbl[p]?) := by decide +kernel
theorem dkX5_requireStop : inX5_requireStop.all (ax_dec cX5_requireStop) = true := by decide +kernel
theorem skX5_requireStop : inX5_requireStop.all (ax_stc 57) = true := by decide +kernel
theorem nkX5_requireStop : (inX5_requireStop.flatMap (ax_need 57)).map some = ([195, 132, 275, 51] : List Nat).map (fun p => lw_tbl[p]?) := by decide +kernel
theorem dkX5_routeLength : inX5_routeLength.all (ax_dec cX5_routeLength) = true := by decide +kernel
theorem skX5_routeLength : inX5_routeLength.all (ax_stc 58) = true := by decide +kernel
theorem nkX5_routeLength : (inX5_routeLength.flatMap (ax_need 58)).map some = ([198, 197, 76, 195, 197, 73, 224, 225, 226, 44, 197, 73, 195, 224, 225, 226, 44] : List Nat).map (fun p => lw_tbl[p]?) := by decide +kernel
theorem dkX6_init : inX6_init.all (ax_dec cX6_init) = true := by decide +kernel
theorem skX6_init : inX6_init.all (ax_stc 59) = true := by decide +kernel
theorem nkX6_init : (inX6_init.flatMap (ax_need 59)).map some = ([651, 64, 65, 655, 657, 111, 658, 83, 660, 83, 661, 83, 662, 83, 663, 83, 665, 111, 666, 111, 667, 83, 668, 83, 669, 653, 654] : List Nat).map (fun p => lw_tbl[p]?) := by decide +kernel
theorem dkX6_thrown : inX6_thrown.all (ax_dec cX6_thrown) = true := by decide +kernel
theorem skX6_thrown : inX6_thrown.all (ax_stc 60) = true := by decide +kernel
theorem nkX6_thrown : (inX6_thrown.flatMap (ax_need 60)).map some = ([652] : List Nat).map (fun p => lw_tbl[p]?) := by decide +kernel
theorem dkX6_in : inX6_in.all (ax_dec cX6_in) = true := by decide +kernel
theorem skX6_in : inX6_in.all (ax_stc 61) = true := by decide +kernel
theorem nkX6_in : (inX6_in.flatMap (ax_need 61)).map some = ([] : List Nat).map (fun p => lw_tbl[p]?) := by decide +kernel
theorem dkX6_isStop : inX6_isStop.all (ax_dec cX6_isStop) = true := by decide +kernel
theorem skX6_isStop : inX6_isStop.all (ax_stc 62) = true := by decide +kernel
theorem nkX6_isStop : (inX6_isStop.flatMap (ax_need 62)).map some = ([659, 719, 720, 47] : List Nat).map (fun p => lw_tbl[p]?) := by decide +kernel
theorem dkX6_isAisle : inX6_isAisle.all (ax_dec cX6_isAisle) = true := by decide +kernel
theorem skX6_isAisle : inX6_isAisle.all (ax_stc 63) = true := by decide +kernel
theorem nkX6_isAisle : (inX6_isAisle.flatMap (ax_need 63)).map some = ([653, 719, 720, 47] : List Nat).map (fun p => lw_tbl[p]?) := by decide +kernel
theorem dkX6_stop : inX6_stop.all (ax_dec cX6_stop) = true := by decide +kernel
theorem skX6_stop : inX6_stop.all (ax_stc 64) = true := by decide +kernel
theorem nkX6_stop : (inX6_stop.flatMap (ax_need 64)).map some = ([715, 717, 22, 47, 654, 719, 720, 47, 719, 720, 47, 659, 652, 652, 660, 659, 661, 659, 662, 659, 659, 659, 659] : List Nat).map (fun p => lw_tbl[p]?) := by decide +kernel
theorem dkX6_closed : inX6_closed.all (ax_dec cX6_closed) = true := by decide +kernel
theorem skX6_closed : inX6_closed.all (ax_stc 65) = true := by decide +kernel
theorem nkX6_closed : (inX6_closed.flatMap (ax_need 65)).map some = ([715, 717, 22, 47, 652, 652, 658, 659, 660, 663] : List Nat).map (fun p => lw_tbl[p]?) := by decide +kernel
theorem dkX6_isWalked : inX6_isWalked.all (ax_dec cX6_isWalked) = true := by decide +kernel
theorem skX6_isWalked : inX6_isWalked.all (ax_stc 66) = true := by decide +kernel
theorem nkX6_isWalked : (inX6_isWalked.flatMap (ax_need 66)).map some = ([663, 662, 658, 660] : List Nat).map (fun p => lw_tbl[p]?) := by decide +kernel
theorem dkX6_walked : inX6_walked.all (ax_dec cX6_walked) = true := by decide +kernel
theorem skX6_walked : inX6_walked.all (ax_stc 67) = true := by decide +kernel
theorem nkX6_walked : (inX6_walked.flatMap (ax_need 67)).map some = ([659, 734, 736, 24, 47] : List Nat).map (fun p => lw_tbl[p]?) := by decide +kernel
theorem dkX6_apart : inX6_apart.all (ax_dec cX6_apart) = true := by decide +kernel
theorem skX6_apart : inX6_apart.all (ax_stc 68) = true := by decide +kernel
theorem nkX6_apart : (inX6_apart.flatMap (ax_need 68)).map some = ([] : List Nat).map (fun p => lw_tbl[p]?) := by decide +kernel
theorem dkX6_aisleOf : inX6_aisleOf.all (ax_dec cX6_aisleOf) = true := by decide +kernel
theorem skX6_aisleOf : inX6_aisleOf.all (ax_stc 69) = true := by decide +kernel
theorem nkX6_aisleOf : (inX6_aisleOf.flatMap (ax_need 69)).map some = ([660] : List Nat).map (fun p => lw_tbl[p]?) := by decide +kernel
theorem dkX6_depthOf : inX6_depthOf.all (ax_dec cX6_depthOf) = true := by decide +kernel
theorem skX6_depthOf : inX6_depthOf.all (ax_stc 70) = true := by decide +kernel
theorem nkX6_depthOf : (inX6_depthOf.flatMap (ax_need 70)).map some = ([661, 661] : List Nat).map (fun p => lw_tbl[p]?) := by decide +kernel
theorem dkX6_way : inX6_way.all (ax_dec cX6_way) = true := by decide +kernel
theorem skX6_way : inX6_way.all (ax_stc 71) = true := by decide +kernel
theorem nkX6_way : (inX6_way.flatMap (ax_need 71)).map some = ([774, 776, 34, 47, 774, 776, 34, 47, 762, 764, 31, 47, 762, 764, 31, 47, 778, 779, 47, 781, 654, 762, 764, 31, 47, 778, 779, 47, 774, 776, 34, 47, 774, 776, 34, 47, 778, 779, 47, 762, 764, 31, 47, 778, 779, 47] : List Nat).map (fun p => lw_tbl[p]?) := by decide +kernel
theorem dkX6_length : inX6_length.all (ax_dec cX6_length) = true := by decide +kernel
theorem skX6_length : inX6_length.all (ax_stc 72) = true := by decide +kernel
theorem nkX6_length : (inX6_length.flatMap (ax_need 72)).map some = ([657, 664, 665, 770, 772, 33, 47, 665, 770, 772, 33, 47] : List Nat).map (fun p => lw_tbl[p]?) := by decide +kernel
theorem dkX6_add : inX6_add.all (ax_dec cX6_add) = true := by decide +kernel
theorem skX6_add : inX6_add.all (ax_stc 73) = true := by decide +kernel
theorem nkX6_add : (inX6_add.flatMap (ax_need 73)).map some = ([665, 664, 664, 664, 666] : List Nat).map (fun p => lw_tbl[p]?) := by decide +kernel
theorem dkX6_addAisle : inX6_addAisle.all (ax_dec cX6_addAisle) = true := by decide +kernel
theorem skX6_addAisle : inX6_addAisle.all (ax_stc 74) = true := by decide +kernel
theorem nkX6_addAisle : (inX6_addAisle.flatMap (ax_need 74)).map some = ([659, 666, 660, 667, 661, 661, 661, 661, 750, 752, 28, 47] : List Nat).map (fun p => lw_tbl[p]?) := by decide +kernel
theorem dkX6_hasLeft : inX6_hasLeft.all (ax_dec cX6_hasLeft) = true := by decide +kernel
theorem skX6_hasLeft : inX6_hasLeft.all (ax_stc 75) = true := by decide +kernel
theorem nkX6_hasLeft : (inX6_hasLeft.flatMap (ax_need 75)).map some = ([659, 666, 660] : List Nat).map (fun p => lw_tbl[p]?) := by decide +kernel
theorem dkX6_through : inX6_through.all (ax_dec cX6_through) = true := by decide +kernel
theorem skX6_through : inX6_through.all (ax_stc 76) = true := by decide +kernel
theorem nkX6_through : (inX6_through.flatMap (ax_need 76)).map some = ([653, 742, 744, 26, 47, 746, 748, 27, 47] : List Nat).map (fun p => lw_tbl[p]?) := by decide +kernel
theorem dkX6_gap : inX6_gap.all (ax_dec cX6_gap) = true := by decide +kernel
theorem skX6_gap : inX6_gap.all (ax_stc 77) = true := by decide +kernel
theorem nkX6_gap : (inX6_gap.flatMap (ax_need 77)).map some = ([654, 654, 659, 666, 660, 762, 764, 31, 47, 762, 764, 31, 47, 762, 764, 31, 47] : List Nat).map (fun p => lw_tbl[p]?) := by decide +kernel
theorem dkX6_gaps : inX6_gaps.all (ax_dec cX6_gaps) = true := by decide +kernel
theorem skX6_gaps : inX6_gaps.all (ax_stc 78) = true := by decide +kernel
theorem nkX6_gaps : (inX6_gaps.flatMap (ax_need 78)).map some = ([653, 742, 744, 26, 47, 653, 758, 760, 30, 47, 659, 660, 667, 762, 764, 31, 47, 746, 748, 27, 47, 746, 748, 27, 47, 746, 748, 27, 47, 746, 748, 27, 47] : List Nat).map (fun p => lw_tbl[p]?) := by decide +kernel
theorem dkX6_nearest : inX6_nearest.all (ax_dec cX6_nearest) = true := by decide +kernel
theorem skX6_nearest : inX6_nearest.all (ax_stc 79) = true := by decide +kernel
theorem nkX6_nearest : (inX6_nearest.flatMap (ax_need 79)).map some = ([657, 659, 666, 770, 772, 33, 47, 770, 772, 33, 47, 750, 752, 28, 47] : List Nat).map (fun p => lw_tbl[p]?) := by decide +kernel
theorem dkX6_least : inX6_least.all (ax_dec cX6_least) = true := by decide +kernel
theorem skX6_least : inX6_least.all (ax_stc 80) = true := by decide +kernel
theorem nkX6_least : (inX6_least.flatMap (ax_need 80)).map some = ([659, 666, 668, 668, 770, 772, 33, 47, 781, 668, 668, 770, 772, 33, 47, 669, 669, 657, 781, 668, 770, 772, 33, 47, 669, 668, 750, 752, 28, 47, 668] : List Nat).map (fun p => lw_tbl[p]?) := by decide +kernel
theorem dkX6_walk : inX6_walk.all (ax_dec cX6_walk) = true := by decide +kernel
theorem skX6_walk : inX6_walk.all (ax_stc 81) = true := by decide +kernel
theorem nkX6_walk : (inX6_walk.flatMap (ax_need 81)).map some = ([719, 720, 47, 730, 732, 23, 47, 652, 652, 664, 659, 666, 734, 736, 24, 47, 667, 730, 732, 23, 47, 738, 740, 25, 47, 653, 746, 748, 27, 47, 754, 756, 29, 47, 766, 768, 32, 47, 782, 784, 35, 47, 786, 788, 36, 47] : List Nat).map (fun p => lw_tbl[p]?) := by decide +kernel
theorem dkX6_step : inX6_step.all (ax_dec cX6_step) = true := by decide +kernel
theorem skX6_step : inX6_step.all (ax_stc 82) = true := by decide +kernel
theorem nkX6_step : (inX6_step.flatMap (ax_need 82)).map some = ([664, 719, 720, 47, 652, 652, 665] : List Nat).map (fun p => lw_tbl[p]?) := by decide +kernel
theorem dkX6_remove : inX6_remove.all (ax_dec cX6_remove) = true := by decide +kernel
theorem skX6_remove : inX6_remove.all (ax_stc 83) = true := by decide +kernel
theorem nkX6_remove : (inX6_remove.flatMap (ax_need 83)).map some = ([664, 664, 664, 665, 665] : List Nat).map (fun p => lw_tbl[p]?) := by decide +kernel
theorem dkX6_go : inX6_go.all (ax_dec cX6_go) = true := by decide +kernel
theorem skX6_go : inX6_go.all (ax_stc 84) = true := by decide +kernel
theorem nkX6_go : (inX6_go.flatMap (ax_need 84)).map some = ([664, 652, 652, 658, 660, 665, 652, 652, 665, 656, 657, 770, 772, 33, 47, 656, 657, 663, 798, 800, 37, 47] : List Nat).map (fun p => lw_tbl[p]?) := by decide +kernel
theorem dkX6_missing : inX6_missing.all (ax_dec cX6_missing) = true := by decide +kernel
theorem skX6_missing : inX6_missing.all (ax_stc 85) = true := by decide +kernel
theorem nkX6_missing : (inX6_missing.flatMap (ax_need 85)).map some = ([806, 808, 38, 47, 652, 652, 663, 652, 652, 663, 664, 665, 798, 800, 37, 47, 786, 788, 36, 47] : List Nat).map (fun p => lw_tbl[p]?) := by decide +kernel
theorem dkX6_left : inX6_left.all (ax_dec cX6_left) = true := by decide +kernel
theorem skX6_left : inX6_left.all (ax_stc 86) = true := by decide +kernel
theorem nkX6_left : (inX6_left.flatMap (ax_need 86)).map some = ([652, 786, 788, 36, 47] : List Nat).map (fun p => lw_tbl[p]?) := by decide +kernel
theorem dkX6_bound : inX6_bound.all (ax_dec cX6_bound) = true := by decide +kernel
theorem skX6_bound : inX6_bound.all (ax_stc 87) = true := by decide +kernel
theorem nkX6_bound : (inX6_bound.flatMap (ax_need 87)).map some = ([652, 659, 734, 736, 24, 47, 657, 770, 772, 33, 47, 770, 772, 33, 47, 657, 770, 772, 33, 47, 770, 772, 33, 47] : List Nat).map (fun p => lw_tbl[p]?) := by decide +kernel
theorem dkX6_cart : inX6_cart.all (ax_dec cX6_cart) = true := by decide +kernel
theorem skX6_cart : inX6_cart.all (ax_stc 88) = true := by decide +kernel
theorem nkX6_cart : (inX6_cart.flatMap (ax_need 88)).map some = ([719, 720, 47, 652, 652, 655] : List Nat).map (fun p => lw_tbl[p]?) := by decide +kernel
theorem dkX6_full : inX6_full.all (ax_dec cX6_full) = true := by decide +kernel
theorem skX6_full : inX6_full.all (ax_stc 89) = true := by decide +kernel
theorem nkX6_full : (inX6_full.flatMap (ax_need 89)).map some = ([652, 657, 664, 662, 665, 655, 770, 772, 33, 47, 665, 770, 772, 33, 47, 665, 662, 665, 770, 772, 33, 47] : List Nat).map (fun p => lw_tbl[p]?) := by decide +kernel
theorem dkX6_share : inX6_share.all (ax_dec cX6_share) = true := by decide +kernel
theorem skX6_share : inX6_share.all (ax_stc 90) = true := by decide +kernel
theorem nkX6_share : (inX6_share.flatMap (ax_need 90)).map some = ([806, 808, 38, 47, 656, 652, 652, 657, 770, 772, 33, 47, 656] : List Nat).map (fun p => lw_tbl[p]?) := by decide +kernel
theorem dkX6_far : inX6_far.all (ax_dec cX6_far) = true := by decide +kernel
theorem skX6_far : inX6_far.all (ax_stc 91) = true := by decide +kernel
theorem nkX6_far : (inX6_far.flatMap (ax_need 91)).map some = ([806, 808, 38, 47, 806, 808, 38, 47, 652, 652, 770, 772, 33, 47] : List Nat).map (fun p => lw_tbl[p]?) := by decide +kernel
theorem dkX6_told : inX6_told.all (ax_dec cX6_told) = true := by decide +kernel
theorem skX6_told : inX6_told.all (ax_stc 92) = true := by decide +kernel
theorem nkX6_told : (inX6_told.flatMap (ax_need 92)).map some = ([806, 808, 38, 47, 719, 720, 47, 652, 652, 660, 661, 662, 663, 734, 736, 24, 47] : List Nat).map (fun p => lw_tbl[p]?) := by decide +kernel
theorem dkX6_count : inX6_count.all (ax_dec cX6_count) = true := by decide +kernel
theorem skX6_count : inX6_count.all (ax_stc 93) = true := by decide +kernel
theorem nkX6_count : (inX6_count.flatMap (ax_need 93)).map some = ([652, 659, 730, 732, 23, 47, 664, 653, 654, 656, 657, 659, 663] : List Nat).map (fun p => lw_tbl[p]?) := by decide +kernel
theorem dkL_cell : inL_cell.all (ax_dec cL_cell) = true := by decide +kernel
theorem skL_cell : inL_cell.all (ax_stc 94) = true := by decide +kernel
theorem nkL_cell : (inL_cell.flatMap (ax_need 94)).map some = ([] : List Nat).map (fun p => lw_tbl[p]?) := by decide +kernel
theorem dkL_stop : inL_stop.all (ax_dec cL_stop) = true := by decide +kernel
theorem skL_stop : inL_stop.all (ax_stc 95) = true := by decide +kernel
theorem nkL_stop : (inL_stop.flatMap (ax_need 95)).map some = ([263, 264, 265, 40] : List Nat).map (fun p => lw_tbl[p]?) := by decide +kernel
theorem dkL_closed : inL_closed.all (ax_dec cL_closed) = true := by decide +kernel
theorem skL_closed : inL_closed.all (ax_stc 96) = true := by decide +kernel
theorem nkL_closed : (inL_closed.flatMap (ax_need 96)).map some = ([406, 407, 408, 40] : List Nat).map (fun p => lw_tbl[p]?) := by decide +kernel
theorem dkL_walk : inL_walk.all (ax_dec cL_walk) = true := by decide +kernel
theorem skL_walk : inL_walk.all (ax_stc 97) = true := by decide +kernel
theorem nkL_walk : (inL_walk.flatMap (ax_need 97)).map some = ([418, 419, 420, 40] : List Nat).map (fun p => lw_tbl[p]?) := by decide +kernel
theorem dkL_step : inL_step.all (ax_dec cL_step) = true := by decide +kernel
theorem skL_step : inL_step.all (ax_stc 98) = true := by decide +kernel
theorem nkL_step : (inL_step.flatMap (ax_need 98)).map some = ([548, 549, 550, 40] : List Nat).map (fun p => lw_tbl[p]?) := by decide +kernel
theorem dkL_go : inL_go.all (ax_dec cL_go) = true := by decide +kernel
theorem skL_go : inL_go.all (ax_stc 99) = true := by decide +kernel
theorem nkL_go : (inL_go.flatMap (ax_need 99)).map some = ([576, 577, 578, 40] : List Nat).map (fun p => lw_tbl[p]?) := by decide +kernel
theorem dkL_missing : inL_missing.all (ax_dec cL_missing) = true := by decide +kernel
theorem skL_missing : inL_missing.all (ax_stc 100) = true := by decide +kernel
theorem nkL_missing : (inL_missing.flatMap (ax_need 100)).map some = ([589, 590, 591, 40] : List Nat).map (fun p => lw_tbl[p]?) := by decide +kernel
theorem dkL_cart : inL_cart.all (ax_dec cL_cart) = true := by decide +kernel
theorem skL_cart : inL_cart.all (ax_stc 101) = true := by decide +kernel
theorem nkL_cart : (inL_cart.flatMap (ax_need 101)).map some = ([602, 603, 604, 40] : List Nat).map (fun p => lw_tbl[p]?) := by decide +kernel
theorem dkL_share : inL_share.all (ax_dec cL_share) = true := by decide +kernel
theorem skL_share : inL_share.all (ax_stc 102) = true := by decide +kernel
theorem nkL_share : (inL_share.flatMap (ax_need 102)).map some = ([611, 612, 613, 40] : List Nat).map (fun p => lw_tbl[p]?) := by decide +kernel
theorem dkL_far : inL_far.all (ax_dec cL_far) = true := by decide +kernel
theorem skL_far : inL_far.all (ax_stc 103) = true := by decide +kernel
theorem nkL_far : (inL_far.flatMap (ax_need 103)).map some = ([634, 635, 636, 40] : List Nat).map (fun p => lw_tbl[p]?) := by decide +kernel
theorem dkL_told : inL_told.all (ax_dec cL_told) = true := by decide +kernel
theorem skL_told : inL_told.all (ax_stc 104) = true := by decide +kernel
theorem nkL_told : (inL_told.flatMap (ax_need 104)).map some = ([641, 642, 643, 40] : List Nat).map (fun p => lw_tbl[p]?) := by decide +kernel
theorem dkL_law : inL_law.all (ax_dec cL_law) = true := by decide +kernel
theorem skL_law : inL_law.all (ax_stc 105) = true := by decide +kernel
theorem nkL_law : (inL_law.flatMap (ax_need 105)).map some = ([58, 59, 40, 254, 255, 39, 254, 255, 39, 60, 61, 40, 646, 647, 47, 254, 255, 39, 254, 255, 39, 648, 649, 47, 842, 257, 258, 39, 711, 712, 713, 47, 707, 708, 709, 47, 403, 404, 39, 722, 723, 724, 47, 707, 708, 709, 47, 414, 415, 39, 726, 727, 728, 47, 707, 708, 709, 47, 544, 545, 39, 790, 791, 792, 47, 707, 708, 709, 47, 573, 574, 39, 794, 795, 796, 47, 707, 708, 709, 47, 586, 587, 39, 802, 803, 804, 47, 707, 708, 709, 47, 216, 217, 218, 40, 810, 811, 812, 47, 228, 229, 230, 40, 814, 815, 816, 47, 599, 600, 39, 818, 819, 820, 47, 707, 708, 709, 47, 237, 238, 239, 40, 822, 823, 824, 47, 607, 608, 39, 826, 827, 828, 47, 707, 708, 709, 47, 631, 632, 39, 830, 831, 832, 47, 707, 708, 709, 47, 638, 639, 39, 834, 835, 836, 47, 707, 708, 709, 47, 241, 242, 243, 40, 838, 839, 840, 47] : List Nat).map (fun p => lw_tbl[p]?) := by decide +kernel
