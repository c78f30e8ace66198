/-! What is checked of the program as data, by program: that its rows are the class files' own, and which words of the tables they need. -/
def axO (i : Nat) : String := (axY i).cls
def axEx : Nat → String
  | 0 => "java/util/NoSuchElementException" | 1 => "java/lang/IllegalArgumentException" | 2 => "java/lang/UnsupportedOperationException" | 3 => "java/lang/IllegalStateException" | 4 => "java/lang/ArrayIndexOutOfBoundsException" | _ => "java/lang/ArithmeticException"
def axEn : Nat → List String
  | 4 => ["java/lang/IndexOutOfBoundsException", "java/lang/RuntimeException", "java/lang/Exception"]
  | _ => ["java/lang/RuntimeException", "java/lang/Exception"]
/-- the throws: the exception; the entries of its class, of the text and of the constructor; the text -/
def axTh : Nat → Nat × Nat × Nat × Nat × String
  | 0 => (1, 61, 63, 65, "no such place")
  | 1 => (1, 61, 68, 65, "pieces are 0 to 100")
  | 2 => (2, 73, 75, 77, "no room for another stop")
  | 3 => (1, 61, 90, 65, "no such kind of walk")
  | 4 => (3, 96, 98, 100, "too many stops for the least walk")
  | 5 => (4, 109, 111, 113, "no such step is left")
  | 6 => (3, 96, 118, 100, "the walk has no stop left")
  | 7 => (3, 96, 123, 100, "the aisle of the next stop is closed")
  | 8 => (3, 96, 138, 100, "the stop is not open")
  | 9 => (1, 61, 148, 65, "a cart has room for 1 to 1000 pieces")
  | 10 => (5, 153, 155, 157, "no metres were walked")
  | 11 => (1, 61, 161, 65, "nothing is told under this number")
  | 12 => (0, 175, 177, 179, "no such aisle")
  | _ => (0, 175, 180, 179, "no such stop")
def axPa (j : Nat) : Option Nat := (parseMethodDescriptor (axY j).desc).map (fun d => d.parameters.length)
def ax_ln : Instr → Nat
  | .iload _ => 2 | .aload _ => 2 | .istore _ => 2 | .astore _ => 2 | .bipush _ => 2 | .ldc _ => 2 | .newarray _ => 2
  | .sipush _ => 3 | .iinc _ _ => 3 | .goto _ => 3 | .if_icmp _ _ => 3 | .ifCond _ _ => 3 | .getfield _ => 3 | .putfield _ => 3 | .new _ => 3
  | .invokespecial _ => 3 | .invokestatic _ => 3 | .invokevirtual _ => 3
  | _ => 1
def ax_isw : Instr → Bool
  | .tableswitch .. => true
  | .lookupswitch .. => true
  | _ => false
def ax_dec (bytes : ByteArray) (q : AxI) : Bool := match decode bytes q.1 with
  | .ok (i, n) => decide (i = q.2.1) && (ax_isw i || Nat.beq n (ax_ln i))
  | .error _ => false
def ax_need (i : Nat) (q : AxI) : List Cond := match q with
  | (_, ins, x, y) => match ins with
    | .getfield k => [.fieldLink (axO i) k (axTT x y).1 (axTT x y).2.1 (axTT x y).2.2.1]
    | .putfield k => [.fieldLink (axO i) k (axTT x y).1 (axTT x y).2.1 (axTT x y).2.2.1]
    | .new k => cond (Nat.blt x 100) [.classLink (axO i) k (axRN x), .instantiable (axRN x) (axNF x), .initialized (axRN x)] [.classLink (axO i) k (axEx (x - 100)), .initialized (axEx (x - 100))]
    | .newarray t => [.arrayClass (newarray.typeOf t)]
    | .ldc k => cond (Nat.beq x 0) [] [.constant (axO i) k (Int32.ofNat x)]
    | .invokespecial k => (match x with
      | 5 => [.methodLink (axO i) k objectInit, .instanceMethod objectInit, .code objectInit ⟨#[0xb1]⟩ 1 none]
      | 1 => [.methodLink (axO i) k (axY y), .instanceMethod (axY y), .initialized (axY y).cls]
      | 4 => [.methodLinkNest (axO i) k (axY y) "PickPaths", .instanceMethod (axY y), .initialized (axY y).cls]
      | _ => [])
    | .invokevirtual k => [.methodLink (axO i) k (axY y), .instanceMethod (axY y), .selects (axY y).cls (axY y) (axY y), .initialized (axY y).cls]
    | .invokestatic k => (match x with
      | 2 => [.methodLink (axO i) k (axY y), .static (axY y), .initialized (axY y).cls]
      | 3 => [.methodLink (axO i) k (axY y), .static (axY y), .initialized (axY y).cls]
      | 6 => [.methodLink (axO i) k Lib.Math.max.name, .static Lib.Math.max.name, .initialized "java/lang/Math", .code Lib.Math.max.name Lib.Math.max.code 2 (some .int)]
      | 7 => [.methodLink (axO i) k Lib.Math.min.name, .static Lib.Math.min.name, .initialized "java/lang/Math", .code Lib.Math.min.name Lib.Math.min.code 2 (some .int)]
      | 8 => [.methodLink (axO i) k Lib.Math.abs.name, .static Lib.Math.abs.name, .initialized "java/lang/Math", .code Lib.Math.abs.name Lib.Math.abs.code 1 (some .int)]
      | _ => [])
    | _ => []
def ax_tgs (pc : Nat) (off : Int) : Bool := decide (0 ≤ (pc : Int) + off)
/-- what must hold of a row whatever the state -/
def ax_stc (i : Nat) (q : AxI) : Bool := match q with
  | (pc, ins, x, y) => match ins with
    | .istore k => Nat.blt k (axLo i)
    | .istore_n k => Nat.blt k.val (axLo i)
    | .astore k => Nat.blt k (axLo i)
    | .astore_n k => Nat.blt k.val (axLo i)
    | .iinc k _ => Nat.blt k (axLo i)
    | .goto off => decide ((pc : Int) + off = (x : Int))
    | .if_icmp _ off => decide ((pc : Int) + off = (x : Int))
    | .ifCond _ off => decide ((pc : Int) + off = (x : Int))
    | .tableswitch dflt lo hi offs => ax_tgs pc dflt && offs.toList.all (ax_tgs pc) && decide (hi - lo + 1 = (offs.toList.length : Int))
    | .lookupswitch dflt ps => ax_tgs pc dflt && ps.toList.all (fun z => ax_tgs pc z.2) && (ps.toList.zip (ps.toList.drop 1)).all (fun (a, next) => a.1 < next.1)
    | .newarray t => decide (newarray.typeOf t = ax_aty y) && Nat.blt y 3 && Nat.ble x 60000
    | .getfield _ => Nat.blt x 7 && Nat.blt y (axNF x)
    | .putfield _ => Nat.blt x 7 && Nat.blt y (axNF x) && (!(axTT x y).2.2.2 || (decide ((axY i).name = "<init>") && decide ((axTT x y).1 = axO i)))
    | .new k => (Nat.blt x 7) || (Nat.ble 100 x && Nat.blt x 106 && Nat.blt y 14 && decide (axHh i = []) && decide (axO i = "PickPaths") && decide ((axTh y).1 = x - 100) && decide ((axTh y).2.1 = k)
        && ax_dec (axB i) (pc + 3, .dup, 0, 0) && ax_dec (axB i) (pc + 4, .ldc (axTh y).2.2.1, 0, 0) && ax_dec (axB i) (pc + 6, .invokespecial (axTh y).2.2.2.1, 0, 0) && ax_dec (axB i) (pc + 9, .athrow, 0, 0))
    | .invokevirtual _ => Nat.beq x 0 && Nat.blt y 105 && decide (axHh y = []) && decide (some (axNa y) = (axPa y).map (· + 1)) && Nat.blt (axCi y) 7 && decide ((axY y).cls = axRN (axCi y))
    | .invokespecial _ => Nat.beq x 5 || Nat.beq x 9 || ((Nat.beq x 1 || Nat.beq x 4) && Nat.blt y 105 && decide (axHh y = []) && decide (some (axNa y) = (axPa y).map (· + 1)) && decide ((axY y).name = "<init>") && decide (axRe y = none))
    | .invokestatic _ => Nat.blt 5 x || (Nat.blt y 105 && decide (some (axNa y) = axPa y) && ((Nat.beq x 2 && decide (axHh y = [])) || (Nat.beq x 3 && !decide (axHh y = []))))
    | _ => true
def axCode (i : Nat) : Cond := match axHh i with
  | [] => .code (axY i) (axB i) (axLo i) (axRe i)
  | h :: hs => .codeWith (axY i) (axB i) (axLo i) (axRe i) (h :: hs)

theorem dkX0_init : inX0_init.all (ax_dec cX0_init) = true := by decide +kernel
theorem skX0_init : inX0_init.all (ax_stc 0) = true := by decide +kernel
theorem nkX0_init : (inX0_init.flatMap (ax_need 0)).map some = ([89, 64, 65, 111, 101, 90, 91, 43, 92, 93, 94, 43, 95, 96, 90, 91, 43, 92, 93, 94, 43, 95, 99] : List Nat).map (fun p => lw_tbl[p]?) := by decide +kernel
theorem dkX0_hasAisle : inX0_hasAisle.all (ax_dec cX0_hasAisle) = true := by decide +kernel
theorem skX0_hasAisle : inX0_hasAisle.all (ax_stc 1) = true := by decide +kernel
theorem nkX0_hasAisle : (inX0_hasAisle.flatMap (ax_need 1)).map some = ([96] : List Nat).map (fun p => lw_tbl[p]?) := by decide +kernel
theorem dkX0_hasPlace : inX0_hasPlace.all (ax_dec cX0_hasPlace) = true := by decide +kernel
theorem skX0_hasPlace : inX0_hasPlace.all (ax_stc 2) = true := by decide +kernel
theorem nkX0_hasPlace : (inX0_hasPlace.flatMap (ax_need 2)).map some = ([99] : List Nat).map (fun p => lw_tbl[p]?) := by decide +kernel
theorem dkX0_backDepth : inX0_backDepth.all (ax_dec cX0_backDepth) = true := by decide +kernel
theorem skX0_backDepth : inX0_backDepth.all (ax_stc 3) = true := by decide +kernel
theorem nkX0_backDepth : (inX0_backDepth.flatMap (ax_need 3)).map some = ([99] : List Nat).map (fun p => lw_tbl[p]?) := by decide +kernel
theorem dkX0_placeDepth : inX0_placeDepth.all (ax_dec cX0_placeDepth) = true := by decide +kernel
theorem skX0_placeDepth : inX0_placeDepth.all (ax_stc 4) = true := by decide +kernel
theorem nkX0_placeDepth : (inX0_placeDepth.flatMap (ax_need 4)).map some = ([] : List Nat).map (fun p => lw_tbl[p]?) := by decide +kernel
theorem dkX0_between : inX0_between.all (ax_dec cX0_between) = true := by decide +kernel
theorem skX0_between : inX0_between.all (ax_stc 5) = true := by decide +kernel
theorem nkX0_between : (inX0_between.flatMap (ax_need 5)).map some = ([399, 400, 43, 401, 402, 99, 399, 400, 43, 401, 399, 400, 43, 401, 90, 91, 43, 92, 399, 400, 43, 401] : List Nat).map (fun p => lw_tbl[p]?) := by decide +kernel
theorem dkX1_init : inX1_init.all (ax_dec cX1_init) = true := by decide +kernel
theorem skX1_init : inX1_init.all (ax_stc 6) = true := by decide +kernel
theorem nkX1_init : (inX1_init.flatMap (ax_need 6)).map some = ([164, 64, 65, 83, 166, 167, 83, 168, 165] : List Nat).map (fun p => lw_tbl[p]?) := by decide +kernel
theorem dkX1_lay : inX1_lay.all (ax_dec cX1_lay) = true := by decide +kernel
theorem skX1_lay : inX1_lay.all (ax_stc 7) = true := by decide +kernel
theorem nkX1_lay : (inX1_lay.flatMap (ax_need 7)).map some = ([452, 454, 4, 46, 457, 459, 5, 46, 167, 167, 465, 467, 6, 46, 166, 474, 475, 476, 41] : List Nat).map (fun p => lw_tbl[p]?) := by decide +kernel
theorem dkX1_gather : inX1_gather.all (ax_dec cX1_gather) = true := by decide +kernel
theorem skX1_gather : inX1_gather.all (ax_stc 8) = true := by decide +kernel
theorem nkX1_gather : (inX1_gather.flatMap (ax_need 8)).map some = ([167, 165, 133, 167, 165, 456, 233, 234, 44, 166, 167, 167, 167] : List Nat).map (fun p => lw_tbl[p]?) := by decide +kernel
theorem dkX1_fillRests : inX1_fillRests.all (ax_dec cX1_fillRests) = true := by decide +kernel
theorem skX1_fillRests : inX1_fillRests.all (ax_stc 9) = true := by decide +kernel
theorem nkX1_fillRests : (inX1_fillRests.flatMap (ax_need 9)).map some = ([167, 168, 165, 166, 461, 225, 226, 44, 167, 167, 462, 463, 46, 166, 465, 467, 6, 46, 168, 166, 470, 472, 7, 46] : List Nat).map (fun p => lw_tbl[p]?) := by decide +kernel
theorem dkX1_bestNext : inX1_bestNext.all (ax_dec cX1_bestNext) = true := by decide +kernel
theorem skX1_bestNext : inX1_bestNext.all (ax_stc 10) = true := by decide +kernel
theorem nkX1_bestNext : (inX1_bestNext.flatMap (ax_need 10)).map some = ([469, 167, 462, 463, 46, 470, 472, 7, 46] : List Nat).map (fun p => lw_tbl[p]?) := by decide +kernel
theorem dkX1_isIn : inX1_isIn.all (ax_dec cX1_isIn) = true := by decide +kernel
theorem skX1_isIn : inX1_isIn.all (ax_stc 11) = true := by decide +kernel
theorem nkX1_isIn : (inX1_isIn.flatMap (ax_need 11)).map some = ([] : List Nat).map (fun p => lw_tbl[p]?) := by decide +kernel
theorem dkX1_lengthBy : inX1_lengthBy.all (ax_dec cX1_lengthBy) = true := by decide +kernel
theorem skX1_lengthBy : inX1_lengthBy.all (ax_stc 12) = true := by decide +kernel
theorem nkX1_lengthBy : (inX1_lengthBy.flatMap (ax_need 12)).map some = ([165, 166, 461, 225, 226, 44, 168] : List Nat).map (fun p => lw_tbl[p]?) := by decide +kernel
theorem dkX2_init : inX2_init.all (ax_dec cX2_init) = true := by decide +kernel
theorem skX2_init : inX2_init.all (ax_stc 13) = true := by decide +kernel
theorem nkX2_init : (inX2_init.flatMap (ax_need 13)).map some = ([158, 64, 65, 83, 181, 111, 182, 178, 179, 159, 160, 46, 161, 162, 46, 180] : List Nat).map (fun p => lw_tbl[p]?) := by decide +kernel
theorem dkX2_lay : inX2_lay.all (ax_dec cX2_lay) = true := by decide +kernel
theorem skX2_lay : inX2_lay.all (ax_stc 14) = true := by decide +kernel
theorem nkX2_lay : (inX2_lay.flatMap (ax_need 14)).map some = ([443, 444, 445, 41, 179, 131, 182, 179, 447, 233, 234, 44, 180, 448, 449, 450, 46, 482, 484, 8, 45, 494, 496, 10, 45] : List Nat).map (fun p => lw_tbl[p]?) := by decide +kernel
theorem dkX2_layNearest : inX2_layNearest.all (ax_dec cX2_layNearest) = true := by decide +kernel
theorem skX2_layNearest : inX2_layNearest.all (ax_stc 15) = true := by decide +kernel
theorem nkX2_layNearest : (inX2_layNearest.flatMap (ax_need 15)).map some = ([179, 486, 246, 247, 44, 487, 489, 9, 45, 182, 493, 475, 476, 41] : List Nat).map (fun p => lw_tbl[p]?) := by decide +kernel
theorem dkX2_nearestFrom : inX2_nearestFrom.all (ax_dec cX2_nearestFrom) = true := by decide +kernel
theorem skX2_nearestFrom : inX2_nearestFrom.all (ax_stc 16) = true := by decide +kernel
theorem nkX2_nearestFrom : (inX2_nearestFrom.flatMap (ax_need 16)).map some = ([491, 179, 131, 182, 179, 492, 225, 226, 44, 179, 492, 225, 226, 44] : List Nat).map (fun p => lw_tbl[p]?) := by decide +kernel
theorem dkX2_layByKeys : inX2_layByKeys.all (ax_dec cX2_layByKeys) = true := by decide +kernel
theorem skX2_layByKeys : inX2_layByKeys.all (ax_stc 17) = true := by decide +kernel
theorem nkX2_layByKeys : (inX2_layByKeys.flatMap (ax_need 17)).map some = ([179, 131, 182, 181, 498, 500, 11, 45, 77, 181, 74, 181, 543, 479, 480, 41] : List Nat).map (fun p => lw_tbl[p]?) := by decide +kernel
theorem dkX2_keyOf : inX2_keyOf.all (ax_dec cX2_keyOf) = true := by decide +kernel
theorem skX2_keyOf : inX2_keyOf.all (ax_stc 18) = true := by decide +kernel
theorem nkX2_keyOf : (inX2_keyOf.flatMap (ax_need 18)).map some = ([502, 504, 12, 45, 179, 119, 514, 516, 15, 45, 539, 541, 20, 45] : List Nat).map (fun p => lw_tbl[p]?) := by decide +kernel
theorem dkX2_throughKey : inX2_throughKey.all (ax_dec cX2_throughKey) = true := by decide +kernel
theorem skX2_throughKey : inX2_throughKey.all (ax_stc 19) = true := by decide +kernel
theorem nkX2_throughKey : (inX2_throughKey.flatMap (ax_need 19)).map some = ([179, 119, 506, 508, 13, 45, 514, 516, 15, 45, 522, 524, 17, 45] : List Nat).map (fun p => lw_tbl[p]?) := by decide +kernel
theorem dkX2_gapKey : inX2_gapKey.all (ax_dec cX2_gapKey) = true := by decide +kernel
theorem skX2_gapKey : inX2_gapKey.all (ax_stc 20) = true := by decide +kernel
theorem nkX2_gapKey : (inX2_gapKey.flatMap (ax_need 20)).map some = ([179, 119, 506, 508, 13, 45, 514, 516, 15, 45, 518, 520, 16, 45, 522, 524, 17, 45, 179, 125, 526, 528, 18, 45, 522, 524, 17, 45, 514, 516, 15, 45] : List Nat).map (fun p => lw_tbl[p]?) := by decide +kernel
theorem dkX2_upward : inX2_upward.all (ax_dec cX2_upward) = true := by decide +kernel
theorem skX2_upward : inX2_upward.all (ax_stc 21) = true := by decide +kernel
theorem nkX2_upward : (inX2_upward.flatMap (ax_need 21)).map some = ([179, 122] : List Nat).map (fun p => lw_tbl[p]?) := by decide +kernel
theorem dkX2_downward : inX2_downward.all (ax_dec cX2_downward) = true := by decide +kernel
theorem skX2_downward : inX2_downward.all (ax_stc 22) = true := by decide +kernel
theorem nkX2_downward : (inX2_downward.flatMap (ax_need 22)).map some = ([179, 122] : List Nat).map (fun p => lw_tbl[p]?) := by decide +kernel
theorem dkX2_usedAislesBelow : inX2_usedAislesBelow.all (ax_dec cX2_usedAislesBelow) = true := by decide +kernel
theorem skX2_usedAislesBelow : inX2_usedAislesBelow.all (ax_stc 23) = true := by decide +kernel
theorem nkX2_usedAislesBelow : (inX2_usedAislesBelow.flatMap (ax_need 23)).map some = ([510, 512, 14, 45] : List Nat).map (fun p => lw_tbl[p]?) := by decide +kernel
theorem dkX2_isUsedAbove : inX2_isUsedAbove.all (ax_dec cX2_isUsedAbove) = true := by decide +kernel
theorem skX2_isUsedAbove : inX2_isUsedAbove.all (ax_stc 24) = true := by decide +kernel
theorem nkX2_isUsedAbove : (inX2_isUsedAbove.flatMap (ax_need 24)).map some = ([178, 97, 510, 512, 14, 45] : List Nat).map (fun p => lw_tbl[p]?) := by decide +kernel
theorem dkX2_isUsed : inX2_isUsed.all (ax_dec cX2_isUsed) = true := by decide +kernel
theorem skX2_isUsed : inX2_isUsed.all (ax_stc 25) = true := by decide +kernel
theorem nkX2_isUsed : (inX2_isUsed.flatMap (ax_need 25)).map some = ([179, 131, 182, 179, 119] : List Nat).map (fun p => lw_tbl[p]?) := by decide +kernel
theorem dkX2_gapStart : inX2_gapStart.all (ax_dec cX2_gapStart) = true := by decide +kernel
theorem skX2_gapStart : inX2_gapStart.all (ax_stc 26) = true := by decide +kernel
theorem nkX2_gapStart : (inX2_gapStart.flatMap (ax_need 26)).map some = ([179, 131, 530, 532, 19, 45] : List Nat).map (fun p => lw_tbl[p]?) := by decide +kernel
theorem dkX2_nextDepth : inX2_nextDepth.all (ax_dec cX2_nextDepth) = true := by decide +kernel
theorem skX2_nextDepth : inX2_nextDepth.all (ax_stc 27) = true := by decide +kernel
theorem nkX2_nextDepth : (inX2_nextDepth.flatMap (ax_need 27)).map some = ([178, 534, 535, 536, 42, 179, 131, 182, 179, 119, 179, 125, 179, 125, 538, 91, 43, 92] : List Nat).map (fun p => lw_tbl[p]?) := by decide +kernel
theorem dkX3_init : inX3_init.all (ax_dec cX3_init) = true := by decide +kernel
theorem skX3_init : inX3_init.all (ax_stc 28) = true := by decide +kernel
theorem nkX3_init : (inX3_init.flatMap (ax_need 28)).map some = ([71, 64, 65, 83, 72, 75] : List Nat).map (fun p => lw_tbl[p]?) := by decide +kernel
theorem dkX3_clear : inX3_clear.all (ax_dec cX3_clear) = true := by decide +kernel
theorem skX3_clear : inX3_clear.all (ax_stc 29) = true := by decide +kernel
theorem nkX3_clear : (inX3_clear.flatMap (ax_need 29)).map some = ([75] : List Nat).map (fun p => lw_tbl[p]?) := by decide +kernel
theorem dkX3_insert : inX3_insert.all (ax_dec cX3_insert) = true := by decide +kernel
theorem skX3_insert : inX3_insert.all (ax_stc 30) = true := by decide +kernel
theorem nkX3_insert : (inX3_insert.flatMap (ax_need 30)).map some = ([75, 72, 75, 72, 72, 72, 75, 75] : List Nat).map (fun p => lw_tbl[p]?) := by decide +kernel
theorem dkX3_append : inX3_append.all (ax_dec cX3_append) = true := by decide +kernel
theorem skX3_append : inX3_append.all (ax_stc 31) = true := by decide +kernel
theorem nkX3_append : (inX3_append.flatMap (ax_need 31)).map some = ([75, 478, 479, 480, 41] : List Nat).map (fun p => lw_tbl[p]?) := by decide +kernel
theorem dkX3_drop : inX3_drop.all (ax_dec cX3_drop) = true := by decide +kernel
theorem skX3_drop : inX3_drop.all (ax_stc 32) = true := by decide +kernel
theorem nkX3_drop : (inX3_drop.flatMap (ax_need 32)).map some = ([75, 72, 72, 72, 75] : List Nat).map (fun p => lw_tbl[p]?) := by decide +kernel
