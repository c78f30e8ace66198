section
-- ===== PART A: goes FIRST, ahead of the names: the tables' words, and 'selects' of the private methods out of them =====
/-- a private method of a class that the tables say can be made, by its rows of tables_1 -/
def lw_okq (q : MethodName × Nat) : Prop := (q.1.cls ≠ "java/lang/invoke/MethodHandle" ∧ q.1.cls ≠ "java/lang/invoke/VarHandle") ∧ Cond.instantiable q.1.cls q.2 ∈ tables_1 ∧ Cond.privateMethod q.1 ∈ tables_1 ∧ Cond.instanceMethod q.1 ∈ tables_1
theorem lw_p0 : lw_okq (⟨"PickPaths", "routeLength", "()I"⟩, 7) := ⟨⟨by decide +kernel, by decide +kernel⟩, List.mem_of_getElem? (i := 20) (by decide +kernel), List.mem_of_getElem? (i := 182) (by decide +kernel), List.mem_of_getElem? (i := 183) (by decide +kernel)⟩
theorem lw_p1 : lw_okq (⟨"PickPaths", "requireAisle", "(I)V"⟩, 7) := ⟨⟨by decide +kernel, by decide +kernel⟩, List.mem_of_getElem? (i := 20) (by decide +kernel), List.mem_of_getElem? (i := 229) (by decide +kernel), List.mem_of_getElem? (i := 230) (by decide +kernel)⟩
theorem lw_p2 : lw_okq (⟨"java/lang/Throwable", "fillInStackTrace", "(I)Ljava/lang/Throwable;"⟩, 6) := ⟨⟨by decide +kernel, by decide +kernel⟩, List.mem_of_getElem? (i := 278) (by decide +kernel), List.mem_of_getElem? (i := 276) (by decide +kernel), List.mem_of_getElem? (i := 277) (by decide +kernel)⟩
theorem lw_p3 : lw_okq (⟨"PickPaths$Stops", "measure", "(II)V"⟩, 8) := ⟨⟨by decide +kernel, by decide +kernel⟩, List.mem_of_getElem? (i := 74) (by decide +kernel), List.mem_of_getElem? (i := 353) (by decide +kernel), List.mem_of_getElem? (i := 354) (by decide +kernel)⟩
theorem lw_p4 : lw_okq (⟨"PickPaths$LeastOrder", "gather", "()V"⟩, 4) := ⟨⟨by decide +kernel, by decide +kernel⟩, List.mem_of_getElem? (i := 121) (by decide +kernel), List.mem_of_getElem? (i := 414) (by decide +kernel), List.mem_of_getElem? (i := 415) (by decide +kernel)⟩
theorem lw_p5 : lw_okq (⟨"PickPaths$LeastOrder", "fillRests", "()V"⟩, 4) := ⟨⟨by decide +kernel, by decide +kernel⟩, List.mem_of_getElem? (i := 121) (by decide +kernel), List.mem_of_getElem? (i := 419) (by decide +kernel), List.mem_of_getElem? (i := 420) (by decide +kernel)⟩
theorem lw_p6 : lw_okq (⟨"PickPaths$LeastOrder", "bestNext", "(II)I"⟩, 4) := ⟨⟨by decide +kernel, by decide +kernel⟩, List.mem_of_getElem? (i := 121) (by decide +kernel), List.mem_of_getElem? (i := 427) (by decide +kernel), List.mem_of_getElem? (i := 428) (by decide +kernel)⟩
theorem lw_p7 : lw_okq (⟨"PickPaths$LeastOrder", "lengthBy", "(III)I"⟩, 4) := ⟨⟨by decide +kernel, by decide +kernel⟩, List.mem_of_getElem? (i := 121) (by decide +kernel), List.mem_of_getElem? (i := 432) (by decide +kernel), List.mem_of_getElem? (i := 433) (by decide +kernel)⟩
theorem lw_p8 : lw_okq (⟨"PickPaths$Planner", "layNearest", "(ILPickPaths$Route;)V"⟩, 5) := ⟨⟨by decide +kernel, by decide +kernel⟩, List.mem_of_getElem? (i := 115) (by decide +kernel), List.mem_of_getElem? (i := 444) (by decide +kernel), List.mem_of_getElem? (i := 445) (by decide +kernel)⟩
theorem lw_p9 : lw_okq (⟨"PickPaths$Planner", "nearestFrom", "(I)I"⟩, 5) := ⟨⟨by decide +kernel, by decide +kernel⟩, List.mem_of_getElem? (i := 115) (by decide +kernel), List.mem_of_getElem? (i := 449) (by decide +kernel), List.mem_of_getElem? (i := 450) (by decide +kernel)⟩
theorem lw_p10 : lw_okq (⟨"PickPaths$Planner", "layByKeys", "(ILPickPaths$Route;)V"⟩, 5) := ⟨⟨by decide +kernel, by decide +kernel⟩, List.mem_of_getElem? (i := 115) (by decide +kernel), List.mem_of_getElem? (i := 456) (by decide +kernel), List.mem_of_getElem? (i := 457) (by decide +kernel)⟩
theorem lw_p11 : lw_okq (⟨"PickPaths$Planner", "keyOf", "(II)I"⟩, 5) := ⟨⟨by decide +kernel, by decide +kernel⟩, List.mem_of_getElem? (i := 115) (by decide +kernel), List.mem_of_getElem? (i := 460) (by decide +kernel), List.mem_of_getElem? (i := 461) (by decide +kernel)⟩
theorem lw_p12 : lw_okq (⟨"PickPaths$Planner", "gapKey", "(I)I"⟩, 5) := ⟨⟨by decide +kernel, by decide +kernel⟩, List.mem_of_getElem? (i := 115) (by decide +kernel), List.mem_of_getElem? (i := 464) (by decide +kernel), List.mem_of_getElem? (i := 465) (by decide +kernel)⟩
theorem lw_p13 : lw_okq (⟨"PickPaths$Planner", "usedAislesBelow", "(I)I"⟩, 5) := ⟨⟨by decide +kernel, by decide +kernel⟩, List.mem_of_getElem? (i := 115) (by decide +kernel), List.mem_of_getElem? (i := 468) (by decide +kernel), List.mem_of_getElem? (i := 469) (by decide +kernel)⟩
theorem lw_p14 : lw_okq (⟨"PickPaths$Planner", "isUsed", "(I)Z"⟩, 5) := ⟨⟨by decide +kernel, by decide +kernel⟩, List.mem_of_getElem? (i := 115) (by decide +kernel), List.mem_of_getElem? (i := 472) (by decide +kernel), List.mem_of_getElem? (i := 473) (by decide +kernel)⟩
theorem lw_p15 : lw_okq (⟨"PickPaths$Planner", "upward", "(II)I"⟩, 5) := ⟨⟨by decide +kernel, by decide +kernel⟩, List.mem_of_getElem? (i := 115) (by decide +kernel), List.mem_of_getElem? (i := 476) (by decide +kernel), List.mem_of_getElem? (i := 477) (by decide +kernel)⟩
def lw_privs_1 : List (MethodName × Nat) := [(⟨"PickPaths", "routeLength", "()I"⟩, 7), (⟨"PickPaths", "requireAisle", "(I)V"⟩, 7), (⟨"java/lang/Throwable", "fillInStackTrace", "(I)Ljava/lang/Throwable;"⟩, 6), (⟨"PickPaths$Stops", "measure", "(II)V"⟩, 8), (⟨"PickPaths$LeastOrder", "gather", "()V"⟩, 4), (⟨"PickPaths$LeastOrder", "fillRests", "()V"⟩, 4), (⟨"PickPaths$LeastOrder", "bestNext", "(II)I"⟩, 4), (⟨"PickPaths$LeastOrder", "lengthBy", "(III)I"⟩, 4), (⟨"PickPaths$Planner", "layNearest", "(ILPickPaths$Route;)V"⟩, 5), (⟨"PickPaths$Planner", "nearestFrom", "(I)I"⟩, 5), (⟨"PickPaths$Planner", "layByKeys", "(ILPickPaths$Route;)V"⟩, 5), (⟨"PickPaths$Planner", "keyOf", "(II)I"⟩, 5), (⟨"PickPaths$Planner", "gapKey", "(I)I"⟩, 5), (⟨"PickPaths$Planner", "usedAislesBelow", "(I)I"⟩, 5), (⟨"PickPaths$Planner", "isUsed", "(I)Z"⟩, 5), (⟨"PickPaths$Planner", "upward", "(II)I"⟩, 5)]
theorem lw_r1 : ∀ q ∈ lw_privs_1, lw_okq q := List.forall_mem_cons.mpr ⟨lw_p0, List.forall_mem_cons.mpr ⟨lw_p1, List.forall_mem_cons.mpr ⟨lw_p2, List.forall_mem_cons.mpr ⟨lw_p3, List.forall_mem_cons.mpr ⟨lw_p4, List.forall_mem_cons.mpr ⟨lw_p5, List.forall_mem_cons.mpr ⟨lw_p6, List.forall_mem_cons.mpr ⟨lw_p7, List.forall_mem_cons.mpr ⟨lw_p8, List.forall_mem_cons.mpr ⟨lw_p9, List.forall_mem_cons.mpr ⟨lw_p10, List.forall_mem_cons.mpr ⟨lw_p11, List.forall_mem_cons.mpr ⟨lw_p12, List.forall_mem_cons.mpr ⟨lw_p13, List.forall_mem_cons.mpr ⟨lw_p14, List.forall_mem_cons.mpr ⟨lw_p15, fun _ h => absurd h List.not_mem_nil⟩⟩⟩⟩⟩⟩⟩⟩⟩⟩⟩⟩⟩⟩⟩⟩
theorem lw_p16 : lw_okq (⟨"PickPaths$Planner", "isUsedAbove", "(I)Z"⟩, 5) := ⟨⟨by decide +kernel, by decide +kernel⟩, List.mem_of_getElem? (i := 115) (by decide +kernel), List.mem_of_getElem? (i := 480) (by decide +kernel), List.mem_of_getElem? (i := 481) (by decide +kernel)⟩
theorem lw_p17 : lw_okq (⟨"PickPaths$Planner", "downward", "(II)I"⟩, 5) := ⟨⟨by decide +kernel, by decide +kernel⟩, List.mem_of_getElem? (i := 115) (by decide +kernel), List.mem_of_getElem? (i := 484) (by decide +kernel), List.mem_of_getElem? (i := 485) (by decide +kernel)⟩
theorem lw_p18 : lw_okq (⟨"PickPaths$Planner", "gapStart", "(I)I"⟩, 5) := ⟨⟨by decide +kernel, by decide +kernel⟩, List.mem_of_getElem? (i := 115) (by decide +kernel), List.mem_of_getElem? (i := 488) (by decide +kernel), List.mem_of_getElem? (i := 489) (by decide +kernel)⟩
theorem lw_p19 : lw_okq (⟨"PickPaths$Planner", "nextDepth", "(II)I"⟩, 5) := ⟨⟨by decide +kernel, by decide +kernel⟩, List.mem_of_getElem? (i := 115) (by decide +kernel), List.mem_of_getElem? (i := 492) (by decide +kernel), List.mem_of_getElem? (i := 493) (by decide +kernel)⟩
theorem lw_p20 : lw_okq (⟨"PickPaths$Planner", "throughKey", "(I)I"⟩, 5) := ⟨⟨by decide +kernel, by decide +kernel⟩, List.mem_of_getElem? (i := 115) (by decide +kernel), List.mem_of_getElem? (i := 501) (by decide +kernel), List.mem_of_getElem? (i := 502) (by decide +kernel)⟩
theorem lw_p21 : lw_okq (⟨"PickPaths", "requireStop", "(I)V"⟩, 7) := ⟨⟨by decide +kernel, by decide +kernel⟩, List.mem_of_getElem? (i := 20) (by decide +kernel), List.mem_of_getElem? (i := 555) (by decide +kernel), List.mem_of_getElem? (i := 556) (by decide +kernel)⟩
theorem lw_p22 : lw_okq (⟨"PickPathsModel", "isAisle", "(I)Z"⟩, 18) := ⟨⟨by decide +kernel, by decide +kernel⟩, List.mem_of_getElem? (i := 608) (by decide +kernel), List.mem_of_getElem? (i := 677) (by decide +kernel), List.mem_of_getElem? (i := 678) (by decide +kernel)⟩
theorem lw_p23 : lw_okq (⟨"PickPathsModel", "walked", "()I"⟩, 18) := ⟨⟨by decide +kernel, by decide +kernel⟩, List.mem_of_getElem? (i := 608) (by decide +kernel), List.mem_of_getElem? (i := 692) (by decide +kernel), List.mem_of_getElem? (i := 693) (by decide +kernel)⟩
theorem lw_p24 : lw_okq (⟨"PickPathsModel", "isWalked", "(I)Z"⟩, 18) := ⟨⟨by decide +kernel, by decide +kernel⟩, List.mem_of_getElem? (i := 608) (by decide +kernel), List.mem_of_getElem? (i := 696) (by decide +kernel), List.mem_of_getElem? (i := 697) (by decide +kernel)⟩
theorem lw_p25 : lw_okq (⟨"PickPathsModel", "through", "()V"⟩, 18) := ⟨⟨by decide +kernel, by decide +kernel⟩, List.mem_of_getElem? (i := 608) (by decide +kernel), List.mem_of_getElem? (i := 700) (by decide +kernel), List.mem_of_getElem? (i := 701) (by decide +kernel)⟩
theorem lw_p26 : lw_okq (⟨"PickPathsModel", "hasLeft", "(I)Z"⟩, 18) := ⟨⟨by decide +kernel, by decide +kernel⟩, List.mem_of_getElem? (i := 608) (by decide +kernel), List.mem_of_getElem? (i := 704) (by decide +kernel), List.mem_of_getElem? (i := 705) (by decide +kernel)⟩
theorem lw_p27 : lw_okq (⟨"PickPathsModel", "addAisle", "(IZZZ)V"⟩, 18) := ⟨⟨by decide +kernel, by decide +kernel⟩, List.mem_of_getElem? (i := 608) (by decide +kernel), List.mem_of_getElem? (i := 708) (by decide +kernel), List.mem_of_getElem? (i := 709) (by decide +kernel)⟩
theorem lw_p28 : lw_okq (⟨"PickPathsModel", "add", "(I)V"⟩, 18) := ⟨⟨by decide +kernel, by decide +kernel⟩, List.mem_of_getElem? (i := 608) (by decide +kernel), List.mem_of_getElem? (i := 712) (by decide +kernel), List.mem_of_getElem? (i := 713) (by decide +kernel)⟩
theorem lw_p29 : lw_okq (⟨"PickPathsModel", "gaps", "()V"⟩, 18) := ⟨⟨by decide +kernel, by decide +kernel⟩, List.mem_of_getElem? (i := 608) (by decide +kernel), List.mem_of_getElem? (i := 716) (by decide +kernel), List.mem_of_getElem? (i := 717) (by decide +kernel)⟩
theorem lw_p30 : lw_okq (⟨"PickPathsModel", "gap", "(I)I"⟩, 18) := ⟨⟨by decide +kernel, by decide +kernel⟩, List.mem_of_getElem? (i := 608) (by decide +kernel), List.mem_of_getElem? (i := 720) (by decide +kernel), List.mem_of_getElem? (i := 721) (by decide +kernel)⟩
theorem lw_p31 : lw_okq (⟨"PickPathsModel", "depthOf", "(I)I"⟩, 18) := ⟨⟨by decide +kernel, by decide +kernel⟩, List.mem_of_getElem? (i := 608) (by decide +kernel), List.mem_of_getElem? (i := 724) (by decide +kernel), List.mem_of_getElem? (i := 725) (by decide +kernel)⟩
def lw_privs_2 : List (MethodName × Nat) := [(⟨"PickPaths$Planner", "isUsedAbove", "(I)Z"⟩, 5), (⟨"PickPaths$Planner", "downward", "(II)I"⟩, 5), (⟨"PickPaths$Planner", "gapStart", "(I)I"⟩, 5), (⟨"PickPaths$Planner", "nextDepth", "(II)I"⟩, 5), (⟨"PickPaths$Planner", "throughKey", "(I)I"⟩, 5), (⟨"PickPaths", "requireStop", "(I)V"⟩, 7), (⟨"PickPathsModel", "isAisle", "(I)Z"⟩, 18), (⟨"PickPathsModel", "walked", "()I"⟩, 18), (⟨"PickPathsModel", "isWalked", "(I)Z"⟩, 18), (⟨"PickPathsModel", "through", "()V"⟩, 18), (⟨"PickPathsModel", "hasLeft", "(I)Z"⟩, 18), (⟨"PickPathsModel", "addAisle", "(IZZZ)V"⟩, 18), (⟨"PickPathsModel", "add", "(I)V"⟩, 18), (⟨"PickPathsModel", "gaps", "()V"⟩, 18), (⟨"PickPathsModel", "gap", "(I)I"⟩, 18), (⟨"PickPathsModel", "depthOf", "(I)I"⟩, 18)]
theorem lw_r2 : ∀ q ∈ lw_privs_2, lw_okq q := List.forall_mem_cons.mpr ⟨lw_p16, List.forall_mem_cons.mpr ⟨lw_p17, List.forall_mem_cons.mpr ⟨lw_p18, List.forall_mem_cons.mpr ⟨lw_p19, List.forall_mem_cons.mpr ⟨lw_p20, List.forall_mem_cons.mpr ⟨lw_p21, List.forall_mem_cons.mpr ⟨lw_p22, List.forall_mem_cons.mpr ⟨lw_p23, List.forall_mem_cons.mpr ⟨lw_p24, List.forall_mem_cons.mpr ⟨lw_p25, List.forall_mem_cons.mpr ⟨lw_p26, List.forall_mem_cons.mpr ⟨lw_p27, List.forall_mem_cons.mpr ⟨lw_p28, List.forall_mem_cons.mpr ⟨lw_p29, List.forall_mem_cons.mpr ⟨lw_p30, List.forall_mem_cons.mpr ⟨lw_p31, fun _ h => absurd h List.not_mem_nil⟩⟩⟩⟩⟩⟩⟩⟩⟩⟩⟩⟩⟩⟩⟩⟩
theorem lw_p32 : lw_okq (⟨"PickPathsModel", "nearest", "(I)V"⟩, 18) := ⟨⟨by decide +kernel, by decide +kernel⟩, List.mem_of_getElem? (i := 608) (by decide +kernel), List.mem_of_getElem? (i := 728) (by decide +kernel), List.mem_of_getElem? (i := 729) (by decide +kernel)⟩
theorem lw_p33 : lw_okq (⟨"PickPathsModel", "way", "(II)I"⟩, 18) := ⟨⟨by decide +kernel, by decide +kernel⟩, List.mem_of_getElem? (i := 608) (by decide +kernel), List.mem_of_getElem? (i := 732) (by decide +kernel), List.mem_of_getElem? (i := 733) (by decide +kernel)⟩
theorem lw_p34 : lw_okq (⟨"PickPathsModel", "aisleOf", "(I)I"⟩, 18) := ⟨⟨by decide +kernel, by decide +kernel⟩, List.mem_of_getElem? (i := 608) (by decide +kernel), List.mem_of_getElem? (i := 736) (by decide +kernel), List.mem_of_getElem? (i := 737) (by decide +kernel)⟩
theorem lw_p35 : lw_okq (⟨"PickPathsModel", "least", "(I)V"⟩, 18) := ⟨⟨by decide +kernel, by decide +kernel⟩, List.mem_of_getElem? (i := 608) (by decide +kernel), List.mem_of_getElem? (i := 744) (by decide +kernel), List.mem_of_getElem? (i := 745) (by decide +kernel)⟩
theorem lw_p36 : lw_okq (⟨"PickPathsModel", "length", "()I"⟩, 18) := ⟨⟨by decide +kernel, by decide +kernel⟩, List.mem_of_getElem? (i := 608) (by decide +kernel), List.mem_of_getElem? (i := 748) (by decide +kernel), List.mem_of_getElem? (i := 749) (by decide +kernel)⟩
theorem lw_p37 : lw_okq (⟨"PickPathsModel", "remove", "(I)V"⟩, 18) := ⟨⟨by decide +kernel, by decide +kernel⟩, List.mem_of_getElem? (i := 608) (by decide +kernel), List.mem_of_getElem? (i := 760) (by decide +kernel), List.mem_of_getElem? (i := 761) (by decide +kernel)⟩
theorem lw_p38 : lw_okq (⟨"PickPathsModel", "isStop", "(I)Z"⟩, 18) := ⟨⟨by decide +kernel, by decide +kernel⟩, List.mem_of_getElem? (i := 608) (by decide +kernel), List.mem_of_getElem? (i := 768) (by decide +kernel), List.mem_of_getElem? (i := 769) (by decide +kernel)⟩
def lw_privs_3 : List (MethodName × Nat) := [(⟨"PickPathsModel", "nearest", "(I)V"⟩, 18), (⟨"PickPathsModel", "way", "(II)I"⟩, 18), (⟨"PickPathsModel", "aisleOf", "(I)I"⟩, 18), (⟨"PickPathsModel", "least", "(I)V"⟩, 18), (⟨"PickPathsModel", "length", "()I"⟩, 18), (⟨"PickPathsModel", "remove", "(I)V"⟩, 18), (⟨"PickPathsModel", "isStop", "(I)Z"⟩, 18)]
theorem lw_r3 : ∀ q ∈ lw_privs_3, lw_okq q := List.forall_mem_cons.mpr ⟨lw_p32, List.forall_mem_cons.mpr ⟨lw_p33, List.forall_mem_cons.mpr ⟨lw_p34, List.forall_mem_cons.mpr ⟨lw_p35, List.forall_mem_cons.mpr ⟨lw_p36, List.forall_mem_cons.mpr ⟨lw_p37, List.forall_mem_cons.mpr ⟨lw_p38, fun _ h => absurd h List.not_mem_nil⟩⟩⟩⟩⟩⟩⟩
def lw_privs : List (MethodName × Nat) := lw_privs_1 ++ (lw_privs_2 ++ (lw_privs_3))
def lw_tbl : List Cond := k2_sels lw_privs ++ tables_1
theorem lw_privs_ok : ∀ q ∈ lw_privs, lw_okq q := by
  show ∀ q ∈ lw_privs_1 ++ (lw_privs_2 ++ (lw_privs_3)), lw_okq q
  exact List.forall_mem_append.mpr ⟨lw_r1, List.forall_mem_append.mpr ⟨lw_r2, lw_r3⟩⟩
/-! ===== BEGIN words of one list among another's, by their places ===== -/
theorem goodIn_r {big : List Cond} (ws : List Cond) (ps : List Nat) (hp : ws = ps.filterMap (fun i => big[i]?)) (h : ws.all goodWord = true) : GoodIn big ws := by
  intro w hw
  have h1 := List.all_eq_true.mp h w hw
  rw [hp] at hw
  obtain ⟨i, -, hi⟩ := List.mem_filterMap.mp hw
  have hm : w ∈ big := by first | exact List.mem_of_getElem? hi | exact List.getElem?_mem hi
  exact ⟨hm, good_of_word h1⟩
theorem goodIn_app {big a b : List Cond} (ha : GoodIn big a) (hb : GoodIn big b) : GoodIn big (a ++ b) := fun w h => (List.mem_append.mp h).elim (ha w) (hb w)
theorem goodIn_ca {big a b : List Cond} {c : Cond} (ha : GoodIn big (c :: a)) (hb : GoodIn big b) : GoodIn big (c :: (a ++ b)) := fun w h => (List.mem_cons.mp h).elim (fun e => ha w (List.mem_cons.mpr (Or.inl e))) (fun h => (List.mem_append.mp h).elim (fun h => ha w (List.mem_cons.mpr (Or.inr h))) (hb w))
theorem goodIn_sub {big ws : List Cond} (hm : ∀ w ∈ ws, w ∈ big) (h : ws.all goodWord = true) : GoodIn big ws := fun w hw => ⟨hm w hw, good_of_word (List.all_eq_true.mp h w hw)⟩
/-! ===== END ===== -/

/-! ===== BEGIN exceptions that leave a method, and their catching by the caller (launches without stack traces) ===== -/
section VXA
/-! The laws vx_back, vx_callV, vx_callS, vx_callSW, vx_throw0, vx_throwS follow proofs of the library, with one case more: JvmDerived/Free/Laws.lean (Back.of_free), Shelf42/LK1.lean (callV, callS), Shelf/KitTraced.lean (throwNew0V, throwNewS). -/
/-- where a method has thrown q: the class by its name, the cell, what was written, the world -/
def vx_T (XC : String → State → State → Prop) (st : State) (q : Addr) (t : State) (mc ms : Nat) (free : Addr → Prop) : Prop :=
  ∃ (E : String) (ce : Cell) (L : List Loc), XC E st t ∧ t.heap[q]? = some ce ∧ ce.vm = .none ∧ st.vm.findClass E = some ce.cls ∧ st.WarmedH t.vm ∧ st.sameButNew ({ t with vm := st.vm } : State) L mc ms ∧ ∀ z ∈ L, free z.base
def vx_Q (Qc : Array Value → State → Outcome → State → Prop) (XC : String → State → State → Prop) (mc ms : Nat) (free : Addr → Prop) : Array Value → State → Outcome → State → Prop := fun a st o t =>
  (Qc a st o t ∧ ∃ L, FrameEnd st o t L mc ms ∧ ∀ q ∈ L, free q.base) ∨ ∃ q, o = .threw q ∧ vx_T XC st q t mc ms free
/-- a callee that returns or throws -/
def vx_Met (l : Launch) (y : MethodName) (ws : List Cond) (rm : Room) (Pc : Array Value → State → Prop) (Qc : Array Value → State → Outcome → State → Prop) (XC : String → State → State → Prop) (mc ms : Nat) (free : Addr → Prop) : Prop :=
  MetFree l y (headSpec ws rm) Pc (fun _ _ _ _ _ => True) (vx_Q Qc XC mc ms free)
def vx_Post (XC : String → State → State → Prop) (mc ms : Nat) (free : Addr → Prop) : Pt → Array Value → Addr → Pt → Prop := fun A a q B =>
  ∃ (g : JFrame) (mk : MethodId) (t : State) (L : List Loc) (E : String) (ce : Cell), B.U.heap = t.heap ∧ B.U.vm = t.vm ∧ XC E (A.U.calling g mk a) t ∧ t.heap[q]? = some ce ∧ ce.vm = .none ∧ A.U.vm.findClass E = some ce.cls ∧ B.locs = A.locs ++ L ∧ (∀ z ∈ L, free z.base) ∧ B.cells = A.cells + mc ∧ B.slots = A.slots + ms
def vx_Back (l : Launch) (R : Room) (p : Program) (e : Env) (below : List Frame) (s : State) (sargs : Array Value) (y : MethodName) (len W9 : Nat)
    (Pre : Pt → Array Value → Prop) (Post : Pt → Array Value → Option Value → Pt → Prop) (PostX : Pt → Array Value → Addr → Pt → Prop) : Prop :=
  ∀ (m : MethodId) (meth : Method) (c : Code) (A : Pt) (g : JFrame) (ig : Instr) (mk : MethodId) (a : Array Value),
    Stand p l e R s m sargs below meth c A.U A.locs A.cells A.slots → g.method = m → g.locals.size = c.maxLocals → decode c.code g.pc = .ok (ig, len) →
    2 * g.monitorRoom + (g.stack.map fun v => v.category).sum ≤ W9 → A.U.methodNamed? y = some mk → Pre A a →
    (∃ (v : Option Value) (B : Pt), Stand p l e R s m sargs below meth c B.U B.locs B.cells B.slots ∧ Post A a v B ∧
      Steps p.tables e below (doInvoke e (A.U.setTop g) [] mk a).1 (B.U.setTop { g with pc := g.pc + len, stack := v.toList ++ g.stack })) ∨
    (∃ (q : Addr) (B : Pt), Stand p l e R s m sargs below meth c B.U B.locs B.cells B.slots ∧ PostX A a q B ∧
      Steps p.tables e below (doInvoke e (A.U.setTop g) [] mk a).1 ((B.U.setTop g).pushFrame (.throwing q)))
section Payer
variable {l : Launch} {R : Room} {p : Program} {e : Env} {below : List Frame} {s : State} {sargs : Array Value} {y : MethodName} {len W9 : Nat}
theorem vx_back {ws : List Cond} {rm : Room} {Pc : Array Value → State → Prop} {Qc : Array Value → State → Outcome → State → Prop} {XC : String → State → State → Prop} {mc ms : Nat} {free : Addr → Prop} {bytes : ByteArray} {maxL : Nat} {ret : Option FieldType}
    (hM : vx_Met l y ws rm Pc Qc XC mc ms free) (hblind : FrameBlind Pc) (hrc : rm.cells = mc) (hrs : rm.slots = ms)
    (hframes : rm.frames + 1 ≤ R.frames) (hlocals : W9 + (maxL + 11) + rm.locals ≤ R.locals)
    (hws : ∀ w ∈ ws, ∀ a' U, s.WarmedH U.vm → w.before a' U = true) (hcode : Cond.code y bytes maxL ret ∈ ws) (hinit : ∀ a' U, s.WarmedH U.vm → (Cond.initialized y.cls).before a' U = true) :
    vx_Back l R p e below s sargs y len W9 (PreOf R mc ms Pc) (PostOf Qc mc ms free) (vx_Post XC mc ms free) := by
  intro m meth c A g ig mk a X hg hsize hdg hW hn hp
  have h1 : (headSpec ws rm).pre.before a A.U = true := atoms_intro fun w hw => hws w hw _ _ X.warmed
  have h2 : (Cond.code y bytes maxL ret).before a A.U = true := hws _ hcode _ _ X.warmed
  have h3 : (Cond.initialized y.cls).before a A.U = true := hinit _ _ X.warmed
  have h4 : A.cells + (headSpec ws rm).room.cells ≤ R.cells := by rw [show (headSpec ws rm).room.cells = mc from hrc]; exact hp.1
  have h5 : A.slots + (headSpec ws rm).room.slots ≤ R.slots := by rw [show (headSpec ws rm).room.slots = ms from hrs]; exact hp.2.1
  have hPc : Pc a (A.U.calling g mk a) := hblind _ _ _ _ hp.2.2
  obtain ⟨U, Ls, c0, s0⟩ := A
  dsimp only [Pt.U, Pt.locs, Pt.cells, Pt.slots] at h1 h2 h3 h4 h5 X hn hPc ⊢
  obtain ⟨methY, cY, hmY, hcY, -, hlY, -, -, -, -⟩ := Cond.code_spec hn h2
  obtain ⟨kY, hkY, -⟩ := className_of_methodNamed hn
  have hinitY : kY.init = .initialized := Cond.initialized_spec (findClass_of_methodNamed hn) hkY h3
  have h : At U g.method c below := by rw [hg]; exact X.here
  have hlocals9 : W9 + (maxL + 11) + (headSpec ws rm).room.locals ≤ R.locals := hlocals
  have happ : (headSpec ws rm).appliesLoose y e.platform (U.calling g mk a) = true :=
    Spec.appliesLoose_calling (g := g) h hdg hn hkY hinitY
      (X.room_calling (g := g) (R' := (headSpec ws rm).room) hsize hmY hcY hframes (by rw [hlY]; omega) h4 h5) h1
  obtain ⟨mid, hmid⟩ := h.above
  have hfr : (U.setTop g).frames = (.java g :: mid) ++ below := by rw [State.frames_setTop' g h.top, hmid]; rfl
  obtain ⟨o, s₂, hsteps, -, hend, hq⟩ := Steps.callFree hM p X.admits X.cas X.clock (acts := []) hfr happ hPc trivial
  have hq' : vx_Q Qc XC mc ms free a (U.calling g mk a) o s₂ := hq
  rw [State.frames_setTop' g h.top] at hend
  obtain ⟨g₀, hg0⟩ := Option.isSome_iff_exists.mp h.top
  obtain ⟨r, hr⟩ := State.topJava?_eq_some.mp hg0
  have hr' : (({ U with heap := s₂.heap, slotsUsed := s₂.slotsUsed } : State).setVm s₂.vm).frames = .java g₀ :: r := hr
  rcases hq' with ⟨hqc, L, hfe, hL⟩ | ⟨q, rfl, E, ce, L, hx, hce, hcv, hcl, hW₂, hsm, hL⟩
  · obtain ⟨⟨v, rfl⟩, hW₂, e2, q2, q3, q4, q5, q6⟩ := id hfe
    have e3 : s₂ = ({ (U.calling g mk a).setFrames s₂.frames with heap := s₂.heap, slotsUsed := s₂.slotsUsed } : State).setVm s₂.vm := by
      have : s₂ = ({ s₂ with vm := (U.calling g mk a).vm } : State).setVm s₂.vm := rfl
      rw [e2] at this
      exact this
    obtain ⟨c₂, i₂, len₂, hc₂, hd₂, hf₂⟩ := hend
    have hW' : U.WarmedH s₂.vm := hW₂
    have hcc : c₂ = c := by
      have h1 : s₂.code? g.method = U.code? g.method := by
        rw [State.code?_eq, State.code?_eq, hW'.alike.method?]
      exact Option.some.inj (hc₂.symm.trans (h1.trans h.code))
    subst hcc
    have hlen : len₂ = len := by rw [hdg] at hd₂; cases hd₂; rfl
    subst hlen
    have hs₂ : s₂ = (({ U with heap := s₂.heap, slotsUsed := s₂.slotsUsed } : State).setVm s₂.vm).setTop { g with pc := g.pc + len₂, stack := v.toList ++ g.stack } := by
      refine e3.trans ?_
      rw [hf₂, State.calling_eq h.top, State.setFrames_setFrames, State.setTop_of_frames _ hr', hr]
      rfl
    have hsame : U.sameButNew ({ U with heap := s₂.heap, slotsUsed := s₂.slotsUsed } : State) L mc ms := by
      refine ⟨?_, q2, q3, q4, q5, q6⟩
      obtain ⟨t, ht, -⟩ := State.frames_cons hr
      show ({ U with heap := s₂.heap, slotsUsed := s₂.slotsUsed } : State) = { U.setFrames U.frames with heap := s₂.heap, slotsUsed := s₂.slotsUsed }
      rw [State.setFrames_self ht]
    subst hg
    refine Or.inl ⟨v, ⟨(({ U with heap := s₂.heap, slotsUsed := s₂.slotsUsed } : State).setVm s₂.vm), Ls ++ L, c0 + mc, s0 + ms⟩,
      ⟨X.admits, X.cas, X.clock, X.frames, X.room, X.hears, X.method, X.code, (X.here.setHeapUsed s₂.heap s₂.slotsUsed).setVm hW'.alike, X.tail, State.WarmedH.trans X.warmed hW', X.limits, X.bytes, X.same.trans (hsame.setVm s.vm)⟩,
      ⟨g, mk, s₂, L, rfl, rfl, hqc, rfl, hL, rfl, rfl⟩, ?_⟩
    show Steps p.tables e below _ ((({ U with heap := s₂.heap, slotsUsed := s₂.slotsUsed } : State).setVm s₂.vm).setTop { g with pc := g.pc + len₂, stack := v.toList ++ g.stack })
    rw [← hs₂]
    exact hsteps
  · obtain ⟨e2, q2, q3, q4, q5, q6⟩ := id hsm
    have e3 : s₂ = ({ (U.calling g mk a).setFrames s₂.frames with heap := s₂.heap, slotsUsed := s₂.slotsUsed } : State).setVm s₂.vm := by
      have : s₂ = ({ s₂ with vm := (U.calling g mk a).vm } : State).setVm s₂.vm := rfl
      rw [e2] at this
      exact this
    have hf₂ : s₂.frames = .throwing q :: .java g :: U.frames.tail := hend
    have hW' : U.WarmedH s₂.vm := hW₂
    have hs₂ : s₂ = ((({ U with heap := s₂.heap, slotsUsed := s₂.slotsUsed } : State).setVm s₂.vm).setTop g).pushFrame (.throwing q) := by
      refine e3.trans ?_
      rw [hf₂, State.calling_eq h.top, State.setFrames_setFrames, State.pushFrame, State.frames_setTop _ hr', State.setTop_of_frames _ hr', State.setFrames_setFrames, hr]
      rfl
    have hsame : U.sameButNew ({ U with heap := s₂.heap, slotsUsed := s₂.slotsUsed } : State) L mc ms := by
      refine ⟨?_, q2, q3, q4, q5, q6⟩
      obtain ⟨t, ht, -⟩ := State.frames_cons hr
      show ({ U with heap := s₂.heap, slotsUsed := s₂.slotsUsed } : State) = { U.setFrames U.frames with heap := s₂.heap, slotsUsed := s₂.slotsUsed }
      rw [State.setFrames_self ht]
    subst hg
    refine Or.inr ⟨q, ⟨(({ U with heap := s₂.heap, slotsUsed := s₂.slotsUsed } : State).setVm s₂.vm), Ls ++ L, c0 + mc, s0 + ms⟩,
      ⟨X.admits, X.cas, X.clock, X.frames, X.room, X.hears, X.method, X.code, (X.here.setHeapUsed s₂.heap s₂.slotsUsed).setVm hW'.alike, X.tail, State.WarmedH.trans X.warmed hW', X.limits, X.bytes, X.same.trans (hsame.setVm s.vm)⟩,
      ⟨g, mk, s₂, L, E, ce, rfl, rfl, hx, hce, hcv, hcl, rfl, hL, rfl, rfl⟩, ?_⟩
    show Steps p.tables e below _ (((({ U with heap := s₂.heap, slotsUsed := s₂.slotsUsed } : State).setVm s₂.vm).setTop g).pushFrame (.throwing q))
    rw [← hs₂]
    exact hsteps
end Payer
section Calls
variable {p : Program} {l : Launch} {e : Env} {R : Room} {s : State} {m : MethodId} {args : Array Value} {below : List Frame} {meth : Method} {c : Code} {T : State} {locs : List Loc} {cells slots : Nat}
theorem vx_callV (X : Stand p l e R s m args below meth c T locs cells slots) (hexec : p.tables.exec = Jvm.exec) {own C : String} {index : Nat} {y : MethodName} {bytes : ByteArray} {maxL : Nat} {ret : Option FieldType}
    (hown : s.vm.findClass own = some m.cls) (hlink : (Cond.methodLink own index y).before args s = true) (hinst : (Cond.instanceMethod y).before args s = true) (hsel : (Cond.selects C y y).before args s = true)
    (hcode : (Cond.code y bytes maxL ret).before args s = true) (hy : y.cls ≠ "java/lang/invoke/MethodHandle" ∧ y.cls ≠ "java/lang/invoke/VarHandle")
    {W9 : Nat} {Pre : Pt → Array Value → Prop} {Post : Pt → Array Value → Option Value → Pt → Prop} {PostX : Pt → Array Value → Addr → Pt → Prop} (hK : vx_Back l R p e below s args y 3 W9 Pre Post PostX)
    {b : Addr} {cellB : Cell} (hcell : T.heap[b]? = some cellB) (hobj : cellB.vm.isStatics = false) (hcls : s.vm.findClass C = some cellB.cls)
    {g : JFrame} (hg : g.method = m) (hsize : g.locals.size = c.maxLocals) {argsL rest : List Value} (hlen : ∀ sig, parseMethodDescriptor y.desc = some sig → argsL.length = sig.parameters.length)
    (hstack : g.stack = argsL.reverse ++ .ref b :: rest) (hW : 2 * g.monitorRoom + (rest.map fun v => v.category).sum ≤ W9) (hdg : decode c.code g.pc = .ok (.invokevirtual index, 3))
    (hpre : ∀ vm₁, s.WarmedH vm₁ → Pre ⟨T.setVm vm₁, locs, cells, slots⟩ (Value.ref b :: argsL).toArray) :
    (∃ (v : Option Value) (vm₁ : Vm) (B : Pt), s.WarmedH vm₁ ∧ Stand p l e R s m args below meth c B.U B.locs B.cells B.slots ∧ Post ⟨T.setVm vm₁, locs, cells, slots⟩ (Value.ref b :: argsL).toArray v B ∧
      ∀ target, Steps p.tables e below (B.U.setTop { g with pc := g.pc + 3, stack := v.toList ++ rest }) target → Steps p.tables e below (T.setTop g) target) ∨
    (∃ (q : Addr) (vm₁ : Vm) (B : Pt), s.WarmedH vm₁ ∧ Stand p l e R s m args below meth c B.U B.locs B.cells B.slots ∧ PostX ⟨T.setVm vm₁, locs, cells, slots⟩ (Value.ref b :: argsL).toArray q B ∧
      Steps p.tables e below (T.setTop g) ((B.U.setTop { g with stack := rest }).pushFrame (.throwing q))) := by
  obtain ⟨mk, methM, hnamed, hmethM, hstM, habM⟩ := Cond.instanceMethod_spec hinst
  obtain ⟨methM', cM, hmethM', -, -, -, -, -, -, hsigM⟩ := Cond.code_spec hnamed hcode
  cases hmethM.symm.trans hmethM'
  obtain ⟨c2, r2, m2, q1, q2, q3, q4, kP, hkP, hkPi⟩ := Cond.selects_spec hsel
  cases hcls.symm.trans q1
  cases (State.methodFound?_of_named hnamed hy).symm.trans q2
  cases hnamed.symm.trans q3
  have hselP : selectMethod e.platform s.vm cellB.cls mk = .method mk := by rw [Launch.admits_selectMethod X.admits]; exact q4
  obtain ⟨vm₁, X₁, hstep₁⟩ := X.invokevirtual hexec hown hlink hnamed hmethM hstM hkP hkPi hy (a := b) (cell := cellB) hcell
    (fun z h => by rw [h] at hobj; cases hobj) hselP hmethM habM hkP hkPi (g := g) hg (argsL := argsL) (rest := rest) (hlen _ hsigM) hstack hdg
  rcases hK m meth c ⟨T.setVm vm₁, locs, cells, slots⟩ { g with stack := rest } (.invokevirtual index) mk (Value.ref b :: argsL).toArray X₁ hg hsize hdg hW (X₁.named hnamed) (hpre vm₁ X₁.warmed) with ⟨v, B, X', hpost, hsteps⟩ | ⟨q, B, X', hpost, hsteps⟩
  · exact Or.inl ⟨v, vm₁, B, X₁.warmed, X', hpost, fun target h => hstep₁ _ fun acts => by rw [doInvoke_state]; exact hsteps.trans h⟩
  · exact Or.inr ⟨q, vm₁, B, X₁.warmed, X', hpost, hstep₁ _ fun acts => by rw [doInvoke_state]; exact hsteps⟩
theorem vx_callS (X : Stand p l e R s m args below meth c T locs cells slots) (hexec : p.tables.exec = Jvm.exec) {own : String} {index : Nat} {y : MethodName} {bytes : ByteArray} {maxL : Nat} {ret : Option FieldType}
    (hown : s.vm.findClass own = some m.cls) (hlink : (Cond.methodLink own index y).before args s = true) (hstat : (Cond.static y).before args s = true) (hinit : (Cond.initialized y.cls).before args s = true)
    (hcode : (Cond.code y bytes maxL ret).before args s = true) (hy : y.cls ≠ "java/lang/invoke/MethodHandle" ∧ y.cls ≠ "java/lang/invoke/VarHandle")
    {W9 : Nat} {Pre : Pt → Array Value → Prop} {Post : Pt → Array Value → Option Value → Pt → Prop} {PostX : Pt → Array Value → Addr → Pt → Prop} (hK : vx_Back l R p e below s args y 3 W9 Pre Post PostX)
    {g : JFrame} (hg : g.method = m) (hsize : g.locals.size = c.maxLocals) {argsL rest : List Value} (hlen : ∀ sig, parseMethodDescriptor y.desc = some sig → argsL.length = sig.parameters.length)
    (hstack : g.stack = argsL.reverse ++ rest) (hW : 2 * g.monitorRoom + (rest.map fun v => v.category).sum ≤ W9) (hdg : decode c.code g.pc = .ok (.invokestatic index, 3))
    (hpre : ∀ vm₁, s.WarmedH vm₁ → Pre ⟨T.setVm vm₁, locs, cells, slots⟩ argsL.toArray) :
    (∃ (v : Option Value) (vm₁ : Vm) (B : Pt), s.WarmedH vm₁ ∧ Stand p l e R s m args below meth c B.U B.locs B.cells B.slots ∧ Post ⟨T.setVm vm₁, locs, cells, slots⟩ argsL.toArray v B ∧
      ∀ target, Steps p.tables e below (B.U.setTop { g with pc := g.pc + 3, stack := v.toList ++ rest }) target → Steps p.tables e below (T.setTop g) target) ∨
    (∃ (q : Addr) (vm₁ : Vm) (B : Pt), s.WarmedH vm₁ ∧ Stand p l e R s m args below meth c B.U B.locs B.cells B.slots ∧ PostX ⟨T.setVm vm₁, locs, cells, slots⟩ argsL.toArray q B ∧
      Steps p.tables e below (T.setTop g) ((B.U.setTop { g with stack := rest }).pushFrame (.throwing q))) := by
  obtain ⟨mk, hnamed⟩ := Cond.code_named hcode
  obtain ⟨methM, cM, hmethM, -, -, -, -, -, -, hsigM⟩ := Cond.code_spec hnamed hcode
  have hstatic : methM.isStatic = true := Cond.static_spec hnamed hmethM hstat
  obtain ⟨kP, hkP, -⟩ := className_of_methodNamed hnamed
  have hinitP : kP.init = .initialized := Cond.initialized_spec (findClass_of_methodNamed hnamed) hkP hinit
  obtain ⟨vm₁, X₁, hstep₁⟩ := X.invokestatic hexec hown hlink hnamed hmethM hstatic hkP hinitP hy (g := g) hg (argsL := argsL) (rest := rest) (hlen _ hsigM) hstack hdg
  rcases hK m meth c ⟨T.setVm vm₁, locs, cells, slots⟩ { g with stack := rest } (.invokestatic index) mk argsL.toArray X₁ hg hsize hdg hW (X₁.named hnamed) (hpre vm₁ X₁.warmed) with ⟨v, B, X', hpost, hsteps⟩ | ⟨q, B, X', hpost, hsteps⟩
  · exact Or.inl ⟨v, vm₁, B, X₁.warmed, X', hpost, fun target h => hstep₁ _ fun acts => by rw [doInvoke_state]; exact hsteps.trans h⟩
  · exact Or.inr ⟨q, vm₁, B, X₁.warmed, X', hpost, hstep₁ _ fun acts => by rw [doInvoke_state]; exact hsteps⟩
end Calls
theorem vx_cls {s : State} {T : State} {vm₁ : Vm} {E : String} {k : ClassId} (hW : s.WarmedH vm₁) (h : (T.setVm vm₁).vm.findClass E = some k) : s.vm.findClass E = some k := by
  have h1 : vm₁.findClass E = some k := h
  rw [hW.alike.findClass] at h1
  exact h1
/-- the method's frame g, with q thrown over it -/
def vx_W (p : Program) (l : Launch) (e : Env) (R : Room) (s : State) (m : MethodId) (args : Array Value) (below : List Frame) (meth : Method) (c : Code) (H : Heap) (locs : List Loc) (cells slots : Nat) (Q : State → Prop) (g : JFrame) (q : Addr) : Prop :=
  ∀ T : State, T.heap = H → Stand p l e R s m args below meth c T locs cells slots → ∃ t, Steps p.tables e below ((T.setTop g).pushFrame (.throwing q)) t ∧ Q t
def vx_Run (p : Program) (l : Launch) (e : Env) (R : Room) (s : State) (m : MethodId) (args : Array Value) (below : List Frame) (meth : Method) (c : Code) (H : Heap) (locs : List Loc) (cells slots mc ms : Nat) (g : JFrame) (rest : List Value) (Qa : State → Outcome → State → Prop) (XC : String → State → State → Prop) (free : Addr → Prop) : Prop :=
  ∀ T : State, T.heap = H → Stand p l e R s m args below meth c T locs cells slots →
    (∃ (v : Option Value) (st₀ t T' : State) (L : List Loc), st₀.heap = H ∧ Stand p l e R s m args below meth c T' (locs ++ L) (cells + mc) (slots + ms) ∧ (∀ q ∈ L, free q.base) ∧ T'.heap = t.heap ∧ T'.vm = t.vm ∧ Qa st₀ (.returned v) t ∧
      Goes p e below T g T' { g with pc := g.pc + 3, stack := v.toList ++ rest }) ∨
    (∃ (q : Addr) (st₀ t T' : State) (L : List Loc) (E : String) (ce : Cell), st₀.heap = H ∧ Stand p l e R s m args below meth c T' (locs ++ L) (cells + mc) (slots + ms) ∧ (∀ z ∈ L, free z.base) ∧ T'.heap = t.heap ∧ T'.vm = t.vm ∧ XC E st₀ t ∧ t.heap[q]? = some ce ∧ ce.vm = .none ∧ s.vm.findClass E = some ce.cls ∧
      Steps p.tables e below (T.setTop g) ((T'.setTop { g with stack := rest }).pushFrame (.throwing q)))
def vx_X {S : Type} (px : S → Prop) (B : String → S → State → Prop) (A : Nat → Prop) : String → State → State → Prop := fun E st t => ∃ u : S, px u ∧ B E u t ∧ va_F A st t
section Runs
variable {p : Program} {l : Launch} {e : Env} {R : Room} {s : State} {m : MethodId} {args : Array Value} {below : List Frame} {meth : Method} {c : Code} {H : Heap} {locs : List Loc} {cells slots : Nat}
variable {y : MethodName} {bytes cc : ByteArray} {maxL nL mc ms n index : Nat} {ret : Option FieldType} {ws : List Cond} {rm : Room} {Pc : Array Value → State → Prop} {Qc : Array Value → State → Outcome → State → Prop} {XC : String → State → State → Prop} {free : Addr → Prop} {Ts : List Cond} {own C : String} {b : Addr} {As rest : List Value} {g : JFrame}
theorem vx_callBack (cb : CallB R s args own index y bytes maxL ret ws rm mc ms n) (hM : vx_Met l y ws rm Pc Qc XC mc ms free) (hbl : FrameBlind Pc) : vx_Back l R p e below s args y 3 8 (PreOf R mc ms Pc) (PostOf Qc mc ms free) (vx_Post XC mc ms free) := by
  obtain ⟨hrc, hrs, hfr, hlo, hws, hcw, -, hini, -⟩ := cb
  exact vx_back (bytes := bytes) (maxL := maxL) (ret := ret) hM hbl hrc hrs hfr hlo hws hcw (fun a' U hW => word_at hW (Or.inl (by first | rfl | simp [Cond.onTables, Cond.keeps, Cond.steady])) hini)
theorem vx_runV (S : CallFix p m c cc nL s args Ts own) (hM : vx_Met l y ws rm Pc Qc XC mc ms free) (cw : CallW R s args own C index y bytes maxL ret ws rm mc ms n) (hp : PreV s H C b Pc As)
    (hg : g.method = m) (hn : As.length = n) (hsize : g.locals.size = nL) (hstack : g.stack = As.reverse ++ .ref b :: rest) (hW : 2 * g.monitorRoom + (rest.map fun v => v.category).sum ≤ 8) (hdg : decode cc g.pc = .ok (.invokevirtual index, 3)) (hf : cells + mc ≤ R.cells ∧ slots + ms ≤ R.slots) :
    vx_Run p l e R s m args below meth c H locs cells slots mc ms g rest (Qc (Value.ref b :: As).toArray) XC free := by
  have hK : vx_Back l R p e below s args y 3 8 (PreOf R mc ms Pc) (PostOf Qc mc ms free) (vx_Post XC mc ms free) := vx_callBack cw.1 hM hp.1
  obtain ⟨⟨-, -, -, -, -, -, hcode, -, hy, hlen, hl⟩, hin, hse⟩ := cw
  obtain ⟨hx, hb, hml, ho, -⟩ := S
  obtain ⟨-, ⟨cellB, hcB, hoB, hclB⟩, hPc⟩ := hp
  intro T hT X
  rcases vx_callV X hx (C := C) (bytes := bytes) (maxL := maxL) (ret := ret) ho hl hin hse hcode hy hK (by rw [hT]; exact hcB) hoB hclB hg (hsize.trans hml.symm) (argsL := As) (rest := rest) (fun sig h => hn.trans (hlen sig h)) hstack hW (by rw [hb]; exact hdg)
    (fun vm₁ hW₁ => ⟨hf.1, hf.2, hPc (T.setVm vm₁) hT hW₁⟩) with ⟨v, vm₁, ⟨U', l2, c2, s2⟩, hW₁, X', ⟨g', mk, t, L, e1, e2, hq, h1, hL, h2, h3⟩, st⟩ | ⟨q, vm₁, ⟨U', l2, c2, s2⟩, hW₁, X', ⟨g', mk, t, L, E, ce, e1, e2, hq, hce, hcv, hcl, h1, hL, h2, h3⟩, st⟩
  · dsimp only [Pt.U, Pt.locs, Pt.cells, Pt.slots] at X' e1 e2 h1 h2 h3 st
    subst h1; subst h2; subst h3
    exact Or.inl ⟨v, (T.setVm vm₁).calling g' mk (Value.ref b :: As).toArray, t, U', L, hT, X', hL, e1, e2, hq, st⟩
  · dsimp only [Pt.U, Pt.locs, Pt.cells, Pt.slots] at X' e1 e2 h1 h2 h3 st hcl
    subst h1; subst h2; subst h3
    exact Or.inr ⟨q, (T.setVm vm₁).calling g' mk (Value.ref b :: As).toArray, t, U', L, E, ce, hT, X', hL, e1, e2, hq, hce, hcv, vx_cls hW₁ hcl, st⟩
theorem vx_runS (S : CallFix p m c cc nL s args Ts own) (hM : vx_Met l y ws rm Pc Qc XC mc ms free) (cw : CallB R s args own index y bytes maxL ret ws rm mc ms n ∧ (Cond.static y).before args s = true) (hp : PreS s H Pc As)
    (hg : g.method = m) (hn : As.length = n) (hsize : g.locals.size = nL) (hstack : g.stack = As.reverse ++ rest) (hW : 2 * g.monitorRoom + (rest.map fun v => v.category).sum ≤ 8) (hdg : decode cc g.pc = .ok (.invokestatic index, 3)) (hf : cells + mc ≤ R.cells ∧ slots + ms ≤ R.slots) :
    vx_Run p l e R s m args below meth c H locs cells slots mc ms g rest (Qc As.toArray) XC free := by
  have hK : vx_Back l R p e below s args y 3 8 (PreOf R mc ms Pc) (PostOf Qc mc ms free) (vx_Post XC mc ms free) := vx_callBack cw.1 hM hp.1
  obtain ⟨⟨-, -, -, -, -, -, hcode, hini, hy, hlen, hl⟩, hstt⟩ := cw
  obtain ⟨hx, hb, hml, ho, -⟩ := S
  intro T hT X
  rcases vx_callS X hx (bytes := bytes) (maxL := maxL) (ret := ret) ho hl hstt hini hcode hy hK hg (hsize.trans hml.symm) (argsL := As) (rest := rest) (fun sig h => hn.trans (hlen sig h)) hstack hW (by rw [hb]; exact hdg)
    (fun vm₁ hW₁ => ⟨hf.1, hf.2, hp.2 (T.setVm vm₁) hT hW₁⟩) with ⟨v, vm₁, ⟨U', l2, c2, s2⟩, hW₁, X', ⟨g', mk, t, L, e1, e2, hq, h1, hL, h2, h3⟩, st⟩ | ⟨q, vm₁, ⟨U', l2, c2, s2⟩, hW₁, X', ⟨g', mk, t, L, E, ce, e1, e2, hq, hce, hcv, hcl, h1, hL, h2, h3⟩, st⟩
  · dsimp only [Pt.U, Pt.locs, Pt.cells, Pt.slots] at X' e1 e2 h1 h2 h3 st
    subst h1; subst h2; subst h3
    exact Or.inl ⟨v, (T.setVm vm₁).calling g' mk As.toArray, t, U', L, hT, X', hL, e1, e2, hq, st⟩
  · dsimp only [Pt.U, Pt.locs, Pt.cells, Pt.slots] at X' e1 e2 h1 h2 h3 st hcl
    subst h1; subst h2; subst h3
    exact Or.inr ⟨q, (T.setVm vm₁).calling g' mk As.toArray, t, U', L, E, ce, hT, X', hL, e1, e2, hq, hce, hcv, vx_cls hW₁ hcl, st⟩
end Runs
section Rows
variable {p : Program} {l : Launch} {e : Env} {R : Room} {s : State} {m : MethodId} {args : Array Value} {below : List Frame} {meth : Method} {c : Code} {H : Heap} {locs : List Loc} {cells slots : Nat} {Q : State → Prop}
variable {mc ms : Nat} {free : Addr → Prop} {A0 A1 : Nat → Prop} {H0 : Heap} {a : Array Value} {pc : Nat} {ls : Array Slot} {st0 rest : List Value}
theorem vx_keep {st₀ t T' : State} {L : List Loc} (h0 : st₀.heap = H) (e1 : T'.heap = t.heap) (hS : va_S A0 H0 H locs) (hA : ∀ q, q < H.size → A1 q → A0 q) (hf : ∀ q, free q → A0 q) (hL : ∀ q ∈ L, free q.base) (hF : va_F A1 st₀ t) :
    H.size ≤ T'.heap.size ∧ (∀ q : Nat, q < H.size → ¬ A1 q → T'.heap[q]? = H[q]?) ∧ va_S A0 H0 T'.heap (locs ++ L) := by
  obtain ⟨hz, hk⟩ := hF
  rw [h0] at hz hk
  exact ⟨by rw [e1]; exact hz, fun q h1 h2 => by rw [e1]; exact hk q h1 h2,
    ⟨Nat.le_trans hS.1 (by rw [e1]; exact hz), fun q h1 h2 => by rw [e1, hk q (Nat.lt_of_lt_of_le h1 hS.1) (fun z => h2 (hA q (Nat.lt_of_lt_of_le h1 hS.1) z))]; exact hS.2.1 q h1 h2, fun q hq => by
      rcases List.mem_append.mp hq with h | h
      · exact hS.2.2 q h
      · exact hf _ (hL q h)⟩⟩
theorem vx_calli {S SX : Type} {post : Int32 → S → Prop} {px : SX → Prop} {B : S → State → Prop} {BX : String → SX → State → Prop} {AX : Nat → Prop} (hr : vx_Run p l e R s m args below meth c H locs cells slots mc ms (F0 m pc ls st0) rest (va_Qi post B A1 a) (vx_X px BX AX) free) (hS : va_S A0 H0 H locs) (hA : ∀ q, q < H.size → A1 q → A0 q) (hf : ∀ q, free q → A0 q) (hAX : ∀ q, q < H.size → AX q → A0 q)
    (kx : ∀ (E : String) (ce : Cell) (q9 : Addr) (u : SX) (t : State) (H1 : Heap) (locs1 : List Loc), t.heap = H1 → s.vm.Alike t.vm → px u → BX E u t → H.size ≤ H1.size → (∀ q : Nat, q < H.size → ¬ AX q → H1[q]? = H[q]?) → va_S A0 H0 H1 locs1 → H1[q9]? = some ce → ce.vm = .none → s.vm.findClass E = some ce.cls → vx_W p l e R s m args below meth c H1 locs1 (cells + mc) (slots + ms) Q (F0 m pc ls rest) q9)
    (kk : ∀ (r : Int32) (u : S) (t : State) (H1 : Heap) (locs1 : List Loc), t.heap = H1 → s.vm.Alike t.vm → post r u → B u t → H.size ≤ H1.size → (∀ q : Nat, q < H.size → ¬ A1 q → H1[q]? = H[q]?) → va_S A0 H0 H1 locs1 → W p l e R s m args below meth c H1 locs1 (cells + mc) (slots + ms) Q (F0 m (pc + 3) ls (.int r :: rest))) : W p l e R s m args below meth c H locs cells slots Q (F0 m pc ls st0) := by
  intro T hT X
  rcases hr T hT X with ⟨v, st₀, t, T', L, h0, X', hL, e1, e2, ⟨⟨r, u, hv, hp, hb⟩, hF⟩, st⟩ | ⟨q, st₀, t, T', L, E, ce, h0, X', hL, e1, e2, ⟨u, hp, hb, hF⟩, hce, hcv, hcl, st⟩
  · cases hv
    obtain ⟨k1, k2, k3⟩ := vx_keep h0 e1 hS hA hf hL hF
    obtain ⟨t2, a1, b1⟩ := kk r u t T'.heap (locs ++ L) e1.symm (by rw [← e2]; exact X'.warmed.alike) hp hb k1 k2 k3 T' rfl X'
    exact ⟨t2, st t2 a1, b1⟩
  · obtain ⟨k1, k2, k3⟩ := vx_keep h0 e1 hS hAX hf hL hF
    obtain ⟨t2, a1, b1⟩ := kx E ce q u t T'.heap (locs ++ L) e1.symm (by rw [← e2]; exact X'.warmed.alike) hp hb k1 k2 k3 (by rw [e1]; exact hce) hcv hcl T' rfl X'
    exact ⟨t2, st.trans a1, b1⟩
theorem vx_calll {S SX : Type} {post : Int64 → S → Prop} {px : SX → Prop} {B : S → State → Prop} {BX : String → SX → State → Prop} {AX : Nat → Prop} (hr : vx_Run p l e R s m args below meth c H locs cells slots mc ms (F0 m pc ls st0) rest (va_Ql post B A1 a) (vx_X px BX AX) free) (hS : va_S A0 H0 H locs) (hA : ∀ q, q < H.size → A1 q → A0 q) (hf : ∀ q, free q → A0 q) (hAX : ∀ q, q < H.size → AX q → A0 q)
    (kx : ∀ (E : String) (ce : Cell) (q9 : Addr) (u : SX) (t : State) (H1 : Heap) (locs1 : List Loc), t.heap = H1 → s.vm.Alike t.vm → px u → BX E u t → H.size ≤ H1.size → (∀ q : Nat, q < H.size → ¬ AX q → H1[q]? = H[q]?) → va_S A0 H0 H1 locs1 → H1[q9]? = some ce → ce.vm = .none → s.vm.findClass E = some ce.cls → vx_W p l e R s m args below meth c H1 locs1 (cells + mc) (slots + ms) Q (F0 m pc ls rest) q9)
    (kk : ∀ (r : Int64) (u : S) (t : State) (H1 : Heap) (locs1 : List Loc), t.heap = H1 → s.vm.Alike t.vm → post r u → B u t → H.size ≤ H1.size → (∀ q : Nat, q < H.size → ¬ A1 q → H1[q]? = H[q]?) → va_S A0 H0 H1 locs1 → W p l e R s m args below meth c H1 locs1 (cells + mc) (slots + ms) Q (F0 m (pc + 3) ls (.long r :: rest))) : W p l e R s m args below meth c H locs cells slots Q (F0 m pc ls st0) := by
  intro T hT X
  rcases hr T hT X with ⟨v, st₀, t, T', L, h0, X', hL, e1, e2, ⟨⟨r, u, hv, hp, hb⟩, hF⟩, st⟩ | ⟨q, st₀, t, T', L, E, ce, h0, X', hL, e1, e2, ⟨u, hp, hb, hF⟩, hce, hcv, hcl, st⟩
  · cases hv
    obtain ⟨k1, k2, k3⟩ := vx_keep h0 e1 hS hA hf hL hF
    obtain ⟨t2, a1, b1⟩ := kk r u t T'.heap (locs ++ L) e1.symm (by rw [← e2]; exact X'.warmed.alike) hp hb k1 k2 k3 T' rfl X'
    exact ⟨t2, st t2 a1, b1⟩
  · obtain ⟨k1, k2, k3⟩ := vx_keep h0 e1 hS hAX hf hL hF
    obtain ⟨t2, a1, b1⟩ := kx E ce q u t T'.heap (locs ++ L) e1.symm (by rw [← e2]; exact X'.warmed.alike) hp hb k1 k2 k3 (by rw [e1]; exact hce) hcv hcl T' rfl X'
    exact ⟨t2, st.trans a1, b1⟩
theorem vx_callf {S SX : Type} {post : UInt32 → S → Prop} {px : SX → Prop} {B : S → State → Prop} {BX : String → SX → State → Prop} {AX : Nat → Prop} (hr : vx_Run p l e R s m args below meth c H locs cells slots mc ms (F0 m pc ls st0) rest (va_Qf post B A1 a) (vx_X px BX AX) free) (hS : va_S A0 H0 H locs) (hA : ∀ q, q < H.size → A1 q → A0 q) (hf : ∀ q, free q → A0 q) (hAX : ∀ q, q < H.size → AX q → A0 q)
    (kx : ∀ (E : String) (ce : Cell) (q9 : Addr) (u : SX) (t : State) (H1 : Heap) (locs1 : List Loc), t.heap = H1 → s.vm.Alike t.vm → px u → BX E u t → H.size ≤ H1.size → (∀ q : Nat, q < H.size → ¬ AX q → H1[q]? = H[q]?) → va_S A0 H0 H1 locs1 → H1[q9]? = some ce → ce.vm = .none → s.vm.findClass E = some ce.cls → vx_W p l e R s m args below meth c H1 locs1 (cells + mc) (slots + ms) Q (F0 m pc ls rest) q9)
    (kk : ∀ (r : UInt32) (u : S) (t : State) (H1 : Heap) (locs1 : List Loc), t.heap = H1 → s.vm.Alike t.vm → post r u → B u t → H.size ≤ H1.size → (∀ q : Nat, q < H.size → ¬ A1 q → H1[q]? = H[q]?) → va_S A0 H0 H1 locs1 → W p l e R s m args below meth c H1 locs1 (cells + mc) (slots + ms) Q (F0 m (pc + 3) ls (.float r :: rest))) : W p l e R s m args below meth c H locs cells slots Q (F0 m pc ls st0) := by
  intro T hT X
  rcases hr T hT X with ⟨v, st₀, t, T', L, h0, X', hL, e1, e2, ⟨⟨r, u, hv, hp, hb⟩, hF⟩, st⟩ | ⟨q, st₀, t, T', L, E, ce, h0, X', hL, e1, e2, ⟨u, hp, hb, hF⟩, hce, hcv, hcl, st⟩
  · cases hv
    obtain ⟨k1, k2, k3⟩ := vx_keep h0 e1 hS hA hf hL hF
    obtain ⟨t2, a1, b1⟩ := kk r u t T'.heap (locs ++ L) e1.symm (by rw [← e2]; exact X'.warmed.alike) hp hb k1 k2 k3 T' rfl X'
    exact ⟨t2, st t2 a1, b1⟩
  · obtain ⟨k1, k2, k3⟩ := vx_keep h0 e1 hS hAX hf hL hF
    obtain ⟨t2, a1, b1⟩ := kx E ce q u t T'.heap (locs ++ L) e1.symm (by rw [← e2]; exact X'.warmed.alike) hp hb k1 k2 k3 (by rw [e1]; exact hce) hcv hcl T' rfl X'
    exact ⟨t2, st.trans a1, b1⟩
theorem vx_calld {S SX : Type} {post : UInt64 → S → Prop} {px : SX → Prop} {B : S → State → Prop} {BX : String → SX → State → Prop} {AX : Nat → Prop} (hr : vx_Run p l e R s m args below meth c H locs cells slots mc ms (F0 m pc ls st0) rest (va_Qd post B A1 a) (vx_X px BX AX) free) (hS : va_S A0 H0 H locs) (hA : ∀ q, q < H.size → A1 q → A0 q) (hf : ∀ q, free q → A0 q) (hAX : ∀ q, q < H.size → AX q → A0 q)
    (kx : ∀ (E : String) (ce : Cell) (q9 : Addr) (u : SX) (t : State) (H1 : Heap) (locs1 : List Loc), t.heap = H1 → s.vm.Alike t.vm → px u → BX E u t → H.size ≤ H1.size → (∀ q : Nat, q < H.size → ¬ AX q → H1[q]? = H[q]?) → va_S A0 H0 H1 locs1 → H1[q9]? = some ce → ce.vm = .none → s.vm.findClass E = some ce.cls → vx_W p l e R s m args below meth c H1 locs1 (cells + mc) (slots + ms) Q (F0 m pc ls rest) q9)
    (kk : ∀ (r : UInt64) (u : S) (t : State) (H1 : Heap) (locs1 : List Loc), t.heap = H1 → s.vm.Alike t.vm → post r u → B u t → H.size ≤ H1.size → (∀ q : Nat, q < H.size → ¬ A1 q → H1[q]? = H[q]?) → va_S A0 H0 H1 locs1 → W p l e R s m args below meth c H1 locs1 (cells + mc) (slots + ms) Q (F0 m (pc + 3) ls (.double r :: rest))) : W p l e R s m args below meth c H locs cells slots Q (F0 m pc ls st0) := by
  intro T hT X
  rcases hr T hT X with ⟨v, st₀, t, T', L, h0, X', hL, e1, e2, ⟨⟨r, u, hv, hp, hb⟩, hF⟩, st⟩ | ⟨q, st₀, t, T', L, E, ce, h0, X', hL, e1, e2, ⟨u, hp, hb, hF⟩, hce, hcv, hcl, st⟩
  · cases hv
    obtain ⟨k1, k2, k3⟩ := vx_keep h0 e1 hS hA hf hL hF
    obtain ⟨t2, a1, b1⟩ := kk r u t T'.heap (locs ++ L) e1.symm (by rw [← e2]; exact X'.warmed.alike) hp hb k1 k2 k3 T' rfl X'
    exact ⟨t2, st t2 a1, b1⟩
  · obtain ⟨k1, k2, k3⟩ := vx_keep h0 e1 hS hAX hf hL hF
    obtain ⟨t2, a1, b1⟩ := kx E ce q u t T'.heap (locs ++ L) e1.symm (by rw [← e2]; exact X'.warmed.alike) hp hb k1 k2 k3 (by rw [e1]; exact hce) hcv hcl T' rfl X'
    exact ⟨t2, st.trans a1, b1⟩
theorem vx_callv {S SX : Type} {post : S → Prop} {px : SX → Prop} {B : S → State → Prop} {BX : String → SX → State → Prop} {AX : Nat → Prop} (hr : vx_Run p l e R s m args below meth c H locs cells slots mc ms (F0 m pc ls st0) rest (va_Qv post B A1 a) (vx_X px BX AX) free) (hS : va_S A0 H0 H locs) (hA : ∀ q, q < H.size → A1 q → A0 q) (hf : ∀ q, free q → A0 q) (hAX : ∀ q, q < H.size → AX q → A0 q)
    (kx : ∀ (E : String) (ce : Cell) (q9 : Addr) (u : SX) (t : State) (H1 : Heap) (locs1 : List Loc), t.heap = H1 → s.vm.Alike t.vm → px u → BX E u t → H.size ≤ H1.size → (∀ q : Nat, q < H.size → ¬ AX q → H1[q]? = H[q]?) → va_S A0 H0 H1 locs1 → H1[q9]? = some ce → ce.vm = .none → s.vm.findClass E = some ce.cls → vx_W p l e R s m args below meth c H1 locs1 (cells + mc) (slots + ms) Q (F0 m pc ls rest) q9)
    (kk : ∀ (u : S) (t : State) (H1 : Heap) (locs1 : List Loc), t.heap = H1 → s.vm.Alike t.vm → post u → B u t → H.size ≤ H1.size → (∀ q : Nat, q < H.size → ¬ A1 q → H1[q]? = H[q]?) → va_S A0 H0 H1 locs1 → W p l e R s m args below meth c H1 locs1 (cells + mc) (slots + ms) Q (F0 m (pc + 3) ls (rest))) : W p l e R s m args below meth c H locs cells slots Q (F0 m pc ls st0) := by
  intro T hT X
  rcases hr T hT X with ⟨v, st₀, t, T', L, h0, X', hL, e1, e2, ⟨⟨u, hv, hp, hb⟩, hF⟩, st⟩ | ⟨q, st₀, t, T', L, E, ce, h0, X', hL, e1, e2, ⟨u, hp, hb, hF⟩, hce, hcv, hcl, st⟩
  · cases hv
    obtain ⟨k1, k2, k3⟩ := vx_keep h0 e1 hS hA hf hL hF
    obtain ⟨t2, a1, b1⟩ := kk u t T'.heap (locs ++ L) e1.symm (by rw [← e2]; exact X'.warmed.alike) hp hb k1 k2 k3 T' rfl X'
    exact ⟨t2, st t2 a1, b1⟩
  · obtain ⟨k1, k2, k3⟩ := vx_keep h0 e1 hS hAX hf hL hF
    obtain ⟨t2, a1, b1⟩ := kx E ce q u t T'.heap (locs ++ L) e1.symm (by rw [← e2]; exact X'.warmed.alike) hp hb k1 k2 k3 (by rw [e1]; exact hce) hcv hcl T' rfl X'
    exact ⟨t2, st.trans a1, b1⟩
end Rows
section Ends
variable {p : Program} {l : Launch} {e : Env} {R : Room} {s : State} {m : MethodId} {args : Array Value} {below : List Frame} {meth : Method} {c : Code} {H : Heap} {locs : List Loc} {cells slots : Nat} {Q : State → Prop}
variable {mc ms : Nat} {free : Addr → Prop} {A0 A1 : Nat → Prop} {H0 : Heap} {a : Array Value} {ls : Array Slot} {st0 rest : List Value}
variable {Qc : Array Value → State → Outcome → State → Prop} {XC : String → State → State → Prop}
/-- what a body that may throw owes at its end -/
def vx_MQ (below : List Frame) (Qc : Array Value → State → Outcome → State → Prop) (XC : String → State → State → Prop) (a : Array Value) (s : State) (mc ms : Nat) (free : Addr → Prop) : State → Prop := fun t =>
  ∃ o, t.status = .running ∧ Ended t below o ∧ vx_Q Qc XC mc ms free a s o t
theorem vx_ret {g : JFrame} {mc ms : Nat} (k : W p l e R s m args below meth c H locs cells slots (MQ below Qc args s mc ms free) g) : W p l e R s m args below meth c H locs cells slots (vx_MQ below Qc XC args s mc ms free) g := by
  intro T hT X
  obtain ⟨t, a1, o, b1, b2, b3, b4⟩ := k T hT X
  exact ⟨t, a1, o, b1, b2, Or.inl ⟨b3, b4⟩⟩
/-- not caught here: it goes on to the caller -/
theorem vx_widen {g : JFrame} {q : Addr} {k n : Nat} (h1 : cells ≤ k) (h2 : slots ≤ n) (kk : vx_W p l e R s m args below meth c H locs k n Q g q) : vx_W p l e R s m args below meth c H locs cells slots Q g q := fun T hT X => kk T hT (stand_widen X h1 h2)
theorem vx_out {pc : Nat} {E : String} {ce : Cell} {q : Addr} {mc ms : Nat} (hout : ∀ x ∈ c.exceptionTable.toList, covers x pc = false) (hlocks : meth.locks = false) (hcell : H[q]? = some ce) (hv : ce.vm = .none) (hcl : s.vm.findClass E = some ce.cls)
    (hx : ∀ t : State, t.heap = H → s.vm.Alike t.vm → XC E s t) (hf : ∀ z ∈ locs, free z.base) (hc : cells ≤ mc) (hs : slots ≤ ms) :
    vx_W p l e R s m args below meth c H locs cells slots (vx_MQ below Qc XC args s mc ms free) (F0 m pc ls rest) q := by
  intro T hT X
  obtain ⟨st1, hrun, hend, hW, hsm⟩ := X.leaveThrown q (g := F0 m pc ls rest) rfl rfl rfl hout hlocks
  have hcell9 : (T.setFrames (.throwing q :: below)).heap[q]? = some ce := by
    show T.heap[q]? = some ce
    rw [hT]; exact hcell
  exact ⟨_, st1, .threw q, hrun, hend, Or.inr ⟨q, rfl, E, ce, locs, hx _ hT hW.alike, hcell9, hv, hcl, hW, hsm.mono hc hs, hf⟩⟩
theorem vx_frame {U : State} {k n : Nat} (h : s.sameButNew ({ U with vm := s.vm } : State) locs k n) : s.heap.size ≤ U.heap.size ∧ ∀ q : Nat, q < s.heap.size → (∀ z ∈ locs, z.base ≠ q) → U.heap[q]? = s.heap[q]? := by
  obtain ⟨-, h2, -, -, -, h6⟩ := h
  refine ⟨h2, fun q hq hz => ?_⟩
  obtain ⟨c9, e1, e2, e3, e4⟩ := h6 q _ (Array.getElem?_eq_getElem hq)
  have hs : c9.slots = (s.heap[q]).slots := Array.ext_getElem? fun i => e4 i fun hm => hz _ hm rfl
  have h9 : c9 = s.heap[q] := by
    rw [hs] at e2
    exact e2
  have e5 : U.heap[q]? = some c9 := e1
  rw [e5, h9, Array.getElem?_eq_getElem hq]
/-- the words of a throw but the four that speak of the heap -/
def vx_no (w : Cond) : Bool := decide (w ≠ .isRef (.static Bundle.tN "UNASSIGNED_STACK" Bundle.steD)) && decide (w ≠ .isRef (.static Bundle.tN "SUPPRESSED_SENTINEL" Bundle.listD)) && decide (w ≠ .laysStatic Bundle.tN "UNASSIGNED_STACK" Bundle.steD) && decide (w ≠ .laysStatic Bundle.tN "SUPPRESSED_SENTINEL" Bundle.listD)
def vx_at0 (own : String) (ic : Nat) (X : String) (names : List String) : List Cond := (Bundle.ownAtoms0 own ic X names).filter vx_no
def vx_atS (own : String) (ic : Nat) (X : String) (names : List String) : List Cond := (Bundle.ownAtoms own ic X names).filter vx_no
/-- a word that the tables alone decide, or a good one -/
def vx_ot (w : Cond) : Bool := w.onTables || goodWord w
theorem vx_ot_at {args a' : Array Value} {s U : State} {w : Cond} (hW : s.WarmedH U.vm) (hvm : s.vm = U.vm) (hg : vx_ot w = true) (h : w.before args s = true) : w.before a' U = true := by
  simp only [vx_ot, Bool.or_eq_true] at hg
  rcases hg with hg | hg
  · exact va_tabs hg hvm h
  · exact word_at hW (good_of_word hg) h
/-- a list's words: the good ones out of the method's own list, the others by premises of their own -/
theorem vx_hat {args : Array Value} {s : State} {L B : List Cond} (h1 : ∀ w ∈ L.filter goodWord, w.before args s = true) (h2 : ∀ w ∈ L.filter (fun w => !goodWord w), w ∈ B) (h3 : ∀ w ∈ B, w.before args s = true) : ∀ w ∈ L, w.before args s = true := by
  intro w hw
  by_cases g : goodWord w = true
  · exact h1 w (List.mem_filter.mpr ⟨hw, g⟩)
  · refine h3 w (h2 w (List.mem_filter.mpr ⟨hw, ?_⟩))
    show (!goodWord w) = true
    cases hgw : goodWord w
    · rfl
    · exact absurd hgw g
theorem vx_c {args : Array Value} {s : State} {w : Cond} {B : List Cond} (h : w.before args s = true) (t : ∀ w ∈ B, w.before args s = true) : ∀ w' ∈ w :: B, w'.before args s = true := fun w' h' => (List.mem_cons.mp h').elim (fun e => by rw [e]; exact h) (t w')
theorem vx_n {args : Array Value} {s : State} : ∀ w ∈ ([] : List Cond), w.before args s = true := fun _ h => nomatch h
theorem vx_own {args : Array Value} {s : State} {L : List Cond} (h1 : ∀ w ∈ L.filter vx_no, w.before args s = true)
    (hU : (Cond.isRef (.static Bundle.tN "UNASSIGNED_STACK" Bundle.steD)).before args s = true) (hN : (Cond.isRef (.static Bundle.tN "SUPPRESSED_SENTINEL" Bundle.listD)).before args s = true)
    (lU : (Cond.laysStatic Bundle.tN "UNASSIGNED_STACK" Bundle.steD).before args s = true) (lN : (Cond.laysStatic Bundle.tN "SUPPRESSED_SENTINEL" Bundle.listD).before args s = true) : ∀ w ∈ L, w.before args s = true := by
  intro w hw
  by_cases e1 : w = .isRef (.static Bundle.tN "UNASSIGNED_STACK" Bundle.steD)
  · rw [e1]; exact hU
  · by_cases e2 : w = .isRef (.static Bundle.tN "SUPPRESSED_SENTINEL" Bundle.listD)
    · rw [e2]; exact hN
    · by_cases e3 : w = .laysStatic Bundle.tN "UNASSIGNED_STACK" Bundle.steD
      · rw [e3]; exact lU
      · by_cases e4 : w = .laysStatic Bundle.tN "SUPPRESSED_SENTINEL" Bundle.listD
        · rw [e4]; exact lN
        · exact h1 w (List.mem_filter.mpr ⟨hw, by unfold vx_no; rw [decide_eq_true e1, decide_eq_true e2, decide_eq_true e3, decide_eq_true e4]; rfl⟩)
/-- where a static field lies, its class's statics cell in H -/
def vx_L (C n d : String) (A : Nat → Prop) (U : State) (H : Heap) : Prop := ∃ (c : ClassId) (k : Class) (i : Nat) (f : Field) (a : Nat) (cell : Cell), U.vm.findClass C = some c ∧ U.fieldFound? C n d = some (c, k, i, f) ∧ f.isStatic = true ∧ k.statics = some a ∧ H[a]? = some cell ∧ cell.vm.isStatics = true ∧ cell.cls = c ∧ f.slot < cell.slots.size ∧ k.staticTypes[f.slot]? = some f.type ∧ ¬ A a
theorem vx_L.moved {C n d : String} {A : Nat → Prop} {u U : State} {H : Heap} (hvm : u.vm.Alike U.vm) (h : vx_L C n d A u H) : vx_L C n d A U H := by
  obtain ⟨c, k, i, f, a, cell, h1, h2, h3, h4, h5, h6, h7, h8, h9, h10⟩ := h
  obtain ⟨k', hi', he⟩ := State.fieldFound?_setVm hvm h2
  exact ⟨c, k', i, f, a, cell, by rw [hvm.findClass]; exact h1, hi', h3, by rw [he]; exact h4, h5, h6, h7, h8, by rw [he]; exact h9, h10⟩
theorem vx_L.kept {C n d : String} {A : Nat → Prop} {U : State} {H H1 : Heap} (h : vx_L C n d A U H) (hq : ∀ a : Nat, a < H.size → ¬ A a → H1[a]? = H[a]?) : vx_L C n d A U H1 := by
  obtain ⟨c, k, i, f, a, cell, h1, h2, h3, h4, h5, h6, h7, h8, h9, h10⟩ := h
  exact ⟨c, k, i, f, a, cell, h1, h2, h3, h4, by rw [hq a (Array.getElem?_eq_some_iff.mp h5).1 h10]; exact h5, h6, h7, h8, h9, h10⟩
theorem vx_L.narrow {C n d : String} {A B : Nat → Prop} {U : State} {H : Heap} (h : vx_L C n d A U H) (hAB : ∀ q, B q → A q) : vx_L C n d B U H := by
  obtain ⟨c, k, i, f, a, cell, h1, h2, h3, h4, h5, h6, h7, h8, h9, h10⟩ := h
  exact ⟨c, k, i, f, a, cell, h1, h2, h3, h4, h5, h6, h7, h8, h9, fun z => h10 (hAB _ z)⟩
theorem vx_L.word {C n d : String} {A : Nat → Prop} {s : State} {args : Array Value} (h : vx_L C n d A s s.heap) : (Cond.laysStatic C n d).before args s = true := by
  obtain ⟨c, k, i, f, a, cell, h1, h2, h3, h4, h5, h6, h7, h8, h9, -⟩ := h
  show (Cond.laysStatic C n d).holds args s none s [] = true
  exact Cond.laysStatic_of h1 h2 h3 h4 h5 h6 h7 h8 h9
/-- .. and what it holds: null or some reference -/
def vx_Zq (C n d : String) (A : Nat → Prop) (U : State) (H : Heap) : Prop := va_Zq C n d A U H ∧ vx_L C n d A U H
theorem vx_Zq.moved {C n d : String} {A : Nat → Prop} {u U : State} {H : Heap} (hvm : u.vm.Alike U.vm) (h : vx_Zq C n d A u H) : vx_Zq C n d A U H := ⟨va_Zq.moved hvm h.1, vx_L.moved hvm h.2⟩
theorem vx_Zq.kept {C n d : String} {A : Nat → Prop} {U : State} {H H1 : Heap} (h : vx_Zq C n d A U H) (hq : ∀ a : Nat, a < H.size → ¬ A a → H1[a]? = H[a]?) : vx_Zq C n d A U H1 := ⟨va_Zq.kept h.1 hq, vx_L.kept h.2 hq⟩
theorem vx_Zq.narrow {C n d : String} {A B : Nat → Prop} {U : State} {H : Heap} (h : vx_Zq C n d A U H) (hAB : ∀ q, B q → A q) : vx_Zq C n d B U H := ⟨va_Zq.narrow h.1 hAB, vx_L.narrow h.2 hAB⟩
theorem vx_Zqof {args : Array Value} {s : State} {C n d : String} {A : Nat → Prop} (hl : (Cond.laysStatic C n d).before args s = true) (hini : (Cond.initialized C).before args s = true) (h : (Cond.isRef (.static C n d)).before args s = true) (hA : ∀ a : Nat, a < s.heap.size → ¬ A a) : vx_Zq C n d A s s.heap := by
  refine ⟨va_Zqof hl hini h hA, ?_⟩
  obtain ⟨c, k, i, f, a, cell, h1, h2, h3, h4, h5, h6, h7, h8, h9⟩ := Cond.laysStatic_spec hl
  exact ⟨c, k, i, f, a, cell, h1, h2, h3, h4, h5, h6, h7, h8, h9, hA a (Array.getElem?_eq_some_iff.mp h5).1⟩
theorem vx_isRef {C n d : String} {v : Value} {A : Nat → Prop} {s : State} {args : Array Value} (h : va_Z C n d v A s s.heap) (hv : v.isRef = true) : (Cond.isRef (.static C n d)).before args s = true := by
  obtain ⟨cf, kf, fi, f, a, cell, h1, h2, h3, h4, h5, h6, h7, -⟩ := h
  have he : (Term.static C n d).eval args s none [] s = some v := by
    simp [Term.eval, State.fieldNamed?, h1, h2, h4, h5, h6, h7]
  simp only [Cond.before, Cond.holds, Cond.value, he]
  cases v <;> simp_all [Value.isRef]
theorem vx_isRefq {C n d : String} {A : Nat → Prop} {s : State} {args : Array Value} (h : va_Zq C n d A s s.heap) : (Cond.isRef (.static C n d)).before args s = true := by
  rcases h with h | ⟨t, h⟩
  · exact vx_isRef h rfl
  · exact vx_isRef h rfl
/-- the same frame, seen from here: as if the method were called anew in this heap -/
theorem vx_rebase {T : State} (X : Stand p l e R s m args below meth c T locs cells slots) {R' : Room} (hf : R'.frames ≤ R.frames) (hl : R'.locals ≤ R.locals) (hc : cells + R'.cells ≤ R.cells) (hs : slots + R'.slots ≤ R.slots) :
    Stand p l e R' ((T.setVm s.vm).setFrames (.invoking m args :: below)) m args below meth c T [] 0 0 := by
  have htop : (T.setVm s.vm).topJava?.isSome := X.here.top
  have hF : ((T.setVm s.vm).setFrames (.invoking m args :: below)).frames = .invoking m args :: below := State.frames_setFrames _ (State.cur_lt_of_top htop)
  obtain ⟨g₀, hg0⟩ := Option.isSome_iff_exists.mp htop
  obtain ⟨r, hr⟩ := State.topJava?_eq_some.mp hg0
  have hl9 : e.platform.stackLimits (T.setVm s.vm).me = e.platform.stackLimits s.me := X.limits
  have hb9 : (T.setVm s.vm).me.stackBytes = s.me.stackBytes := X.bytes
  refine ⟨X.admits, X.cas, X.clock, hF, ?_, X.hears, X.method, X.code, X.here, X.tail, X.warmed, ?_, ?_, ?_⟩
  · have h := X.room
    have hU : ((T.setVm s.vm).setFrames (.invoking m args :: below)).localsInUse = s.localsInUse := by
      rw [State.localsInUse_invoking hF (meth := meth) (c := c) X.method X.code, State.localsInUse_invoking X.frames X.method X.code]
    simp only [State.hasRoom, Bool.and_eq_true, decide_eq_true_eq] at h ⊢
    obtain ⟨⟨⟨⟨h1, h2, h3, h4, h5, h6⟩, h7⟩, h8⟩, h9⟩ := h
    rw [X.frames, List.length_cons] at h2 h3
    have q1 := X.heapSize
    have q2 := X.used
    simp only [hF, hU, List.length_cons, State.stackLimits_setFrames, State.stackBytes_setFrames, hl9, hb9]
    refine ⟨⟨⟨⟨by omega, by omega, by omega, by omega, by omega, h6⟩, ?_⟩, ?_⟩, X.book⟩
    · show T.heap.size + R'.cells ≤ e.platform.maxCells
      omega
    · show T.slotsUsed + R'.slots ≤ e.platform.maxSlots
      omega
  · rw [State.stackLimits_setFrames]; rfl
  · rw [State.stackBytes_setFrames]; rfl
  · refine ⟨?_, Nat.le_refl _, Nat.le_refl _, ?_, ?_, fun a c9 h9 => ⟨c9, h9, rfl, rfl, fun _ _ => rfl⟩⟩
    · obtain ⟨t, ht, -⟩ := State.frames_cons hr
      show T.setVm s.vm = { ((T.setVm s.vm).setFrames (.invoking m args :: below)).setFrames (T.setVm s.vm).frames with heap := T.heap, slotsUsed := T.slotsUsed }
      rw [State.setFrames_setFrames, State.setFrames_self ht]
      rfl
    · show T.slotsUsed = T.slotsUsed + ((T.heap.toList.drop T.heap.size).map (·.slots.size)).sum
      rw [List.drop_eq_nil_of_le (Nat.le_of_eq Array.length_toList)]
      rfl
    · show ((T.heap.toList.drop T.heap.size).map (·.slots.size)).sum ≤ 0
      rw [List.drop_eq_nil_of_le (Nat.le_of_eq Array.length_toList)]
      exact Nat.le_refl _
/-- 'throw new E()': new; dup; invokespecial; athrow -/
theorem vx_throw0 {cc : ByteArray} {pc : Nat} (hexec : p.tables.exec = Jvm.exec) (hb : c.code = cc) (hl : l.stackTraces = false) {own cls : String} {names : List String} {ik ic mc ms : Nat} {A : Nat → Prop}
    (hown : s.vm.findClass own = some m.cls) (hcls : Bundle.fit cls = true) (hnames : ∀ n ∈ names, Bundle.fit n = true)
    (hk : (Cond.classLink own ik cls).before args s = true) (hini : (Cond.initialized cls).before args s = true) (hat : ∀ w ∈ vx_at0 own ic cls names, w.before args s = true)
    (hgood : ∀ w ∈ Cond.classLink own ik cls :: Cond.initialized cls :: vx_at0 own ic cls names, vx_ot w = true)
    (hU : vx_Zq Bundle.tN "UNASSIGNED_STACK" Bundle.steD A s s.heap) (hN : vx_Zq Bundle.tN "SUPPRESSED_SENTINEL" Bundle.listD A s s.heap) (hS : va_S A s.heap H locs) (hsize : ls.size = c.maxLocals)
    (d0 : decode cc pc = .ok (.new ik, 3)) (d3 : decode cc (pc + 3) = .ok (.dup, 1)) (d4 : decode cc (pc + 4) = .ok (.invokespecial ic, 3)) (d7 : decode cc (pc + 7) = .ok (.athrow, 1))
    (hout : ∀ x ∈ c.exceptionTable.toList, covers x (pc + 7) = false)
    (hRframes : names.length + 3 < R.frames) (hRlocals : (rest.map fun v => v.category).sum + (13 * (names.length + 1) + 42) ≤ R.locals) (hRcells : cells + 1 ≤ R.cells) (hRslots : slots + 6 ≤ R.slots) (hlocks : meth.locks = false)
    (hx : ∀ t : State, s.vm.Alike t.vm → H.size ≤ t.heap.size → (∀ q : Nat, q < H.size → t.heap[q]? = H[q]?) → XC cls s t)
    (hf : ∀ z ∈ locs, free z.base) (hc : cells + 1 ≤ mc) (hs : slots + 6 ≤ ms) :
    W p l e R s m args below meth c H locs cells slots (vx_MQ below Qc XC args s mc ms free) (F0 m pc ls rest) := by
  intro T hT X
  have htr : e.platform.stackTraces = false := (show e.platform.stackTraces = l.stackTraces by rw [X.admits.platform]).trans hl
  have Y := vx_rebase X (R' := { frames := R.frames, locals := R.locals, cells := 1, slots := 6 }) (Nat.le_refl _) (Nat.le_refl _) hRcells hRslots
  obtain ⟨s', hA⟩ : ∃ z, z = (T.setVm s.vm).setFrames (.invoking m args :: below) := ⟨_, rfl⟩
  rw [← hA] at Y
  have hvm : s'.vm = s.vm := by rw [hA]; rfl
  have hhp : s'.heap = H := by rw [hA]; exact hT
  have hW0 : s.WarmedH s'.vm := by rw [hvm]; exact State.WarmedH.refl s
  have hat' : ∀ w ∈ vx_at0 own ic cls names, w.before args s' = true := fun w hw => vx_ot_at hW0 hvm.symm (hgood w (List.mem_cons_of_mem _ (List.mem_cons_of_mem _ hw))) (hat w hw)
  have hk' : (Cond.classLink own ik cls).before args s' = true := vx_ot_at hW0 hvm.symm (hgood _ List.mem_cons_self) hk
  have hini' : (Cond.initialized cls).before args s' = true := vx_ot_at hW0 hvm.symm (hgood _ (List.mem_cons_of_mem _ List.mem_cons_self)) hini
  have hU' : vx_Zq Bundle.tN "UNASSIGNED_STACK" Bundle.steD A s' s'.heap := by rw [hhp]; exact vx_Zq.moved hW0.alike (hU.kept hS.2.1)
  have hN' : vx_Zq Bundle.tN "SUPPRESSED_SENTINEL" Bundle.listD A s' s'.heap := by rw [hhp]; exact vx_Zq.moved hW0.alike (hN.kept hS.2.1)
  have h : ∀ w ∈ Bundle.ownAtoms0 own ic cls names, w.before args s' = true := vx_own hat' (vx_isRefq hU'.1) (vx_isRefq hN'.1) hU'.2.word hN'.2.word
  have hown' : s'.vm.findClass own = some m.cls := by rw [hvm]; exact hown
  have hins : (Cond.instantiable cls 6).before args s' = true := h _ (by simp [Bundle.ownAtoms0])
  obtain ⟨vm₁, cX, kX, hfX, hkX, -, -, X₁, st1⟩ := Y.newCold hexec (own := own) (C := cls) (index := ik) (n := 6) hown' hk' hins hini'
    (g := F0 m pc ls rest) rfl (by rw [hb]; exact d0) (Nat.le_refl _) (Nat.le_refl _)
  generalize hT1 : (T.setVm vm₁).pushCell { cls := cX, slots := kX.instanceTypes.map defaultValue, vm := .none } = T1 at X₁ st1
  have hcat : (Value.ref T.heap.size).category = 1 := rfl
  have hcellA : T1.heap[T.heap.size]? = some (freshCell cX kX) := by rw [← hT1]; exact State.heap_pushCell_size _ _
  have d3' : decode c.code (pc + 3) = .ok (.dup, 1) := by rw [hb]; exact d3
  obtain ⟨U, hsteps, hrun, hend, hW, hsame, ce, hce, hO⟩ := X₁.ctorThrow0 hexec htr (own := own) (cls := cls) (names := names) (ic := ic) hown' hcls hnames h (fun x hx => nomatch hx) hfX hkX hcellA (by rw [hhp, hT]; exact Nat.le_refl _)
    (g := { method := m, pc := pc + 4, locals := ls, stack := .ref T.heap.size :: .ref T.heap.size :: rest, locked := none }) rfl hsize rfl rfl (rest := rest) rfl
    (by rw [hb]; exact d4) (by rw [hb]; exact d7) hout hRframes (by simp only [List.map_cons, List.sum_cons, hcat]; omega) hlocks
  obtain ⟨f1, f2⟩ := vx_frame hsame
  rw [hhp] at f1 f2
  have hWs : s.WarmedH U.vm := State.WarmedH.trans hW0 hW
  have hcl : s.vm.findClass cls = some ce.cls := by
    have h9 := hO.cls
    rw [hvm] at h9
    exact h9
  have hall : s.sameButNew ({ U with vm := s.vm } : State) locs mc ms := by
    subst hA
    obtain ⟨e1, e2⟩ := hsame
    rw [State.setFrames_setFrames] at e1
    have h2 : (T.setVm s.vm).sameButNew ({ U with vm := s.vm } : State) [] (0 + 1) (0 + 6) := ⟨e1, e2⟩
    have h3 := X.same.trans h2
    rw [List.append_nil] at h3
    exact h3.mono hc hs
  refine ⟨U, ?_, .threw T.heap.size, hrun, hend, Or.inr ⟨T.heap.size, rfl, cls, ce, locs, hx U hWs.alike f1 (fun q hq => f2 q hq (fun z hz => nomatch hz)), hce, hO.vm, hcl, hWs, hall, hf⟩⟩
  refine st1 _ ?_
  show Steps p.tables e below (T1.setTop { method := m, pc := pc + 3, locals := ls, stack := .ref T.heap.size :: rest, locked := none }) _
  jvm_step X₁.here [X₁.here.top, hexec, d3', Value.category]
  exact hsteps
/-- 'throw new E("text")': new; dup; ldc; invokespecial; athrow -/
theorem vx_throwS {cc : ByteArray} {pc : Nat} (hexec : p.tables.exec = Jvm.exec) (hb : c.code = cc) (hl : l.stackTraces = false) {own cls text : String} {names : List String} {ik is ic mc ms sa : Nat} {A : Nat → Prop}
    (hown : s.vm.findClass own = some m.cls) (hcls : Bundle.fit cls = true) (hnames : ∀ n ∈ names, Bundle.fit n = true)
    (hk : (Cond.classLink own ik cls).before args s = true) (hini : (Cond.initialized cls).before args s = true) (hstr : vk_R own is text sa s) (hat : ∀ w ∈ vx_atS own ic cls names, w.before args s = true)
    (hgood : ∀ w ∈ Cond.classLink own ik cls :: Cond.initialized cls :: vx_atS own ic cls names, vx_ot w = true)
    (hU : vx_Zq Bundle.tN "UNASSIGNED_STACK" Bundle.steD A s s.heap) (hN : vx_Zq Bundle.tN "SUPPRESSED_SENTINEL" Bundle.listD A s s.heap) (hS : va_S A s.heap H locs) (hsize : ls.size = c.maxLocals)
    (d0 : decode cc pc = .ok (.new ik, 3)) (d3 : decode cc (pc + 3) = .ok (.dup, 1)) (d4 : decode cc (pc + 4) = .ok (.ldc is, 2)) (d6 : decode cc (pc + 6) = .ok (.invokespecial ic, 3)) (d9 : decode cc (pc + 9) = .ok (.athrow, 1))
    (hout : ∀ x ∈ c.exceptionTable.toList, covers x (pc + 9) = false)
    (hRframes : names.length + 3 < R.frames) (hRlocals : (rest.map fun v => v.category).sum + (13 * (names.length + 1) + 43) ≤ R.locals) (hRcells : cells + 1 ≤ R.cells) (hRslots : slots + 6 ≤ R.slots) (hlocks : meth.locks = false)
    (hx : ∀ t : State, s.vm.Alike t.vm → H.size ≤ t.heap.size → (∀ q : Nat, q < H.size → t.heap[q]? = H[q]?) → XC cls s t)
    (hf : ∀ z ∈ locs, free z.base) (hc : cells + 1 ≤ mc) (hs : slots + 6 ≤ ms) :
    W p l e R s m args below meth c H locs cells slots (vx_MQ below Qc XC args s mc ms free) (F0 m pc ls rest) := by
  intro T hT X
  have htr : e.platform.stackTraces = false := (show e.platform.stackTraces = l.stackTraces by rw [X.admits.platform]).trans hl
  have Y := vx_rebase X (R' := { frames := R.frames, locals := R.locals, cells := 1, slots := 6 }) (Nat.le_refl _) (Nat.le_refl _) hRcells hRslots
  obtain ⟨s', hA⟩ : ∃ z, z = (T.setVm s.vm).setFrames (.invoking m args :: below) := ⟨_, rfl⟩
  rw [← hA] at Y
  have hvm : s'.vm = s.vm := by rw [hA]; rfl
  have hhp : s'.heap = H := by rw [hA]; exact hT
  have hW0 : s.WarmedH s'.vm := by rw [hvm]; exact State.WarmedH.refl s
  have hat' : ∀ w ∈ vx_atS own ic cls names, w.before args s' = true := fun w hw => vx_ot_at hW0 hvm.symm (hgood w (List.mem_cons_of_mem _ (List.mem_cons_of_mem _ hw))) (hat w hw)
  have hk' : (Cond.classLink own ik cls).before args s' = true := vx_ot_at hW0 hvm.symm (hgood _ List.mem_cons_self) hk
  have hini' : (Cond.initialized cls).before args s' = true := vx_ot_at hW0 hvm.symm (hgood _ (List.mem_cons_of_mem _ List.mem_cons_self)) hini
  have hU' : vx_Zq Bundle.tN "UNASSIGNED_STACK" Bundle.steD A s' s'.heap := by rw [hhp]; exact vx_Zq.moved hW0.alike (hU.kept hS.2.1)
  have hN' : vx_Zq Bundle.tN "SUPPRESSED_SENTINEL" Bundle.listD A s' s'.heap := by rw [hhp]; exact vx_Zq.moved hW0.alike (hN.kept hS.2.1)
  have h : ∀ w ∈ Bundle.ownAtoms own ic cls names, w.before args s' = true := vx_own hat' (vx_isRefq hU'.1) (vx_isRefq hN'.1) hU'.2.word hN'.2.word
  have hown' : s'.vm.findClass own = some m.cls := by rw [hvm]; exact hown
  have hins : (Cond.instantiable cls 6).before args s' = true := h _ (by simp [Bundle.ownAtoms])
  obtain ⟨vm₁, cX, kX, hfX, hkX, -, -, X₁, st1⟩ := Y.newCold hexec (own := own) (C := cls) (index := ik) (n := 6) hown' hk' hins hini'
    (g := F0 m pc ls rest) rfl (by rw [hb]; exact d0) (Nat.le_refl _) (Nat.le_refl _)
  generalize hT1 : (T.setVm vm₁).pushCell { cls := cX, slots := kX.instanceTypes.map defaultValue, vm := .none } = T1 at X₁ st1
  have hcat : (Value.ref T.heap.size).category = 1 := rfl
  have hcellA : T1.heap[T.heap.size]? = some (freshCell cX kX) := by rw [← hT1]; exact State.heap_pushCell_size _ _
  have d3' : decode c.code (pc + 3) = .ok (.dup, 1) := by rw [hb]; exact d3
  have d4' : decode c.code (pc + 4) = .ok (.ldc is, 2) := by rw [hb]; exact d4
  have hstr' : vk_R own is text sa s' := vk_R.warm hW0 hstr
  obtain ⟨U, hsteps, hrun, hend, hW, hsame, ce, hce, hO⟩ := X₁.ctorThrowS hexec htr (own := own) (cls := cls) (names := names) (ic := ic) hown' hcls hnames h (fun x hx => nomatch hx) hfX hkX hcellA (by rw [hhp, hT]; exact Nat.le_refl _) (msg := .ref sa) rfl
    (g := { method := m, pc := pc + 6, locals := ls, stack := .ref sa :: .ref T.heap.size :: .ref T.heap.size :: rest, locked := none }) rfl hsize rfl rfl (rest := rest) rfl
    (by rw [hb]; exact d6) (by rw [hb]; exact d9) hout hRframes (by simp only [List.map_cons, List.sum_cons, hcat]; omega) hlocks
  obtain ⟨f1, f2⟩ := vx_frame hsame
  rw [hhp] at f1 f2
  have hWs : s.WarmedH U.vm := State.WarmedH.trans hW0 hW
  have hcl : s.vm.findClass cls = some ce.cls := by
    have h9 := hO.cls
    rw [hvm] at h9
    exact h9
  have hall : s.sameButNew ({ U with vm := s.vm } : State) locs mc ms := by
    subst hA
    obtain ⟨e1, e2⟩ := hsame
    rw [State.setFrames_setFrames] at e1
    have h2 : (T.setVm s.vm).sameButNew ({ U with vm := s.vm } : State) [] (0 + 1) (0 + 6) := ⟨e1, e2⟩
    have h3 := X.same.trans h2
    rw [List.append_nil] at h3
    exact h3.mono hc hs
  refine ⟨U, ?_, .threw T.heap.size, hrun, hend, Or.inr ⟨T.heap.size, rfl, cls, ce, locs, hx U hWs.alike f1 (fun q hq => f2 q hq (fun z hz => nomatch hz)), hce, hO.vm, hcl, hWs, hall, hf⟩⟩
  refine st1 _ ?_
  show Steps p.tables e below (T1.setTop { method := m, pc := pc + 3, locals := ls, stack := .ref T.heap.size :: rest, locked := none }) _
  jvm_step X₁.here [X₁.here.top, hexec, d3', Value.category]
  exact X₁.ldcString hexec (own := own) (text := text) (index := is) (a := sa) hown' hstr'.1 hstr'.2
    (g := { method := m, pc := pc + 4, locals := ls, stack := .ref T.heap.size :: .ref T.heap.size :: rest, locked := none }) rfl d4' _ hsteps
/-- 'throw new E("text")', the text by a wide index -/
theorem vx_throwSW {cc : ByteArray} {pc : Nat} (hexec : p.tables.exec = Jvm.exec) (hb : c.code = cc) (hl : l.stackTraces = false) {own cls text : String} {names : List String} {ik is ic mc ms sa : Nat} {A : Nat → Prop}
    (hown : s.vm.findClass own = some m.cls) (hcls : Bundle.fit cls = true) (hnames : ∀ n ∈ names, Bundle.fit n = true)
    (hk : (Cond.classLink own ik cls).before args s = true) (hini : (Cond.initialized cls).before args s = true) (hstr : vk_R own is text sa s) (hat : ∀ w ∈ vx_atS own ic cls names, w.before args s = true)
    (hgood : ∀ w ∈ Cond.classLink own ik cls :: Cond.initialized cls :: vx_atS own ic cls names, vx_ot w = true)
    (hU : vx_Zq Bundle.tN "UNASSIGNED_STACK" Bundle.steD A s s.heap) (hN : vx_Zq Bundle.tN "SUPPRESSED_SENTINEL" Bundle.listD A s s.heap) (hS : va_S A s.heap H locs) (hsize : ls.size = c.maxLocals)
    (d0 : decode cc pc = .ok (.new ik, 3)) (d3 : decode cc (pc + 3) = .ok (.dup, 1)) (d4 : decode cc (pc + 4) = .ok (.ldc_w is, 3)) (d7 : decode cc (pc + 7) = .ok (.invokespecial ic, 3)) (d10 : decode cc (pc + 10) = .ok (.athrow, 1))
    (hout : ∀ x ∈ c.exceptionTable.toList, covers x (pc + 10) = false)
    (hRframes : names.length + 3 < R.frames) (hRlocals : (rest.map fun v => v.category).sum + (13 * (names.length + 1) + 43) ≤ R.locals) (hRcells : cells + 1 ≤ R.cells) (hRslots : slots + 6 ≤ R.slots) (hlocks : meth.locks = false)
    (hx : ∀ t : State, s.vm.Alike t.vm → H.size ≤ t.heap.size → (∀ q : Nat, q < H.size → t.heap[q]? = H[q]?) → XC cls s t)
    (hf : ∀ z ∈ locs, free z.base) (hc : cells + 1 ≤ mc) (hs : slots + 6 ≤ ms) :
    W p l e R s m args below meth c H locs cells slots (vx_MQ below Qc XC args s mc ms free) (F0 m pc ls rest) := by
  intro T hT X
  have htr : e.platform.stackTraces = false := (show e.platform.stackTraces = l.stackTraces by rw [X.admits.platform]).trans hl
  have Y := vx_rebase X (R' := { frames := R.frames, locals := R.locals, cells := 1, slots := 6 }) (Nat.le_refl _) (Nat.le_refl _) hRcells hRslots
  obtain ⟨s', hA⟩ : ∃ z, z = (T.setVm s.vm).setFrames (.invoking m args :: below) := ⟨_, rfl⟩
  rw [← hA] at Y
  have hvm : s'.vm = s.vm := by rw [hA]; rfl
  have hhp : s'.heap = H := by rw [hA]; exact hT
  have hW0 : s.WarmedH s'.vm := by rw [hvm]; exact State.WarmedH.refl s
  have hat' : ∀ w ∈ vx_atS own ic cls names, w.before args s' = true := fun w hw => vx_ot_at hW0 hvm.symm (hgood w (List.mem_cons_of_mem _ (List.mem_cons_of_mem _ hw))) (hat w hw)
  have hk' : (Cond.classLink own ik cls).before args s' = true := vx_ot_at hW0 hvm.symm (hgood _ List.mem_cons_self) hk
  have hini' : (Cond.initialized cls).before args s' = true := vx_ot_at hW0 hvm.symm (hgood _ (List.mem_cons_of_mem _ List.mem_cons_self)) hini
  have hU' : vx_Zq Bundle.tN "UNASSIGNED_STACK" Bundle.steD A s' s'.heap := by rw [hhp]; exact vx_Zq.moved hW0.alike (hU.kept hS.2.1)
  have hN' : vx_Zq Bundle.tN "SUPPRESSED_SENTINEL" Bundle.listD A s' s'.heap := by rw [hhp]; exact vx_Zq.moved hW0.alike (hN.kept hS.2.1)
  have h : ∀ w ∈ Bundle.ownAtoms own ic cls names, w.before args s' = true := vx_own hat' (vx_isRefq hU'.1) (vx_isRefq hN'.1) hU'.2.word hN'.2.word
  have hown' : s'.vm.findClass own = some m.cls := by rw [hvm]; exact hown
  have hins : (Cond.instantiable cls 6).before args s' = true := h _ (by simp [Bundle.ownAtoms])
  obtain ⟨vm₁, cX, kX, hfX, hkX, -, -, X₁, st1⟩ := Y.newCold hexec (own := own) (C := cls) (index := ik) (n := 6) hown' hk' hins hini'
    (g := F0 m pc ls rest) rfl (by rw [hb]; exact d0) (Nat.le_refl _) (Nat.le_refl _)
  generalize hT1 : (T.setVm vm₁).pushCell { cls := cX, slots := kX.instanceTypes.map defaultValue, vm := .none } = T1 at X₁ st1
  have hcat : (Value.ref T.heap.size).category = 1 := rfl
  have hcellA : T1.heap[T.heap.size]? = some (freshCell cX kX) := by rw [← hT1]; exact State.heap_pushCell_size _ _
  have d3' : decode c.code (pc + 3) = .ok (.dup, 1) := by rw [hb]; exact d3
  have d4' : decode c.code (pc + 4) = .ok (.ldc_w is, 3) := by rw [hb]; exact d4
  have hstr' : vk_R own is text sa s' := vk_R.warm hW0 hstr
  obtain ⟨U, hsteps, hrun, hend, hW, hsame, ce, hce, hO⟩ := X₁.ctorThrowS hexec htr (own := own) (cls := cls) (names := names) (ic := ic) hown' hcls hnames h (fun x hx => nomatch hx) hfX hkX hcellA (by rw [hhp, hT]; exact Nat.le_refl _) (msg := .ref sa) rfl
    (g := { method := m, pc := pc + 7, locals := ls, stack := .ref sa :: .ref T.heap.size :: .ref T.heap.size :: rest, locked := none }) rfl hsize rfl rfl (rest := rest) rfl
    (by rw [hb]; exact d7) (by rw [hb]; exact d10) hout hRframes (by simp only [List.map_cons, List.sum_cons, hcat]; omega) hlocks
  obtain ⟨f1, f2⟩ := vx_frame hsame
  rw [hhp] at f1 f2
  have hWs : s.WarmedH U.vm := State.WarmedH.trans hW0 hW
  have hcl : s.vm.findClass cls = some ce.cls := by
    have h9 := hO.cls
    rw [hvm] at h9
    exact h9
  have hall : s.sameButNew ({ U with vm := s.vm } : State) locs mc ms := by
    subst hA
    obtain ⟨e1, e2⟩ := hsame
    rw [State.setFrames_setFrames] at e1
    have h2 : (T.setVm s.vm).sameButNew ({ U with vm := s.vm } : State) [] (0 + 1) (0 + 6) := ⟨e1, e2⟩
    have h3 := X.same.trans h2
    rw [List.append_nil] at h3
    exact h3.mono hc hs
  refine ⟨U, ?_, .threw T.heap.size, hrun, hend, Or.inr ⟨T.heap.size, rfl, cls, ce, locs, hx U hWs.alike f1 (fun q hq => f2 q hq (fun z hz => nomatch hz)), hce, hO.vm, hcl, hWs, hall, hf⟩⟩
  refine st1 _ ?_
  show Steps p.tables e below (T1.setTop { method := m, pc := pc + 3, locals := ls, stack := .ref T.heap.size :: rest, locked := none }) _
  jvm_step X₁.here [X₁.here.top, hexec, d3', Value.category]
  exact X₁.ldcStringW hexec (own := own) (text := text) (index := is) (a := sa) hown' hstr'.1 hstr'.2
    (g := { method := m, pc := pc + 4, locals := ls, stack := .ref T.heap.size :: .ref T.heap.size :: rest, locked := none }) rfl d4' _ hsteps
end Ends
section Bodies
variable {l : Launch}
theorem vx_ofW {y : MethodName} {ws ws' : List Cond} {rm : Room} {Pc : Array Value → State → Prop} {Qc : Array Value → State → Outcome → State → Prop} {XC : String → State → State → Prop} {mc ms : Nat} {free : Addr → Prop} {cc : ByteArray} {maxL : Nat} {ret : Option FieldType}
    (hy : plainName y.cls = true) (hw : ws = Cond.code y cc maxL ret :: ws')
    (body : ∀ p e s m args below meth c s₁, BodyLoose p l y (headSpec ws rm) cc maxL ret e s m args below meth c s₁ → c.maxLocals = maxL → (∀ x ∈ c.exceptionTable.toList, False) → Pc args s →
      W p l e (headSpec ws rm).room s m args below meth c s.heap [] 0 0 (vx_MQ below Qc XC args s mc ms free) (entryFrame m args maxL)) : vx_Met l y ws rm Pc Qc XC mc ms free := by
  refine MetFree.of_bodyS (code := cc) (maxLocals := maxL) (ret := ret) hy ?_ ?_
  · intro args s m h hn
    obtain ⟨meth, c, h1, h2, h3, h4, h5, h6, -, -⟩ := Cond.code_spec hn (atoms_spec (ws := ws) h _ (by rw [hw]; exact List.mem_cons_self))
    exact ⟨meth, c, h1, h2, h3, h4, h5, h6⟩
  · intro p e s m args below meth c s₁ B hml hP _
    have hh0 : s₁.heap = s.heap := by rw [B.state]; rfl
    have ht : ∀ x ∈ c.exceptionTable.toList, False := by
      obtain ⟨meth9, c9, h1, h2, -, -, -, -, h7, -⟩ := Cond.code_spec B.named (atoms_spec (ws := ws) B.pre _ (by rw [hw]; exact List.mem_cons_self))
      cases Option.some.inj (h1.symm.trans B.method)
      cases Option.some.inj (h2.symm.trans (Stand.of_body B).code)
      intro x hx
      rw [Array.isEmpty_iff.mp h7] at hx
      cases hx
    obtain ⟨t, a1, o, b1, b2, b3⟩ := body p e s m args below meth c s₁ B hml ht hP s₁ hh0 (Stand.of_body B)
    exact ⟨t, o, a1, b1, b2, b3⟩
/-- the table of a body with handlers -/
theorem vx_table {p : Program} {x y : MethodName} {S : Spec} {cc bytes : ByteArray} {maxL maxL' : Nat} {ret ret' : Option FieldType} {e : Env} {s s₁ : State} {m : MethodId} {args : Array Value} {below : List Frame} {meth : Method} {c : Code} {hh : List (Nat × Nat × Nat × Nat)}
    (B : BodyLoose p l y S cc maxL ret e s m args below meth c s₁) (h : (Cond.codeWith y bytes maxL' ret' hh).before args s = true) : c.exceptionTable.toList = tableOf hh := by
  obtain ⟨m9, meth9, c9, hn9, h1, h2, -, -, h6, -⟩ := Cond.codeWith_spec h
  cases Option.some.inj (hn9.symm.trans B.named)
  cases Option.some.inj (h1.symm.trans B.method)
  cases Option.some.inj (h2.symm.trans (Stand.of_body B).code)
  rw [← h6, table_eq]
end Bodies
end VXA
/-! ===== END ===== -/
/-! ===== BEGIN a static call of a method with an exception table ===== -/
section VXS
variable {p : Program} {l : Launch} {e : Env} {R : Room} {s : State} {m : MethodId} {args : Array Value} {below : List Frame} {meth : Method} {c : Code} {T : State} {H : Heap} {locs : List Loc} {cells slots : Nat}
abbrev vx_CSW (R : Room) (s : State) (args : Array Value) (own : String) (index : Nat) (y : MethodName) (bytes : ByteArray) (maxL : Nat) (ret : Option FieldType) (hh : List (Nat × Nat × Nat × Nat)) (ws : List Cond) (rm : Room) (mc ms n : Nat) : Prop :=
  (rm.cells = mc ∧ rm.slots = ms ∧ rm.frames + 1 ≤ R.frames ∧ 8 + (maxL + 11) + rm.locals ≤ R.locals ∧ (∀ w ∈ ws, ∀ (a' : Array Value) (U : State), s.WarmedH U.vm → w.before a' U = true) ∧ Cond.codeWith y bytes maxL ret hh ∈ ws) ∧
  (Cond.codeWith y bytes maxL ret hh).before args s = true ∧ (Cond.initialized y.cls).before args s = true ∧ (y.cls ≠ "java/lang/invoke/MethodHandle" ∧ y.cls ≠ "java/lang/invoke/VarHandle") ∧
  (∀ sig, parseMethodDescriptor y.desc = some sig → n = sig.parameters.length) ∧ (Cond.methodLink own index y).before args s = true ∧ (Cond.static y).before args s = true
theorem vx_cwSW {own : String} {index maxL mc ms : Nat} {y : MethodName} {bytes : ByteArray} {ret : Option FieldType} {hh : List (Nat × Nat × Nat × Nat)} {Ts ws ws' : List Cond} {rm : Room} (n : Nat) (ht : ∀ w ∈ Ts, w.before args s = true) (hT : GoodIn Ts (va_wsS own index y ws)) (hw : ws = Cond.codeWith y bytes maxL ret hh :: ws') (hrc : rm.cells = mc) (hrs : rm.slots = ms)
    (hd : y.cls ≠ "java/lang/invoke/MethodHandle" ∧ y.cls ≠ "java/lang/invoke/VarHandle" ∧ (parseMethodDescriptor y.desc).map (fun d => d.parameters.length) = some n) (hR : rm.frames + 1 ≤ R.frames ∧ 8 + (maxL + 11) + rm.locals ≤ R.locals) :
    vx_CSW R s args own index y bytes maxL ret hh ws rm mc ms n := by
  have ok : ∀ w ∈ va_wsS own index y ws, w.before args s = true := fun w h => ht w (hT w h).1
  have hG : GoodIn Ts ws := fun w h => hT w (by unfold va_wsS; exact List.mem_append_right _ h)
  have hc : Cond.codeWith y bytes maxL ret hh ∈ ws := by rw [hw]; exact List.mem_cons_self
  refine ⟨⟨hrc, hrs, hR.1, hR.2, pay_in ht hG, hc⟩, ht _ (hG _ hc).1, ok _ (by simp [va_wsS]), ⟨hd.1, hd.2.1⟩, fun sig h => ?_, ok _ (by simp [va_wsS]), ok _ (by simp [va_wsS])⟩
  have h2 := hd.2.2
  rw [h] at h2
  exact (Option.some.inj h2).symm
theorem vx_callSW (X : Stand p l e R s m args below meth c T locs cells slots) (hexec : p.tables.exec = Jvm.exec) {own : String} {index : Nat} {y : MethodName} {bytes : ByteArray} {maxL : Nat} {ret : Option FieldType} {hh : List (Nat × Nat × Nat × Nat)}
    (hown : s.vm.findClass own = some m.cls) (hlink : (Cond.methodLink own index y).before args s = true) (hstat : (Cond.static y).before args s = true) (hinit : (Cond.initialized y.cls).before args s = true)
    (hcode : (Cond.codeWith y bytes maxL ret hh).before args s = true) (hy : y.cls ≠ "java/lang/invoke/MethodHandle" ∧ y.cls ≠ "java/lang/invoke/VarHandle")
    {W9 : Nat} {Pre : Pt → Array Value → Prop} {Post : Pt → Array Value → Option Value → Pt → Prop} (hK : Back l R p e below s args y 3 W9 Pre Post)
    {g : JFrame} (hg : g.method = m) (hsize : g.locals.size = c.maxLocals) {argsL rest : List Value} (hlen : ∀ sig, parseMethodDescriptor y.desc = some sig → argsL.length = sig.parameters.length)
    (hstack : g.stack = argsL.reverse ++ rest) (hW : 2 * g.monitorRoom + (rest.map fun v => v.category).sum ≤ W9) (hdg : decode c.code g.pc = .ok (.invokestatic index, 3))
    (hpre : ∀ vm₁, s.WarmedH vm₁ → Pre ⟨T.setVm vm₁, locs, cells, slots⟩ argsL.toArray) :
    ∃ (v : Option Value) (vm₁ : Vm) (B : Pt), s.WarmedH vm₁ ∧ Stand p l e R s m args below meth c B.U B.locs B.cells B.slots ∧ Post ⟨T.setVm vm₁, locs, cells, slots⟩ argsL.toArray v B ∧
      ∀ target, Steps p.tables e below (B.U.setTop { g with pc := g.pc + 3, stack := v.toList ++ rest }) target → Steps p.tables e below (T.setTop g) target := by
  obtain ⟨mk, methM, cM, hnamed, hmethM, -, -, -, -, -, -, hsigM⟩ := Cond.codeWith_spec hcode
  have hstatic : methM.isStatic = true := Cond.static_spec hnamed hmethM hstat
  obtain ⟨kP, hkP, -⟩ := className_of_methodNamed hnamed
  have hinitP : kP.init = .initialized := Cond.initialized_spec (findClass_of_methodNamed hnamed) hkP hinit
  obtain ⟨vm₁, X₁, hstep₁⟩ := X.invokestatic hexec hown hlink hnamed hmethM hstatic hkP hinitP hy (g := g) hg (argsL := argsL) (rest := rest) (hlen _ hsigM) hstack hdg
  obtain ⟨v, B, X', hpost, hsteps⟩ := hK m meth c ⟨T.setVm vm₁, locs, cells, slots⟩ { g with stack := rest } (.invokestatic index) mk argsL.toArray X₁ hg hsize hdg hW (X₁.named hnamed) (hpre vm₁ X₁.warmed)
  exact ⟨v, vm₁, B, X₁.warmed, X', hpost, fun target h => hstep₁ _ fun acts => by rw [doInvoke_state]; exact hsteps.trans h⟩
theorem vx_runSW {y : MethodName} {bytes cc : ByteArray} {maxL nL mc ms n index : Nat} {ret : Option FieldType} {hh : List (Nat × Nat × Nat × Nat)} {ws : List Cond} {rm : Room} {Pc : Array Value → State → Prop} {Qc : Array Value → State → Outcome → State → Prop} {free : Addr → Prop} {Ts : List Cond} {own : String} {As rest : List Value} {g : JFrame}
    (S : CallFix p m c cc nL s args Ts own) (hM : Met l y ws rm Pc Qc mc ms free) (cw : vx_CSW R s args own index y bytes maxL ret hh ws rm mc ms n) (hp : PreS s H Pc As)
    (hg : g.method = m) (hn : As.length = n) (hsize : g.locals.size = nL) (hstack : g.stack = As.reverse ++ rest) (hW : 2 * g.monitorRoom + (rest.map fun v => v.category).sum ≤ 8) (hdg : decode cc g.pc = .ok (.invokestatic index, 3)) (hf : cells + mc ≤ R.cells ∧ slots + ms ≤ R.slots) :
    va_Run p l e R s m args below meth c H locs cells slots mc ms g rest (Qc As.toArray) (free) := by
  obtain ⟨⟨hrc, hrs, hfr, hlo, hws, hcw⟩, hcode, hini, hy, hlen, hl, hstt⟩ := cw
  have hK : Back l R p e below s args y 3 8 (PreOf R mc ms Pc) (PostOf Qc mc ms free) := va_backW (hh := hh) (bytes := bytes) (maxL := maxL) (ret := ret) hM hp.1 hrc hrs hfr hlo hws hcw (fun a' U hW => word_at hW (Or.inl (by first | rfl | simp [Cond.onTables, Cond.keeps, Cond.steady])) hini)
  obtain ⟨hx, hb, hml, ho, -⟩ := S
  intro T hT X
  obtain ⟨v, vm₁, ⟨U', l2, c2, s2⟩, hW₁, X', ⟨g', mk, t, L, e1, e2, hq, h1, hL, h2, h3⟩, st⟩ := vx_callSW X hx (hh := hh) (bytes := bytes) (maxL := maxL) (ret := ret) ho hl hstt hini hcode hy hK hg (hsize.trans hml.symm) (argsL := As) (rest := rest) (fun sig h => hn.trans (hlen sig h)) hstack hW (by rw [hb]; exact hdg)
    (fun vm₁ hW₁ => ⟨hf.1, hf.2, hp.2 (T.setVm vm₁) hT hW₁⟩)
  dsimp only [Pt.U, Pt.locs, Pt.cells, Pt.slots] at X' e1 e2 h1 h2 h3 st
  subst h1; subst h2; subst h3
  exact ⟨v, (T.setVm vm₁).calling g' mk As.toArray, t, U', L, hT, X', hL, e1, e2, hq, st⟩
/-- a thing of a world lies in the heap -/
theorem vx_lt {D : va_G} {cl : List vw_C} {ws : va_W} {H1 : Heap} (h : va_P D cl ws H1) {k : Nat} {q : Nat × va_E} (hk : ws[k]? = some q) : q.1 < H1.size := (h k q hk).lt
end VXS
/-! ===== END ===== -/
/-! ===== BEGIN methods with a table of their own: called by a name, returning or throwing ===== -/
section VXH
/-! vx_backW, vx_callVX, vx_callSX, vx_callVW, vx_runVW, vx_runVX, vx_runSX, vx_ofWH follow the same proofs as their sisters above (Free/Laws.lean, Shelf42/LK1.lean); vx_outP calls Shelf42/NT130.lean (outThrough). -/
section
variable {l : Launch} {R : Room} {p : Program} {e : Env} {below : List Frame} {s : State} {sargs : Array Value} {y : MethodName} {len W9 : Nat}
theorem vx_backW {ws : List Cond} {rm : Room} {Pc : Array Value → State → Prop} {Qc : Array Value → State → Outcome → State → Prop} {XC : String → State → State → Prop} {mc ms : Nat} {free : Addr → Prop} {bytes : ByteArray} {maxL : Nat} {ret : Option FieldType} {hh : List (Nat × Nat × Nat × Nat)}
    (hM : vx_Met l y ws rm Pc Qc XC mc ms free) (hblind : FrameBlind Pc) (hrc : rm.cells = mc) (hrs : rm.slots = ms)
    (hframes : rm.frames + 1 ≤ R.frames) (hlocals : W9 + (maxL + 11) + rm.locals ≤ R.locals)
    (hws : ∀ w ∈ ws, ∀ a' U, s.WarmedH U.vm → w.before a' U = true) (hcode : Cond.codeWith y bytes maxL ret hh ∈ ws) (hinit : ∀ a' U, s.WarmedH U.vm → (Cond.initialized y.cls).before a' U = true) :
    vx_Back l R p e below s sargs y len W9 (PreOf R mc ms Pc) (PostOf Qc mc ms free) (vx_Post XC mc ms free) := by
  intro m meth c A g ig mk a X hg hsize hdg hW hn hp
  have h1 : (headSpec ws rm).pre.before a A.U = true := atoms_intro fun w hw => hws w hw _ _ X.warmed
  have h2 : (Cond.codeWith y bytes maxL ret hh).before a A.U = true := hws _ hcode _ _ X.warmed
  have h3 : (Cond.initialized y.cls).before a A.U = true := hinit _ _ X.warmed
  have h4 : A.cells + (headSpec ws rm).room.cells ≤ R.cells := by rw [show (headSpec ws rm).room.cells = mc from hrc]; exact hp.1
  have h5 : A.slots + (headSpec ws rm).room.slots ≤ R.slots := by rw [show (headSpec ws rm).room.slots = ms from hrs]; exact hp.2.1
  have hPc : Pc a (A.U.calling g mk a) := hblind _ _ _ _ hp.2.2
  obtain ⟨U, Ls, c0, s0⟩ := A
  dsimp only [Pt.U, Pt.locs, Pt.cells, Pt.slots] at h1 h2 h3 h4 h5 X hn hPc ⊢
  obtain ⟨m9, methY, cY, hn9, hmY, hcY, -, hlY, -⟩ := Cond.codeWith_spec h2
  cases Option.some.inj (hn9.symm.trans hn)
  obtain ⟨kY, hkY, -⟩ := className_of_methodNamed hn
  have hinitY : kY.init = .initialized := Cond.initialized_spec (findClass_of_methodNamed hn) hkY h3
  have h : At U g.method c below := by rw [hg]; exact X.here
  have hlocals9 : W9 + (maxL + 11) + (headSpec ws rm).room.locals ≤ R.locals := hlocals
  have happ : (headSpec ws rm).appliesLoose y e.platform (U.calling g mk a) = true :=
    Spec.appliesLoose_calling (g := g) h hdg hn hkY hinitY
      (X.room_calling (g := g) (R' := (headSpec ws rm).room) hsize hmY hcY hframes (by rw [hlY]; omega) h4 h5) h1
  obtain ⟨mid, hmid⟩ := h.above
  have hfr : (U.setTop g).frames = (.java g :: mid) ++ below := by rw [State.frames_setTop' g h.top, hmid]; rfl
  obtain ⟨o, s₂, hsteps, -, hend, hq⟩ := Steps.callFree hM p X.admits X.cas X.clock (acts := []) hfr happ hPc trivial
  have hq' : vx_Q Qc XC mc ms free a (U.calling g mk a) o s₂ := hq
  rw [State.frames_setTop' g h.top] at hend
  obtain ⟨g₀, hg0⟩ := Option.isSome_iff_exists.mp h.top
  obtain ⟨r, hr⟩ := State.topJava?_eq_some.mp hg0
  have hr' : (({ U with heap := s₂.heap, slotsUsed := s₂.slotsUsed } : State).setVm s₂.vm).frames = .java g₀ :: r := hr
  rcases hq' with ⟨hqc, L, hfe, hL⟩ | ⟨q, rfl, E, ce, L, hx, hce, hcv, hcl, hW₂, hsm, hL⟩
  · obtain ⟨⟨v, rfl⟩, hW₂, e2, q2, q3, q4, q5, q6⟩ := id hfe
    have e3 : s₂ = ({ (U.calling g mk a).setFrames s₂.frames with heap := s₂.heap, slotsUsed := s₂.slotsUsed } : State).setVm s₂.vm := by
      have : s₂ = ({ s₂ with vm := (U.calling g mk a).vm } : State).setVm s₂.vm := rfl
      rw [e2] at this
      exact this
    obtain ⟨c₂, i₂, len₂, hc₂, hd₂, hf₂⟩ := hend
    have hW' : U.WarmedH s₂.vm := hW₂
    have hcc : c₂ = c := by
      have h1 : s₂.code? g.method = U.code? g.method := by
        rw [State.code?_eq, State.code?_eq, hW'.alike.method?]
      exact Option.some.inj (hc₂.symm.trans (h1.trans h.code))
    subst hcc
    have hlen : len₂ = len := by rw [hdg] at hd₂; cases hd₂; rfl
    subst hlen
    have hs₂ : s₂ = (({ U with heap := s₂.heap, slotsUsed := s₂.slotsUsed } : State).setVm s₂.vm).setTop { g with pc := g.pc + len₂, stack := v.toList ++ g.stack } := by
      refine e3.trans ?_
      rw [hf₂, State.calling_eq h.top, State.setFrames_setFrames, State.setTop_of_frames _ hr', hr]
      rfl
    have hsame : U.sameButNew ({ U with heap := s₂.heap, slotsUsed := s₂.slotsUsed } : State) L mc ms := by
      refine ⟨?_, q2, q3, q4, q5, q6⟩
      obtain ⟨t, ht, -⟩ := State.frames_cons hr
      show ({ U with heap := s₂.heap, slotsUsed := s₂.slotsUsed } : State) = { U.setFrames U.frames with heap := s₂.heap, slotsUsed := s₂.slotsUsed }
      rw [State.setFrames_self ht]
    subst hg
    refine Or.inl ⟨v, ⟨(({ U with heap := s₂.heap, slotsUsed := s₂.slotsUsed } : State).setVm s₂.vm), Ls ++ L, c0 + mc, s0 + ms⟩,
      ⟨X.admits, X.cas, X.clock, X.frames, X.room, X.hears, X.method, X.code, (X.here.setHeapUsed s₂.heap s₂.slotsUsed).setVm hW'.alike, X.tail, State.WarmedH.trans X.warmed hW', X.limits, X.bytes, X.same.trans (hsame.setVm s.vm)⟩,
      ⟨g, mk, s₂, L, rfl, rfl, hqc, rfl, hL, rfl, rfl⟩, ?_⟩
    show Steps p.tables e below _ ((({ U with heap := s₂.heap, slotsUsed := s₂.slotsUsed } : State).setVm s₂.vm).setTop { g with pc := g.pc + len₂, stack := v.toList ++ g.stack })
    rw [← hs₂]
    exact hsteps
  · obtain ⟨e2, q2, q3, q4, q5, q6⟩ := id hsm
    have e3 : s₂ = ({ (U.calling g mk a).setFrames s₂.frames with heap := s₂.heap, slotsUsed := s₂.slotsUsed } : State).setVm s₂.vm := by
      have : s₂ = ({ s₂ with vm := (U.calling g mk a).vm } : State).setVm s₂.vm := rfl
      rw [e2] at this
      exact this
    have hf₂ : s₂.frames = .throwing q :: .java g :: U.frames.tail := hend
    have hW' : U.WarmedH s₂.vm := hW₂
    have hs₂ : s₂ = ((({ U with heap := s₂.heap, slotsUsed := s₂.slotsUsed } : State).setVm s₂.vm).setTop g).pushFrame (.throwing q) := by
      refine e3.trans ?_
      rw [hf₂, State.calling_eq h.top, State.setFrames_setFrames, State.pushFrame, State.frames_setTop _ hr', State.setTop_of_frames _ hr', State.setFrames_setFrames, hr]
      rfl
    have hsame : U.sameButNew ({ U with heap := s₂.heap, slotsUsed := s₂.slotsUsed } : State) L mc ms := by
      refine ⟨?_, q2, q3, q4, q5, q6⟩
      obtain ⟨t, ht, -⟩ := State.frames_cons hr
      show ({ U with heap := s₂.heap, slotsUsed := s₂.slotsUsed } : State) = { U.setFrames U.frames with heap := s₂.heap, slotsUsed := s₂.slotsUsed }
      rw [State.setFrames_self ht]
    subst hg
    refine Or.inr ⟨q, ⟨(({ U with heap := s₂.heap, slotsUsed := s₂.slotsUsed } : State).setVm s₂.vm), Ls ++ L, c0 + mc, s0 + ms⟩,
      ⟨X.admits, X.cas, X.clock, X.frames, X.room, X.hears, X.method, X.code, (X.here.setHeapUsed s₂.heap s₂.slotsUsed).setVm hW'.alike, X.tail, State.WarmedH.trans X.warmed hW', X.limits, X.bytes, X.same.trans (hsame.setVm s.vm)⟩,
      ⟨g, mk, s₂, L, E, ce, rfl, rfl, hx, hce, hcv, hcl, rfl, hL, rfl, rfl⟩, ?_⟩
    show Steps p.tables e below _ (((({ U with heap := s₂.heap, slotsUsed := s₂.slotsUsed } : State).setVm s₂.vm).setTop g).pushFrame (.throwing q))
    rw [← hs₂]
    exact hsteps
end
variable {p : Program} {l : Launch} {e : Env} {R : Room} {s : State} {m : MethodId} {args : Array Value} {below : List Frame} {meth : Method} {c : Code} {T : State} {H : Heap} {locs : List Loc} {cells slots : Nat}
theorem vx_callVX (X : Stand p l e R s m args below meth c T locs cells slots) (hexec : p.tables.exec = Jvm.exec) {own C : String} {index : Nat} {y : MethodName} {bytes : ByteArray} {maxL : Nat} {ret : Option FieldType} {hh : List (Nat × Nat × Nat × Nat)}
    (hown : s.vm.findClass own = some m.cls) (hlink : (Cond.methodLink own index y).before args s = true) (hinst : (Cond.instanceMethod y).before args s = true) (hsel : (Cond.selects C y y).before args s = true)
    (hcode : (Cond.codeWith y bytes maxL ret hh).before args s = true) (hy : y.cls ≠ "java/lang/invoke/MethodHandle" ∧ y.cls ≠ "java/lang/invoke/VarHandle")
    {W9 : Nat} {Pre : Pt → Array Value → Prop} {Post : Pt → Array Value → Option Value → Pt → Prop} {PostX : Pt → Array Value → Addr → Pt → Prop} (hK : vx_Back l R p e below s args y 3 W9 Pre Post PostX)
    {b : Addr} {cellB : Cell} (hcell : T.heap[b]? = some cellB) (hobj : cellB.vm.isStatics = false) (hcls : s.vm.findClass C = some cellB.cls)
    {g : JFrame} (hg : g.method = m) (hsize : g.locals.size = c.maxLocals) {argsL rest : List Value} (hlen : ∀ sig, parseMethodDescriptor y.desc = some sig → argsL.length = sig.parameters.length)
    (hstack : g.stack = argsL.reverse ++ .ref b :: rest) (hW : 2 * g.monitorRoom + (rest.map fun v => v.category).sum ≤ W9) (hdg : decode c.code g.pc = .ok (.invokevirtual index, 3))
    (hpre : ∀ vm₁, s.WarmedH vm₁ → Pre ⟨T.setVm vm₁, locs, cells, slots⟩ (Value.ref b :: argsL).toArray) :
    (∃ (v : Option Value) (vm₁ : Vm) (B : Pt), s.WarmedH vm₁ ∧ Stand p l e R s m args below meth c B.U B.locs B.cells B.slots ∧ Post ⟨T.setVm vm₁, locs, cells, slots⟩ (Value.ref b :: argsL).toArray v B ∧
      ∀ target, Steps p.tables e below (B.U.setTop { g with pc := g.pc + 3, stack := v.toList ++ rest }) target → Steps p.tables e below (T.setTop g) target) ∨
    (∃ (q : Addr) (vm₁ : Vm) (B : Pt), s.WarmedH vm₁ ∧ Stand p l e R s m args below meth c B.U B.locs B.cells B.slots ∧ PostX ⟨T.setVm vm₁, locs, cells, slots⟩ (Value.ref b :: argsL).toArray q B ∧
      Steps p.tables e below (T.setTop g) ((B.U.setTop { g with stack := rest }).pushFrame (.throwing q))) := by
  obtain ⟨mk, methM, hnamed, hmethM, hstM, habM⟩ := Cond.instanceMethod_spec hinst
  obtain ⟨m8, methM', cM, hn8, hmethM', -, -, -, -, -, -, hsigM⟩ := Cond.codeWith_spec hcode
  cases Option.some.inj (hn8.symm.trans hnamed)
  cases hmethM.symm.trans hmethM'
  obtain ⟨c2, r2, m2, q1, q2, q3, q4, kP, hkP, hkPi⟩ := Cond.selects_spec hsel
  cases hcls.symm.trans q1
  cases (State.methodFound?_of_named hnamed hy).symm.trans q2
  cases hnamed.symm.trans q3
  have hselP : selectMethod e.platform s.vm cellB.cls mk = .method mk := by rw [Launch.admits_selectMethod X.admits]; exact q4
  obtain ⟨vm₁, X₁, hstep₁⟩ := X.invokevirtual hexec hown hlink hnamed hmethM hstM hkP hkPi hy (a := b) (cell := cellB) hcell
    (fun z h => by rw [h] at hobj; cases hobj) hselP hmethM habM hkP hkPi (g := g) hg (argsL := argsL) (rest := rest) (hlen _ hsigM) hstack hdg
  rcases hK m meth c ⟨T.setVm vm₁, locs, cells, slots⟩ { g with stack := rest } (.invokevirtual index) mk (Value.ref b :: argsL).toArray X₁ hg hsize hdg hW (X₁.named hnamed) (hpre vm₁ X₁.warmed) with ⟨v, B, X', hpost, hsteps⟩ | ⟨q, B, X', hpost, hsteps⟩
  · exact Or.inl ⟨v, vm₁, B, X₁.warmed, X', hpost, fun target h => hstep₁ _ fun acts => by rw [doInvoke_state]; exact hsteps.trans h⟩
  · exact Or.inr ⟨q, vm₁, B, X₁.warmed, X', hpost, hstep₁ _ fun acts => by rw [doInvoke_state]; exact hsteps⟩
theorem vx_callSX (X : Stand p l e R s m args below meth c T locs cells slots) (hexec : p.tables.exec = Jvm.exec) {own : String} {index : Nat} {y : MethodName} {bytes : ByteArray} {maxL : Nat} {ret : Option FieldType} {hh : List (Nat × Nat × Nat × Nat)}
    (hown : s.vm.findClass own = some m.cls) (hlink : (Cond.methodLink own index y).before args s = true) (hstat : (Cond.static y).before args s = true) (hinit : (Cond.initialized y.cls).before args s = true)
    (hcode : (Cond.codeWith y bytes maxL ret hh).before args s = true) (hy : y.cls ≠ "java/lang/invoke/MethodHandle" ∧ y.cls ≠ "java/lang/invoke/VarHandle")
    {W9 : Nat} {Pre : Pt → Array Value → Prop} {Post : Pt → Array Value → Option Value → Pt → Prop} {PostX : Pt → Array Value → Addr → Pt → Prop} (hK : vx_Back l R p e below s args y 3 W9 Pre Post PostX)
    {g : JFrame} (hg : g.method = m) (hsize : g.locals.size = c.maxLocals) {argsL rest : List Value} (hlen : ∀ sig, parseMethodDescriptor y.desc = some sig → argsL.length = sig.parameters.length)
    (hstack : g.stack = argsL.reverse ++ rest) (hW : 2 * g.monitorRoom + (rest.map fun v => v.category).sum ≤ W9) (hdg : decode c.code g.pc = .ok (.invokestatic index, 3))
    (hpre : ∀ vm₁, s.WarmedH vm₁ → Pre ⟨T.setVm vm₁, locs, cells, slots⟩ argsL.toArray) :
    (∃ (v : Option Value) (vm₁ : Vm) (B : Pt), s.WarmedH vm₁ ∧ Stand p l e R s m args below meth c B.U B.locs B.cells B.slots ∧ Post ⟨T.setVm vm₁, locs, cells, slots⟩ argsL.toArray v B ∧
      ∀ target, Steps p.tables e below (B.U.setTop { g with pc := g.pc + 3, stack := v.toList ++ rest }) target → Steps p.tables e below (T.setTop g) target) ∨
    (∃ (q : Addr) (vm₁ : Vm) (B : Pt), s.WarmedH vm₁ ∧ Stand p l e R s m args below meth c B.U B.locs B.cells B.slots ∧ PostX ⟨T.setVm vm₁, locs, cells, slots⟩ argsL.toArray q B ∧
      Steps p.tables e below (T.setTop g) ((B.U.setTop { g with stack := rest }).pushFrame (.throwing q))) := by
  obtain ⟨mk, methM, cM, hnamed, hmethM, -, -, -, -, -, -, hsigM⟩ := Cond.codeWith_spec hcode
  have hstatic : methM.isStatic = true := Cond.static_spec hnamed hmethM hstat
  obtain ⟨kP, hkP, -⟩ := className_of_methodNamed hnamed
  have hinitP : kP.init = .initialized := Cond.initialized_spec (findClass_of_methodNamed hnamed) hkP hinit
  obtain ⟨vm₁, X₁, hstep₁⟩ := X.invokestatic hexec hown hlink hnamed hmethM hstatic hkP hinitP hy (g := g) hg (argsL := argsL) (rest := rest) (hlen _ hsigM) hstack hdg
  rcases hK m meth c ⟨T.setVm vm₁, locs, cells, slots⟩ { g with stack := rest } (.invokestatic index) mk argsL.toArray X₁ hg hsize hdg hW (X₁.named hnamed) (hpre vm₁ X₁.warmed) with ⟨v, B, X', hpost, hsteps⟩ | ⟨q, B, X', hpost, hsteps⟩
  · exact Or.inl ⟨v, vm₁, B, X₁.warmed, X', hpost, fun target h => hstep₁ _ fun acts => by rw [doInvoke_state]; exact hsteps.trans h⟩
  · exact Or.inr ⟨q, vm₁, B, X₁.warmed, X', hpost, hstep₁ _ fun acts => by rw [doInvoke_state]; exact hsteps⟩
theorem vx_callVW (X : Stand p l e R s m args below meth c T locs cells slots) (hexec : p.tables.exec = Jvm.exec) {own C : String} {index : Nat} {y : MethodName} {bytes : ByteArray} {maxL : Nat} {ret : Option FieldType} {hh : List (Nat × Nat × Nat × Nat)}
    (hown : s.vm.findClass own = some m.cls) (hlink : (Cond.methodLink own index y).before args s = true) (hinst : (Cond.instanceMethod y).before args s = true) (hsel : (Cond.selects C y y).before args s = true)
    (hcode : (Cond.codeWith y bytes maxL ret hh).before args s = true) (hy : y.cls ≠ "java/lang/invoke/MethodHandle" ∧ y.cls ≠ "java/lang/invoke/VarHandle")
    {W9 : Nat} {Pre : Pt → Array Value → Prop} {Post : Pt → Array Value → Option Value → Pt → Prop} (hK : Back l R p e below s args y 3 W9 Pre Post)
    {b : Addr} {cellB : Cell} (hcell : T.heap[b]? = some cellB) (hobj : cellB.vm.isStatics = false) (hcls : s.vm.findClass C = some cellB.cls)
    {g : JFrame} (hg : g.method = m) (hsize : g.locals.size = c.maxLocals) {argsL rest : List Value} (hlen : ∀ sig, parseMethodDescriptor y.desc = some sig → argsL.length = sig.parameters.length)
    (hstack : g.stack = argsL.reverse ++ .ref b :: rest) (hW : 2 * g.monitorRoom + (rest.map fun v => v.category).sum ≤ W9) (hdg : decode c.code g.pc = .ok (.invokevirtual index, 3))
    (hpre : ∀ vm₁, s.WarmedH vm₁ → Pre ⟨T.setVm vm₁, locs, cells, slots⟩ (Value.ref b :: argsL).toArray) :
    ∃ (v : Option Value) (vm₁ : Vm) (B : Pt), s.WarmedH vm₁ ∧ Stand p l e R s m args below meth c B.U B.locs B.cells B.slots ∧ Post ⟨T.setVm vm₁, locs, cells, slots⟩ (Value.ref b :: argsL).toArray v B ∧
      ∀ target, Steps p.tables e below (B.U.setTop { g with pc := g.pc + 3, stack := v.toList ++ rest }) target → Steps p.tables e below (T.setTop g) target := by
  obtain ⟨mk, methM, hnamed, hmethM, hstM, habM⟩ := Cond.instanceMethod_spec hinst
  obtain ⟨m8, methM', cM, hn8, hmethM', -, -, -, -, -, -, hsigM⟩ := Cond.codeWith_spec hcode
  cases Option.some.inj (hn8.symm.trans hnamed)
  cases hmethM.symm.trans hmethM'
  obtain ⟨c2, r2, m2, q1, q2, q3, q4, kP, hkP, hkPi⟩ := Cond.selects_spec hsel
  cases hcls.symm.trans q1
  cases (State.methodFound?_of_named hnamed hy).symm.trans q2
  cases hnamed.symm.trans q3
  have hselP : selectMethod e.platform s.vm cellB.cls mk = .method mk := by rw [Launch.admits_selectMethod X.admits]; exact q4
  obtain ⟨vm₁, X₁, hstep₁⟩ := X.invokevirtual hexec hown hlink hnamed hmethM hstM hkP hkPi hy (a := b) (cell := cellB) hcell
    (fun z h => by rw [h] at hobj; cases hobj) hselP hmethM habM hkP hkPi (g := g) hg (argsL := argsL) (rest := rest) (hlen _ hsigM) hstack hdg
  obtain ⟨v, B, X', hpost, hsteps⟩ := hK m meth c ⟨T.setVm vm₁, locs, cells, slots⟩ { g with stack := rest } (.invokevirtual index) mk (Value.ref b :: argsL).toArray X₁ hg hsize hdg hW (X₁.named hnamed) (hpre vm₁ X₁.warmed)
  exact ⟨v, vm₁, B, X₁.warmed, X', hpost, fun target h => hstep₁ _ fun acts => by rw [doInvoke_state]; exact hsteps.trans h⟩
abbrev vx_CVW (R : Room) (s : State) (args : Array Value) (own C : String) (index : Nat) (y : MethodName) (bytes : ByteArray) (maxL : Nat) (ret : Option FieldType) (hh : List (Nat × Nat × Nat × Nat)) (ws : List Cond) (rm : Room) (mc ms n : Nat) : Prop :=
  (rm.cells = mc ∧ rm.slots = ms ∧ rm.frames + 1 ≤ R.frames ∧ 8 + (maxL + 11) + rm.locals ≤ R.locals ∧ (∀ w ∈ ws, ∀ (a' : Array Value) (U : State), s.WarmedH U.vm → w.before a' U = true) ∧ Cond.codeWith y bytes maxL ret hh ∈ ws) ∧
  (Cond.codeWith y bytes maxL ret hh).before args s = true ∧ (Cond.initialized y.cls).before args s = true ∧ (y.cls ≠ "java/lang/invoke/MethodHandle" ∧ y.cls ≠ "java/lang/invoke/VarHandle") ∧
  (∀ sig, parseMethodDescriptor y.desc = some sig → n = sig.parameters.length) ∧ (Cond.methodLink own index y).before args s = true ∧ (Cond.instanceMethod y).before args s = true ∧ (Cond.selects C y y).before args s = true
theorem vx_cwVW {own C : String} {index maxL mc ms : Nat} {y : MethodName} {bytes : ByteArray} {ret : Option FieldType} {hh : List (Nat × Nat × Nat × Nat)} {Ts ws ws' : List Cond} {rm : Room} (n : Nat) (ht : ∀ w ∈ Ts, w.before args s = true) (hT : GoodIn Ts (wsV own index C y ws)) (hw : ws = Cond.codeWith y bytes maxL ret hh :: ws') (hrc : rm.cells = mc) (hrs : rm.slots = ms)
    (hd : y.cls = C ∧ y.cls ≠ "java/lang/invoke/MethodHandle" ∧ y.cls ≠ "java/lang/invoke/VarHandle" ∧ (parseMethodDescriptor y.desc).map (fun d => d.parameters.length) = some n) (hR : rm.frames + 1 ≤ R.frames ∧ 8 + (maxL + 11) + rm.locals ≤ R.locals) :
    vx_CVW R s args own C index y bytes maxL ret hh ws rm mc ms n := by
  obtain ⟨hC, hd⟩ := hd
  subst hC
  have ok : ∀ w ∈ wsV own index y.cls y ws, w.before args s = true := fun w h => ht w (hT w h).1
  have hG : GoodIn Ts ws := fun w h => hT w (by unfold wsV; exact List.mem_append_right _ h)
  have hc : Cond.codeWith y bytes maxL ret hh ∈ ws := by rw [hw]; exact List.mem_cons_self
  refine ⟨⟨hrc, hrs, hR.1, hR.2, pay_in ht hG, hc⟩, ht _ (hG _ hc).1, ok _ (by simp [wsV]), ⟨hd.1, hd.2.1⟩, fun sig h => ?_, ok _ (by simp [wsV]), ok _ (by simp [wsV]), ok _ (by simp [wsV])⟩
  have h2 := hd.2.2
  rw [h] at h2
  exact (Option.some.inj h2).symm
theorem vx_runVW {y : MethodName} {bytes cc : ByteArray} {maxL nL mc ms n index : Nat} {ret : Option FieldType} {hh : List (Nat × Nat × Nat × Nat)} {ws : List Cond} {rm : Room} {Pc : Array Value → State → Prop} {Qc : Array Value → State → Outcome → State → Prop} {free : Addr → Prop} {Ts : List Cond} {own C : String} {b : Addr} {As rest : List Value} {g : JFrame}
    (S : CallFix p m c cc nL s args Ts own) (hM : Met l y ws rm Pc Qc mc ms free) (cw : vx_CVW R s args own C index y bytes maxL ret hh ws rm mc ms n) (hp : PreV s H C b Pc As)
    (hg : g.method = m) (hn : As.length = n) (hsize : g.locals.size = nL) (hstack : g.stack = As.reverse ++ .ref b :: rest) (hW : 2 * g.monitorRoom + (rest.map fun v => v.category).sum ≤ 8) (hdg : decode cc g.pc = .ok (.invokevirtual index, 3)) (hf : cells + mc ≤ R.cells ∧ slots + ms ≤ R.slots) :
    va_Run p l e R s m args below meth c H locs cells slots mc ms g rest (Qc (Value.ref b :: As).toArray) free := by
  obtain ⟨⟨hrc, hrs, hfr, hlo, hws, hcw⟩, hcode, hini, hy, hlen, hl, hin, hse⟩ := cw
  have hK : Back l R p e below s args y 3 8 (PreOf R mc ms Pc) (PostOf Qc mc ms free) := va_backW (hh := hh) (bytes := bytes) (maxL := maxL) (ret := ret) hM hp.1 hrc hrs hfr hlo hws hcw (fun a' U hW => word_at hW (Or.inl (by first | rfl | simp [Cond.onTables, Cond.keeps, Cond.steady])) hini)
  obtain ⟨hx, hb, hml, ho, -⟩ := S
  obtain ⟨-, ⟨cellB, hcB, hoB, hclB⟩, hPc⟩ := hp
  intro T hT X
  obtain ⟨v, vm₁, ⟨U', l2, c2, s2⟩, hW₁, X', ⟨g', mk, t, L, e1, e2, hq, h1, hL, h2, h3⟩, st⟩ := vx_callVW X hx (C := C) (hh := hh) (bytes := bytes) (maxL := maxL) (ret := ret) ho hl hin hse hcode hy hK (by rw [hT]; exact hcB) hoB hclB hg (hsize.trans hml.symm) (argsL := As) (rest := rest) (fun sig h => hn.trans (hlen sig h)) hstack hW (by rw [hb]; exact hdg)
    (fun vm₁ hW₁ => ⟨hf.1, hf.2, hPc (T.setVm vm₁) hT hW₁⟩)
  dsimp only [Pt.U, Pt.locs, Pt.cells, Pt.slots] at X' e1 e2 h1 h2 h3 st
  subst h1; subst h2; subst h3
  exact ⟨v, (T.setVm vm₁).calling g' mk (Value.ref b :: As).toArray, t, U', L, hT, X', hL, e1, e2, hq, st⟩
section
variable {y : MethodName} {bytes cc : ByteArray} {maxL nL mc ms n index : Nat} {ret : Option FieldType} {ws : List Cond} {rm : Room} {Pc : Array Value → State → Prop} {Qc : Array Value → State → Outcome → State → Prop} {XC : String → State → State → Prop} {free : Addr → Prop} {Ts : List Cond} {own C : String} {b : Addr} {As rest : List Value} {g : JFrame}
theorem vx_runVX {hh : List (Nat × Nat × Nat × Nat)} (S : CallFix p m c cc nL s args Ts own) (hM : vx_Met l y ws rm Pc Qc XC mc ms free) (cw : vx_CVW R s args own C index y bytes maxL ret hh ws rm mc ms n) (hp : PreV s H C b Pc As)
    (hg : g.method = m) (hn : As.length = n) (hsize : g.locals.size = nL) (hstack : g.stack = As.reverse ++ .ref b :: rest) (hW : 2 * g.monitorRoom + (rest.map fun v => v.category).sum ≤ 8) (hdg : decode cc g.pc = .ok (.invokevirtual index, 3)) (hf : cells + mc ≤ R.cells ∧ slots + ms ≤ R.slots) :
    vx_Run p l e R s m args below meth c H locs cells slots mc ms g rest (Qc (Value.ref b :: As).toArray) XC free := by
  obtain ⟨⟨hrc, hrs, hfr, hlo, hws, hcw⟩, hcode, hini, hy, hlen, hl, hin, hse⟩ := cw
  have hK : vx_Back l R p e below s args y 3 8 (PreOf R mc ms Pc) (PostOf Qc mc ms free) (vx_Post XC mc ms free) := vx_backW (hh := hh) (bytes := bytes) (maxL := maxL) (ret := ret) hM hp.1 hrc hrs hfr hlo hws hcw (fun a' U hW => word_at hW (Or.inl (by first | rfl | simp [Cond.onTables, Cond.keeps, Cond.steady])) hini)
  obtain ⟨hx, hb, hml, ho, -⟩ := S
  obtain ⟨-, ⟨cellB, hcB, hoB, hclB⟩, hPc⟩ := hp
  intro T hT X
  rcases vx_callVX X hx (C := C) (hh := hh) (bytes := bytes) (maxL := maxL) (ret := ret) ho hl hin hse hcode hy hK (by rw [hT]; exact hcB) hoB hclB hg (hsize.trans hml.symm) (argsL := As) (rest := rest) (fun sig h => hn.trans (hlen sig h)) hstack hW (by rw [hb]; exact hdg)
    (fun vm₁ hW₁ => ⟨hf.1, hf.2, hPc (T.setVm vm₁) hT hW₁⟩) with ⟨v, vm₁, ⟨U', l2, c2, s2⟩, hW₁, X', ⟨g', mk, t, L, e1, e2, hq, h1, hL, h2, h3⟩, st⟩ | ⟨q, vm₁, ⟨U', l2, c2, s2⟩, hW₁, X', ⟨g', mk, t, L, E, ce, e1, e2, hq, hce, hcv, hcl, h1, hL, h2, h3⟩, st⟩
  · dsimp only [Pt.U, Pt.locs, Pt.cells, Pt.slots] at X' e1 e2 h1 h2 h3 st
    subst h1; subst h2; subst h3
    exact Or.inl ⟨v, (T.setVm vm₁).calling g' mk (Value.ref b :: As).toArray, t, U', L, hT, X', hL, e1, e2, hq, st⟩
  · dsimp only [Pt.U, Pt.locs, Pt.cells, Pt.slots] at X' e1 e2 h1 h2 h3 st hcl
    subst h1; subst h2; subst h3
    exact Or.inr ⟨q, (T.setVm vm₁).calling g' mk (Value.ref b :: As).toArray, t, U', L, E, ce, hT, X', hL, e1, e2, hq, hce, hcv, vx_cls hW₁ hcl, st⟩
theorem vx_runSX {hh : List (Nat × Nat × Nat × Nat)} (S : CallFix p m c cc nL s args Ts own) (hM : vx_Met l y ws rm Pc Qc XC mc ms free) (cw : vx_CSW R s args own index y bytes maxL ret hh ws rm mc ms n) (hp : PreS s H Pc As)
    (hg : g.method = m) (hn : As.length = n) (hsize : g.locals.size = nL) (hstack : g.stack = As.reverse ++ rest) (hW : 2 * g.monitorRoom + (rest.map fun v => v.category).sum ≤ 8) (hdg : decode cc g.pc = .ok (.invokestatic index, 3)) (hf : cells + mc ≤ R.cells ∧ slots + ms ≤ R.slots) :
    vx_Run p l e R s m args below meth c H locs cells slots mc ms g rest (Qc As.toArray) XC free := by
  obtain ⟨⟨hrc, hrs, hfr, hlo, hws, hcw⟩, hcode, hini, hy, hlen, hl, hstt⟩ := cw
  have hK : vx_Back l R p e below s args y 3 8 (PreOf R mc ms Pc) (PostOf Qc mc ms free) (vx_Post XC mc ms free) := vx_backW (hh := hh) (bytes := bytes) (maxL := maxL) (ret := ret) hM hp.1 hrc hrs hfr hlo hws hcw (fun a' U hW => word_at hW (Or.inl (by first | rfl | simp [Cond.onTables, Cond.keeps, Cond.steady])) hini)
  obtain ⟨hx, hb, hml, ho, -⟩ := S
  intro T hT X
  rcases vx_callSX X hx (hh := hh) (bytes := bytes) (maxL := maxL) (ret := ret) ho hl hstt hini hcode hy hK hg (hsize.trans hml.symm) (argsL := As) (rest := rest) (fun sig h => hn.trans (hlen sig h)) hstack hW (by rw [hb]; exact hdg)
    (fun vm₁ hW₁ => ⟨hf.1, hf.2, hp.2 (T.setVm vm₁) hT hW₁⟩) with ⟨v, vm₁, ⟨U', l2, c2, s2⟩, hW₁, X', ⟨g', mk, t, L, e1, e2, hq, h1, hL, h2, h3⟩, st⟩ | ⟨q, vm₁, ⟨U', l2, c2, s2⟩, hW₁, X', ⟨g', mk, t, L, E, ce, e1, e2, hq, hce, hcv, hcl, h1, hL, h2, h3⟩, st⟩
  · dsimp only [Pt.U, Pt.locs, Pt.cells, Pt.slots] at X' e1 e2 h1 h2 h3 st
    subst h1; subst h2; subst h3
    exact Or.inl ⟨v, (T.setVm vm₁).calling g' mk As.toArray, t, U', L, hT, X', hL, e1, e2, hq, st⟩
  · dsimp only [Pt.U, Pt.locs, Pt.cells, Pt.slots] at X' e1 e2 h1 h2 h3 st hcl
    subst h1; subst h2; subst h3
    exact Or.inr ⟨q, (T.setVm vm₁).calling g' mk As.toArray, t, U', L, E, ce, hT, X', hL, e1, e2, hq, hce, hcv, vx_cls hW₁ hcl, st⟩
end
end VXH
theorem vx_ofWH {l : Launch} {y : MethodName} {ws ws' : List Cond} {rm : Room} {Pc : Array Value → State → Prop} {Qc : Array Value → State → Outcome → State → Prop} {XC : String → State → State → Prop} {mc ms : Nat} {free : Addr → Prop} {cc : ByteArray} {maxL : Nat} {ret : Option FieldType} {hh : List (Nat × Nat × Nat × Nat)}
    (hy : plainName y.cls = true) (hw : ws = Cond.codeWith y cc maxL ret hh :: ws')
    (body : ∀ p e s m args below meth c s₁, BodyLoose p l y (headSpec ws rm) cc maxL ret e s m args below meth c s₁ → c.maxLocals = maxL → Pc args s →
      W p l e (headSpec ws rm).room s m args below meth c s.heap [] 0 0 (vx_MQ below Qc XC args s mc ms free) (entryFrame m args maxL)) : vx_Met l y ws rm Pc Qc XC mc ms free := by
  refine MetFree.of_bodyS (code := cc) (maxLocals := maxL) (ret := ret) hy ?_ ?_
  · intro args s m h hn
    obtain ⟨m9, meth, c, hn9, h1, h2, h3, h4, -, h5, h6, -⟩ := Cond.codeWith_spec (atoms_spec (ws := ws) h _ (by rw [hw]; exact List.mem_cons_self))
    cases hn.symm.trans hn9
    exact ⟨meth, c, h1, h2, h3, h4, h5, h6⟩
  · intro p e s m args below meth c s₁ B hml hP _
    have hh0 : s₁.heap = s.heap := by rw [B.state]; rfl
    obtain ⟨t, a1, o, b1, b2, b3⟩ := body p e s m args below meth c s₁ B hml hP s₁ hh0 (Stand.of_body B)
    exact ⟨t, o, a1, b1, b2, b3⟩
/-! ===== END ===== -/
end
section
/-! An exception that comes out of a call is caught by a row of the calling method's own table (catch types cold or warm). -/
section AXC
/-- one row of the table that covers the place: its class is looked up, and takes the object or not -/
theorem ax_go1 {Q : Handler → Pre} {E : CtlPost} {e : Env} {d : Bool} {acts : List Action} {s : State} {f : JFrame} {a : Addr} {x : ExceptionTableEntry} {t : List ExceptionTableEntry} {c : ClassId} {cell : Cell} (hx : covers x f.pc = true) (h0 : x.catchType ≠ 0)
    (hl : s.vm.ClassLinks e.platform f.method.cls x.catchType c) (hcell : s.heap[a]? = some cell) (hobj : ∀ k, cell.vm ≠ .statics k)
    (hk : ∃ k, s.vm.classes[cell.cls]? = some k) (hc : ∃ k, s.vm.classes[c]? = some k) :
    wp (findHandler.go f a (x :: t)) Q E e d acts s ↔
      if s.vm.assignable cell.cls c = true then Q (.found x.handlerPc) d acts (s.setVm (s.vm.noted f.method.cls x.catchType (.cls c)))
      else wp (findHandler.go f a t) Q E e d acts (s.setVm (s.vm.noted f.method.cls x.catchType (.cls c))) := by
  simp only [covers] at hx
  obtain ⟨ha, ht⟩ := (resolveClass_links e.toSetting hl).op (op := VmOp.resolveClass f.method.cls x.catchType) rfl
  have hal : s.vm.Alike (s.vm.noted f.method.cls x.catchType (.cls c)) := (Vm.Alike.refl s.vm).noted _ _ _
  obtain ⟨k1, hk1⟩ := hk
  obtain ⟨k2, hk2⟩ := hc
  obtain ⟨k3, hk3, -⟩ := hal.2.2 _ _ hk1
  obtain ⟨k4, hk4, -⟩ := hal.2.2 _ _ hk2
  have hq := hal.assignable cell.cls c
  cases hfit : s.vm.assignable cell.cls c <;>
    (rw [hfit] at hq; simp [findHandler.go, hx, h0, ha, ht, hcell, hobj, hk3, hk4, hq, VmOp.dirties, VmOp.acts])
/-- the search through rows that all cover the place: those ahead don't take the object, x does -/
theorem ax_goN {e : Env} {s₀ : State} {f : JFrame} {a : Addr} {cell : Cell} (hobj : ∀ k, cell.vm ≠ .statics k) (hk0 : ∃ k, s₀.vm.classes[cell.cls]? = some k)
    (x : ExceptionTableEntry) (suf : List ExceptionTableEntry) (hx : covers x f.pc = true) (hx0 : x.catchType ≠ 0) {cx : ClassId} (hxl : s₀.vm.ClassLinks e.platform f.method.cls x.catchType cx) (hxa : s₀.vm.assignable cell.cls cx = true) :
    ∀ (ahead : List ExceptionTableEntry) (S : State), s₀.WarmedH S.vm → S.heap[a]? = some cell →
      (∀ y ∈ ahead, covers y f.pc = true ∧ y.catchType ≠ 0 ∧ ∃ c, s₀.vm.ClassLinks e.platform f.method.cls y.catchType c ∧ s₀.vm.assignable cell.cls c = false) →
      ∃ vm', s₀.WarmedH vm' ∧ ∀ (Q : Handler → Pre) (E : CtlPost) (d : Bool) (acts : List Action), wp (findHandler.go f a (ahead ++ x :: suf)) Q E e d acts S ↔ Q (.found x.handlerPc) d acts (S.setVm vm') := by
  obtain ⟨k0, hk0⟩ := hk0
  have one : ∀ (y : ExceptionTableEntry) (c : ClassId) (S : State), s₀.WarmedH S.vm → S.heap[a]? = some cell → covers y f.pc = true → y.catchType ≠ 0 → s₀.vm.ClassLinks e.platform f.method.cls y.catchType c →
      s₀.WarmedH (S.vm.noted f.method.cls y.catchType (.cls c)) ∧ ∀ (t : List ExceptionTableEntry) (Q : Handler → Pre) (E : CtlPost) (d : Bool) (acts : List Action), wp (findHandler.go f a (y :: t)) Q E e d acts S ↔
        if s₀.vm.assignable cell.cls c = true then Q (.found y.handlerPc) d acts (S.setVm (S.vm.noted f.method.cls y.catchType (.cls c))) else wp (findHandler.go f a t) Q E e d acts (S.setVm (S.vm.noted f.method.cls y.catchType (.cls c))) := by
    intro y c S hW hcell hy hy0 hl
    obtain ⟨k1, hk1, -⟩ := hW.alike.2.2 _ _ hk0
    obtain ⟨dk, _, _, kt, hd, _, _, _, _, hkt, _, hopen⟩ := hl.here
    obtain ⟨k2, hk2, -⟩ := hW.alike.2.2 _ _ hkt
    refine ⟨hW.noted hd hopen (State.rightAt_cls hl), fun t Q E d acts => ?_⟩
    have h := ax_go1 (Q := Q) (E := E) (d := d) (acts := acts) (t := t) hy hy0 (hW.classLinks hl) hcell hobj ⟨k1, hk1⟩ ⟨k2, hk2⟩
    rw [hW.alike.assignable] at h
    exact h
  intro ahead
  induction ahead with
  | nil =>
    intro S hW hcell _
    obtain ⟨h1, h2⟩ := one x cx S hW hcell hx hx0 hxl
    exact ⟨_, h1, fun Q E d acts => by rw [List.nil_append, h2, if_pos hxa]⟩
  | cons y ys ih =>
    intro S hW hcell hp
    obtain ⟨hy, hy0, c, hl, hno⟩ := hp y List.mem_cons_self
    obtain ⟨h1, h2⟩ := one y c S hW hcell hy hy0 hl
    obtain ⟨vm', h3, h4⟩ := ih (S.setVm (S.vm.noted f.method.cls y.catchType (.cls c))) h1 hcell (fun z hz => hp z (List.mem_cons_of_mem _ hz))
    exact ⟨vm', h3, fun Q E d acts => by rw [List.cons_append, h2, if_neg (by rw [hno]; decide)]; exact h4 Q E d acts⟩
theorem ax_frames3 (u : State) (vm' : Vm) (F G : List Frame) : ((u.setFrames F).setVm vm').setFrames G = (u.setVm vm').setFrames G := by
  show ((u.setVm vm').setFrames F).setFrames G = _
  rw [State.setFrames_setFrames]
/-- the machine's step at the note: on to the handler -/
theorem ax_caught {tb : Tables} {e : Env} {s target : State} {g : JFrame} {c : Code} {below : List Frame} {a : Addr} (h : At s g.method c below) {pc : Nat} {vm' : Vm}
    (hfind : ∀ (Q : Handler → Pre) (E : CtlPost) (d : Bool) (acts : List Action), wp (findHandler g a) Q E e d acts ((s.setTop g).pushFrame (.throwing a)) ↔ Q (.found pc) d acts (((s.setTop g).pushFrame (.throwing a)).setVm vm'))
    (hrest : Steps tb e below ((s.setVm vm').setTop { g with pc := pc, stack := [.ref a] }) target) : Steps tb e below ((s.setTop g).pushFrame (.throwing a)) target := by
  have hstep : (stepThrowing e ((s.setTop g).pushFrame (.throwing a)) a (.java g :: s.frames.tail)).Is ((((s.setTop g).pushFrame (.throwing a)).setVm vm').setFrames (.java { g with pc := pc, stack := [.ref a] } :: s.frames.tail)) [] := by
    simp only [stepThrowing, searchFrame, vmDo]
    generalize hr : Sem.go _ e false [] ((s.setTop g).pushFrame (.throwing a)) = res
    obtain ⟨as, rfl, ha⟩ := Sem.eq_ok_of hr (a := Handler.found pc) (s' := ((s.setTop g).pushFrame (.throwing a)).setVm vm') (acts' := []) (by simp [hfind _ _ _ _])
    exact ⟨rfl, ha⟩
  obtain ⟨hgo, hw⟩ := h.throwing a
  refine Steps.head hgo hw ?_
  rw [stepThread_throwing (frames_entered h.top _), hstep.1]
  obtain ⟨g₀, hg⟩ := Option.isSome_iff_exists.mp h.top
  obtain ⟨r, hr⟩ := State.topJava?_eq_some.mp hg
  have hr' : (s.setVm vm').frames = .java g₀ :: r := hr
  rw [State.setTop_of_frames _ hr'] at hrest
  rw [hr, List.tail_cons, State.pushFrame, ax_frames3, State.setTop_of_frames _ hr, ax_frames3]
  exact hrest
/-- CAUGHT by the row x of this method's table; the rows ahead cover the place too, and name classes that the object is not of -/
theorem ax_catch {p : Program} {l : Launch} {e : Env} {R : Room} {s : State} {m : MethodId} {args : Array Value} {below : List Frame} {meth : Method} {c : Code} {H : Heap} {locs : List Loc} {cells slots : Nat} {Q : State → Prop} {pc : Nat} {ls : Array Slot} {rest : List Value}
    {own name E : String} {ce : Cell} {q : Addr} (hown : s.vm.findClass own = some m.cls) (ahead : List ExceptionTableEntry) (x : ExceptionTableEntry) (suf : List ExceptionTableEntry) (hsplit : c.exceptionTable.toList = ahead ++ x :: suf)
    (hpass : ∀ z ∈ ahead, covers z pc = true ∧ z.catchType ≠ 0 ∧ ∃ nm : String, (Cond.classLink own z.catchType nm).before args s = true ∧ va_Nc E nm s) (hx : covers x pc = true) (h0 : x.catchType ≠ 0)
    (hlink : (Cond.classLink own x.catchType name).before args s = true) (hcast : (Cond.castable E name).before args s = true) (hcell : H[q]? = some ce) (hv : ce.vm = .none) (hcl : s.vm.findClass E = some ce.cls)
    (kk : W p l e R s m args below meth c H locs cells slots Q (F0 m x.handlerPc ls [.ref q])) : vx_W p l e R s m args below meth c H locs cells slots Q (F0 m pc ls rest) q := by
  intro T hT X
  have hpl : e.platform.magicAccessors = ({} : Platform).magicAccessors := by rw [X.admits.platform]
  obtain ⟨c3, c4, hc3, hc4, hasg⟩ := Cond.castable_spec hcast
  cases Option.some.inj (hc3.symm.trans hcl)
  obtain ⟨c5, hc5, hcl5⟩ := Cond.classLink_spec hown hlink e.platform hpl
  cases Option.some.inj (hc4.symm.trans hc5)
  obtain ⟨vm', hW', hgo⟩ := ax_goN (e := e) (s₀ := s) (f := F0 m pc ls rest) (a := q) (cell := ce) (fun k h => by rw [hv] at h; cases h) (by obtain ⟨k9, h9, -⟩ := Vm.findClass_spec hcl; exact ⟨k9, h9⟩) x suf hx h0 hcl5 hasg ahead
    ((T.setTop (F0 m pc ls rest)).pushFrame (.throwing q)) X.warmed (by show T.heap[q]? = some ce; rw [hT]; exact hcell) (fun z hz => by
      obtain ⟨z1, z2, nm, z3, z4⟩ := hpass z hz
      obtain ⟨c6, hc6, hcl6⟩ := Cond.classLink_spec hown z3 e.platform hpl
      obtain ⟨a8, b8, h1, h2, h3⟩ := z4
      cases Option.some.inj (h1.symm.trans hcl)
      cases Option.some.inj (h2.symm.trans hc6)
      exact ⟨z1, z2, _, hcl6, h3⟩)
  obtain ⟨t, a1, b1⟩ := kk (T.setVm vm') hT (X.noted hW')
  refine ⟨t, ax_caught (g := F0 m pc ls rest) X.here (fun Q E d acts => ?_) a1, b1⟩
  rw [Jvm.W.findHandler_eq (f := F0 m pc ls rest) (show ((T.setTop (F0 m pc ls rest)).pushFrame (.throwing q)).vm.method? m = some meth from X.method') X.code, hsplit]
  exact hgo Q E d acts
end AXC
end
section
def RX0 : String := "PickPaths$Floor"
def TX0 : u_T := fun k => match k with
  | 0 => ("PickPaths$Floor", "aisles", "I", true)
  | 1 => ("PickPaths$Floor", "blocks", "I", true)
  | _ => ("PickPaths$Floor", "shut", "[Z", true)
def tyX0 : Nat → FieldType := fun k => match k with
  | 0 => .int
  | 1 => .int
  | _ => .array .boolean
abbrev wsX00 : List Cond := u_ws RX0 TX0 3
theorem nmX0 : ∀ a, a < 3 → ∀ b, b < 3 → a ≠ b → (TX0 a).2.1 ≠ (TX0 b).2.1 := by decide +kernel
theorem tyX0_ok : ∀ k, k < 3 → parseFieldDescriptor (TX0 k).2.2.1 = some (tyX0 k) := by decide +kernel
abbrev cX0_init : ByteArray := prog_2_method_1_code
def yX0_init : MethodName := ⟨RX0, "<init>", "(II)V"⟩
abbrev cX0_hasAisle : ByteArray := prog_2_method_2_code
def yX0_hasAisle : MethodName := ⟨RX0, "hasAisle", "(I)Z"⟩
abbrev cX0_hasPlace : ByteArray := prog_2_method_3_code
def yX0_hasPlace : MethodName := ⟨RX0, "hasPlace", "(I)Z"⟩
abbrev cX0_backDepth : ByteArray := prog_2_method_4_code
def yX0_backDepth : MethodName := ⟨RX0, "backDepth", "()I"⟩
abbrev cX0_placeDepth : ByteArray := prog_2_method_5_code
def yX0_placeDepth : MethodName := ⟨RX0, "placeDepth", "(I)I"⟩
abbrev cX0_between : ByteArray := prog_2_method_6_code
def yX0_between : MethodName := ⟨RX0, "between", "(IIII)I"⟩
def RX1 : String := "PickPaths$LeastOrder"
def TX1 : u_T := fun k => match k with
  | 0 => ("PickPaths$LeastOrder", "stops", "LPickPaths$Stops;", true)
  | 1 => ("PickPaths$LeastOrder", "members", "[I", true)
  | 2 => ("PickPaths$LeastOrder", "size", "I", false)
  | _ => ("PickPaths$LeastOrder", "rests", "[I", true)
def tyX1 : Nat → FieldType := fun k => match k with
  | 0 => .object "PickPaths$Stops"
  | 1 => .array .int
  | 2 => .int
  | _ => .array .int
abbrev wsX10 : List Cond := u_ws RX1 TX1 4
theorem nmX1 : ∀ a, a < 4 → ∀ b, b < 4 → a ≠ b → (TX1 a).2.1 ≠ (TX1 b).2.1 := by decide +kernel
theorem tyX1_ok : ∀ k, k < 4 → parseFieldDescriptor (TX1 k).2.2.1 = some (tyX1 k) := by decide +kernel
abbrev cX1_init : ByteArray := prog_3_method_1_code
def yX1_init : MethodName := ⟨RX1, "<init>", "(LPickPaths$Stops;)V"⟩
abbrev cX1_lay : ByteArray := prog_3_method_2_code
def yX1_lay : MethodName := ⟨RX1, "lay", "(ILPickPaths$Route;)V"⟩
abbrev cX1_gather : ByteArray := prog_3_method_3_code
def yX1_gather : MethodName := ⟨RX1, "gather", "()V"⟩
abbrev cX1_fillRests : ByteArray := prog_3_method_4_code
def yX1_fillRests : MethodName := ⟨RX1, "fillRests", "()V"⟩
abbrev cX1_bestNext : ByteArray := prog_3_method_5_code
def yX1_bestNext : MethodName := ⟨RX1, "bestNext", "(II)I"⟩
abbrev cX1_isIn : ByteArray := prog_3_method_6_code
def yX1_isIn : MethodName := ⟨RX1, "isIn", "(II)Z"⟩
abbrev cX1_lengthBy : ByteArray := prog_3_method_7_code
def yX1_lengthBy : MethodName := ⟨RX1, "lengthBy", "(III)I"⟩
def RX2 : String := "PickPaths$Planner"
def TX2 : u_T := fun k => match k with
  | 0 => ("PickPaths$Planner", "floor", "LPickPaths$Floor;", true)
  | 1 => ("PickPaths$Planner", "stops", "LPickPaths$Stops;", true)
  | 2 => ("PickPaths$Planner", "leastOrder", "LPickPaths$LeastOrder;", true)
  | 3 => ("PickPaths$Planner", "keys", "[I", true)
  | _ => ("PickPaths$Planner", "waiting", "[Z", true)
def tyX2 : Nat → FieldType := fun k => match k with
  | 0 => .object "PickPaths$Floor"
  | 1 => .object "PickPaths$Stops"
  | 2 => .object "PickPaths$LeastOrder"
  | 3 => .array .int
  | _ => .array .boolean
abbrev wsX20 : List Cond := u_ws RX2 TX2 5
theorem nmX2 : ∀ a, a < 5 → ∀ b, b < 5 → a ≠ b → (TX2 a).2.1 ≠ (TX2 b).2.1 := by decide +kernel
theorem tyX2_ok : ∀ k, k < 5 → parseFieldDescriptor (TX2 k).2.2.1 = some (tyX2 k) := by decide +kernel
abbrev cX2_init : ByteArray := prog_4_method_1_code
def yX2_init : MethodName := ⟨RX2, "<init>", "(LPickPaths$Floor;LPickPaths$Stops;)V"⟩
abbrev cX2_lay : ByteArray := prog_4_method_2_code
def yX2_lay : MethodName := ⟨RX2, "lay", "(IILPickPaths$Route;)V"⟩
abbrev cX2_layNearest : ByteArray := prog_4_method_3_code
def yX2_layNearest : MethodName := ⟨RX2, "layNearest", "(ILPickPaths$Route;)V"⟩
abbrev cX2_nearestFrom : ByteArray := prog_4_method_4_code
def yX2_nearestFrom : MethodName := ⟨RX2, "nearestFrom", "(I)I"⟩
abbrev cX2_layByKeys : ByteArray := prog_4_method_5_code
def yX2_layByKeys : MethodName := ⟨RX2, "layByKeys", "(ILPickPaths$Route;)V"⟩
abbrev cX2_keyOf : ByteArray := prog_4_method_6_code
def yX2_keyOf : MethodName := ⟨RX2, "keyOf", "(II)I"⟩
abbrev cX2_throughKey : ByteArray := prog_4_method_7_code
def yX2_throughKey : MethodName := ⟨RX2, "throughKey", "(I)I"⟩
abbrev cX2_gapKey : ByteArray := prog_4_method_8_code
def yX2_gapKey : MethodName := ⟨RX2, "gapKey", "(I)I"⟩
abbrev cX2_upward : ByteArray := prog_4_method_9_code
def yX2_upward : MethodName := ⟨RX2, "upward", "(II)I"⟩
abbrev cX2_downward : ByteArray := prog_4_method_10_code
def yX2_downward : MethodName := ⟨RX2, "downward", "(II)I"⟩
abbrev cX2_usedAislesBelow : ByteArray := prog_4_method_11_code
def yX2_usedAislesBelow : MethodName := ⟨RX2, "usedAislesBelow", "(I)I"⟩
abbrev cX2_isUsedAbove : ByteArray := prog_4_method_12_code
def yX2_isUsedAbove : MethodName := ⟨RX2, "isUsedAbove", "(I)Z"⟩
abbrev cX2_isUsed : ByteArray := prog_4_method_13_code
def yX2_isUsed : MethodName := ⟨RX2, "isUsed", "(I)Z"⟩
abbrev cX2_gapStart : ByteArray := prog_4_method_14_code
def yX2_gapStart : MethodName := ⟨RX2, "gapStart", "(I)I"⟩
abbrev cX2_nextDepth : ByteArray := prog_4_method_15_code
def yX2_nextDepth : MethodName := ⟨RX2, "nextDepth", "(II)I"⟩
def RX3 : String := "PickPaths$Route"
def TX3 : u_T := fun k => match k with
  | 0 => ("PickPaths$Route", "row", "[I", true)
  | _ => ("PickPaths$Route", "size", "I", false)
def tyX3 : Nat → FieldType := fun k => match k with
  | 0 => .array .int
  | _ => .int
abbrev wsX30 : List Cond := u_ws RX3 TX3 2
theorem nmX3 : ∀ a, a < 2 → ∀ b, b < 2 → a ≠ b → (TX3 a).2.1 ≠ (TX3 b).2.1 := by decide +kernel
theorem tyX3_ok : ∀ k, k < 2 → parseFieldDescriptor (TX3 k).2.2.1 = some (tyX3 k) := by decide +kernel
abbrev cX3_init : ByteArray := prog_5_method_1_code
def yX3_init : MethodName := ⟨RX3, "<init>", "()V"⟩
abbrev cX3_clear : ByteArray := prog_5_method_2_code
def yX3_clear : MethodName := ⟨RX3, "clear", "()V"⟩
abbrev cX3_insert : ByteArray := prog_5_method_3_code
def yX3_insert : MethodName := ⟨RX3, "insert", "(II)V"⟩
abbrev cX3_append : ByteArray := prog_5_method_4_code
def yX3_append : MethodName := ⟨RX3, "append", "(I)V"⟩
abbrev cX3_drop : ByteArray := prog_5_method_5_code
def yX3_drop : MethodName := ⟨RX3, "drop", "(I)V"⟩
def RX4 : String := "PickPaths$Stops"
def TX4 : u_T := fun k => match k with
  | 0 => ("PickPaths$Stops", "aisle", "[I", true)
  | 1 => ("PickPaths$Stops", "place", "[I", true)
  | 2 => ("PickPaths$Stops", "depth", "[I", true)
  | 3 => ("PickPaths$Stops", "pieces", "[I", true)
  | 4 => ("PickPaths$Stops", "state", "[I", true)
  | 5 => ("PickPaths$Stops", "size", "I", false)
  | 6 => ("PickPaths$Stops", "floor", "LPickPaths$Floor;", true)
  | _ => ("PickPaths$Stops", "ways", "[I", true)
def tyX4 : Nat → FieldType := fun k => match k with
  | 0 => .array .int
  | 1 => .array .int
  | 2 => .array .int
  | 3 => .array .int
  | 4 => .array .int
  | 5 => .int
  | 6 => .object "PickPaths$Floor"
  | _ => .array .int
abbrev wsX40 : List Cond := u_ws RX4 TX4 8
theorem nmX4 : ∀ a, a < 8 → ∀ b, b < 8 → a ≠ b → (TX4 a).2.1 ≠ (TX4 b).2.1 := by decide +kernel
theorem tyX4_ok : ∀ k, k < 8 → parseFieldDescriptor (TX4 k).2.2.1 = some (tyX4 k) := by decide +kernel
abbrev cX4_init : ByteArray := prog_6_method_1_code
def yX4_init : MethodName := ⟨RX4, "<init>", "(LPickPaths$Floor;)V"⟩
abbrev cX4_add : ByteArray := prog_6_method_2_code
def yX4_add : MethodName := ⟨RX4, "add", "(III)I"⟩
abbrev cX4_measure : ByteArray := prog_6_method_3_code
def yX4_measure : MethodName := ⟨RX4, "measure", "(II)V"⟩
abbrev cX4_way : ByteArray := prog_6_method_4_code
def yX4_way : MethodName := ⟨RX4, "way", "(II)I"⟩
abbrev cX4_isWalked : ByteArray := prog_6_method_5_code
def yX4_isWalked : MethodName := ⟨RX4, "isWalked", "(I)Z"⟩
abbrev cX4_walkedOnes : ByteArray := prog_6_method_6_code
def yX4_walkedOnes : MethodName := ⟨RX4, "walkedOnes", "()I"⟩
abbrev cX4_doneOnes : ByteArray := prog_6_method_7_code
def yX4_doneOnes : MethodName := ⟨RX4, "doneOnes", "()I"⟩
abbrev cX4_openIn : ByteArray := prog_6_method_8_code
def yX4_openIn : MethodName := ⟨RX4, "openIn", "(I)I"⟩
def RX5 : String := "PickPaths"
def TX5 : u_T := fun k => match k with
  | 0 => ("PickPaths", "floor", "LPickPaths$Floor;", true)
  | 1 => ("PickPaths", "stops", "LPickPaths$Stops;", true)
  | 2 => ("PickPaths", "planner", "LPickPaths$Planner;", true)
  | 3 => ("PickPaths", "route", "LPickPaths$Route;", true)
  | 4 => ("PickPaths", "here", "I", false)
  | 5 => ("PickPaths", "metres", "I", false)
  | _ => ("PickPaths", "cartRoom", "I", false)
def tyX5 : Nat → FieldType := fun k => match k with
  | 0 => .object "PickPaths$Floor"
  | 1 => .object "PickPaths$Stops"
  | 2 => .object "PickPaths$Planner"
  | 3 => .object "PickPaths$Route"
  | 4 => .int
  | 5 => .int
  | _ => .int
abbrev wsX50 : List Cond := u_ws RX5 TX5 7
theorem nmX5 : ∀ a, a < 7 → ∀ b, b < 7 → a ≠ b → (TX5 a).2.1 ≠ (TX5 b).2.1 := by decide +kernel
theorem tyX5_ok : ∀ k, k < 7 → parseFieldDescriptor (TX5 k).2.2.1 = some (tyX5 k) := by decide +kernel
abbrev cX5_init : ByteArray := prog_1_method_1_code
def yX5_init : MethodName := ⟨RX5, "<init>", "(II)V"⟩
abbrev cX5_stop : ByteArray := prog_1_method_2_code
def yX5_stop : MethodName := ⟨RX5, "stop", "(III)I"⟩
abbrev cX5_closed : ByteArray := prog_1_method_3_code
def yX5_closed : MethodName := ⟨RX5, "closed", "(IZ)I"⟩
abbrev cX5_walk : ByteArray := prog_1_method_4_code
def yX5_walk : MethodName := ⟨RX5, "walk", "(I)I"⟩
abbrev cX5_step : ByteArray := prog_1_method_5_code
def yX5_step : MethodName := ⟨RX5, "step", "(I)I"⟩
abbrev cX5_go : ByteArray := prog_1_method_6_code
def yX5_go : MethodName := ⟨RX5, "go", "()I"⟩
abbrev cX5_missing : ByteArray := prog_1_method_7_code
def yX5_missing : MethodName := ⟨RX5, "missing", "(I)I"⟩
abbrev cX5_left : ByteArray := prog_1_method_8_code
def yX5_left : MethodName := ⟨RX5, "left", "()I"⟩
abbrev cX5_bound : ByteArray := prog_1_method_9_code
def yX5_bound : MethodName := ⟨RX5, "bound", "()I"⟩
abbrev cX5_cart : ByteArray := prog_1_method_10_code
def yX5_cart : MethodName := ⟨RX5, "cart", "(I)V"⟩
abbrev cX5_full : ByteArray := prog_1_method_11_code
def yX5_full : MethodName := ⟨RX5, "full", "()I"⟩
abbrev cX5_share : ByteArray := prog_1_method_12_code
def yX5_share : MethodName := ⟨RX5, "share", "(I)I"⟩
abbrev cX5_far : ByteArray := prog_1_method_13_code
def yX5_far : MethodName := ⟨RX5, "far", "(II)I"⟩
abbrev cX5_told : ByteArray := prog_1_method_14_code
def yX5_told : MethodName := ⟨RX5, "told", "(II)I"⟩
abbrev cX5_count : ByteArray := prog_1_method_15_code
def yX5_count : MethodName := ⟨RX5, "count", "(I)I"⟩
abbrev cX5_requireAisle : ByteArray := prog_1_method_16_code
def yX5_requireAisle : MethodName := ⟨RX5, "requireAisle", "(I)V"⟩
abbrev cX5_requireStop : ByteArray := prog_1_method_17_code
def yX5_requireStop : MethodName := ⟨RX5, "requireStop", "(I)V"⟩
abbrev cX5_routeLength : ByteArray := prog_1_method_18_code
def yX5_routeLength : MethodName := ⟨RX5, "routeLength", "()I"⟩
def RX6 : String := "PickPathsModel"
def TX6 : u_T := fun k => match k with
  | 0 => ("PickPathsModel", "code", "I", false)
  | 1 => ("PickPathsModel", "aisles", "I", true)
  | 2 => ("PickPathsModel", "blocks", "I", true)
  | 3 => ("PickPathsModel", "cart", "I", false)
  | 4 => ("PickPathsModel", "metres", "I", false)
  | 5 => ("PickPathsModel", "here", "I", false)
  | 6 => ("PickPathsModel", "shut", "[Z", true)
  | 7 => ("PickPathsModel", "stops", "I", false)
  | 8 => ("PickPathsModel", "aisle", "[I", true)
  | 9 => ("PickPathsModel", "place", "[I", true)
  | 10 => ("PickPathsModel", "pieces", "[I", true)
  | 11 => ("PickPathsModel", "state", "[I", true)
  | 12 => ("PickPathsModel", "size", "I", false)
  | 13 => ("PickPathsModel", "walk", "[I", true)
  | 14 => ("PickPathsModel", "left", "[Z", true)
  | 15 => ("PickPathsModel", "isFront", "[Z", true)
  | 16 => ("PickPathsModel", "few", "[I", true)
  | _ => ("PickPathsModel", "costs", "[I", true)
def tyX6 : Nat → FieldType := fun k => match k with
  | 0 => .int
  | 1 => .int
  | 2 => .int
  | 3 => .int
  | 4 => .int
  | 5 => .int
  | 6 => .array .boolean
  | 7 => .int
  | 8 => .array .int
  | 9 => .array .int
  | 10 => .array .int
  | 11 => .array .int
  | 12 => .int
  | 13 => .array .int
  | 14 => .array .boolean
  | 15 => .array .boolean
  | 16 => .array .int
  | _ => .array .int
abbrev wsX60 : List Cond := u_ws RX6 TX6 18
theorem nmX6 : ∀ a, a < 18 → ∀ b, b < 18 → a ≠ b → (TX6 a).2.1 ≠ (TX6 b).2.1 := by decide +kernel
theorem tyX6_ok : ∀ k, k < 18 → parseFieldDescriptor (TX6 k).2.2.1 = some (tyX6 k) := by decide +kernel
abbrev cX6_init : ByteArray := prog_8_method_1_code
def yX6_init : MethodName := ⟨RX6, "<init>", "(II)V"⟩
abbrev cX6_thrown : ByteArray := prog_8_method_2_code
def yX6_thrown : MethodName := ⟨RX6, "thrown", "()I"⟩
abbrev cX6_in : ByteArray := prog_8_method_3_code
def yX6_in : MethodName := ⟨RX6, "in", "(III)Z"⟩
abbrev cX6_isStop : ByteArray := prog_8_method_4_code
def yX6_isStop : MethodName := ⟨RX6, "isStop", "(I)Z"⟩
abbrev cX6_isAisle : ByteArray := prog_8_method_5_code
def yX6_isAisle : MethodName := ⟨RX6, "isAisle", "(I)Z"⟩
abbrev cX6_stop : ByteArray := prog_8_method_6_code
def yX6_stop : MethodName := ⟨RX6, "stop", "(III)I"⟩
abbrev cX6_closed : ByteArray := prog_8_method_7_code
def yX6_closed : MethodName := ⟨RX6, "closed", "(IZ)I"⟩
abbrev cX6_isWalked : ByteArray := prog_8_method_8_code
def yX6_isWalked : MethodName := ⟨RX6, "isWalked", "(I)Z"⟩
abbrev cX6_walked : ByteArray := prog_8_method_9_code
def yX6_walked : MethodName := ⟨RX6, "walked", "()I"⟩
abbrev cX6_apart : ByteArray := prog_8_method_10_code
def yX6_apart : MethodName := ⟨RX6, "apart", "(II)I"⟩
abbrev cX6_aisleOf : ByteArray := prog_8_method_11_code
def yX6_aisleOf : MethodName := ⟨RX6, "aisleOf", "(I)I"⟩
abbrev cX6_depthOf : ByteArray := prog_8_method_12_code
def yX6_depthOf : MethodName := ⟨RX6, "depthOf", "(I)I"⟩
abbrev cX6_way : ByteArray := prog_8_method_13_code
def yX6_way : MethodName := ⟨RX6, "way", "(II)I"⟩
abbrev cX6_length : ByteArray := prog_8_method_14_code
def yX6_length : MethodName := ⟨RX6, "length", "()I"⟩
abbrev cX6_add : ByteArray := prog_8_method_15_code
def yX6_add : MethodName := ⟨RX6, "add", "(I)V"⟩
abbrev cX6_addAisle : ByteArray := prog_8_method_16_code
def yX6_addAisle : MethodName := ⟨RX6, "addAisle", "(IZZZ)V"⟩
abbrev cX6_hasLeft : ByteArray := prog_8_method_17_code
def yX6_hasLeft : MethodName := ⟨RX6, "hasLeft", "(I)Z"⟩
abbrev cX6_through : ByteArray := prog_8_method_18_code
def yX6_through : MethodName := ⟨RX6, "through", "()V"⟩
abbrev cX6_gap : ByteArray := prog_8_method_19_code
def yX6_gap : MethodName := ⟨RX6, "gap", "(I)I"⟩
abbrev cX6_gaps : ByteArray := prog_8_method_20_code
def yX6_gaps : MethodName := ⟨RX6, "gaps", "()V"⟩
abbrev cX6_nearest : ByteArray := prog_8_method_21_code
def yX6_nearest : MethodName := ⟨RX6, "nearest", "(I)V"⟩
abbrev cX6_least : ByteArray := prog_8_method_22_code
def yX6_least : MethodName := ⟨RX6, "least", "(I)V"⟩
abbrev cX6_walk : ByteArray := prog_8_method_23_code
def yX6_walk : MethodName := ⟨RX6, "walk", "(I)I"⟩
abbrev cX6_step : ByteArray := prog_8_method_24_code
def yX6_step : MethodName := ⟨RX6, "step", "(I)I"⟩
abbrev cX6_remove : ByteArray := prog_8_method_25_code
def yX6_remove : MethodName := ⟨RX6, "remove", "(I)V"⟩
abbrev cX6_go : ByteArray := prog_8_method_26_code
def yX6_go : MethodName := ⟨RX6, "go", "()I"⟩
abbrev cX6_missing : ByteArray := prog_8_method_27_code
def yX6_missing : MethodName := ⟨RX6, "missing", "(I)I"⟩
abbrev cX6_left : ByteArray := prog_8_method_28_code
def yX6_left : MethodName := ⟨RX6, "left", "()I"⟩
abbrev cX6_bound : ByteArray := prog_8_method_29_code
def yX6_bound : MethodName := ⟨RX6, "bound", "()I"⟩
abbrev cX6_cart : ByteArray := prog_8_method_30_code
def yX6_cart : MethodName := ⟨RX6, "cart", "(I)V"⟩
abbrev cX6_full : ByteArray := prog_8_method_31_code
def yX6_full : MethodName := ⟨RX6, "full", "()I"⟩
abbrev cX6_share : ByteArray := prog_8_method_32_code
def yX6_share : MethodName := ⟨RX6, "share", "(I)I"⟩
abbrev cX6_far : ByteArray := prog_8_method_33_code
def yX6_far : MethodName := ⟨RX6, "far", "(II)I"⟩
abbrev cX6_told : ByteArray := prog_8_method_34_code
def yX6_told : MethodName := ⟨RX6, "told", "(II)I"⟩
abbrev cX6_count : ByteArray := prog_8_method_35_code
def yX6_count : MethodName := ⟨RX6, "count", "(I)I"⟩
def RL : String := "PickPathsLaw"
abbrev cL_cell : ByteArray := method_2_code
def yL_cell : MethodName := ⟨RL, "cell", "([II)I"⟩
abbrev cL_stop : ByteArray := method_3_code
def yL_stop : MethodName := ⟨RL, "stop", "(LPickPaths;III[J)I"⟩
abbrev cL_closed : ByteArray := method_4_code
def yL_closed : MethodName := ⟨RL, "closed", "(LPickPaths;IZ[J)I"⟩
abbrev cL_walk : ByteArray := method_5_code
def yL_walk : MethodName := ⟨RL, "walk", "(LPickPaths;I[J)I"⟩
abbrev cL_step : ByteArray := method_6_code
def yL_step : MethodName := ⟨RL, "step", "(LPickPaths;I[J)I"⟩
abbrev cL_go : ByteArray := method_7_code
def yL_go : MethodName := ⟨RL, "go", "(LPickPaths;[J)I"⟩
abbrev cL_missing : ByteArray := method_8_code
def yL_missing : MethodName := ⟨RL, "missing", "(LPickPaths;I[J)I"⟩
abbrev cL_cart : ByteArray := method_9_code
def yL_cart : MethodName := ⟨RL, "cart", "(LPickPaths;I)I"⟩
abbrev cL_share : ByteArray := method_10_code
def yL_share : MethodName := ⟨RL, "share", "(LPickPaths;I[J)I"⟩
abbrev cL_far : ByteArray := method_11_code
def yL_far : MethodName := ⟨RL, "far", "(LPickPaths;II[J)I"⟩
abbrev cL_told : ByteArray := method_12_code
def yL_told : MethodName := ⟨RL, "told", "(LPickPaths;II[J)I"⟩
abbrev cL_law : ByteArray := code
def yL_law : MethodName := ⟨RL, "law", "([I)Z"⟩
abbrev axCl : List vw_C := [(RX0, TX0, 3), (RX1, TX1, 4), (RX2, TX2, 5), (RX3, TX3, 2), (RX4, TX4, 8), (RX5, TX5, 7), (RX6, TX6, 18)]
end
section
/-! The program as data: a row an instruction: its place, the instruction, two numbers that say what it links to (a field: its holder's number and the field's; a call: its kind and the callee's number; a jump: where to). By program out of the listing. -/
abbrev AxI : Type := Nat × Instr × Nat × Nat
def inX0_init : List AxI := [(0, .aload_n 0, 0, 0), (1, .invokespecial 3, 5, 0), (4, .aload_n 0, 0, 0), (5, .bipush 8, 0, 0), (7, .newarray .boolean, 8, 1), (9, .putfield 9, 0, 2), (12, .aload_n 0, 0, 0), (13, .iconst 1, 0, 0), (14, .bipush 8, 0, 0), (16, .iload_n 1, 0, 0), (17, .invokestatic 15, 7, 0), (20, .invokestatic 21, 6, 0), (23, .putfield 24, 0, 0), (26, .aload_n 0, 0, 0), (27, .iconst 1, 0, 0), (28, .iconst 3, 0, 0), (29, .iload_n 2, 0, 0), (30, .invokestatic 15, 7, 0), (33, .invokestatic 21, 6, 0), (36, .putfield 28, 0, 1), (39, .return_, 0, 0)]
def inX0_hasAisle : List AxI := [(0, .iload_n 1, 0, 0), (1, .ifCond .lt 15, 16, 0), (4, .iload_n 1, 0, 0), (5, .aload_n 0, 0, 0), (6, .getfield 24, 0, 0), (9, .if_icmp .ge 7, 16, 0), (12, .iconst 1, 0, 0), (13, .goto 4, 17, 0), (16, .iconst 0, 0, 0), (17, .ireturn, 0, 0)]
def inX0_hasPlace : List AxI := [(0, .iload_n 1, 0, 0), (1, .ifCond .lt 18, 19, 0), (4, .iload_n 1, 0, 0), (5, .bipush 10, 0, 0), (7, .aload_n 0, 0, 0), (8, .getfield 28, 0, 1), (11, .imul, 0, 0), (12, .if_icmp .ge 7, 19, 0), (15, .iconst 1, 0, 0), (16, .goto 4, 20, 0), (19, .iconst 0, 0, 0), (20, .ireturn, 0, 0)]
def inX0_backDepth : List AxI := [(0, .bipush 11, 0, 0), (2, .aload_n 0, 0, 0), (3, .getfield 28, 0, 1), (6, .imul, 0, 0), (7, .ireturn, 0, 0)]
def inX0_placeDepth : List AxI := [(0, .bipush 11, 0, 0), (2, .iload_n 1, 0, 0), (3, .bipush 10, 0, 0), (5, .idiv, 0, 0), (6, .imul, 0, 0), (7, .iconst 1, 0, 0), (8, .iadd, 0, 0), (9, .iload_n 1, 0, 0), (10, .bipush 10, 0, 0), (12, .irem, 0, 0), (13, .iadd, 0, 0), (14, .ireturn, 0, 0)]
def inX0_between : List AxI := [(0, .iload_n 1, 0, 0), (1, .iload_n 3, 0, 0), (2, .if_icmp .ne 11, 13, 0), (5, .iload_n 2, 0, 0), (6, .iload 4, 0, 0), (8, .isub, 0, 0), (9, .invokestatic 31, 8, 0), (12, .ireturn, 0, 0), (13, .ldc 35, 1000000, 0), (15, .istore 5, 0, 0), (17, .iconst 0, 0, 0), (18, .istore 6, 0, 0), (20, .iload 6, 0, 0), (22, .aload_n 0, 0, 0), (23, .getfield 28, 0, 1), (26, .if_icmp .gt 39, 65, 0), (29, .bipush 11, 0, 0), (31, .iload 6, 0, 0), (33, .imul, 0, 0), (34, .istore 7, 0, 0), (36, .iload 5, 0, 0), (38, .iload_n 2, 0, 0), (39, .iload 7, 0, 0), (41, .isub, 0, 0), (42, .invokestatic 31, 8, 0), (45, .iload 4, 0, 0), (47, .iload 7, 0, 0), (49, .isub, 0, 0), (50, .invokestatic 31, 8, 0), (53, .iadd, 0, 0), (54, .invokestatic 15, 7, 0), (57, .istore 5, 0, 0), (59, .iinc 6 1, 0, 0), (62, .goto (-42), 20, 0), (65, .iload 5, 0, 0), (67, .iconst 3, 0, 0), (68, .iload_n 1, 0, 0), (69, .iload_n 3, 0, 0), (70, .isub, 0, 0), (71, .invokestatic 31, 8, 0), (74, .imul, 0, 0), (75, .iadd, 0, 0), (76, .ireturn, 0, 0)]
def inX1_init : List AxI := [(0, .aload_n 0, 0, 0), (1, .invokespecial 3, 5, 0), (4, .aload_n 0, 0, 0), (5, .bipush 8, 0, 0), (7, .newarray .int, 8, 0), (9, .putfield 9, 1, 1), (12, .aload_n 0, 0, 0), (13, .iconst 0, 0, 0), (14, .putfield 15, 1, 2), (17, .aload_n 0, 0, 0), (18, .sipush 2048, 0, 0), (21, .newarray .int, 2048, 0), (23, .putfield 19, 1, 3), (26, .aload_n 0, 0, 0), (27, .aload_n 1, 0, 0), (28, .putfield 22, 1, 0), (31, .return_, 0, 0)]
def inX1_lay : List AxI := [(0, .aload_n 0, 0, 0), (1, .invokevirtual 26, 0, 8), (4, .aload_n 0, 0, 0), (5, .invokevirtual 29, 0, 9), (8, .iload_n 1, 0, 0), (9, .istore_n 3, 0, 0), (10, .iconst 1, 0, 0), (11, .aload_n 0, 0, 0), (12, .getfield 15, 1, 2), (15, .ishl, 0, 0), (16, .iconst 1, 0, 0), (17, .isub, 0, 0), (18, .istore 4, 0, 0), (20, .iconst 0, 0, 0), (21, .istore 5, 0, 0), (23, .iload 5, 0, 0), (25, .aload_n 0, 0, 0), (26, .getfield 15, 1, 2), (29, .if_icmp .ge 42, 71, 0), (32, .aload_n 0, 0, 0), (33, .iload_n 3, 0, 0), (34, .iload 4, 0, 0), (36, .invokevirtual 32, 0, 10), (39, .istore 6, 0, 0), (41, .iload 4, 0, 0), (43, .iconst 1, 0, 0), (44, .iload 6, 0, 0), (46, .ishl, 0, 0), (47, .iconst (-1), 0, 0), (48, .ixor, 0, 0), (49, .iand, 0, 0), (50, .istore 4, 0, 0), (52, .aload_n 0, 0, 0), (53, .getfield 9, 1, 1), (56, .iload 6, 0, 0), (58, .iaload, 0, 0), (59, .istore_n 3, 0, 0), (60, .aload_n 2, 0, 0), (61, .iload_n 3, 0, 0), (62, .invokevirtual 36, 0, 31), (65, .iinc 5 1, 0, 0), (68, .goto (-45), 23, 0), (71, .return_, 0, 0)]
def inX1_gather : List AxI := [(0, .aload_n 0, 0, 0), (1, .iconst 0, 0, 0), (2, .putfield 15, 1, 2), (5, .iconst 0, 0, 0), (6, .istore_n 1, 0, 0), (7, .iload_n 1, 0, 0), (8, .aload_n 0, 0, 0), (9, .getfield 22, 1, 0), (12, .getfield 42, 4, 5), (15, .if_icmp .ge 49, 64, 0), (18, .aload_n 0, 0, 0), (19, .getfield 15, 1, 2), (22, .bipush 8, 0, 0), (24, .if_icmp .ge 40, 64, 0), (27, .aload_n 0, 0, 0), (28, .getfield 22, 1, 0), (31, .iload_n 1, 0, 0), (32, .invokevirtual 45, 0, 37), (35, .ifCond .eq 23, 58, 0), (38, .aload_n 0, 0, 0), (39, .getfield 9, 1, 1), (42, .aload_n 0, 0, 0), (43, .getfield 15, 1, 2), (46, .iload_n 1, 0, 0), (47, .iastore, 0, 0), (48, .aload_n 0, 0, 0), (49, .dup, 0, 0), (50, .getfield 15, 1, 2), (53, .iconst 1, 0, 0), (54, .iadd, 0, 0), (55, .putfield 15, 1, 2), (58, .iinc 1 1, 0, 0), (61, .goto (-54), 7, 0), (64, .return_, 0, 0)]
def inX1_fillRests : List AxI := [(0, .iconst 0, 0, 0), (1, .istore_n 1, 0, 0), (2, .iload_n 1, 0, 0), (3, .aload_n 0, 0, 0), (4, .getfield 15, 1, 2), (7, .if_icmp .ge 30, 37, 0), (10, .aload_n 0, 0, 0), (11, .getfield 19, 1, 3), (14, .iload_n 1, 0, 0), (15, .aload_n 0, 0, 0), (16, .getfield 22, 1, 0), (19, .aload_n 0, 0, 0), (20, .getfield 9, 1, 1), (23, .iload_n 1, 0, 0), (24, .iaload, 0, 0), (25, .bipush 10, 0, 0), (27, .invokevirtual 49, 0, 36), (30, .iastore, 0, 0), (31, .iinc 1 1, 0, 0), (34, .goto (-32), 2, 0), (37, .iconst 1, 0, 0), (38, .istore_n 1, 0, 0), (39, .iload_n 1, 0, 0), (40, .iconst 1, 0, 0), (41, .aload_n 0, 0, 0), (42, .getfield 15, 1, 2), (45, .ishl, 0, 0), (46, .if_icmp .ge 68, 114, 0), (49, .iconst 0, 0, 0), (50, .istore_n 2, 0, 0), (51, .iload_n 2, 0, 0), (52, .aload_n 0, 0, 0), (53, .getfield 15, 1, 2), (56, .if_icmp .ge 52, 108, 0), (59, .iload_n 1, 0, 0), (60, .iload_n 2, 0, 0), (61, .invokestatic 52, 2, 11), (64, .ifCond .ne 38, 102, 0), (67, .aload_n 0, 0, 0), (68, .aload_n 0, 0, 0), (69, .getfield 9, 1, 1), (72, .iload_n 2, 0, 0), (73, .iaload, 0, 0), (74, .iload_n 1, 0, 0), (75, .invokevirtual 32, 0, 10), (78, .istore_n 3, 0, 0), (79, .aload_n 0, 0, 0), (80, .getfield 19, 1, 3), (83, .iload_n 1, 0, 0), (84, .bipush 8, 0, 0), (86, .imul, 0, 0), (87, .iload_n 2, 0, 0), (88, .iadd, 0, 0), (89, .aload_n 0, 0, 0), (90, .aload_n 0, 0, 0), (91, .getfield 9, 1, 1), (94, .iload_n 2, 0, 0), (95, .iaload, 0, 0), (96, .iload_n 1, 0, 0), (97, .iload_n 3, 0, 0), (98, .invokevirtual 56, 0, 12), (101, .iastore, 0, 0), (102, .iinc 2 1, 0, 0), (105, .goto (-54), 51, 0), (108, .iinc 1 1, 0, 0), (111, .goto (-72), 39, 0), (114, .return_, 0, 0)]
def inX1_bestNext : List AxI := [(0, .iconst 0, 0, 0), (1, .istore_n 3, 0, 0), (2, .ldc 60, 1000000, 0), (4, .istore 4, 0, 0), (6, .iconst 0, 0, 0), (7, .istore 5, 0, 0), (9, .iload 5, 0, 0), (11, .aload_n 0, 0, 0), (12, .getfield 15, 1, 2), (15, .if_icmp .ge 42, 57, 0), (18, .iload_n 2, 0, 0), (19, .iload 5, 0, 0), (21, .invokestatic 52, 2, 11), (24, .ifCond .eq 27, 51, 0), (27, .aload_n 0, 0, 0), (28, .iload_n 1, 0, 0), (29, .iload_n 2, 0, 0), (30, .iload 5, 0, 0), (32, .invokevirtual 56, 0, 12), (35, .istore 6, 0, 0), (37, .iload 6, 0, 0), (39, .iload 4, 0, 0), (41, .if_icmp .ge 10, 51, 0), (44, .iload 6, 0, 0), (46, .istore 4, 0, 0), (48, .iload 5, 0, 0), (50, .istore_n 3, 0, 0), (51, .iinc 5 1, 0, 0), (54, .goto (-45), 9, 0), (57, .iload_n 3, 0, 0), (58, .ireturn, 0, 0)]
def inX1_isIn : List AxI := [(0, .iload_n 0, 0, 0), (1, .iload_n 1, 0, 0), (2, .ishr, 0, 0), (3, .iconst 1, 0, 0), (4, .iand, 0, 0), (5, .iconst 1, 0, 0), (6, .if_icmp .ne 7, 13, 0), (9, .iconst 1, 0, 0), (10, .goto 4, 14, 0), (13, .iconst 0, 0, 0), (14, .ireturn, 0, 0)]
def inX1_lengthBy : List AxI := [(0, .aload_n 0, 0, 0), (1, .getfield 22, 1, 0), (4, .iload_n 1, 0, 0), (5, .aload_n 0, 0, 0), (6, .getfield 9, 1, 1), (9, .iload_n 3, 0, 0), (10, .iaload, 0, 0), (11, .invokevirtual 49, 0, 36), (14, .aload_n 0, 0, 0), (15, .getfield 19, 1, 3), (18, .iload_n 2, 0, 0), (19, .iconst 1, 0, 0), (20, .iload_n 3, 0, 0), (21, .ishl, 0, 0), (22, .iconst (-1), 0, 0), (23, .ixor, 0, 0), (24, .iand, 0, 0), (25, .bipush 8, 0, 0), (27, .imul, 0, 0), (28, .iload_n 3, 0, 0), (29, .iadd, 0, 0), (30, .iaload, 0, 0), (31, .iadd, 0, 0), (32, .ireturn, 0, 0)]
def inX2_init : List AxI := [(0, .aload_n 0, 0, 0), (1, .invokespecial 3, 5, 0), (4, .aload_n 0, 0, 0), (5, .bipush 10, 0, 0), (7, .newarray .int, 10, 0), (9, .putfield 9, 2, 3), (12, .aload_n 0, 0, 0), (13, .bipush 10, 0, 0), (15, .newarray .boolean, 10, 1), (17, .putfield 15, 2, 4), (20, .aload_n 0, 0, 0), (21, .aload_n 1, 0, 0), (22, .putfield 19, 2, 0), (25, .aload_n 0, 0, 0), (26, .aload_n 2, 0, 0), (27, .putfield 23, 2, 1), (30, .aload_n 0, 0, 0), (31, .new 27, 1, 0), (34, .dup, 0, 0), (35, .aload_n 2, 0, 0), (36, .invokespecial 29, 1, 6), (39, .putfield 32, 2, 2), (42, .return_, 0, 0)]
def inX2_lay : List AxI := [(0, .aload_n 3, 0, 0), (1, .invokevirtual 36, 0, 29), (4, .iconst 0, 0, 0), (5, .istore 4, 0, 0), (7, .iload 4, 0, 0), (9, .aload_n 0, 0, 0), (10, .getfield 23, 2, 1), (13, .getfield 41, 4, 5), (16, .if_icmp .ge 25, 41, 0), (19, .aload_n 0, 0, 0), (20, .getfield 15, 2, 4), (23, .iload 4, 0, 0), (25, .aload_n 0, 0, 0), (26, .getfield 23, 2, 1), (29, .iload 4, 0, 0), (31, .invokevirtual 47, 0, 37), (34, .bastore, 0, 0), (35, .iinc 4 1, 0, 0), (38, .goto (-31), 7, 0), (41, .iload_n 1, 0, 0), (42, .iconst 4, 0, 0), (43, .if_icmp .ne 15, 58, 0), (46, .aload_n 0, 0, 0), (47, .getfield 32, 2, 2), (50, .iload_n 2, 0, 0), (51, .aload_n 3, 0, 0), (52, .invokevirtual 51, 0, 7), (55, .goto 23, 78, 0), (58, .iload_n 1, 0, 0), (59, .iconst 3, 0, 0), (60, .if_icmp .ne 12, 72, 0), (63, .aload_n 0, 0, 0), (64, .iload_n 2, 0, 0), (65, .aload_n 3, 0, 0), (66, .invokevirtual 55, 0, 15), (69, .goto 9, 78, 0), (72, .aload_n 0, 0, 0), (73, .iload_n 1, 0, 0), (74, .aload_n 3, 0, 0), (75, .invokevirtual 58, 0, 17), (78, .return_, 0, 0)]
def inX2_layNearest : List AxI := [(0, .iload_n 1, 0, 0), (1, .istore_n 3, 0, 0), (2, .aload_n 0, 0, 0), (3, .getfield 23, 2, 1), (6, .invokevirtual 61, 0, 38), (9, .istore 4, 0, 0), (11, .iconst 0, 0, 0), (12, .istore 5, 0, 0), (14, .iload 5, 0, 0), (16, .iload 4, 0, 0), (18, .if_icmp .ge 33, 51, 0), (21, .aload_n 0, 0, 0), (22, .iload_n 3, 0, 0), (23, .invokevirtual 65, 0, 16), (26, .istore 6, 0, 0), (28, .aload_n 0, 0, 0), (29, .getfield 15, 2, 4), (32, .iload 6, 0, 0), (34, .iconst 0, 0, 0), (35, .bastore, 0, 0), (36, .aload_n 2, 0, 0), (37, .iload 6, 0, 0), (39, .invokevirtual 69, 0, 31), (42, .iload 6, 0, 0), (44, .istore_n 3, 0, 0), (45, .iinc 5 1, 0, 0), (48, .goto (-34), 14, 0), (51, .return_, 0, 0)]
def inX2_nearestFrom : List AxI := [(0, .iconst 0, 0, 0), (1, .istore_n 2, 0, 0), (2, .ldc 73, 1000000, 0), (4, .istore_n 3, 0, 0), (5, .iconst 0, 0, 0), (6, .istore 4, 0, 0), (8, .iload 4, 0, 0), (10, .aload_n 0, 0, 0), (11, .getfield 23, 2, 1), (14, .getfield 41, 4, 5), (17, .if_icmp .ge 47, 64, 0), (20, .aload_n 0, 0, 0), (21, .getfield 15, 2, 4), (24, .iload 4, 0, 0), (26, .baload, 0, 0), (27, .ifCond .eq 31, 58, 0), (30, .aload_n 0, 0, 0), (31, .getfield 23, 2, 1), (34, .iload_n 1, 0, 0), (35, .iload 4, 0, 0), (37, .invokevirtual 74, 0, 36), (40, .iload_n 3, 0, 0), (41, .if_icmp .ge 17, 58, 0), (44, .aload_n 0, 0, 0), (45, .getfield 23, 2, 1), (48, .iload_n 1, 0, 0), (49, .iload 4, 0, 0), (51, .invokevirtual 74, 0, 36), (54, .istore_n 3, 0, 0), (55, .iload 4, 0, 0), (57, .istore_n 2, 0, 0), (58, .iinc 4 1, 0, 0), (61, .goto (-53), 8, 0), (64, .iload_n 2, 0, 0), (65, .ireturn, 0, 0)]
def inX2_layByKeys : List AxI := [(0, .iconst 0, 0, 0), (1, .istore_n 3, 0, 0), (2, .iload_n 3, 0, 0), (3, .aload_n 0, 0, 0), (4, .getfield 23, 2, 1), (7, .getfield 41, 4, 5), (10, .if_icmp .ge 77, 87, 0), (13, .aload_n 0, 0, 0), (14, .getfield 15, 2, 4), (17, .iload_n 3, 0, 0), (18, .baload, 0, 0), (19, .ifCond .eq 62, 81, 0), (22, .aload_n 0, 0, 0), (23, .getfield 9, 2, 3), (26, .iload_n 3, 0, 0), (27, .aload_n 0, 0, 0), (28, .iload_n 1, 0, 0), (29, .iload_n 3, 0, 0), (30, .invokevirtual 78, 0, 18), (33, .iastore, 0, 0), (34, .aload_n 2, 0, 0), (35, .getfield 81, 3, 1), (38, .istore 4, 0, 0), (40, .iload 4, 0, 0), (42, .ifCond .le 32, 74, 0), (45, .aload_n 0, 0, 0), (46, .getfield 9, 2, 3), (49, .aload_n 2, 0, 0), (50, .getfield 82, 3, 0), (53, .iload 4, 0, 0), (55, .iconst 1, 0, 0), (56, .isub, 0, 0), (57, .iaload, 0, 0), (58, .iaload, 0, 0), (59, .aload_n 0, 0, 0), (60, .getfield 9, 2, 3), (63, .iload_n 3, 0, 0), (64, .iaload, 0, 0), (65, .if_icmp .le 9, 74, 0), (68, .iinc 4 (-1), 0, 0), (71, .goto (-31), 40, 0), (74, .aload_n 2, 0, 0), (75, .iload 4, 0, 0), (77, .iload_n 3, 0, 0), (78, .invokevirtual 85, 0, 30), (81, .iinc 3 1, 0, 0), (84, .goto (-82), 2, 0), (87, .return_, 0, 0)]
def inX2_keyOf : List AxI := [(0, .iload_n 1, 0, 0), (1, .lookupswitch 48 #[(1, 33), (2, 27)], 0, 0), (28, .aload_n 0, 0, 0), (29, .iload_n 2, 0, 0), (30, .invokevirtual 89, 0, 20), (33, .ireturn, 0, 0), (34, .aload_n 0, 0, 0), (35, .aload_n 0, 0, 0), (36, .getfield 23, 2, 1), (39, .getfield 92, 4, 0), (42, .iload_n 2, 0, 0), (43, .iaload, 0, 0), (44, .iload_n 2, 0, 0), (45, .invokevirtual 95, 0, 21), (48, .ireturn, 0, 0), (49, .aload_n 0, 0, 0), (50, .iload_n 2, 0, 0), (51, .invokevirtual 98, 0, 19), (54, .ireturn, 0, 0)]
def inX2_throughKey : List AxI := [(0, .aload_n 0, 0, 0), (1, .getfield 23, 2, 1), (4, .getfield 92, 4, 0), (7, .iload_n 1, 0, 0), (8, .iaload, 0, 0), (9, .istore_n 2, 0, 0), (10, .aload_n 0, 0, 0), (11, .iload_n 2, 0, 0), (12, .invokevirtual 101, 0, 23), (15, .iconst 2, 0, 0), (16, .irem, 0, 0), (17, .ifCond .ne 7, 24, 0), (20, .iconst 1, 0, 0), (21, .goto 4, 25, 0), (24, .iconst 0, 0, 0), (25, .istore_n 3, 0, 0), (26, .iload_n 3, 0, 0), (27, .ifCond .eq 12, 39, 0), (30, .aload_n 0, 0, 0), (31, .iload_n 2, 0, 0), (32, .iload_n 1, 0, 0), (33, .invokevirtual 95, 0, 21), (36, .goto 9, 45, 0), (39, .aload_n 0, 0, 0), (40, .iload_n 2, 0, 0), (41, .iload_n 1, 0, 0), (42, .invokevirtual 104, 0, 22), (45, .ireturn, 0, 0)]
def inX2_gapKey : List AxI := [(0, .aload_n 0, 0, 0), (1, .getfield 23, 2, 1), (4, .getfield 92, 4, 0), (7, .iload_n 1, 0, 0), (8, .iaload, 0, 0), (9, .istore_n 2, 0, 0), (10, .aload_n 0, 0, 0), (11, .iload_n 2, 0, 0), (12, .invokevirtual 101, 0, 23), (15, .ifCond .ne 10, 25, 0), (18, .aload_n 0, 0, 0), (19, .iconst 0, 0, 0), (20, .iload_n 1, 0, 0), (21, .invokevirtual 95, 0, 21), (24, .ireturn, 0, 0), (25, .aload_n 0, 0, 0), (26, .iload_n 2, 0, 0), (27, .invokevirtual 107, 0, 24), (30, .ifCond .ne 11, 41, 0), (33, .aload_n 0, 0, 0), (34, .bipush 8, 0, 0), (36, .iload_n 1, 0, 0), (37, .invokevirtual 104, 0, 22), (40, .ireturn, 0, 0), (41, .aload_n 0, 0, 0), (42, .getfield 23, 2, 1), (45, .getfield 110, 4, 2), (48, .iload_n 1, 0, 0), (49, .iaload, 0, 0), (50, .aload_n 0, 0, 0), (51, .iload_n 2, 0, 0), (52, .invokevirtual 113, 0, 26), (55, .if_icmp .le 10, 65, 0), (58, .aload_n 0, 0, 0), (59, .iload_n 2, 0, 0), (60, .iload_n 1, 0, 0), (61, .invokevirtual 104, 0, 22), (64, .ireturn, 0, 0), (65, .aload_n 0, 0, 0), (66, .bipush 16, 0, 0), (68, .iload_n 2, 0, 0), (69, .isub, 0, 0), (70, .iload_n 1, 0, 0), (71, .invokevirtual 95, 0, 21), (74, .ireturn, 0, 0)]
def inX2_upward : List AxI := [(0, .iload_n 1, 0, 0), (1, .bipush 30, 0, 0), (3, .imul, 0, 0), (4, .aload_n 0, 0, 0), (5, .getfield 23, 2, 1), (8, .getfield 116, 4, 1), (11, .iload_n 2, 0, 0), (12, .iaload, 0, 0), (13, .iadd, 0, 0), (14, .ireturn, 0, 0)]
def inX2_downward : List AxI := [(0, .iload_n 1, 0, 0), (1, .bipush 30, 0, 0), (3, .imul, 0, 0), (4, .bipush 30, 0, 0), (6, .iadd, 0, 0), (7, .iconst 1, 0, 0), (8, .isub, 0, 0), (9, .aload_n 0, 0, 0), (10, .getfield 23, 2, 1), (13, .getfield 116, 4, 1), (16, .iload_n 2, 0, 0), (17, .iaload, 0, 0), (18, .isub, 0, 0), (19, .ireturn, 0, 0)]
def inX2_usedAislesBelow : List AxI := [(0, .iconst 0, 0, 0), (1, .istore_n 2, 0, 0), (2, .iconst 0, 0, 0), (3, .istore_n 3, 0, 0), (4, .iload_n 3, 0, 0), (5, .iload_n 1, 0, 0), (6, .if_icmp .ge 20, 26, 0), (9, .aload_n 0, 0, 0), (10, .iload_n 3, 0, 0), (11, .invokevirtual 119, 0, 25), (14, .ifCond .eq 6, 20, 0), (17, .iinc 2 1, 0, 0), (20, .iinc 3 1, 0, 0), (23, .goto (-19), 4, 0), (26, .iload_n 2, 0, 0), (27, .ireturn, 0, 0)]
def inX2_isUsedAbove : List AxI := [(0, .iload_n 1, 0, 0), (1, .iconst 1, 0, 0), (2, .iadd, 0, 0), (3, .istore_n 2, 0, 0), (4, .iload_n 2, 0, 0), (5, .aload_n 0, 0, 0), (6, .getfield 19, 2, 0), (9, .getfield 122, 0, 0), (12, .if_icmp .ge 19, 31, 0), (15, .aload_n 0, 0, 0), (16, .iload_n 2, 0, 0), (17, .invokevirtual 119, 0, 25), (20, .ifCond .eq 5, 25, 0), (23, .iconst 1, 0, 0), (24, .ireturn, 0, 0), (25, .iinc 2 1, 0, 0), (28, .goto (-24), 4, 0), (31, .iconst 0, 0, 0), (32, .ireturn, 0, 0)]
def inX2_isUsed : List AxI := [(0, .iconst 0, 0, 0), (1, .istore_n 2, 0, 0), (2, .iload_n 2, 0, 0), (3, .aload_n 0, 0, 0), (4, .getfield 23, 2, 1), (7, .getfield 41, 4, 5), (10, .if_icmp .ge 33, 43, 0), (13, .aload_n 0, 0, 0), (14, .getfield 15, 2, 4), (17, .iload_n 2, 0, 0), (18, .baload, 0, 0), (19, .ifCond .eq 18, 37, 0), (22, .aload_n 0, 0, 0), (23, .getfield 23, 2, 1), (26, .getfield 92, 4, 0), (29, .iload_n 2, 0, 0), (30, .iaload, 0, 0), (31, .iload_n 1, 0, 0), (32, .if_icmp .ne 5, 37, 0), (35, .iconst 1, 0, 0), (36, .ireturn, 0, 0), (37, .iinc 2 1, 0, 0), (40, .goto (-38), 2, 0), (43, .iconst 0, 0, 0), (44, .ireturn, 0, 0)]
def inX2_gapStart : List AxI := [(0, .iconst 0, 0, 0), (1, .istore_n 2, 0, 0), (2, .iconst 0, 0, 0), (3, .istore_n 3, 0, 0), (4, .iconst 0, 0, 0), (5, .istore 4, 0, 0), (7, .iconst 0, 0, 0), (8, .istore 5, 0, 0), (10, .iload 5, 0, 0), (12, .aload_n 0, 0, 0), (13, .getfield 23, 2, 1), (16, .getfield 41, 4, 5), (19, .if_icmp .gt 40, 59, 0), (22, .aload_n 0, 0, 0), (23, .iload_n 1, 0, 0), (24, .iload 4, 0, 0), (26, .invokevirtual 127, 0, 27), (29, .istore 6, 0, 0), (31, .iload 6, 0, 0), (33, .iload 4, 0, 0), (35, .isub, 0, 0), (36, .iload_n 3, 0, 0), (37, .if_icmp .le 12, 49, 0), (40, .iload 6, 0, 0), (42, .iload 4, 0, 0), (44, .isub, 0, 0), (45, .istore_n 3, 0, 0), (46, .iload 4, 0, 0), (48, .istore_n 2, 0, 0), (49, .iload 6, 0, 0), (51, .istore 4, 0, 0), (53, .iinc 5 1, 0, 0), (56, .goto (-46), 10, 0), (59, .iload_n 2, 0, 0), (60, .ireturn, 0, 0)]
def inX2_nextDepth : List AxI := [(0, .aload_n 0, 0, 0), (1, .getfield 19, 2, 0), (4, .invokevirtual 130, 0, 3), (7, .istore_n 3, 0, 0), (8, .iconst 0, 0, 0), (9, .istore 4, 0, 0), (11, .iload 4, 0, 0), (13, .aload_n 0, 0, 0), (14, .getfield 23, 2, 1), (17, .getfield 41, 4, 5), (20, .if_icmp .ge 62, 82, 0), (23, .aload_n 0, 0, 0), (24, .getfield 15, 2, 4), (27, .iload 4, 0, 0), (29, .baload, 0, 0), (30, .ifCond .eq 46, 76, 0), (33, .aload_n 0, 0, 0), (34, .getfield 23, 2, 1), (37, .getfield 92, 4, 0), (40, .iload 4, 0, 0), (42, .iaload, 0, 0), (43, .iload_n 1, 0, 0), (44, .if_icmp .ne 32, 76, 0), (47, .aload_n 0, 0, 0), (48, .getfield 23, 2, 1), (51, .getfield 110, 4, 2), (54, .iload 4, 0, 0), (56, .iaload, 0, 0), (57, .iload_n 2, 0, 0), (58, .if_icmp .le 18, 76, 0), (61, .iload_n 3, 0, 0), (62, .aload_n 0, 0, 0), (63, .getfield 23, 2, 1), (66, .getfield 110, 4, 2), (69, .iload 4, 0, 0), (71, .iaload, 0, 0), (72, .invokestatic 133, 7, 0), (75, .istore_n 3, 0, 0), (76, .iinc 4 1, 0, 0), (79, .goto (-68), 11, 0), (82, .iload_n 3, 0, 0), (83, .ireturn, 0, 0)]
def inX3_init : List AxI := [(0, .aload_n 0, 0, 0), (1, .invokespecial 3, 5, 0), (4, .aload_n 0, 0, 0), (5, .bipush 10, 0, 0), (7, .newarray .int, 10, 0), (9, .putfield 9, 3, 0), (12, .aload_n 0, 0, 0), (13, .iconst 0, 0, 0), (14, .putfield 15, 3, 1), (17, .return_, 0, 0)]
def inX3_clear : List AxI := [(0, .aload_n 0, 0, 0), (1, .iconst 0, 0, 0), (2, .putfield 15, 3, 1), (5, .return_, 0, 0)]
def inX3_insert : List AxI := [(0, .aload_n 0, 0, 0), (1, .getfield 15, 3, 1), (4, .aload_n 0, 0, 0), (5, .getfield 9, 3, 0), (8, .arraylength, 0, 0), (9, .if_icmp .lt 4, 13, 0), (12, .return_, 0, 0), (13, .aload_n 0, 0, 0), (14, .getfield 15, 3, 1), (17, .istore_n 3, 0, 0), (18, .iload_n 3, 0, 0), (19, .iload_n 1, 0, 0), (20, .if_icmp .le 23, 43, 0), (23, .aload_n 0, 0, 0), (24, .getfield 9, 3, 0), (27, .iload_n 3, 0, 0), (28, .aload_n 0, 0, 0), (29, .getfield 9, 3, 0), (32, .iload_n 3, 0, 0), (33, .iconst 1, 0, 0), (34, .isub, 0, 0), (35, .iaload, 0, 0), (36, .iastore, 0, 0), (37, .iinc 3 (-1), 0, 0), (40, .goto (-22), 18, 0), (43, .aload_n 0, 0, 0), (44, .getfield 9, 3, 0), (47, .iload_n 1, 0, 0), (48, .iload_n 2, 0, 0), (49, .iastore, 0, 0), (50, .aload_n 0, 0, 0), (51, .dup, 0, 0), (52, .getfield 15, 3, 1), (55, .iconst 1, 0, 0), (56, .iadd, 0, 0), (57, .putfield 15, 3, 1), (60, .return_, 0, 0)]
def inX3_append : List AxI := [(0, .aload_n 0, 0, 0), (1, .aload_n 0, 0, 0), (2, .getfield 15, 3, 1), (5, .iload_n 1, 0, 0), (6, .invokevirtual 19, 0, 30), (9, .return_, 0, 0)]
def inX3_drop : List AxI := [(0, .iconst 0, 0, 0), (1, .istore_n 2, 0, 0), (2, .iconst 0, 0, 0), (3, .istore_n 3, 0, 0), (4, .iload_n 3, 0, 0), (5, .aload_n 0, 0, 0), (6, .getfield 15, 3, 1), (9, .if_icmp .ge 34, 43, 0), (12, .aload_n 0, 0, 0), (13, .getfield 9, 3, 0), (16, .iload_n 3, 0, 0), (17, .iaload, 0, 0), (18, .iload_n 1, 0, 0), (19, .if_icmp .eq 18, 37, 0), (22, .aload_n 0, 0, 0), (23, .getfield 9, 3, 0), (26, .iload_n 2, 0, 0), (27, .aload_n 0, 0, 0), (28, .getfield 9, 3, 0), (31, .iload_n 3, 0, 0), (32, .iaload, 0, 0), (33, .iastore, 0, 0), (34, .iinc 2 1, 0, 0), (37, .iinc 3 1, 0, 0), (40, .goto (-36), 4, 0), (43, .aload_n 0, 0, 0), (44, .iload_n 2, 0, 0), (45, .putfield 15, 3, 1), (48, .return_, 0, 0)]
def inX4_init : List AxI := [(0, .aload_n 0, 0, 0), (1, .invokespecial 3, 5, 0), (4, .aload_n 0, 0, 0), (5, .bipush 11, 0, 0), (7, .newarray .int, 11, 0), (9, .putfield 9, 4, 0), (12, .aload_n 0, 0, 0), (13, .bipush 11, 0, 0), (15, .newarray .int, 11, 0), (17, .putfield 15, 4, 1), (20, .aload_n 0, 0, 0), (21, .bipush 11, 0, 0), (23, .newarray .int, 11, 0), (25, .putfield 18, 4, 2), (28, .aload_n 0, 0, 0), (29, .bipush 11, 0, 0), (31, .newarray .int, 11, 0), (33, .putfield 21, 4, 3), (36, .aload_n 0, 0, 0), (37, .bipush 11, 0, 0), (39, .newarray .int, 11, 0), (41, .putfield 24, 4, 4), (44, .aload_n 0, 0, 0), (45, .iconst 0, 0, 0), (46, .putfield 27, 4, 5), (49, .aload_n 0, 0, 0), (50, .bipush 121, 0, 0), (52, .newarray .int, 121, 0), (54, .putfield 31, 4, 7), (57, .aload_n 0, 0, 0), (58, .aload_n 1, 0, 0), (59, .putfield 34, 4, 6), (62, .return_, 0, 0)]
def inX4_add : List AxI := [(0, .aload_n 0, 0, 0), (1, .getfield 27, 4, 5), (4, .istore 4, 0, 0), (6, .aload_n 0, 0, 0), (7, .getfield 9, 4, 0), (10, .iload 4, 0, 0), (12, .iload_n 1, 0, 0), (13, .iastore, 0, 0), (14, .aload_n 0, 0, 0), (15, .getfield 15, 4, 1), (18, .iload 4, 0, 0), (20, .iload_n 2, 0, 0), (21, .iastore, 0, 0), (22, .aload_n 0, 0, 0), (23, .getfield 18, 4, 2), (26, .iload 4, 0, 0), (28, .aload_n 0, 0, 0), (29, .getfield 34, 4, 6), (32, .iload_n 2, 0, 0), (33, .invokevirtual 38, 0, 4), (36, .iastore, 0, 0), (37, .aload_n 0, 0, 0), (38, .getfield 21, 4, 3), (41, .iload 4, 0, 0), (43, .iload_n 3, 0, 0), (44, .iastore, 0, 0), (45, .aload_n 0, 0, 0), (46, .getfield 24, 4, 4), (49, .iload 4, 0, 0), (51, .iconst 0, 0, 0), (52, .iastore, 0, 0), (53, .iconst 0, 0, 0), (54, .istore 5, 0, 0), (56, .iload 5, 0, 0), (58, .iload 4, 0, 0), (60, .if_icmp .ge 17, 77, 0), (63, .aload_n 0, 0, 0), (64, .iload 4, 0, 0), (66, .iload 5, 0, 0), (68, .invokevirtual 44, 0, 35), (71, .iinc 5 1, 0, 0), (74, .goto (-18), 56, 0), (77, .aload_n 0, 0, 0), (78, .iload 4, 0, 0), (80, .bipush 10, 0, 0), (82, .invokevirtual 44, 0, 35), (85, .aload_n 0, 0, 0), (86, .dup, 0, 0), (87, .getfield 27, 4, 5), (90, .iconst 1, 0, 0), (91, .iadd, 0, 0), (92, .putfield 27, 4, 5), (95, .iload 4, 0, 0), (97, .ireturn, 0, 0)]
def inX4_measure : List AxI := [(0, .aload_n 0, 0, 0), (1, .getfield 34, 4, 6), (4, .aload_n 0, 0, 0), (5, .getfield 9, 4, 0), (8, .iload_n 1, 0, 0), (9, .iaload, 0, 0), (10, .aload_n 0, 0, 0), (11, .getfield 18, 4, 2), (14, .iload_n 1, 0, 0), (15, .iaload, 0, 0), (16, .aload_n 0, 0, 0), (17, .getfield 9, 4, 0), (20, .iload_n 2, 0, 0), (21, .iaload, 0, 0), (22, .aload_n 0, 0, 0), (23, .getfield 18, 4, 2), (26, .iload_n 2, 0, 0), (27, .iaload, 0, 0), (28, .invokevirtual 48, 0, 5), (31, .istore_n 3, 0, 0), (32, .aload_n 0, 0, 0), (33, .getfield 31, 4, 7), (36, .iload_n 1, 0, 0), (37, .bipush 11, 0, 0), (39, .imul, 0, 0), (40, .iload_n 2, 0, 0), (41, .iadd, 0, 0), (42, .iload_n 3, 0, 0), (43, .iastore, 0, 0), (44, .aload_n 0, 0, 0), (45, .getfield 31, 4, 7), (48, .iload_n 2, 0, 0), (49, .bipush 11, 0, 0), (51, .imul, 0, 0), (52, .iload_n 1, 0, 0), (53, .iadd, 0, 0), (54, .iload_n 3, 0, 0), (55, .iastore, 0, 0), (56, .return_, 0, 0)]
def inX4_way : List AxI := [(0, .aload_n 0, 0, 0), (1, .getfield 31, 4, 7), (4, .iload_n 1, 0, 0), (5, .bipush 11, 0, 0), (7, .imul, 0, 0), (8, .iload_n 2, 0, 0), (9, .iadd, 0, 0), (10, .iaload, 0, 0), (11, .ireturn, 0, 0)]
def inX4_isWalked : List AxI := [(0, .aload_n 0, 0, 0), (1, .getfield 24, 4, 4), (4, .iload_n 1, 0, 0), (5, .iaload, 0, 0), (6, .ifCond .ne 33, 39, 0), (9, .aload_n 0, 0, 0), (10, .getfield 21, 4, 3), (13, .iload_n 1, 0, 0), (14, .iaload, 0, 0), (15, .ifCond .le 24, 39, 0), (18, .aload_n 0, 0, 0), (19, .getfield 34, 4, 6), (22, .getfield 52, 0, 2), (25, .aload_n 0, 0, 0), (26, .getfield 9, 4, 0), (29, .iload_n 1, 0, 0), (30, .iaload, 0, 0), (31, .baload, 0, 0), (32, .ifCond .ne 7, 39, 0), (35, .iconst 1, 0, 0), (36, .goto 4, 40, 0), (39, .iconst 0, 0, 0), (40, .ireturn, 0, 0)]
def inX4_walkedOnes : List AxI := [(0, .iconst 0, 0, 0), (1, .istore_n 1, 0, 0), (2, .iconst 0, 0, 0), (3, .istore_n 2, 0, 0), (4, .iload_n 2, 0, 0), (5, .aload_n 0, 0, 0), (6, .getfield 27, 4, 5), (9, .if_icmp .ge 20, 29, 0), (12, .aload_n 0, 0, 0), (13, .iload_n 2, 0, 0), (14, .invokevirtual 56, 0, 37), (17, .ifCond .eq 6, 23, 0), (20, .iinc 1 1, 0, 0), (23, .iinc 2 1, 0, 0), (26, .goto (-22), 4, 0), (29, .iload_n 1, 0, 0), (30, .ireturn, 0, 0)]
def inX4_doneOnes : List AxI := [(0, .iconst 0, 0, 0), (1, .istore_n 1, 0, 0), (2, .iconst 0, 0, 0), (3, .istore_n 2, 0, 0), (4, .iload_n 2, 0, 0), (5, .aload_n 0, 0, 0), (6, .getfield 27, 4, 5), (9, .if_icmp .ge 22, 31, 0), (12, .aload_n 0, 0, 0), (13, .getfield 24, 4, 4), (16, .iload_n 2, 0, 0), (17, .iaload, 0, 0), (18, .iconst 1, 0, 0), (19, .if_icmp .ne 6, 25, 0), (22, .iinc 1 1, 0, 0), (25, .iinc 2 1, 0, 0), (28, .goto (-24), 4, 0), (31, .iload_n 1, 0, 0), (32, .ireturn, 0, 0)]
def inX4_openIn : List AxI := [(0, .iconst 0, 0, 0), (1, .istore_n 2, 0, 0), (2, .iconst 0, 0, 0), (3, .istore_n 3, 0, 0), (4, .iload_n 3, 0, 0), (5, .aload_n 0, 0, 0), (6, .getfield 27, 4, 5), (9, .if_icmp .ge 31, 40, 0), (12, .aload_n 0, 0, 0), (13, .getfield 9, 4, 0), (16, .iload_n 3, 0, 0), (17, .iaload, 0, 0), (18, .iload_n 1, 0, 0), (19, .if_icmp .ne 15, 34, 0), (22, .aload_n 0, 0, 0), (23, .getfield 24, 4, 4), (26, .iload_n 3, 0, 0), (27, .iaload, 0, 0), (28, .ifCond .ne 6, 34, 0), (31, .iinc 2 1, 0, 0), (34, .iinc 3 1, 0, 0), (37, .goto (-33), 4, 0), (40, .iload_n 2, 0, 0), (41, .ireturn, 0, 0)]
def inX5_init : List AxI := [(0, .aload_n 0, 0, 0), (1, .invokespecial 3, 5, 0), (4, .aload_n 0, 0, 0), (5, .new 9, 3, 0), (8, .dup, 0, 0), (9, .invokespecial 11, 4, 28), (12, .putfield 12, 5, 3), (15, .aload_n 0, 0, 0), (16, .bipush 10, 0, 0), (18, .putfield 16, 5, 4), (21, .aload_n 0, 0, 0), (22, .iconst 0, 0, 0), (23, .putfield 20, 5, 5), (26, .aload_n 0, 0, 0), (27, .bipush 100, 0, 0), (29, .putfield 23, 5, 6), (32, .aload_n 0, 0, 0), (33, .new 26, 0, 0), (36, .dup, 0, 0), (37, .iload_n 1, 0, 0), (38, .iload_n 2, 0, 0), (39, .invokespecial 28, 1, 0), (42, .putfield 31, 5, 0), (45, .aload_n 0, 0, 0), (46, .new 35, 4, 0), (49, .dup, 0, 0), (50, .aload_n 0, 0, 0), (51, .getfield 31, 5, 0), (54, .invokespecial 37, 1, 33), (57, .putfield 40, 5, 1), (60, .aload_n 0, 0, 0), (61, .new 44, 2, 0), (64, .dup, 0, 0), (65, .aload_n 0, 0, 0), (66, .getfield 31, 5, 0), (69, .aload_n 0, 0, 0), (70, .getfield 40, 5, 1), (73, .invokespecial 46, 1, 13), (76, .putfield 49, 5, 2), (79, .return_, 0, 0)]
def inX5_stop : List AxI := [(0, .aload_n 0, 0, 0), (1, .iload_n 1, 0, 0), (2, .invokevirtual 53, 0, 56), (5, .aload_n 0, 0, 0), (6, .getfield 31, 5, 0), (9, .iload_n 2, 0, 0), (10, .invokevirtual 57, 0, 2), (13, .ifCond .ne 13, 26, 0), (16, .new 61, 101, 0), (19, .dup, 0, 0), (20, .ldc 63, 0, 0), (22, .invokespecial 65, 9, 1), (25, .athrow, 0, 0), (26, .iload_n 3, 0, 0), (27, .ifCond .lt 9, 36, 0), (30, .iload_n 3, 0, 0), (31, .bipush 100, 0, 0), (33, .if_icmp .le 13, 46, 0), (36, .new 61, 101, 1), (39, .dup, 0, 0), (40, .ldc 68, 0, 0), (42, .invokespecial 65, 9, 1), (45, .athrow, 0, 0), (46, .aload_n 0, 0, 0), (47, .getfield 40, 5, 1), (50, .getfield 70, 4, 5), (53, .bipush 10, 0, 0), (55, .if_icmp .lt 13, 68, 0), (58, .new 73, 102, 2), (61, .dup, 0, 0), (62, .ldc 75, 0, 0), (64, .invokespecial 77, 9, 2), (67, .athrow, 0, 0), (68, .aload_n 0, 0, 0), (69, .getfield 40, 5, 1), (72, .iload_n 1, 0, 0), (73, .iload_n 2, 0, 0), (74, .iload_n 3, 0, 0), (75, .invokevirtual 78, 0, 34), (78, .ireturn, 0, 0)]
def inX5_closed : List AxI := [(0, .aload_n 0, 0, 0), (1, .iload_n 1, 0, 0), (2, .invokevirtual 53, 0, 56), (5, .aload_n 0, 0, 0), (6, .getfield 31, 5, 0), (9, .getfield 82, 0, 2), (12, .iload_n 1, 0, 0), (13, .iload_n 2, 0, 0), (14, .bastore, 0, 0), (15, .aload_n 0, 0, 0), (16, .getfield 40, 5, 1), (19, .iload_n 1, 0, 0), (20, .invokevirtual 86, 0, 40), (23, .ireturn, 0, 0)]
def inX5_walk : List AxI := [(0, .iload_n 1, 0, 0), (1, .ifCond .lt 8, 9, 0), (4, .iload_n 1, 0, 0), (5, .iconst 4, 0, 0), (6, .if_icmp .le 13, 19, 0), (9, .new 61, 101, 3), (12, .dup, 0, 0), (13, .ldc 90, 0, 0), (15, .invokespecial 65, 9, 1), (18, .athrow, 0, 0), (19, .iload_n 1, 0, 0), (20, .iconst 4, 0, 0), (21, .if_icmp .ne 25, 46, 0), (24, .aload_n 0, 0, 0), (25, .getfield 40, 5, 1), (28, .invokevirtual 92, 0, 38), (31, .bipush 8, 0, 0), (33, .if_icmp .le 13, 46, 0), (36, .new 96, 103, 4), (39, .dup, 0, 0), (40, .ldc 98, 0, 0), (42, .invokespecial 100, 9, 3), (45, .athrow, 0, 0), (46, .aload_n 0, 0, 0), (47, .getfield 49, 5, 2), (50, .iload_n 1, 0, 0), (51, .aload_n 0, 0, 0), (52, .getfield 16, 5, 4), (55, .aload_n 0, 0, 0), (56, .getfield 12, 5, 3), (59, .invokevirtual 101, 0, 14), (62, .aload_n 0, 0, 0), (63, .invokevirtual 105, 0, 58), (66, .ireturn, 0, 0)]
def inX5_step : List AxI := [(0, .iload_n 1, 0, 0), (1, .ifCond .lt 14, 15, 0), (4, .iload_n 1, 0, 0), (5, .aload_n 0, 0, 0), (6, .getfield 12, 5, 3), (9, .getfield 108, 3, 1), (12, .if_icmp .lt 13, 25, 0), (15, .new 109, 104, 5), (18, .dup, 0, 0), (19, .ldc 111, 0, 0), (21, .invokespecial 113, 9, 4), (24, .athrow, 0, 0), (25, .aload_n 0, 0, 0), (26, .getfield 12, 5, 3), (29, .getfield 114, 3, 0), (32, .iload_n 1, 0, 0), (33, .iaload, 0, 0), (34, .ireturn, 0, 0)]
def inX5_go : List AxI := [(0, .aload_n 0, 0, 0), (1, .getfield 12, 5, 3), (4, .getfield 108, 3, 1), (7, .ifCond .ne 13, 20, 0), (10, .new 96, 103, 6), (13, .dup, 0, 0), (14, .ldc 118, 0, 0), (16, .invokespecial 100, 9, 3), (19, .athrow, 0, 0), (20, .aload_n 0, 0, 0), (21, .getfield 12, 5, 3), (24, .getfield 114, 3, 0), (27, .iconst 0, 0, 0), (28, .iaload, 0, 0), (29, .istore_n 1, 0, 0), (30, .aload_n 0, 0, 0), (31, .getfield 31, 5, 0), (34, .getfield 82, 0, 2), (37, .aload_n 0, 0, 0), (38, .getfield 40, 5, 1), (41, .getfield 120, 4, 0), (44, .iload_n 1, 0, 0), (45, .iaload, 0, 0), (46, .baload, 0, 0), (47, .ifCond .eq 13, 60, 0), (50, .new 96, 103, 7), (53, .dup, 0, 0), (54, .ldc 123, 0, 0), (56, .invokespecial 100, 9, 3), (59, .athrow, 0, 0), (60, .aload_n 0, 0, 0), (61, .dup, 0, 0), (62, .getfield 20, 5, 5), (65, .aload_n 0, 0, 0), (66, .getfield 40, 5, 1), (69, .aload_n 0, 0, 0), (70, .getfield 16, 5, 4), (73, .iload_n 1, 0, 0), (74, .invokevirtual 125, 0, 36), (77, .iadd, 0, 0), (78, .putfield 20, 5, 5), (81, .aload_n 0, 0, 0), (82, .getfield 40, 5, 1), (85, .getfield 129, 4, 4), (88, .iload_n 1, 0, 0), (89, .iconst 1, 0, 0), (90, .iastore, 0, 0), (91, .aload_n 0, 0, 0), (92, .iload_n 1, 0, 0), (93, .putfield 16, 5, 4), (96, .aload_n 0, 0, 0), (97, .getfield 12, 5, 3), (100, .iload_n 1, 0, 0), (101, .invokevirtual 132, 0, 32), (104, .iload_n 1, 0, 0), (105, .ireturn, 0, 0)]
def inX5_missing : List AxI := [(0, .aload_n 0, 0, 0), (1, .iload_n 1, 0, 0), (2, .invokevirtual 135, 0, 57), (5, .aload_n 0, 0, 0), (6, .getfield 40, 5, 1), (9, .getfield 129, 4, 4), (12, .iload_n 1, 0, 0), (13, .iaload, 0, 0), (14, .ifCond .eq 13, 27, 0), (17, .new 96, 103, 8), (20, .dup, 0, 0), (21, .ldc 138, 0, 0), (23, .invokespecial 100, 9, 3), (26, .athrow, 0, 0), (27, .aload_n 0, 0, 0), (28, .getfield 40, 5, 1), (31, .getfield 129, 4, 4), (34, .iload_n 1, 0, 0), (35, .iconst 2, 0, 0), (36, .iastore, 0, 0), (37, .aload_n 0, 0, 0), (38, .getfield 12, 5, 3), (41, .iload_n 1, 0, 0), (42, .invokevirtual 132, 0, 32), (45, .aload_n 0, 0, 0), (46, .invokevirtual 105, 0, 58), (49, .ireturn, 0, 0)]
def inX5_left : List AxI := [(0, .aload_n 0, 0, 0), (1, .invokevirtual 105, 0, 58), (4, .ireturn, 0, 0)]
def inX5_bound : List AxI := [(0, .iconst 0, 0, 0), (1, .istore_n 1, 0, 0), (2, .iconst 0, 0, 0), (3, .istore_n 2, 0, 0), (4, .iload_n 2, 0, 0), (5, .aload_n 0, 0, 0), (6, .getfield 40, 5, 1), (9, .getfield 70, 4, 5), (12, .if_icmp .ge 48, 60, 0), (15, .aload_n 0, 0, 0), (16, .getfield 40, 5, 1), (19, .iload_n 2, 0, 0), (20, .invokevirtual 140, 0, 37), (23, .ifCond .eq 31, 54, 0), (26, .iload_n 1, 0, 0), (27, .aload_n 0, 0, 0), (28, .getfield 40, 5, 1), (31, .aload_n 0, 0, 0), (32, .getfield 16, 5, 4), (35, .iload_n 2, 0, 0), (36, .invokevirtual 125, 0, 36), (39, .aload_n 0, 0, 0), (40, .getfield 40, 5, 1), (43, .iload_n 2, 0, 0), (44, .bipush 10, 0, 0), (46, .invokevirtual 125, 0, 36), (49, .iadd, 0, 0), (50, .invokestatic 143, 6, 0), (53, .istore_n 1, 0, 0), (54, .iinc 2 1, 0, 0), (57, .goto (-53), 4, 0), (60, .iload_n 1, 0, 0), (61, .ireturn, 0, 0)]
def inX5_cart : List AxI := [(0, .iload_n 1, 0, 0), (1, .iconst 1, 0, 0), (2, .if_icmp .lt 10, 12, 0), (5, .iload_n 1, 0, 0), (6, .sipush 1000, 0, 0), (9, .if_icmp .le 13, 22, 0), (12, .new 61, 101, 9), (15, .dup, 0, 0), (16, .ldc 148, 0, 0), (18, .invokespecial 65, 9, 1), (21, .athrow, 0, 0), (22, .aload_n 0, 0, 0), (23, .iload_n 1, 0, 0), (24, .putfield 23, 5, 6), (27, .return_, 0, 0)]
def inX5_full : List AxI := [(0, .iconst 0, 0, 0), (1, .istore_n 1, 0, 0), (2, .iconst 0, 0, 0), (3, .istore_n 2, 0, 0), (4, .aload_n 0, 0, 0), (5, .getfield 16, 5, 4), (8, .istore_n 3, 0, 0), (9, .iconst 0, 0, 0), (10, .istore 4, 0, 0), (12, .iload 4, 0, 0), (14, .aload_n 0, 0, 0), (15, .getfield 12, 5, 3), (18, .getfield 108, 3, 1), (21, .if_icmp .ge 87, 108, 0), (24, .aload_n 0, 0, 0), (25, .getfield 12, 5, 3), (28, .getfield 114, 3, 0), (31, .iload 4, 0, 0), (33, .iaload, 0, 0), (34, .istore 5, 0, 0), (36, .aload_n 0, 0, 0), (37, .getfield 40, 5, 1), (40, .getfield 150, 4, 3), (43, .iload 5, 0, 0), (45, .iaload, 0, 0), (46, .istore 6, 0, 0), (48, .iload_n 2, 0, 0), (49, .ifCond .le 32, 81, 0), (52, .iload_n 2, 0, 0), (53, .iload 6, 0, 0), (55, .iadd, 0, 0), (56, .aload_n 0, 0, 0), (57, .getfield 23, 5, 6), (60, .if_icmp .le 21, 81, 0), (63, .iload_n 1, 0, 0), (64, .aload_n 0, 0, 0), (65, .getfield 40, 5, 1), (68, .iload_n 3, 0, 0), (69, .bipush 10, 0, 0), (71, .invokevirtual 125, 0, 36), (74, .iadd, 0, 0), (75, .istore_n 1, 0, 0), (76, .bipush 10, 0, 0), (78, .istore_n 3, 0, 0), (79, .iconst 0, 0, 0), (80, .istore_n 2, 0, 0), (81, .iload_n 1, 0, 0), (82, .aload_n 0, 0, 0), (83, .getfield 40, 5, 1), (86, .iload_n 3, 0, 0), (87, .iload 5, 0, 0), (89, .invokevirtual 125, 0, 36), (92, .iadd, 0, 0), (93, .istore_n 1, 0, 0), (94, .iload 5, 0, 0), (96, .istore_n 3, 0, 0), (97, .iload_n 2, 0, 0), (98, .iload 6, 0, 0), (100, .iadd, 0, 0), (101, .istore_n 2, 0, 0), (102, .iinc 4 1, 0, 0), (105, .goto (-93), 12, 0), (108, .iload_n 1, 0, 0), (109, .aload_n 0, 0, 0), (110, .getfield 40, 5, 1), (113, .iload_n 3, 0, 0), (114, .bipush 10, 0, 0), (116, .invokevirtual 125, 0, 36), (119, .iadd, 0, 0), (120, .ireturn, 0, 0)]
def inX5_share : List AxI := [(0, .aload_n 0, 0, 0), (1, .iload_n 1, 0, 0), (2, .invokevirtual 135, 0, 57), (5, .aload_n 0, 0, 0), (6, .getfield 20, 5, 5), (9, .ifCond .ne 13, 22, 0), (12, .new 153, 105, 10), (15, .dup, 0, 0), (16, .ldc 155, 0, 0), (18, .invokespecial 157, 9, 5), (21, .athrow, 0, 0), (22, .bipush 100, 0, 0), (24, .aload_n 0, 0, 0), (25, .getfield 40, 5, 1), (28, .aload_n 0, 0, 0), (29, .getfield 16, 5, 4), (32, .iload_n 1, 0, 0), (33, .invokevirtual 125, 0, 36), (36, .imul, 0, 0), (37, .aload_n 0, 0, 0), (38, .getfield 20, 5, 5), (41, .idiv, 0, 0), (42, .ireturn, 0, 0)]
def inX5_far : List AxI := [(0, .aload_n 0, 0, 0), (1, .iload_n 1, 0, 0), (2, .invokevirtual 135, 0, 57), (5, .aload_n 0, 0, 0), (6, .iload_n 2, 0, 0), (7, .invokevirtual 135, 0, 57), (10, .aload_n 0, 0, 0), (11, .getfield 40, 5, 1), (14, .iload_n 1, 0, 0), (15, .iload_n 2, 0, 0), (16, .invokevirtual 125, 0, 36), (19, .ireturn, 0, 0)]
def inX5_told : List AxI := [(0, .aload_n 0, 0, 0), (1, .iload_n 1, 0, 0), (2, .invokevirtual 135, 0, 57), (5, .iload_n 2, 0, 0), (6, .tableswitch 91 0 4 #[34, 44, 54, 64, 74], 0, 0), (40, .aload_n 0, 0, 0), (41, .getfield 40, 5, 1), (44, .getfield 120, 4, 0), (47, .iload_n 1, 0, 0), (48, .iaload, 0, 0), (49, .ireturn, 0, 0), (50, .aload_n 0, 0, 0), (51, .getfield 40, 5, 1), (54, .getfield 158, 4, 1), (57, .iload_n 1, 0, 0), (58, .iaload, 0, 0), (59, .ireturn, 0, 0), (60, .aload_n 0, 0, 0), (61, .getfield 40, 5, 1), (64, .getfield 150, 4, 3), (67, .iload_n 1, 0, 0), (68, .iaload, 0, 0), (69, .ireturn, 0, 0), (70, .aload_n 0, 0, 0), (71, .getfield 40, 5, 1), (74, .getfield 129, 4, 4), (77, .iload_n 1, 0, 0), (78, .iaload, 0, 0), (79, .ireturn, 0, 0), (80, .aload_n 0, 0, 0), (81, .getfield 40, 5, 1), (84, .iload_n 1, 0, 0), (85, .invokevirtual 140, 0, 37), (88, .ifCond .eq 7, 95, 0), (91, .iconst 1, 0, 0), (92, .goto 4, 96, 0), (95, .iconst 0, 0, 0), (96, .ireturn, 0, 0), (97, .new 61, 101, 11), (100, .dup, 0, 0), (101, .ldc 161, 0, 0), (103, .invokespecial 65, 9, 1), (106, .athrow, 0, 0)]
def inX5_count : List AxI := [(0, .iload_n 1, 0, 0), (1, .tableswitch 118 0 7 #[47, 55, 63, 71, 79, 87, 92, 100], 0, 0), (48, .aload_n 0, 0, 0), (49, .getfield 40, 5, 1), (52, .getfield 70, 4, 5), (55, .ireturn, 0, 0), (56, .aload_n 0, 0, 0), (57, .getfield 40, 5, 1), (60, .invokevirtual 92, 0, 38), (63, .ireturn, 0, 0), (64, .aload_n 0, 0, 0), (65, .getfield 12, 5, 3), (68, .getfield 108, 3, 1), (71, .ireturn, 0, 0), (72, .aload_n 0, 0, 0), (73, .getfield 31, 5, 0), (76, .getfield 163, 0, 0), (79, .ireturn, 0, 0), (80, .aload_n 0, 0, 0), (81, .getfield 31, 5, 0), (84, .getfield 166, 0, 1), (87, .ireturn, 0, 0), (88, .aload_n 0, 0, 0), (89, .getfield 20, 5, 5), (92, .ireturn, 0, 0), (93, .aload_n 0, 0, 0), (94, .getfield 40, 5, 1), (97, .invokevirtual 169, 0, 39), (100, .ireturn, 0, 0), (101, .aload_n 0, 0, 0), (102, .getfield 16, 5, 4), (105, .bipush 10, 0, 0), (107, .if_icmp .ne 7, 114, 0), (110, .iconst (-1), 0, 0), (111, .goto 7, 118, 0), (114, .aload_n 0, 0, 0), (115, .getfield 16, 5, 4), (118, .ireturn, 0, 0), (119, .iconst (-1), 0, 0), (120, .ireturn, 0, 0)]
def inX5_requireAisle : List AxI := [(0, .aload_n 0, 0, 0), (1, .getfield 31, 5, 0), (4, .iload_n 1, 0, 0), (5, .invokevirtual 172, 0, 1), (8, .ifCond .ne 13, 21, 0), (11, .new 175, 100, 12), (14, .dup, 0, 0), (15, .ldc 177, 0, 0), (17, .invokespecial 179, 9, 0), (20, .athrow, 0, 0), (21, .return_, 0, 0)]
def inX5_requireStop : List AxI := [(0, .iload_n 1, 0, 0), (1, .ifCond .lt 14, 15, 0), (4, .iload_n 1, 0, 0), (5, .aload_n 0, 0, 0), (6, .getfield 40, 5, 1), (9, .getfield 70, 4, 5), (12, .if_icmp .lt 13, 25, 0), (15, .new 175, 100, 13), (18, .dup, 0, 0), (19, .ldc 180, 0, 0), (21, .invokespecial 179, 9, 0), (24, .athrow, 0, 0), (25, .return_, 0, 0)]
def inX5_routeLength : List AxI := [(0, .iconst 0, 0, 0), (1, .istore_n 1, 0, 0), (2, .aload_n 0, 0, 0), (3, .getfield 16, 5, 4), (6, .istore_n 2, 0, 0), (7, .iconst 0, 0, 0), (8, .istore_n 3, 0, 0), (9, .iload_n 3, 0, 0), (10, .aload_n 0, 0, 0), (11, .getfield 12, 5, 3), (14, .getfield 108, 3, 1), (17, .if_icmp .ge 39, 56, 0), (20, .iload_n 1, 0, 0), (21, .aload_n 0, 0, 0), (22, .getfield 40, 5, 1), (25, .iload_n 2, 0, 0), (26, .aload_n 0, 0, 0), (27, .getfield 12, 5, 3), (30, .getfield 114, 3, 0), (33, .iload_n 3, 0, 0), (34, .iaload, 0, 0), (35, .invokevirtual 125, 0, 36), (38, .iadd, 0, 0), (39, .istore_n 1, 0, 0), (40, .aload_n 0, 0, 0), (41, .getfield 12, 5, 3), (44, .getfield 114, 3, 0), (47, .iload_n 3, 0, 0), (48, .iaload, 0, 0), (49, .istore_n 2, 0, 0), (50, .iinc 3 1, 0, 0), (53, .goto (-44), 9, 0), (56, .iload_n 1, 0, 0), (57, .aload_n 0, 0, 0), (58, .getfield 40, 5, 1), (61, .iload_n 2, 0, 0), (62, .bipush 10, 0, 0), (64, .invokevirtual 125, 0, 36), (67, .iadd, 0, 0), (68, .ireturn, 0, 0)]
def inX6_init : List AxI := [(0, .aload_n 0, 0, 0), (1, .invokespecial 1, 5, 0), (4, .aload_n 0, 0, 0), (5, .bipush 100, 0, 0), (7, .putfield 7, 6, 3), (10, .aload_n 0, 0, 0), (11, .iconst (-1), 0, 0), (12, .putfield 13, 6, 5), (15, .aload_n 0, 0, 0), (16, .bipush 8, 0, 0), (18, .newarray .boolean, 8, 1), (20, .putfield 16, 6, 6), (23, .aload_n 0, 0, 0), (24, .bipush 10, 0, 0), (26, .newarray .int, 10, 0), (28, .putfield 20, 6, 8), (31, .aload_n 0, 0, 0), (32, .bipush 10, 0, 0), (34, .newarray .int, 10, 0), (36, .putfield 24, 6, 9), (39, .aload_n 0, 0, 0), (40, .bipush 10, 0, 0), (42, .newarray .int, 10, 0), (44, .putfield 27, 6, 10), (47, .aload_n 0, 0, 0), (48, .bipush 10, 0, 0), (50, .newarray .int, 10, 0), (52, .putfield 30, 6, 11), (55, .aload_n 0, 0, 0), (56, .bipush 10, 0, 0), (58, .newarray .int, 10, 0), (60, .putfield 33, 6, 13), (63, .aload_n 0, 0, 0), (64, .bipush 10, 0, 0), (66, .newarray .boolean, 10, 1), (68, .putfield 36, 6, 14), (71, .aload_n 0, 0, 0), (72, .bipush 10, 0, 0), (74, .newarray .boolean, 10, 1), (76, .putfield 39, 6, 15), (79, .aload_n 0, 0, 0), (80, .bipush 8, 0, 0), (82, .newarray .int, 8, 0), (84, .putfield 42, 6, 16), (87, .aload_n 0, 0, 0), (88, .sipush 2048, 0, 0), (91, .newarray .int, 2048, 0), (93, .putfield 45, 6, 17), (96, .aload_n 0, 0, 0), (97, .iload_n 1, 0, 0), (98, .iconst 1, 0, 0), (99, .if_icmp .ge 7, 106, 0), (102, .iconst 1, 0, 0), (103, .goto 15, 118, 0), (106, .iload_n 1, 0, 0), (107, .bipush 8, 0, 0), (109, .if_icmp .le 8, 117, 0), (112, .bipush 8, 0, 0), (114, .goto 4, 118, 0), (117, .iload_n 1, 0, 0), (118, .putfield 48, 6, 1), (121, .aload_n 0, 0, 0), (122, .iload_n 2, 0, 0), (123, .iconst 1, 0, 0), (124, .if_icmp .ge 7, 131, 0), (127, .iconst 1, 0, 0), (128, .goto 13, 141, 0), (131, .iload_n 2, 0, 0), (132, .iconst 3, 0, 0), (133, .if_icmp .le 7, 140, 0), (136, .iconst 3, 0, 0), (137, .goto 4, 141, 0), (140, .iload_n 2, 0, 0), (141, .putfield 51, 6, 2), (144, .return_, 0, 0)]
def inX6_thrown : List AxI := [(0, .aload_n 0, 0, 0), (1, .getfield 54, 6, 0), (4, .ireturn, 0, 0)]
def inX6_in : List AxI := [(0, .iload_n 0, 0, 0), (1, .iload_n 1, 0, 0), (2, .if_icmp .lt 12, 14, 0), (5, .iload_n 0, 0, 0), (6, .iload_n 2, 0, 0), (7, .if_icmp .gt 7, 14, 0), (10, .iconst 1, 0, 0), (11, .goto 4, 15, 0), (14, .iconst 0, 0, 0), (15, .ireturn, 0, 0)]
def inX6_isStop : List AxI := [(0, .iload_n 1, 0, 0), (1, .iconst 0, 0, 0), (2, .aload_n 0, 0, 0), (3, .getfield 57, 6, 7), (6, .iconst 1, 0, 0), (7, .isub, 0, 0), (8, .invokestatic 60, 2, 61), (11, .ireturn, 0, 0)]
def inX6_isAisle : List AxI := [(0, .iload_n 1, 0, 0), (1, .iconst 0, 0, 0), (2, .aload_n 0, 0, 0), (3, .getfield 48, 6, 1), (6, .iconst 1, 0, 0), (7, .isub, 0, 0), (8, .invokestatic 60, 2, 61), (11, .ireturn, 0, 0)]
def inX6_stop : List AxI := [(0, .aload_n 0, 0, 0), (1, .aload_n 0, 0, 0), (2, .iload_n 1, 0, 0), (3, .invokevirtual 64, 0, 63), (6, .ifCond .ne 7, 13, 0), (9, .iconst 1, 0, 0), (10, .goto 48, 58, 0), (13, .iload_n 2, 0, 0), (14, .iconst 0, 0, 0), (15, .bipush 10, 0, 0), (17, .aload_n 0, 0, 0), (18, .getfield 51, 6, 2), (21, .imul, 0, 0), (22, .iconst 1, 0, 0), (23, .isub, 0, 0), (24, .invokestatic 60, 2, 61), (27, .ifCond .eq 13, 40, 0), (30, .iload_n 3, 0, 0), (31, .iconst 0, 0, 0), (32, .bipush 100, 0, 0), (34, .invokestatic 60, 2, 61), (37, .ifCond .ne 7, 44, 0), (40, .iconst 2, 0, 0), (41, .goto 17, 58, 0), (44, .aload_n 0, 0, 0), (45, .getfield 57, 6, 7), (48, .bipush 10, 0, 0), (50, .if_icmp .ne 7, 57, 0), (53, .iconst 3, 0, 0), (54, .goto 4, 58, 0), (57, .iconst 0, 0, 0), (58, .putfield 54, 6, 0), (61, .aload_n 0, 0, 0), (62, .getfield 54, 6, 0), (65, .ifCond .le 5, 70, 0), (68, .iconst 0, 0, 0), (69, .ireturn, 0, 0), (70, .aload_n 0, 0, 0), (71, .getfield 20, 6, 8), (74, .aload_n 0, 0, 0), (75, .getfield 57, 6, 7), (78, .iload_n 1, 0, 0), (79, .iastore, 0, 0), (80, .aload_n 0, 0, 0), (81, .getfield 24, 6, 9), (84, .aload_n 0, 0, 0), (85, .getfield 57, 6, 7), (88, .iload_n 2, 0, 0), (89, .iastore, 0, 0), (90, .aload_n 0, 0, 0), (91, .getfield 27, 6, 10), (94, .aload_n 0, 0, 0), (95, .getfield 57, 6, 7), (98, .iload_n 3, 0, 0), (99, .iastore, 0, 0), (100, .aload_n 0, 0, 0), (101, .dup, 0, 0), (102, .getfield 57, 6, 7), (105, .iconst 1, 0, 0), (106, .iadd, 0, 0), (107, .putfield 57, 6, 7), (110, .aload_n 0, 0, 0), (111, .getfield 57, 6, 7), (114, .iconst 1, 0, 0), (115, .isub, 0, 0), (116, .ireturn, 0, 0)]
def inX6_closed : List AxI := [(0, .aload_n 0, 0, 0), (1, .aload_n 0, 0, 0), (2, .iload_n 1, 0, 0), (3, .invokevirtual 64, 0, 63), (6, .ifCond .eq 7, 13, 0), (9, .iconst 0, 0, 0), (10, .goto 4, 14, 0), (13, .iconst 1, 0, 0), (14, .putfield 54, 6, 0), (17, .aload_n 0, 0, 0), (18, .getfield 54, 6, 0), (21, .ifCond .le 5, 26, 0), (24, .iconst 0, 0, 0), (25, .ireturn, 0, 0), (26, .aload_n 0, 0, 0), (27, .getfield 16, 6, 6), (30, .iload_n 1, 0, 0), (31, .iload_n 2, 0, 0), (32, .bastore, 0, 0), (33, .iconst 0, 0, 0), (34, .istore_n 3, 0, 0), (35, .iconst 0, 0, 0), (36, .istore 4, 0, 0), (38, .iload 4, 0, 0), (40, .aload_n 0, 0, 0), (41, .getfield 57, 6, 7), (44, .if_icmp .ge 38, 82, 0), (47, .iload_n 3, 0, 0), (48, .aload_n 0, 0, 0), (49, .getfield 20, 6, 8), (52, .iload 4, 0, 0), (54, .iaload, 0, 0), (55, .iload_n 1, 0, 0), (56, .if_icmp .ne 17, 73, 0), (59, .aload_n 0, 0, 0), (60, .getfield 30, 6, 11), (63, .iload 4, 0, 0), (65, .iaload, 0, 0), (66, .ifCond .ne 7, 73, 0), (69, .iconst 1, 0, 0), (70, .goto 4, 74, 0), (73, .iconst 0, 0, 0), (74, .iadd, 0, 0), (75, .istore_n 3, 0, 0), (76, .iinc 4 1, 0, 0), (79, .goto (-41), 38, 0), (82, .iload_n 3, 0, 0), (83, .ireturn, 0, 0)]
def inX6_isWalked : List AxI := [(0, .aload_n 0, 0, 0), (1, .getfield 30, 6, 11), (4, .iload_n 1, 0, 0), (5, .iaload, 0, 0), (6, .ifCond .ne 30, 36, 0), (9, .aload_n 0, 0, 0), (10, .getfield 27, 6, 10), (13, .iload_n 1, 0, 0), (14, .iaload, 0, 0), (15, .ifCond .le 21, 36, 0), (18, .aload_n 0, 0, 0), (19, .getfield 16, 6, 6), (22, .aload_n 0, 0, 0), (23, .getfield 20, 6, 8), (26, .iload_n 1, 0, 0), (27, .iaload, 0, 0), (28, .baload, 0, 0), (29, .ifCond .ne 7, 36, 0), (32, .iconst 1, 0, 0), (33, .goto 4, 37, 0), (36, .iconst 0, 0, 0), (37, .ireturn, 0, 0)]
def inX6_walked : List AxI := [(0, .iconst 0, 0, 0), (1, .istore_n 1, 0, 0), (2, .iconst 0, 0, 0), (3, .istore_n 2, 0, 0), (4, .iload_n 2, 0, 0), (5, .aload_n 0, 0, 0), (6, .getfield 57, 6, 7), (9, .if_icmp .ge 25, 34, 0), (12, .iload_n 1, 0, 0), (13, .aload_n 0, 0, 0), (14, .iload_n 2, 0, 0), (15, .invokevirtual 68, 0, 66), (18, .ifCond .eq 7, 25, 0), (21, .iconst 1, 0, 0), (22, .goto 4, 26, 0), (25, .iconst 0, 0, 0), (26, .iadd, 0, 0), (27, .istore_n 1, 0, 0), (28, .iinc 2 1, 0, 0), (31, .goto (-27), 4, 0), (34, .iload_n 1, 0, 0), (35, .ireturn, 0, 0)]
def inX6_apart : List AxI := [(0, .iload_n 0, 0, 0), (1, .iload_n 1, 0, 0), (2, .if_icmp .le 9, 11, 0), (5, .iload_n 0, 0, 0), (6, .iload_n 1, 0, 0), (7, .isub, 0, 0), (8, .goto 6, 14, 0), (11, .iload_n 1, 0, 0), (12, .iload_n 0, 0, 0), (13, .isub, 0, 0), (14, .ireturn, 0, 0)]
def inX6_aisleOf : List AxI := [(0, .iload_n 1, 0, 0), (1, .iconst (-1), 0, 0), (2, .if_icmp .ne 7, 9, 0), (5, .iconst 0, 0, 0), (6, .goto 9, 15, 0), (9, .aload_n 0, 0, 0), (10, .getfield 20, 6, 8), (13, .iload_n 1, 0, 0), (14, .iaload, 0, 0), (15, .ireturn, 0, 0)]
def inX6_depthOf : List AxI := [(0, .iload_n 1, 0, 0), (1, .iconst (-1), 0, 0), (2, .if_icmp .ne 7, 9, 0), (5, .iconst 0, 0, 0), (6, .goto 27, 33, 0), (9, .bipush 11, 0, 0), (11, .aload_n 0, 0, 0), (12, .getfield 24, 6, 9), (15, .iload_n 1, 0, 0), (16, .iaload, 0, 0), (17, .bipush 10, 0, 0), (19, .idiv, 0, 0), (20, .imul, 0, 0), (21, .iconst 1, 0, 0), (22, .iadd, 0, 0), (23, .aload_n 0, 0, 0), (24, .getfield 24, 6, 9), (27, .iload_n 1, 0, 0), (28, .iaload, 0, 0), (29, .bipush 10, 0, 0), (31, .irem, 0, 0), (32, .iadd, 0, 0), (33, .ireturn, 0, 0)]
def inX6_way : List AxI := [(0, .aload_n 0, 0, 0), (1, .iload_n 1, 0, 0), (2, .invokevirtual 71, 0, 69), (5, .aload_n 0, 0, 0), (6, .iload_n 2, 0, 0), (7, .invokevirtual 71, 0, 69), (10, .if_icmp .ne 17, 27, 0), (13, .aload_n 0, 0, 0), (14, .iload_n 1, 0, 0), (15, .invokevirtual 75, 0, 70), (18, .aload_n 0, 0, 0), (19, .iload_n 2, 0, 0), (20, .invokevirtual 75, 0, 70), (23, .invokestatic 78, 2, 68), (26, .ireturn, 0, 0), (27, .ldc 82, 1000000, 0), (29, .istore_n 3, 0, 0), (30, .iconst 0, 0, 0), (31, .istore 4, 0, 0), (33, .iload 4, 0, 0), (35, .aload_n 0, 0, 0), (36, .getfield 51, 6, 2), (39, .if_icmp .gt 67, 106, 0), (42, .aload_n 0, 0, 0), (43, .iload_n 1, 0, 0), (44, .invokevirtual 75, 0, 70), (47, .bipush 11, 0, 0), (49, .iload 4, 0, 0), (51, .imul, 0, 0), (52, .invokestatic 78, 2, 68), (55, .iconst 3, 0, 0), (56, .aload_n 0, 0, 0), (57, .iload_n 1, 0, 0), (58, .invokevirtual 71, 0, 69), (61, .aload_n 0, 0, 0), (62, .iload_n 2, 0, 0), (63, .invokevirtual 71, 0, 69), (66, .invokestatic 78, 2, 68), (69, .imul, 0, 0), (70, .iadd, 0, 0), (71, .bipush 11, 0, 0), (73, .iload 4, 0, 0), (75, .imul, 0, 0), (76, .aload_n 0, 0, 0), (77, .iload_n 2, 0, 0), (78, .invokevirtual 75, 0, 70), (81, .invokestatic 78, 2, 68), (84, .iadd, 0, 0), (85, .istore 5, 0, 0), (87, .iload 5, 0, 0), (89, .iload_n 3, 0, 0), (90, .if_icmp .ge 8, 98, 0), (93, .iload 5, 0, 0), (95, .goto 4, 99, 0), (98, .iload_n 3, 0, 0), (99, .istore_n 3, 0, 0), (100, .iinc 4 1, 0, 0), (103, .goto (-70), 33, 0), (106, .iload_n 3, 0, 0), (107, .ireturn, 0, 0)]
def inX6_length : List AxI := [(0, .iconst 0, 0, 0), (1, .istore_n 1, 0, 0), (2, .aload_n 0, 0, 0), (3, .getfield 13, 6, 5), (6, .istore_n 2, 0, 0), (7, .iconst 0, 0, 0), (8, .istore_n 3, 0, 0), (9, .iload_n 3, 0, 0), (10, .aload_n 0, 0, 0), (11, .getfield 83, 6, 12), (14, .if_icmp .ge 30, 44, 0), (17, .iload_n 1, 0, 0), (18, .aload_n 0, 0, 0), (19, .iload_n 2, 0, 0), (20, .aload_n 0, 0, 0), (21, .getfield 33, 6, 13), (24, .iload_n 3, 0, 0), (25, .iaload, 0, 0), (26, .invokevirtual 86, 0, 71), (29, .iadd, 0, 0), (30, .istore_n 1, 0, 0), (31, .aload_n 0, 0, 0), (32, .getfield 33, 6, 13), (35, .iload_n 3, 0, 0), (36, .iaload, 0, 0), (37, .istore_n 2, 0, 0), (38, .iinc 3 1, 0, 0), (41, .goto (-32), 9, 0), (44, .iload_n 1, 0, 0), (45, .aload_n 0, 0, 0), (46, .iload_n 2, 0, 0), (47, .iconst (-1), 0, 0), (48, .invokevirtual 86, 0, 71), (51, .iadd, 0, 0), (52, .ireturn, 0, 0)]
def inX6_add : List AxI := [(0, .aload_n 0, 0, 0), (1, .getfield 33, 6, 13), (4, .aload_n 0, 0, 0), (5, .getfield 83, 6, 12), (8, .iload_n 1, 0, 0), (9, .iastore, 0, 0), (10, .aload_n 0, 0, 0), (11, .dup, 0, 0), (12, .getfield 83, 6, 12), (15, .iconst 1, 0, 0), (16, .iadd, 0, 0), (17, .putfield 83, 6, 12), (20, .aload_n 0, 0, 0), (21, .getfield 36, 6, 14), (24, .iload_n 1, 0, 0), (25, .iconst 0, 0, 0), (26, .bastore, 0, 0), (27, .return_, 0, 0)]
def inX6_addAisle : List AxI := [(0, .iconst 1, 0, 0), (1, .istore 5, 0, 0), (3, .iload 5, 0, 0), (5, .ifCond .eq 148, 153, 0), (8, .iconst (-1), 0, 0), (9, .istore 6, 0, 0), (11, .iconst 0, 0, 0), (12, .istore 7, 0, 0), (14, .iload 7, 0, 0), (16, .aload_n 0, 0, 0), (17, .getfield 57, 6, 7), (20, .if_icmp .ge 106, 126, 0), (23, .aload_n 0, 0, 0), (24, .getfield 36, 6, 14), (27, .iload 7, 0, 0), (29, .baload, 0, 0), (30, .ifCond .eq 90, 120, 0), (33, .aload_n 0, 0, 0), (34, .getfield 20, 6, 8), (37, .iload 7, 0, 0), (39, .iaload, 0, 0), (40, .iload_n 1, 0, 0), (41, .if_icmp .ne 79, 120, 0), (44, .aload_n 0, 0, 0), (45, .getfield 39, 6, 15), (48, .iload 7, 0, 0), (50, .baload, 0, 0), (51, .ifCond .eq 10, 61, 0), (54, .iload_n 3, 0, 0), (55, .ifCond .eq 65, 120, 0), (58, .goto 11, 69, 0), (61, .iload 4, 0, 0), (63, .ifCond .ne 6, 69, 0), (66, .goto 54, 120, 0), (69, .iload 6, 0, 0), (71, .iconst (-1), 0, 0), (72, .if_icmp .eq 44, 116, 0), (75, .iload_n 2, 0, 0), (76, .ifCond .eq 23, 99, 0), (79, .aload_n 0, 0, 0), (80, .getfield 24, 6, 9), (83, .iload 7, 0, 0), (85, .iaload, 0, 0), (86, .aload_n 0, 0, 0), (87, .getfield 24, 6, 9), (90, .iload 6, 0, 0), (92, .iaload, 0, 0), (93, .if_icmp .ge 27, 120, 0), (96, .goto 20, 116, 0), (99, .aload_n 0, 0, 0), (100, .getfield 24, 6, 9), (103, .iload 7, 0, 0), (105, .iaload, 0, 0), (106, .aload_n 0, 0, 0), (107, .getfield 24, 6, 9), (110, .iload 6, 0, 0), (112, .iaload, 0, 0), (113, .if_icmp .le 7, 120, 0), (116, .iload 7, 0, 0), (118, .istore 6, 0, 0), (120, .iinc 7 1, 0, 0), (123, .goto (-109), 14, 0), (126, .iload 6, 0, 0), (128, .iconst (-1), 0, 0), (129, .if_icmp .eq 7, 136, 0), (132, .iconst 1, 0, 0), (133, .goto 4, 137, 0), (136, .iconst 0, 0, 0), (137, .istore 5, 0, 0), (139, .iload 5, 0, 0), (141, .ifCond .eq 9, 150, 0), (144, .aload_n 0, 0, 0), (145, .iload 6, 0, 0), (147, .invokevirtual 89, 0, 73), (150, .goto (-147), 3, 0), (153, .return_, 0, 0)]
def inX6_hasLeft : List AxI := [(0, .iconst 0, 0, 0), (1, .istore_n 2, 0, 0), (2, .iload_n 2, 0, 0), (3, .aload_n 0, 0, 0), (4, .getfield 57, 6, 7), (7, .if_icmp .ge 30, 37, 0), (10, .aload_n 0, 0, 0), (11, .getfield 36, 6, 14), (14, .iload_n 2, 0, 0), (15, .baload, 0, 0), (16, .ifCond .eq 15, 31, 0), (19, .aload_n 0, 0, 0), (20, .getfield 20, 6, 8), (23, .iload_n 2, 0, 0), (24, .iaload, 0, 0), (25, .iload_n 1, 0, 0), (26, .if_icmp .ne 5, 31, 0), (29, .iconst 1, 0, 0), (30, .ireturn, 0, 0), (31, .iinc 2 1, 0, 0), (34, .goto (-32), 2, 0), (37, .iconst 0, 0, 0), (38, .ireturn, 0, 0)]
def inX6_through : List AxI := [(0, .iconst 1, 0, 0), (1, .istore_n 1, 0, 0), (2, .iconst 0, 0, 0), (3, .istore_n 2, 0, 0), (4, .iload_n 2, 0, 0), (5, .aload_n 0, 0, 0), (6, .getfield 48, 6, 1), (9, .if_icmp .ge 38, 47, 0), (12, .aload_n 0, 0, 0), (13, .iload_n 2, 0, 0), (14, .invokevirtual 93, 0, 75), (17, .ifCond .ne 6, 23, 0), (20, .goto 21, 41, 0), (23, .aload_n 0, 0, 0), (24, .iload_n 2, 0, 0), (25, .iload_n 1, 0, 0), (26, .iconst 1, 0, 0), (27, .iconst 1, 0, 0), (28, .invokevirtual 96, 0, 74), (31, .iload_n 1, 0, 0), (32, .ifCond .ne 7, 39, 0), (35, .iconst 1, 0, 0), (36, .goto 4, 40, 0), (39, .iconst 0, 0, 0), (40, .istore_n 1, 0, 0), (41, .iinc 2 1, 0, 0), (44, .goto (-40), 4, 0), (47, .return_, 0, 0)]
def inX6_gap : List AxI := [(0, .iconst 0, 0, 0), (1, .istore_n 2, 0, 0), (2, .iconst 0, 0, 0), (3, .istore_n 3, 0, 0), (4, .iconst 0, 0, 0), (5, .istore 4, 0, 0), (7, .iload_n 2, 0, 0), (8, .bipush 11, 0, 0), (10, .aload_n 0, 0, 0), (11, .getfield 51, 6, 2), (14, .imul, 0, 0), (15, .if_icmp .ge 103, 118, 0), (18, .bipush 11, 0, 0), (20, .aload_n 0, 0, 0), (21, .getfield 51, 6, 2), (24, .imul, 0, 0), (25, .istore 5, 0, 0), (27, .iconst 0, 0, 0), (28, .istore 6, 0, 0), (30, .iload 6, 0, 0), (32, .aload_n 0, 0, 0), (33, .getfield 57, 6, 7), (36, .if_icmp .ge 59, 95, 0), (39, .aload_n 0, 0, 0), (40, .getfield 36, 6, 14), (43, .iload 6, 0, 0), (45, .baload, 0, 0), (46, .ifCond .eq 43, 89, 0), (49, .aload_n 0, 0, 0), (50, .getfield 20, 6, 8), (53, .iload 6, 0, 0), (55, .iaload, 0, 0), (56, .iload_n 1, 0, 0), (57, .if_icmp .ne 32, 89, 0), (60, .aload_n 0, 0, 0), (61, .iload 6, 0, 0), (63, .invokevirtual 75, 0, 70), (66, .iload_n 2, 0, 0), (67, .if_icmp .le 22, 89, 0), (70, .aload_n 0, 0, 0), (71, .iload 6, 0, 0), (73, .invokevirtual 75, 0, 70), (76, .iload 5, 0, 0), (78, .if_icmp .ge 11, 89, 0), (81, .aload_n 0, 0, 0), (82, .iload 6, 0, 0), (84, .invokevirtual 75, 0, 70), (87, .istore 5, 0, 0), (89, .iinc 6 1, 0, 0), (92, .goto (-62), 30, 0), (95, .iload 5, 0, 0), (97, .iload_n 2, 0, 0), (98, .isub, 0, 0), (99, .iload 4, 0, 0), (101, .if_icmp .le 11, 112, 0), (104, .iload 5, 0, 0), (106, .iload_n 2, 0, 0), (107, .isub, 0, 0), (108, .istore 4, 0, 0), (110, .iload_n 2, 0, 0), (111, .istore_n 3, 0, 0), (112, .iload 5, 0, 0), (114, .istore_n 2, 0, 0), (115, .goto (-108), 7, 0), (118, .iload_n 3, 0, 0), (119, .ireturn, 0, 0)]
def inX6_gaps : List AxI := [(0, .iconst (-1), 0, 0), (1, .istore_n 1, 0, 0), (2, .iconst (-1), 0, 0), (3, .istore_n 2, 0, 0), (4, .iconst 0, 0, 0), (5, .istore_n 3, 0, 0), (6, .iload_n 3, 0, 0), (7, .aload_n 0, 0, 0), (8, .getfield 48, 6, 1), (11, .if_icmp .ge 33, 44, 0), (14, .aload_n 0, 0, 0), (15, .iload_n 3, 0, 0), (16, .invokevirtual 93, 0, 75), (19, .ifCond .ne 6, 25, 0), (22, .goto 16, 38, 0), (25, .iload_n 1, 0, 0), (26, .iconst (-1), 0, 0), (27, .if_icmp .ne 7, 34, 0), (30, .iload_n 3, 0, 0), (31, .goto 4, 35, 0), (34, .iload_n 1, 0, 0), (35, .istore_n 1, 0, 0), (36, .iload_n 3, 0, 0), (37, .istore_n 2, 0, 0), (38, .iinc 3 1, 0, 0), (41, .goto (-35), 6, 0), (44, .iload_n 1, 0, 0), (45, .iconst (-1), 0, 0), (46, .if_icmp .ne 4, 50, 0), (49, .return_, 0, 0), (50, .iconst 0, 0, 0), (51, .istore_n 3, 0, 0), (52, .iload_n 3, 0, 0), (53, .aload_n 0, 0, 0), (54, .getfield 48, 6, 1), (57, .if_icmp .ge 68, 125, 0), (60, .aload_n 0, 0, 0), (61, .iload_n 3, 0, 0), (62, .invokevirtual 100, 0, 77), (65, .istore 4, 0, 0), (67, .iconst 0, 0, 0), (68, .istore 5, 0, 0), (70, .iload 5, 0, 0), (72, .aload_n 0, 0, 0), (73, .getfield 57, 6, 7), (76, .if_icmp .ge 43, 119, 0), (79, .aload_n 0, 0, 0), (80, .getfield 20, 6, 8), (83, .iload 5, 0, 0), (85, .iaload, 0, 0), (86, .iload_n 3, 0, 0), (87, .if_icmp .ne 26, 113, 0), (90, .aload_n 0, 0, 0), (91, .getfield 39, 6, 15), (94, .iload 5, 0, 0), (96, .aload_n 0, 0, 0), (97, .iload 5, 0, 0), (99, .invokevirtual 75, 0, 70), (102, .iload 4, 0, 0), (104, .if_icmp .gt 7, 111, 0), (107, .iconst 1, 0, 0), (108, .goto 4, 112, 0), (111, .iconst 0, 0, 0), (112, .bastore, 0, 0), (113, .iinc 5 1, 0, 0), (116, .goto (-46), 70, 0), (119, .iinc 3 1, 0, 0), (122, .goto (-70), 52, 0), (125, .aload_n 0, 0, 0), (126, .iload_n 1, 0, 0), (127, .iconst 1, 0, 0), (128, .iconst 1, 0, 0), (129, .iconst 1, 0, 0), (130, .invokevirtual 96, 0, 74), (133, .iload_n 1, 0, 0), (134, .iconst 1, 0, 0), (135, .iadd, 0, 0), (136, .istore_n 3, 0, 0), (137, .iload_n 3, 0, 0), (138, .iload_n 2, 0, 0), (139, .if_icmp .ge 17, 156, 0), (142, .aload_n 0, 0, 0), (143, .iload_n 3, 0, 0), (144, .iconst 0, 0, 0), (145, .iconst 0, 0, 0), (146, .iconst 1, 0, 0), (147, .invokevirtual 96, 0, 74), (150, .iinc 3 1, 0, 0), (153, .goto (-16), 137, 0), (156, .aload_n 0, 0, 0), (157, .iload_n 2, 0, 0), (158, .iconst 0, 0, 0), (159, .iconst 1, 0, 0), (160, .iconst 1, 0, 0), (161, .invokevirtual 96, 0, 74), (164, .iload_n 2, 0, 0), (165, .iconst 1, 0, 0), (166, .isub, 0, 0), (167, .istore_n 3, 0, 0), (168, .iload_n 3, 0, 0), (169, .iload_n 1, 0, 0), (170, .if_icmp .le 17, 187, 0), (173, .aload_n 0, 0, 0), (174, .iload_n 3, 0, 0), (175, .iconst 1, 0, 0), (176, .iconst 1, 0, 0), (177, .iconst 0, 0, 0), (178, .invokevirtual 96, 0, 74), (181, .iinc 3 (-1), 0, 0), (184, .goto (-16), 168, 0), (187, .return_, 0, 0)]
def inX6_nearest : List AxI := [(0, .aload_n 0, 0, 0), (1, .getfield 13, 6, 5), (4, .istore_n 2, 0, 0), (5, .iconst 0, 0, 0), (6, .istore_n 3, 0, 0), (7, .iload_n 3, 0, 0), (8, .iload_n 1, 0, 0), (9, .if_icmp .ge 76, 85, 0), (12, .iconst (-1), 0, 0), (13, .istore 4, 0, 0), (15, .iconst 0, 0, 0), (16, .istore 5, 0, 0), (18, .iload 5, 0, 0), (20, .aload_n 0, 0, 0), (21, .getfield 57, 6, 7), (24, .if_icmp .ge 46, 70, 0), (27, .aload_n 0, 0, 0), (28, .getfield 36, 6, 14), (31, .iload 5, 0, 0), (33, .baload, 0, 0), (34, .ifCond .eq 30, 64, 0), (37, .iload 4, 0, 0), (39, .iconst (-1), 0, 0), (40, .if_icmp .eq 20, 60, 0), (43, .aload_n 0, 0, 0), (44, .iload_n 2, 0, 0), (45, .iload 5, 0, 0), (47, .invokevirtual 86, 0, 71), (50, .aload_n 0, 0, 0), (51, .iload_n 2, 0, 0), (52, .iload 4, 0, 0), (54, .invokevirtual 86, 0, 71), (57, .if_icmp .ge 7, 64, 0), (60, .iload 5, 0, 0), (62, .istore 4, 0, 0), (64, .iinc 5 1, 0, 0), (67, .goto (-49), 18, 0), (70, .aload_n 0, 0, 0), (71, .iload 4, 0, 0), (73, .invokevirtual 89, 0, 73), (76, .iload 4, 0, 0), (78, .istore_n 2, 0, 0), (79, .iinc 3 1, 0, 0), (82, .goto (-75), 7, 0), (85, .return_, 0, 0)]
def inX6_least : List AxI := [(0, .iconst 0, 0, 0), (1, .istore_n 2, 0, 0), (2, .iconst 0, 0, 0), (3, .istore_n 3, 0, 0), (4, .iload_n 3, 0, 0), (5, .aload_n 0, 0, 0), (6, .getfield 57, 6, 7), (9, .if_icmp .ge 31, 40, 0), (12, .aload_n 0, 0, 0), (13, .getfield 36, 6, 14), (16, .iload_n 3, 0, 0), (17, .baload, 0, 0), (18, .ifCond .ne 6, 24, 0), (21, .goto 13, 34, 0), (24, .aload_n 0, 0, 0), (25, .getfield 42, 6, 16), (28, .iload_n 2, 0, 0), (29, .iload_n 3, 0, 0), (30, .iastore, 0, 0), (31, .iinc 2 1, 0, 0), (34, .iinc 3 1, 0, 0), (37, .goto (-33), 4, 0), (40, .iconst 0, 0, 0), (41, .istore_n 3, 0, 0), (42, .iload_n 3, 0, 0), (43, .iconst 1, 0, 0), (44, .iload_n 1, 0, 0), (45, .ishl, 0, 0), (46, .if_icmp .ge 151, 197, 0), (49, .iconst 0, 0, 0), (50, .istore 4, 0, 0), (52, .iload 4, 0, 0), (54, .iload_n 1, 0, 0), (55, .if_icmp .ge 136, 191, 0), (58, .iload_n 3, 0, 0), (59, .ifCond .ne 18, 77, 0), (62, .aload_n 0, 0, 0), (63, .aload_n 0, 0, 0), (64, .getfield 42, 6, 16), (67, .iload 4, 0, 0), (69, .iaload, 0, 0), (70, .iconst (-1), 0, 0), (71, .invokevirtual 86, 0, 71), (74, .goto 5, 79, 0), (77, .ldc 82, 1000000, 0), (79, .istore 5, 0, 0), (81, .iconst 0, 0, 0), (82, .istore 6, 0, 0), (84, .iload 6, 0, 0), (86, .iload_n 1, 0, 0), (87, .if_icmp .ge 84, 171, 0), (90, .iload_n 3, 0, 0), (91, .iload 6, 0, 0), (93, .ishr, 0, 0), (94, .iconst 1, 0, 0), (95, .iand, 0, 0), (96, .ifCond .eq 69, 165, 0), (99, .iload 6, 0, 0), (101, .iload 4, 0, 0), (103, .if_icmp .ne 6, 109, 0), (106, .goto 59, 165, 0), (109, .aload_n 0, 0, 0), (110, .aload_n 0, 0, 0), (111, .getfield 42, 6, 16), (114, .iload 4, 0, 0), (116, .iaload, 0, 0), (117, .aload_n 0, 0, 0), (118, .getfield 42, 6, 16), (121, .iload 6, 0, 0), (123, .iaload, 0, 0), (124, .invokevirtual 86, 0, 71), (127, .aload_n 0, 0, 0), (128, .getfield 45, 6, 17), (131, .bipush 8, 0, 0), (133, .iload_n 3, 0, 0), (134, .iconst 1, 0, 0), (135, .iload 6, 0, 0), (137, .ishl, 0, 0), (138, .iconst (-1), 0, 0), (139, .ixor, 0, 0), (140, .iand, 0, 0), (141, .imul, 0, 0), (142, .iload 6, 0, 0), (144, .iadd, 0, 0), (145, .iaload, 0, 0), (146, .iadd, 0, 0), (147, .istore 7, 0, 0), (149, .iload 7, 0, 0), (151, .iload 5, 0, 0), (153, .if_icmp .ge 8, 161, 0), (156, .iload 7, 0, 0), (158, .goto 5, 163, 0), (161, .iload 5, 0, 0), (163, .istore 5, 0, 0), (165, .iinc 6 1, 0, 0), (168, .goto (-84), 84, 0), (171, .aload_n 0, 0, 0), (172, .getfield 45, 6, 17), (175, .bipush 8, 0, 0), (177, .iload_n 3, 0, 0), (178, .imul, 0, 0), (179, .iload 4, 0, 0), (181, .iadd, 0, 0), (182, .iload 5, 0, 0), (184, .iastore, 0, 0), (185, .iinc 4 1, 0, 0), (188, .goto (-136), 52, 0), (191, .iinc 3 1, 0, 0), (194, .goto (-152), 42, 0), (197, .iconst 1, 0, 0), (198, .iload_n 1, 0, 0), (199, .ishl, 0, 0), (200, .iconst 1, 0, 0), (201, .isub, 0, 0), (202, .istore_n 3, 0, 0), (203, .aload_n 0, 0, 0), (204, .getfield 13, 6, 5), (207, .istore 4, 0, 0), (209, .iload_n 3, 0, 0), (210, .ifCond .eq 122, 332, 0), (213, .iconst (-1), 0, 0), (214, .istore 5, 0, 0), (216, .ldc 82, 1000000, 0), (218, .istore 6, 0, 0), (220, .iconst 0, 0, 0), (221, .istore 7, 0, 0), (223, .iload 7, 0, 0), (225, .iload_n 1, 0, 0), (226, .if_icmp .ge 74, 300, 0), (229, .iload_n 3, 0, 0), (230, .iload 7, 0, 0), (232, .ishr, 0, 0), (233, .iconst 1, 0, 0), (234, .iand, 0, 0), (235, .ifCond .ne 6, 241, 0), (238, .goto 56, 294, 0), (241, .aload_n 0, 0, 0), (242, .iload 4, 0, 0), (244, .aload_n 0, 0, 0), (245, .getfield 42, 6, 16), (248, .iload 7, 0, 0), (250, .iaload, 0, 0), (251, .invokevirtual 86, 0, 71), (254, .aload_n 0, 0, 0), (255, .getfield 45, 6, 17), (258, .bipush 8, 0, 0), (260, .iload_n 3, 0, 0), (261, .iconst 1, 0, 0), (262, .iload 7, 0, 0), (264, .ishl, 0, 0), (265, .iconst (-1), 0, 0), (266, .ixor, 0, 0), (267, .iand, 0, 0), (268, .imul, 0, 0), (269, .iload 7, 0, 0), (271, .iadd, 0, 0), (272, .iaload, 0, 0), (273, .iadd, 0, 0), (274, .istore 8, 0, 0), (276, .iload 8, 0, 0), (278, .iload 6, 0, 0), (280, .if_icmp .lt 6, 286, 0), (283, .goto 11, 294, 0), (286, .iload 8, 0, 0), (288, .istore 6, 0, 0), (290, .iload 7, 0, 0), (292, .istore 5, 0, 0), (294, .iinc 7 1, 0, 0), (297, .goto (-74), 223, 0), (300, .aload_n 0, 0, 0), (301, .aload_n 0, 0, 0), (302, .getfield 42, 6, 16), (305, .iload 5, 0, 0), (307, .iaload, 0, 0), (308, .invokevirtual 89, 0, 73), (311, .aload_n 0, 0, 0), (312, .getfield 42, 6, 16), (315, .iload 5, 0, 0), (317, .iaload, 0, 0), (318, .istore 4, 0, 0), (320, .iload_n 3, 0, 0), (321, .iconst 1, 0, 0), (322, .iload 5, 0, 0), (324, .ishl, 0, 0), (325, .iconst (-1), 0, 0), (326, .ixor, 0, 0), (327, .iand, 0, 0), (328, .istore_n 3, 0, 0), (329, .goto (-120), 209, 0), (332, .return_, 0, 0)]
def inX6_walk : List AxI := [(0, .aload_n 0, 0, 0), (1, .iload_n 1, 0, 0), (2, .iconst 0, 0, 0), (3, .iconst 4, 0, 0), (4, .invokestatic 60, 2, 61), (7, .ifCond .ne 7, 14, 0), (10, .iconst 1, 0, 0), (11, .goto 22, 33, 0), (14, .iload_n 1, 0, 0), (15, .iconst 4, 0, 0), (16, .if_icmp .ne 16, 32, 0), (19, .aload_n 0, 0, 0), (20, .invokevirtual 103, 0, 67), (23, .bipush 8, 0, 0), (25, .if_icmp .le 7, 32, 0), (28, .iconst 2, 0, 0), (29, .goto 4, 33, 0), (32, .iconst 0, 0, 0), (33, .putfield 54, 6, 0), (36, .aload_n 0, 0, 0), (37, .getfield 54, 6, 0), (40, .ifCond .le 5, 45, 0), (43, .iconst 0, 0, 0), (44, .ireturn, 0, 0), (45, .aload_n 0, 0, 0), (46, .iconst 0, 0, 0), (47, .putfield 83, 6, 12), (50, .iconst 0, 0, 0), (51, .istore_n 2, 0, 0), (52, .iload_n 2, 0, 0), (53, .aload_n 0, 0, 0), (54, .getfield 57, 6, 7), (57, .if_icmp .ge 27, 84, 0), (60, .aload_n 0, 0, 0), (61, .getfield 36, 6, 14), (64, .iload_n 2, 0, 0), (65, .aload_n 0, 0, 0), (66, .iload_n 2, 0, 0), (67, .invokevirtual 68, 0, 66), (70, .bastore, 0, 0), (71, .aload_n 0, 0, 0), (72, .getfield 39, 6, 15), (75, .iload_n 2, 0, 0), (76, .iconst 1, 0, 0), (77, .bastore, 0, 0), (78, .iinc 2 1, 0, 0), (81, .goto (-29), 52, 0), (84, .aload_n 0, 0, 0), (85, .invokevirtual 103, 0, 67), (88, .istore_n 2, 0, 0), (89, .iload_n 1, 0, 0), (90, .ifCond .ne 7, 97, 0), (93, .aload_n 0, 0, 0), (94, .invokevirtual 107, 0, 76), (97, .iload_n 1, 0, 0), (98, .iconst 1, 0, 0), (99, .if_icmp .ne 27, 126, 0), (102, .iconst 0, 0, 0), (103, .istore_n 3, 0, 0), (104, .iload_n 3, 0, 0), (105, .aload_n 0, 0, 0), (106, .getfield 48, 6, 1), (109, .if_icmp .ge 17, 126, 0), (112, .aload_n 0, 0, 0), (113, .iload_n 3, 0, 0), (114, .iconst 1, 0, 0), (115, .iconst 1, 0, 0), (116, .iconst 1, 0, 0), (117, .invokevirtual 96, 0, 74), (120, .iinc 3 1, 0, 0), (123, .goto (-19), 104, 0), (126, .iload_n 1, 0, 0), (127, .iconst 2, 0, 0), (128, .if_icmp .ne 7, 135, 0), (131, .aload_n 0, 0, 0), (132, .invokevirtual 110, 0, 78), (135, .iload_n 1, 0, 0), (136, .iconst 3, 0, 0), (137, .if_icmp .ne 8, 145, 0), (140, .aload_n 0, 0, 0), (141, .iload_n 2, 0, 0), (142, .invokevirtual 113, 0, 79), (145, .iload_n 1, 0, 0), (146, .iconst 4, 0, 0), (147, .if_icmp .ne 8, 155, 0), (150, .aload_n 0, 0, 0), (151, .iload_n 2, 0, 0), (152, .invokevirtual 116, 0, 80), (155, .aload_n 0, 0, 0), (156, .invokevirtual 119, 0, 72), (159, .ireturn, 0, 0)]
def inX6_step : List AxI := [(0, .aload_n 0, 0, 0), (1, .iload_n 1, 0, 0), (2, .iconst 0, 0, 0), (3, .aload_n 0, 0, 0), (4, .getfield 83, 6, 12), (7, .iconst 1, 0, 0), (8, .isub, 0, 0), (9, .invokestatic 60, 2, 61), (12, .ifCond .eq 7, 19, 0), (15, .iconst 0, 0, 0), (16, .goto 4, 20, 0), (19, .iconst 1, 0, 0), (20, .putfield 54, 6, 0), (23, .aload_n 0, 0, 0), (24, .getfield 54, 6, 0), (27, .ifCond .le 7, 34, 0), (30, .iconst 0, 0, 0), (31, .goto 9, 40, 0), (34, .aload_n 0, 0, 0), (35, .getfield 33, 6, 13), (38, .iload_n 1, 0, 0), (39, .iaload, 0, 0), (40, .ireturn, 0, 0)]
def inX6_remove : List AxI := [(0, .aload_n 0, 0, 0), (1, .dup, 0, 0), (2, .getfield 83, 6, 12), (5, .iconst 1, 0, 0), (6, .isub, 0, 0), (7, .putfield 83, 6, 12), (10, .iload_n 1, 0, 0), (11, .istore_n 2, 0, 0), (12, .iload_n 2, 0, 0), (13, .aload_n 0, 0, 0), (14, .getfield 83, 6, 12), (17, .if_icmp .ge 23, 40, 0), (20, .aload_n 0, 0, 0), (21, .getfield 33, 6, 13), (24, .iload_n 2, 0, 0), (25, .aload_n 0, 0, 0), (26, .getfield 33, 6, 13), (29, .iload_n 2, 0, 0), (30, .iconst 1, 0, 0), (31, .iadd, 0, 0), (32, .iaload, 0, 0), (33, .iastore, 0, 0), (34, .iinc 2 1, 0, 0), (37, .goto (-25), 12, 0), (40, .return_, 0, 0)]
def inX6_go : List AxI := [(0, .aload_n 0, 0, 0), (1, .aload_n 0, 0, 0), (2, .getfield 83, 6, 12), (5, .ifCond .ne 7, 12, 0), (8, .iconst 1, 0, 0), (9, .goto 4, 13, 0), (12, .iconst 0, 0, 0), (13, .putfield 54, 6, 0), (16, .aload_n 0, 0, 0), (17, .getfield 54, 6, 0), (20, .ifCond .ne 31, 51, 0), (23, .aload_n 0, 0, 0), (24, .aload_n 0, 0, 0), (25, .getfield 16, 6, 6), (28, .aload_n 0, 0, 0), (29, .getfield 20, 6, 8), (32, .aload_n 0, 0, 0), (33, .getfield 33, 6, 13), (36, .iconst 0, 0, 0), (37, .iaload, 0, 0), (38, .iaload, 0, 0), (39, .baload, 0, 0), (40, .ifCond .eq 7, 47, 0), (43, .iconst 1, 0, 0), (44, .goto 4, 48, 0), (47, .iconst 0, 0, 0), (48, .putfield 54, 6, 0), (51, .aload_n 0, 0, 0), (52, .getfield 54, 6, 0), (55, .ifCond .le 5, 60, 0), (58, .iconst 0, 0, 0), (59, .ireturn, 0, 0), (60, .aload_n 0, 0, 0), (61, .getfield 33, 6, 13), (64, .iconst 0, 0, 0), (65, .iaload, 0, 0), (66, .istore_n 1, 0, 0), (67, .aload_n 0, 0, 0), (68, .dup, 0, 0), (69, .getfield 122, 6, 4), (72, .aload_n 0, 0, 0), (73, .aload_n 0, 0, 0), (74, .getfield 13, 6, 5), (77, .iload_n 1, 0, 0), (78, .invokevirtual 86, 0, 71), (81, .iadd, 0, 0), (82, .putfield 122, 6, 4), (85, .aload_n 0, 0, 0), (86, .iload_n 1, 0, 0), (87, .putfield 13, 6, 5), (90, .aload_n 0, 0, 0), (91, .getfield 30, 6, 11), (94, .iload_n 1, 0, 0), (95, .iconst 1, 0, 0), (96, .iastore, 0, 0), (97, .aload_n 0, 0, 0), (98, .iconst 0, 0, 0), (99, .invokevirtual 125, 0, 83), (102, .iload_n 1, 0, 0), (103, .ireturn, 0, 0)]
def inX6_missing : List AxI := [(0, .aload_n 0, 0, 0), (1, .aload_n 0, 0, 0), (2, .iload_n 1, 0, 0), (3, .invokevirtual 128, 0, 62), (6, .ifCond .ne 7, 13, 0), (9, .iconst 1, 0, 0), (10, .goto 4, 14, 0), (13, .iconst 0, 0, 0), (14, .putfield 54, 6, 0), (17, .aload_n 0, 0, 0), (18, .getfield 54, 6, 0), (21, .ifCond .ne 21, 42, 0), (24, .aload_n 0, 0, 0), (25, .aload_n 0, 0, 0), (26, .getfield 30, 6, 11), (29, .iload_n 1, 0, 0), (30, .iaload, 0, 0), (31, .ifCond .eq 7, 38, 0), (34, .iconst 2, 0, 0), (35, .goto 4, 39, 0), (38, .iconst 0, 0, 0), (39, .putfield 54, 6, 0), (42, .aload_n 0, 0, 0), (43, .getfield 54, 6, 0), (46, .ifCond .le 5, 51, 0), (49, .iconst 0, 0, 0), (50, .ireturn, 0, 0), (51, .aload_n 0, 0, 0), (52, .getfield 30, 6, 11), (55, .iload_n 1, 0, 0), (56, .iconst 2, 0, 0), (57, .iastore, 0, 0), (58, .aload_n 0, 0, 0), (59, .getfield 83, 6, 12), (62, .iconst 1, 0, 0), (63, .isub, 0, 0), (64, .istore_n 2, 0, 0), (65, .iload_n 2, 0, 0), (66, .ifCond .lt 24, 90, 0), (69, .aload_n 0, 0, 0), (70, .getfield 33, 6, 13), (73, .iload_n 2, 0, 0), (74, .iaload, 0, 0), (75, .iload_n 1, 0, 0), (76, .if_icmp .ne 8, 84, 0), (79, .aload_n 0, 0, 0), (80, .iload_n 2, 0, 0), (81, .invokevirtual 125, 0, 83), (84, .iinc 2 (-1), 0, 0), (87, .goto (-22), 65, 0), (90, .aload_n 0, 0, 0), (91, .invokevirtual 119, 0, 72), (94, .ireturn, 0, 0)]
def inX6_left : List AxI := [(0, .aload_n 0, 0, 0), (1, .iconst 0, 0, 0), (2, .putfield 54, 6, 0), (5, .aload_n 0, 0, 0), (6, .invokevirtual 119, 0, 72), (9, .ireturn, 0, 0)]
def inX6_bound : List AxI := [(0, .aload_n 0, 0, 0), (1, .iconst 0, 0, 0), (2, .putfield 54, 6, 0), (5, .iconst 0, 0, 0), (6, .istore_n 1, 0, 0), (7, .iconst 0, 0, 0), (8, .istore_n 2, 0, 0), (9, .iload_n 2, 0, 0), (10, .aload_n 0, 0, 0), (11, .getfield 57, 6, 7), (14, .if_icmp .ge 54, 68, 0), (17, .aload_n 0, 0, 0), (18, .iload_n 2, 0, 0), (19, .invokevirtual 68, 0, 66), (22, .ifCond .eq 40, 62, 0), (25, .aload_n 0, 0, 0), (26, .aload_n 0, 0, 0), (27, .getfield 13, 6, 5), (30, .iload_n 2, 0, 0), (31, .invokevirtual 86, 0, 71), (34, .aload_n 0, 0, 0), (35, .iload_n 2, 0, 0), (36, .iconst (-1), 0, 0), (37, .invokevirtual 86, 0, 71), (40, .iadd, 0, 0), (41, .iload_n 1, 0, 0), (42, .if_icmp .le 20, 62, 0), (45, .aload_n 0, 0, 0), (46, .aload_n 0, 0, 0), (47, .getfield 13, 6, 5), (50, .iload_n 2, 0, 0), (51, .invokevirtual 86, 0, 71), (54, .aload_n 0, 0, 0), (55, .iload_n 2, 0, 0), (56, .iconst (-1), 0, 0), (57, .invokevirtual 86, 0, 71), (60, .iadd, 0, 0), (61, .istore_n 1, 0, 0), (62, .iinc 2 1, 0, 0), (65, .goto (-56), 9, 0), (68, .iload_n 1, 0, 0), (69, .ireturn, 0, 0)]
def inX6_cart : List AxI := [(0, .aload_n 0, 0, 0), (1, .iload_n 1, 0, 0), (2, .iconst 1, 0, 0), (3, .sipush 1000, 0, 0), (6, .invokestatic 60, 2, 61), (9, .ifCond .eq 7, 16, 0), (12, .iconst 0, 0, 0), (13, .goto 4, 17, 0), (16, .iconst 1, 0, 0), (17, .putfield 54, 6, 0), (20, .aload_n 0, 0, 0), (21, .getfield 54, 6, 0), (24, .ifCond .ne 8, 32, 0), (27, .aload_n 0, 0, 0), (28, .iload_n 1, 0, 0), (29, .putfield 7, 6, 3), (32, .return_, 0, 0)]
def inX6_full : List AxI := [(0, .aload_n 0, 0, 0), (1, .iconst 0, 0, 0), (2, .putfield 54, 6, 0), (5, .iconst 0, 0, 0), (6, .istore_n 1, 0, 0), (7, .aload_n 0, 0, 0), (8, .getfield 13, 6, 5), (11, .istore_n 2, 0, 0), (12, .iconst 0, 0, 0), (13, .istore_n 3, 0, 0), (14, .iconst 1, 0, 0), (15, .istore 4, 0, 0), (17, .iconst 0, 0, 0), (18, .istore 5, 0, 0), (20, .iload 5, 0, 0), (22, .aload_n 0, 0, 0), (23, .getfield 83, 6, 12), (26, .if_icmp .ge 89, 115, 0), (29, .iload 4, 0, 0), (31, .ifCond .ne 37, 68, 0), (34, .iload_n 3, 0, 0), (35, .aload_n 0, 0, 0), (36, .getfield 27, 6, 10), (39, .aload_n 0, 0, 0), (40, .getfield 33, 6, 13), (43, .iload 5, 0, 0), (45, .iaload, 0, 0), (46, .iaload, 0, 0), (47, .iadd, 0, 0), (48, .aload_n 0, 0, 0), (49, .getfield 7, 6, 3), (52, .if_icmp .le 16, 68, 0), (55, .iload_n 1, 0, 0), (56, .aload_n 0, 0, 0), (57, .iload_n 2, 0, 0), (58, .iconst (-1), 0, 0), (59, .invokevirtual 86, 0, 71), (62, .iadd, 0, 0), (63, .istore_n 1, 0, 0), (64, .iconst (-1), 0, 0), (65, .istore_n 2, 0, 0), (66, .iconst 0, 0, 0), (67, .istore_n 3, 0, 0), (68, .iload_n 1, 0, 0), (69, .aload_n 0, 0, 0), (70, .iload_n 2, 0, 0), (71, .aload_n 0, 0, 0), (72, .getfield 33, 6, 13), (75, .iload 5, 0, 0), (77, .iaload, 0, 0), (78, .invokevirtual 86, 0, 71), (81, .iadd, 0, 0), (82, .istore_n 1, 0, 0), (83, .aload_n 0, 0, 0), (84, .getfield 33, 6, 13), (87, .iload 5, 0, 0), (89, .iaload, 0, 0), (90, .istore_n 2, 0, 0), (91, .iload_n 3, 0, 0), (92, .aload_n 0, 0, 0), (93, .getfield 27, 6, 10), (96, .aload_n 0, 0, 0), (97, .getfield 33, 6, 13), (100, .iload 5, 0, 0), (102, .iaload, 0, 0), (103, .iaload, 0, 0), (104, .iadd, 0, 0), (105, .istore_n 3, 0, 0), (106, .iconst 0, 0, 0), (107, .istore 4, 0, 0), (109, .iinc 5 1, 0, 0), (112, .goto (-92), 20, 0), (115, .iload_n 1, 0, 0), (116, .aload_n 0, 0, 0), (117, .iload_n 2, 0, 0), (118, .iconst (-1), 0, 0), (119, .invokevirtual 86, 0, 71), (122, .iadd, 0, 0), (123, .ireturn, 0, 0)]
def inX6_share : List AxI := [(0, .aload_n 0, 0, 0), (1, .aload_n 0, 0, 0), (2, .iload_n 1, 0, 0), (3, .invokevirtual 128, 0, 62), (6, .ifCond .ne 7, 13, 0), (9, .iconst 1, 0, 0), (10, .goto 15, 25, 0), (13, .aload_n 0, 0, 0), (14, .getfield 122, 6, 4), (17, .ifCond .ne 7, 24, 0), (20, .iconst 2, 0, 0), (21, .goto 4, 25, 0), (24, .iconst 0, 0, 0), (25, .putfield 54, 6, 0), (28, .aload_n 0, 0, 0), (29, .getfield 54, 6, 0), (32, .ifCond .le 7, 39, 0), (35, .iconst 0, 0, 0), (36, .goto 20, 56, 0), (39, .bipush 100, 0, 0), (41, .aload_n 0, 0, 0), (42, .aload_n 0, 0, 0), (43, .getfield 13, 6, 5), (46, .iload_n 1, 0, 0), (47, .invokevirtual 86, 0, 71), (50, .imul, 0, 0), (51, .aload_n 0, 0, 0), (52, .getfield 122, 6, 4), (55, .idiv, 0, 0), (56, .ireturn, 0, 0)]
def inX6_far : List AxI := [(0, .aload_n 0, 0, 0), (1, .aload_n 0, 0, 0), (2, .iload_n 1, 0, 0), (3, .invokevirtual 128, 0, 62), (6, .ifCond .eq 15, 21, 0), (9, .aload_n 0, 0, 0), (10, .iload_n 2, 0, 0), (11, .invokevirtual 128, 0, 62), (14, .ifCond .eq 7, 21, 0), (17, .iconst 0, 0, 0), (18, .goto 4, 22, 0), (21, .iconst 1, 0, 0), (22, .putfield 54, 6, 0), (25, .aload_n 0, 0, 0), (26, .getfield 54, 6, 0), (29, .ifCond .le 7, 36, 0), (32, .iconst 0, 0, 0), (33, .goto 9, 42, 0), (36, .aload_n 0, 0, 0), (37, .iload_n 1, 0, 0), (38, .iload_n 2, 0, 0), (39, .invokevirtual 86, 0, 71), (42, .ireturn, 0, 0)]
def inX6_told : List AxI := [(0, .aload_n 0, 0, 0), (1, .aload_n 0, 0, 0), (2, .iload_n 1, 0, 0), (3, .invokevirtual 128, 0, 62), (6, .ifCond .ne 7, 13, 0), (9, .iconst 1, 0, 0), (10, .goto 17, 27, 0), (13, .iload_n 2, 0, 0), (14, .iconst 0, 0, 0), (15, .iconst 4, 0, 0), (16, .invokestatic 60, 2, 61), (19, .ifCond .ne 7, 26, 0), (22, .iconst 2, 0, 0), (23, .goto 4, 27, 0), (26, .iconst 0, 0, 0), (27, .putfield 54, 6, 0), (30, .aload_n 0, 0, 0), (31, .getfield 54, 6, 0), (34, .ifCond .le 5, 39, 0), (37, .iconst 0, 0, 0), (38, .ireturn, 0, 0), (39, .iload_n 2, 0, 0), (40, .ifCond .ne 10, 50, 0), (43, .aload_n 0, 0, 0), (44, .getfield 20, 6, 8), (47, .iload_n 1, 0, 0), (48, .iaload, 0, 0), (49, .ireturn, 0, 0), (50, .iload_n 2, 0, 0), (51, .iconst 1, 0, 0), (52, .if_icmp .ne 10, 62, 0), (55, .aload_n 0, 0, 0), (56, .getfield 24, 6, 9), (59, .iload_n 1, 0, 0), (60, .iaload, 0, 0), (61, .ireturn, 0, 0), (62, .iload_n 2, 0, 0), (63, .iconst 2, 0, 0), (64, .if_icmp .ne 10, 74, 0), (67, .aload_n 0, 0, 0), (68, .getfield 27, 6, 10), (71, .iload_n 1, 0, 0), (72, .iaload, 0, 0), (73, .ireturn, 0, 0), (74, .iload_n 2, 0, 0), (75, .iconst 3, 0, 0), (76, .if_icmp .ne 12, 88, 0), (79, .aload_n 0, 0, 0), (80, .getfield 30, 6, 11), (83, .iload_n 1, 0, 0), (84, .iaload, 0, 0), (85, .goto 16, 101, 0), (88, .aload_n 0, 0, 0), (89, .iload_n 1, 0, 0), (90, .invokevirtual 68, 0, 66), (93, .ifCond .eq 7, 100, 0), (96, .iconst 1, 0, 0), (97, .goto 4, 101, 0), (100, .iconst 0, 0, 0), (101, .ireturn, 0, 0)]
def inX6_count : List AxI := [(0, .aload_n 0, 0, 0), (1, .iconst 0, 0, 0), (2, .putfield 54, 6, 0), (5, .iload_n 1, 0, 0), (6, .ifCond .ne 8, 14, 0), (9, .aload_n 0, 0, 0), (10, .getfield 57, 6, 7), (13, .ireturn, 0, 0), (14, .iload_n 1, 0, 0), (15, .iconst 1, 0, 0), (16, .if_icmp .ne 8, 24, 0), (19, .aload_n 0, 0, 0), (20, .invokevirtual 103, 0, 67), (23, .ireturn, 0, 0), (24, .iload_n 1, 0, 0), (25, .iconst 2, 0, 0), (26, .if_icmp .ne 8, 34, 0), (29, .aload_n 0, 0, 0), (30, .getfield 83, 6, 12), (33, .ireturn, 0, 0), (34, .iload_n 1, 0, 0), (35, .iconst 3, 0, 0), (36, .if_icmp .ne 8, 44, 0), (39, .aload_n 0, 0, 0), (40, .getfield 48, 6, 1), (43, .ireturn, 0, 0), (44, .iload_n 1, 0, 0), (45, .iconst 4, 0, 0), (46, .if_icmp .ne 8, 54, 0), (49, .aload_n 0, 0, 0), (50, .getfield 51, 6, 2), (53, .ireturn, 0, 0), (54, .iload_n 1, 0, 0), (55, .iconst 5, 0, 0), (56, .if_icmp .ne 8, 64, 0), (59, .aload_n 0, 0, 0), (60, .getfield 122, 6, 4), (63, .ireturn, 0, 0), (64, .iload_n 1, 0, 0), (65, .bipush 7, 0, 0), (67, .if_icmp .ne 8, 75, 0), (70, .aload_n 0, 0, 0), (71, .getfield 13, 6, 5), (74, .ireturn, 0, 0), (75, .iconst 0, 0, 0), (76, .istore_n 2, 0, 0), (77, .iconst 0, 0, 0), (78, .istore_n 3, 0, 0), (79, .iload_n 3, 0, 0), (80, .aload_n 0, 0, 0), (81, .getfield 57, 6, 7), (84, .if_icmp .ge 27, 111, 0), (87, .iload_n 2, 0, 0), (88, .aload_n 0, 0, 0), (89, .getfield 30, 6, 11), (92, .iload_n 3, 0, 0), (93, .iaload, 0, 0), (94, .iconst 1, 0, 0), (95, .if_icmp .ne 7, 102, 0), (98, .iconst 1, 0, 0), (99, .goto 4, 103, 0), (102, .iconst 0, 0, 0), (103, .iadd, 0, 0), (104, .istore_n 2, 0, 0), (105, .iinc 3 1, 0, 0), (108, .goto (-29), 79, 0), (111, .iload_n 1, 0, 0), (112, .bipush 6, 0, 0), (114, .if_icmp .ne 7, 121, 0), (117, .iload_n 2, 0, 0), (118, .goto 4, 122, 0), (121, .iconst (-1), 0, 0), (122, .ireturn, 0, 0)]
def inL_cell : List AxI := [(0, .iload_n 1, 0, 0), (1, .aload_n 0, 0, 0), (2, .arraylength, 0, 0), (3, .if_icmp .ge 9, 12, 0), (6, .aload_n 0, 0, 0), (7, .iload_n 1, 0, 0), (8, .iaload, 0, 0), (9, .goto 4, 13, 0), (12, .iconst 0, 0, 0), (13, .ireturn, 0, 0)]
def inL_stop : List AxI := [(0, .aload 4, 0, 0), (2, .iconst 0, 0, 0), (3, .aload_n 0, 0, 0), (4, .iload_n 1, 0, 0), (5, .iload_n 2, 0, 0), (6, .iload_n 3, 0, 0), (7, .invokevirtual 7, 0, 42), (10, .i2l, 0, 0), (11, .lastore, 0, 0), (12, .goto 15, 27, 0), (15, .astore 5, 0, 0), (17, .iconst 1, 0, 0), (18, .ireturn, 0, 0), (19, .astore 5, 0, 0), (21, .iconst 2, 0, 0), (22, .ireturn, 0, 0), (23, .astore 5, 0, 0), (25, .iconst 3, 0, 0), (26, .ireturn, 0, 0), (27, .iconst 0, 0, 0), (28, .ireturn, 0, 0)]
def inL_closed : List AxI := [(0, .aload_n 3, 0, 0), (1, .iconst 0, 0, 0), (2, .aload_n 0, 0, 0), (3, .iload_n 1, 0, 0), (4, .iload_n 2, 0, 0), (5, .invokevirtual 19, 0, 43), (8, .i2l, 0, 0), (9, .lastore, 0, 0), (10, .goto 7, 17, 0), (13, .astore 4, 0, 0), (15, .iconst 1, 0, 0), (16, .ireturn, 0, 0), (17, .iconst 0, 0, 0), (18, .ireturn, 0, 0)]
def inL_walk : List AxI := [(0, .aload_n 2, 0, 0), (1, .iconst 0, 0, 0), (2, .aload_n 0, 0, 0), (3, .iload_n 1, 0, 0), (4, .invokevirtual 23, 0, 44), (7, .i2l, 0, 0), (8, .lastore, 0, 0), (9, .goto 9, 18, 0), (12, .astore_n 3, 0, 0), (13, .iconst 1, 0, 0), (14, .ireturn, 0, 0), (15, .astore_n 3, 0, 0), (16, .iconst 2, 0, 0), (17, .ireturn, 0, 0), (18, .iconst 0, 0, 0), (19, .ireturn, 0, 0)]
def inL_step : List AxI := [(0, .aload_n 2, 0, 0), (1, .iconst 0, 0, 0), (2, .aload_n 0, 0, 0), (3, .iload_n 1, 0, 0), (4, .invokevirtual 29, 0, 45), (7, .i2l, 0, 0), (8, .lastore, 0, 0), (9, .goto 6, 15, 0), (12, .astore_n 3, 0, 0), (13, .iconst 1, 0, 0), (14, .ireturn, 0, 0), (15, .iconst 0, 0, 0), (16, .ireturn, 0, 0)]
def inL_go : List AxI := [(0, .aload_n 1, 0, 0), (1, .iconst 0, 0, 0), (2, .aload_n 0, 0, 0), (3, .invokevirtual 34, 0, 46), (6, .i2l, 0, 0), (7, .lastore, 0, 0), (8, .goto 6, 14, 0), (11, .astore_n 2, 0, 0), (12, .iconst 1, 0, 0), (13, .ireturn, 0, 0), (14, .iconst 0, 0, 0), (15, .ireturn, 0, 0)]
def inL_missing : List AxI := [(0, .aload_n 2, 0, 0), (1, .iconst 0, 0, 0), (2, .aload_n 0, 0, 0), (3, .iload_n 1, 0, 0), (4, .invokevirtual 38, 0, 47), (7, .i2l, 0, 0), (8, .lastore, 0, 0), (9, .goto 9, 18, 0), (12, .astore_n 3, 0, 0), (13, .iconst 1, 0, 0), (14, .ireturn, 0, 0), (15, .astore_n 3, 0, 0), (16, .iconst 2, 0, 0), (17, .ireturn, 0, 0), (18, .iconst 0, 0, 0), (19, .ireturn, 0, 0)]
def inL_cart : List AxI := [(0, .aload_n 0, 0, 0), (1, .iload_n 1, 0, 0), (2, .invokevirtual 41, 0, 50), (5, .goto 6, 11, 0), (8, .astore_n 2, 0, 0), (9, .iconst 1, 0, 0), (10, .ireturn, 0, 0), (11, .iconst 0, 0, 0), (12, .ireturn, 0, 0)]
def inL_share : List AxI := [(0, .aload_n 2, 0, 0), (1, .iconst 0, 0, 0), (2, .aload_n 0, 0, 0), (3, .iload_n 1, 0, 0), (4, .invokevirtual 45, 0, 52), (7, .i2l, 0, 0), (8, .lastore, 0, 0), (9, .goto 9, 18, 0), (12, .astore_n 3, 0, 0), (13, .iconst 1, 0, 0), (14, .ireturn, 0, 0), (15, .astore_n 3, 0, 0), (16, .iconst 2, 0, 0), (17, .ireturn, 0, 0), (18, .iconst 0, 0, 0), (19, .ireturn, 0, 0)]
def inL_far : List AxI := [(0, .aload_n 3, 0, 0), (1, .iconst 0, 0, 0), (2, .aload_n 0, 0, 0), (3, .iload_n 1, 0, 0), (4, .iload_n 2, 0, 0), (5, .invokevirtual 50, 0, 53), (8, .i2l, 0, 0), (9, .lastore, 0, 0), (10, .goto 7, 17, 0), (13, .astore 4, 0, 0), (15, .iconst 1, 0, 0), (16, .ireturn, 0, 0), (17, .iconst 0, 0, 0), (18, .ireturn, 0, 0)]
def inL_told : List AxI := [(0, .aload_n 3, 0, 0), (1, .iconst 0, 0, 0), (2, .aload_n 0, 0, 0), (3, .iload_n 1, 0, 0), (4, .iload_n 2, 0, 0), (5, .invokevirtual 54, 0, 54), (8, .i2l, 0, 0), (9, .lastore, 0, 0), (10, .goto 11, 21, 0), (13, .astore 4, 0, 0), (15, .iconst 1, 0, 0), (16, .ireturn, 0, 0), (17, .astore 4, 0, 0), (19, .iconst 2, 0, 0), (20, .ireturn, 0, 0), (21, .iconst 0, 0, 0), (22, .ireturn, 0, 0)]
def inL_law : List AxI := [(0, .new 8, 5, 0), (3, .dup, 0, 0), (4, .aload_n 0, 0, 0), (5, .iconst 0, 0, 0), (6, .invokestatic 57, 2, 94), (9, .aload_n 0, 0, 0), (10, .iconst 1, 0, 0), (11, .invokestatic 57, 2, 94), (14, .invokespecial 63, 1, 41), (17, .astore_n 1, 0, 0), (18, .new 66, 6, 0), (21, .dup, 0, 0), (22, .aload_n 0, 0, 0), (23, .iconst 0, 0, 0), (24, .invokestatic 57, 2, 94), (27, .aload_n 0, 0, 0), (28, .iconst 1, 0, 0), (29, .invokestatic 57, 2, 94), (32, .invokespecial 68, 1, 59), (35, .astore_n 2, 0, 0), (36, .iconst 1, 0, 0), (37, .newarray .long, 1, 2), (39, .astore_n 3, 0, 0), (40, .iconst 2, 0, 0), (41, .istore 4, 0, 0), (43, .iload 4, 0, 0), (45, .aload_n 0, 0, 0), (46, .arraylength, 0, 0), (47, .iconst 4, 0, 0), (48, .isub, 0, 0), (49, .if_icmp .gt 753, 802, 0), (52, .aload_n 0, 0, 0), (53, .iload 4, 0, 0), (55, .iaload, 0, 0), (56, .bipush 15, 0, 0), (58, .iand, 0, 0), (59, .tableswitch 737 0 13 #[69, 149, 233, 289, 345, 389, 445, 458, 471, 507, 520, 576, 644, 712], 0, 0), (128, .aload_n 1, 0, 0), (129, .aload_n 0, 0, 0), (130, .iload 4, 0, 0), (132, .iconst 1, 0, 0), (133, .iadd, 0, 0), (134, .iaload, 0, 0), (135, .aload_n 0, 0, 0), (136, .iload 4, 0, 0), (138, .iconst 2, 0, 0), (139, .iadd, 0, 0), (140, .iaload, 0, 0), (141, .aload_n 0, 0, 0), (142, .iload 4, 0, 0), (144, .iconst 3, 0, 0), (145, .iadd, 0, 0), (146, .iaload, 0, 0), (147, .aload_n 3, 0, 0), (148, .invokestatic 69, 3, 95), (151, .istore 5, 0, 0), (153, .aload_n 2, 0, 0), (154, .aload_n 0, 0, 0), (155, .iload 4, 0, 0), (157, .iconst 1, 0, 0), (158, .iadd, 0, 0), (159, .iaload, 0, 0), (160, .aload_n 0, 0, 0), (161, .iload 4, 0, 0), (163, .iconst 2, 0, 0), (164, .iadd, 0, 0), (165, .iaload, 0, 0), (166, .aload_n 0, 0, 0), (167, .iload 4, 0, 0), (169, .iconst 3, 0, 0), (170, .iadd, 0, 0), (171, .iaload, 0, 0), (172, .invokevirtual 72, 0, 64), (175, .istore 6, 0, 0), (177, .aload_n 2, 0, 0), (178, .invokevirtual 73, 0, 60), (181, .iload 5, 0, 0), (183, .if_icmp .eq 5, 188, 0), (186, .iconst 0, 0, 0), (187, .ireturn, 0, 0), (188, .iload 5, 0, 0), (190, .ifCond .ne 15, 205, 0), (193, .aload_n 3, 0, 0), (194, .iconst 0, 0, 0), (195, .laload, 0, 0), (196, .iload 6, 0, 0), (198, .i2l, 0, 0), (199, .lcmp, 0, 0), (200, .ifCond .eq 5, 205, 0), (203, .iconst 0, 0, 0), (204, .ireturn, 0, 0), (205, .goto 591, 796, 0), (208, .aload_n 1, 0, 0), (209, .aload_n 0, 0, 0), (210, .iload 4, 0, 0), (212, .iconst 1, 0, 0), (213, .iadd, 0, 0), (214, .iaload, 0, 0), (215, .aload_n 0, 0, 0), (216, .iload 4, 0, 0), (218, .iconst 2, 0, 0), (219, .iadd, 0, 0), (220, .iaload, 0, 0), (221, .ifCond .eq 7, 228, 0), (224, .iconst 1, 0, 0), (225, .goto 4, 229, 0), (228, .iconst 0, 0, 0), (229, .aload_n 3, 0, 0), (230, .invokestatic 76, 3, 96), (233, .istore 5, 0, 0), (235, .aload_n 2, 0, 0), (236, .aload_n 0, 0, 0), (237, .iload 4, 0, 0), (239, .iconst 1, 0, 0), (240, .iadd, 0, 0), (241, .iaload, 0, 0), (242, .aload_n 0, 0, 0), (243, .iload 4, 0, 0), (245, .iconst 2, 0, 0), (246, .iadd, 0, 0), (247, .iaload, 0, 0), (248, .ifCond .eq 7, 255, 0), (251, .iconst 1, 0, 0), (252, .goto 4, 256, 0), (255, .iconst 0, 0, 0), (256, .invokevirtual 79, 0, 65), (259, .istore 6, 0, 0), (261, .aload_n 2, 0, 0), (262, .invokevirtual 73, 0, 60), (265, .iload 5, 0, 0), (267, .if_icmp .eq 5, 272, 0), (270, .iconst 0, 0, 0), (271, .ireturn, 0, 0), (272, .iload 5, 0, 0), (274, .ifCond .ne 15, 289, 0), (277, .aload_n 3, 0, 0), (278, .iconst 0, 0, 0), (279, .laload, 0, 0), (280, .iload 6, 0, 0), (282, .i2l, 0, 0), (283, .lcmp, 0, 0), (284, .ifCond .eq 5, 289, 0), (287, .iconst 0, 0, 0), (288, .ireturn, 0, 0), (289, .goto 507, 796, 0), (292, .aload_n 1, 0, 0), (293, .aload_n 0, 0, 0), (294, .iload 4, 0, 0), (296, .iconst 1, 0, 0), (297, .iadd, 0, 0), (298, .iaload, 0, 0), (299, .aload_n 3, 0, 0), (300, .invokestatic 80, 3, 97), (303, .istore 5, 0, 0), (305, .aload_n 2, 0, 0), (306, .aload_n 0, 0, 0), (307, .iload 4, 0, 0), (309, .iconst 1, 0, 0), (310, .iadd, 0, 0), (311, .iaload, 0, 0), (312, .invokevirtual 83, 0, 81), (315, .istore 6, 0, 0), (317, .aload_n 2, 0, 0), (318, .invokevirtual 73, 0, 60), (321, .iload 5, 0, 0), (323, .if_icmp .eq 5, 328, 0), (326, .iconst 0, 0, 0), (327, .ireturn, 0, 0), (328, .iload 5, 0, 0), (330, .ifCond .ne 15, 345, 0), (333, .aload_n 3, 0, 0), (334, .iconst 0, 0, 0), (335, .laload, 0, 0), (336, .iload 6, 0, 0), (338, .i2l, 0, 0), (339, .lcmp, 0, 0), (340, .ifCond .eq 5, 345, 0), (343, .iconst 0, 0, 0), (344, .ireturn, 0, 0), (345, .goto 451, 796, 0), (348, .aload_n 1, 0, 0), (349, .aload_n 0, 0, 0), (350, .iload 4, 0, 0), (352, .iconst 1, 0, 0), (353, .iadd, 0, 0), (354, .iaload, 0, 0), (355, .aload_n 3, 0, 0), (356, .invokestatic 84, 3, 98), (359, .istore 5, 0, 0), (361, .aload_n 2, 0, 0), (362, .aload_n 0, 0, 0), (363, .iload 4, 0, 0), (365, .iconst 1, 0, 0), (366, .iadd, 0, 0), (367, .iaload, 0, 0), (368, .invokevirtual 86, 0, 82), (371, .istore 6, 0, 0), (373, .aload_n 2, 0, 0), (374, .invokevirtual 73, 0, 60), (377, .iload 5, 0, 0), (379, .if_icmp .eq 5, 384, 0), (382, .iconst 0, 0, 0), (383, .ireturn, 0, 0), (384, .iload 5, 0, 0), (386, .ifCond .ne 15, 401, 0), (389, .aload_n 3, 0, 0), (390, .iconst 0, 0, 0), (391, .laload, 0, 0), (392, .iload 6, 0, 0), (394, .i2l, 0, 0), (395, .lcmp, 0, 0), (396, .ifCond .eq 5, 401, 0), (399, .iconst 0, 0, 0), (400, .ireturn, 0, 0), (401, .goto 395, 796, 0), (404, .aload_n 1, 0, 0), (405, .aload_n 3, 0, 0), (406, .invokestatic 87, 3, 99), (409, .istore 5, 0, 0), (411, .aload_n 2, 0, 0), (412, .invokevirtual 90, 0, 84), (415, .istore 6, 0, 0), (417, .aload_n 2, 0, 0), (418, .invokevirtual 73, 0, 60), (421, .iload 5, 0, 0), (423, .if_icmp .eq 5, 428, 0), (426, .iconst 0, 0, 0), (427, .ireturn, 0, 0), (428, .iload 5, 0, 0), (430, .ifCond .ne 15, 445, 0), (433, .aload_n 3, 0, 0), (434, .iconst 0, 0, 0), (435, .laload, 0, 0), (436, .iload 6, 0, 0), (438, .i2l, 0, 0), (439, .lcmp, 0, 0), (440, .ifCond .eq 5, 445, 0), (443, .iconst 0, 0, 0), (444, .ireturn, 0, 0), (445, .goto 351, 796, 0), (448, .aload_n 1, 0, 0), (449, .aload_n 0, 0, 0), (450, .iload 4, 0, 0), (452, .iconst 1, 0, 0), (453, .iadd, 0, 0), (454, .iaload, 0, 0), (455, .aload_n 3, 0, 0), (456, .invokestatic 91, 3, 100), (459, .istore 5, 0, 0), (461, .aload_n 2, 0, 0), (462, .aload_n 0, 0, 0), (463, .iload 4, 0, 0), (465, .iconst 1, 0, 0), (466, .iadd, 0, 0), (467, .iaload, 0, 0), (468, .invokevirtual 93, 0, 85), (471, .istore 6, 0, 0), (473, .aload_n 2, 0, 0), (474, .invokevirtual 73, 0, 60), (477, .iload 5, 0, 0), (479, .if_icmp .eq 5, 484, 0), (482, .iconst 0, 0, 0), (483, .ireturn, 0, 0), (484, .iload 5, 0, 0), (486, .ifCond .ne 15, 501, 0), (489, .aload_n 3, 0, 0), (490, .iconst 0, 0, 0), (491, .laload, 0, 0), (492, .iload 6, 0, 0), (494, .i2l, 0, 0), (495, .lcmp, 0, 0), (496, .ifCond .eq 5, 501, 0), (499, .iconst 0, 0, 0), (500, .ireturn, 0, 0), (501, .goto 295, 796, 0), (504, .aload_n 1, 0, 0), (505, .invokevirtual 94, 0, 48), (508, .aload_n 2, 0, 0), (509, .invokevirtual 97, 0, 86), (512, .if_icmp .eq 284, 796, 0), (515, .iconst 0, 0, 0), (516, .ireturn, 0, 0), (517, .aload_n 1, 0, 0), (518, .invokevirtual 98, 0, 49), (521, .aload_n 2, 0, 0), (522, .invokevirtual 101, 0, 87), (525, .if_icmp .eq 271, 796, 0), (528, .iconst 0, 0, 0), (529, .ireturn, 0, 0), (530, .aload_n 1, 0, 0), (531, .aload_n 0, 0, 0), (532, .iload 4, 0, 0), (534, .iconst 1, 0, 0), (535, .iadd, 0, 0), (536, .iaload, 0, 0), (537, .invokestatic 102, 3, 101), (540, .istore 5, 0, 0), (542, .aload_n 2, 0, 0), (543, .aload_n 0, 0, 0), (544, .iload 4, 0, 0), (546, .iconst 1, 0, 0), (547, .iadd, 0, 0), (548, .iaload, 0, 0), (549, .invokevirtual 105, 0, 88), (552, .aload_n 2, 0, 0), (553, .invokevirtual 73, 0, 60), (556, .iload 5, 0, 0), (558, .if_icmp .eq 5, 563, 0), (561, .iconst 0, 0, 0), (562, .ireturn, 0, 0), (563, .goto 233, 796, 0), (566, .aload_n 1, 0, 0), (567, .invokevirtual 106, 0, 51), (570, .aload_n 2, 0, 0), (571, .invokevirtual 109, 0, 89), (574, .if_icmp .eq 222, 796, 0), (577, .iconst 0, 0, 0), (578, .ireturn, 0, 0), (579, .aload_n 1, 0, 0), (580, .aload_n 0, 0, 0), (581, .iload 4, 0, 0), (583, .iconst 1, 0, 0), (584, .iadd, 0, 0), (585, .iaload, 0, 0), (586, .aload_n 3, 0, 0), (587, .invokestatic 110, 3, 102), (590, .istore 5, 0, 0), (592, .aload_n 2, 0, 0), (593, .aload_n 0, 0, 0), (594, .iload 4, 0, 0), (596, .iconst 1, 0, 0), (597, .iadd, 0, 0), (598, .iaload, 0, 0), (599, .invokevirtual 112, 0, 90), (602, .istore 6, 0, 0), (604, .aload_n 2, 0, 0), (605, .invokevirtual 73, 0, 60), (608, .iload 5, 0, 0), (610, .if_icmp .eq 5, 615, 0), (613, .iconst 0, 0, 0), (614, .ireturn, 0, 0), (615, .iload 5, 0, 0), (617, .ifCond .ne 15, 632, 0), (620, .aload_n 3, 0, 0), (621, .iconst 0, 0, 0), (622, .laload, 0, 0), (623, .iload 6, 0, 0), (625, .i2l, 0, 0), (626, .lcmp, 0, 0), (627, .ifCond .eq 5, 632, 0), (630, .iconst 0, 0, 0), (631, .ireturn, 0, 0), (632, .goto 164, 796, 0), (635, .aload_n 1, 0, 0), (636, .aload_n 0, 0, 0), (637, .iload 4, 0, 0), (639, .iconst 1, 0, 0), (640, .iadd, 0, 0), (641, .iaload, 0, 0), (642, .aload_n 0, 0, 0), (643, .iload 4, 0, 0), (645, .iconst 2, 0, 0), (646, .iadd, 0, 0), (647, .iaload, 0, 0), (648, .aload_n 3, 0, 0), (649, .invokestatic 113, 3, 103), (652, .istore 5, 0, 0), (654, .aload_n 2, 0, 0), (655, .aload_n 0, 0, 0), (656, .iload 4, 0, 0), (658, .iconst 1, 0, 0), (659, .iadd, 0, 0), (660, .iaload, 0, 0), (661, .aload_n 0, 0, 0), (662, .iload 4, 0, 0), (664, .iconst 2, 0, 0), (665, .iadd, 0, 0), (666, .iaload, 0, 0), (667, .invokevirtual 116, 0, 91), (670, .istore 6, 0, 0), (672, .aload_n 2, 0, 0), (673, .invokevirtual 73, 0, 60), (676, .iload 5, 0, 0), (678, .if_icmp .eq 5, 683, 0), (681, .iconst 0, 0, 0), (682, .ireturn, 0, 0), (683, .iload 5, 0, 0), (685, .ifCond .ne 15, 700, 0), (688, .aload_n 3, 0, 0), (689, .iconst 0, 0, 0), (690, .laload, 0, 0), (691, .iload 6, 0, 0), (693, .i2l, 0, 0), (694, .lcmp, 0, 0), (695, .ifCond .eq 5, 700, 0), (698, .iconst 0, 0, 0), (699, .ireturn, 0, 0), (700, .goto 96, 796, 0), (703, .aload_n 1, 0, 0), (704, .aload_n 0, 0, 0), (705, .iload 4, 0, 0), (707, .iconst 1, 0, 0), (708, .iadd, 0, 0), (709, .iaload, 0, 0), (710, .aload_n 0, 0, 0), (711, .iload 4, 0, 0), (713, .iconst 2, 0, 0), (714, .iadd, 0, 0), (715, .iaload, 0, 0), (716, .aload_n 3, 0, 0), (717, .invokestatic 117, 3, 104), (720, .istore 5, 0, 0), (722, .aload_n 2, 0, 0), (723, .aload_n 0, 0, 0), (724, .iload 4, 0, 0), (726, .iconst 1, 0, 0), (727, .iadd, 0, 0), (728, .iaload, 0, 0), (729, .aload_n 0, 0, 0), (730, .iload 4, 0, 0), (732, .iconst 2, 0, 0), (733, .iadd, 0, 0), (734, .iaload, 0, 0), (735, .invokevirtual 119, 0, 92), (738, .istore 6, 0, 0), (740, .aload_n 2, 0, 0), (741, .invokevirtual 73, 0, 60), (744, .iload 5, 0, 0), (746, .if_icmp .eq 5, 751, 0), (749, .iconst 0, 0, 0), (750, .ireturn, 0, 0), (751, .iload 5, 0, 0), (753, .ifCond .ne 15, 768, 0), (756, .aload_n 3, 0, 0), (757, .iconst 0, 0, 0), (758, .laload, 0, 0), (759, .iload 6, 0, 0), (761, .i2l, 0, 0), (762, .lcmp, 0, 0), (763, .ifCond .eq 5, 768, 0), (766, .iconst 0, 0, 0), (767, .ireturn, 0, 0), (768, .goto 28, 796, 0), (771, .aload_n 1, 0, 0), (772, .aload_n 0, 0, 0), (773, .iload 4, 0, 0), (775, .iconst 1, 0, 0), (776, .iadd, 0, 0), (777, .iaload, 0, 0), (778, .invokevirtual 120, 0, 55), (781, .aload_n 2, 0, 0), (782, .aload_n 0, 0, 0), (783, .iload 4, 0, 0), (785, .iconst 1, 0, 0), (786, .iadd, 0, 0), (787, .iaload, 0, 0), (788, .invokevirtual 123, 0, 93), (791, .if_icmp .eq 5, 796, 0), (794, .iconst 0, 0, 0), (795, .ireturn, 0, 0), (796, .iinc 4 4, 0, 0), (799, .goto (-756), 43, 0), (802, .iconst 1, 0, 0), (803, .ireturn, 0, 0)]
abbrev MX0_init : Nat := 0
abbrev MX0_hasAisle : Nat := 1
abbrev MX0_hasPlace : Nat := 2
abbrev MX0_backDepth : Nat := 3
abbrev MX0_placeDepth : Nat := 4
abbrev MX0_between : Nat := 5
abbrev MX1_init : Nat := 6
abbrev MX1_lay : Nat := 7
abbrev MX1_gather : Nat := 8
abbrev MX1_fillRests : Nat := 9
abbrev MX1_bestNext : Nat := 10
abbrev MX1_isIn : Nat := 11
abbrev MX1_lengthBy : Nat := 12
abbrev MX2_init : Nat := 13
abbrev MX2_lay : Nat := 14
abbrev MX2_layNearest : Nat := 15
abbrev MX2_nearestFrom : Nat := 16
abbrev MX2_layByKeys : Nat := 17
abbrev MX2_keyOf : Nat := 18
abbrev MX2_throughKey : Nat := 19
abbrev MX2_gapKey : Nat := 20
abbrev MX2_upward : Nat := 21
abbrev MX2_downward : Nat := 22
abbrev MX2_usedAislesBelow : Nat := 23
abbrev MX2_isUsedAbove : Nat := 24
abbrev MX2_isUsed : Nat := 25
abbrev MX2_gapStart : Nat := 26
abbrev MX2_nextDepth : Nat := 27
abbrev MX3_init : Nat := 28
abbrev MX3_clear : Nat := 29
abbrev MX3_insert : Nat := 30
abbrev MX3_append : Nat := 31
abbrev MX3_drop : Nat := 32
abbrev MX4_init : Nat := 33
abbrev MX4_add : Nat := 34
abbrev MX4_measure : Nat := 35
abbrev MX4_way : Nat := 36
abbrev MX4_isWalked : Nat := 37
abbrev MX4_walkedOnes : Nat := 38
abbrev MX4_doneOnes : Nat := 39
abbrev MX4_openIn : Nat := 40
abbrev MX5_init : Nat := 41
abbrev MX5_stop : Nat := 42
abbrev MX5_closed : Nat := 43
abbrev MX5_walk : Nat := 44
abbrev MX5_step : Nat := 45
abbrev MX5_go : Nat := 46
abbrev MX5_missing : Nat := 47
abbrev MX5_left : Nat := 48
abbrev MX5_bound : Nat := 49
abbrev MX5_cart : Nat := 50
abbrev MX5_full : Nat := 51
abbrev MX5_share : Nat := 52
abbrev MX5_far : Nat := 53
abbrev MX5_told : Nat := 54
abbrev MX5_count : Nat := 55
abbrev MX5_requireAisle : Nat := 56
abbrev MX5_requireStop : Nat := 57
abbrev MX5_routeLength : Nat := 58
abbrev MX6_init : Nat := 59
abbrev MX6_thrown : Nat := 60
abbrev MX6_in : Nat := 61
abbrev MX6_isStop : Nat := 62
abbrev MX6_isAisle : Nat := 63
abbrev MX6_stop : Nat := 64
abbrev MX6_closed : Nat := 65
abbrev MX6_isWalked : Nat := 66
abbrev MX6_walked : Nat := 67
abbrev MX6_apart : Nat := 68
abbrev MX6_aisleOf : Nat := 69
abbrev MX6_depthOf : Nat := 70
abbrev MX6_way : Nat := 71
abbrev MX6_length : Nat := 72
abbrev MX6_add : Nat := 73
abbrev MX6_addAisle : Nat := 74
abbrev MX6_hasLeft : Nat := 75
abbrev MX6_through : Nat := 76
abbrev MX6_gap : Nat := 77
abbrev MX6_gaps : Nat := 78
abbrev MX6_nearest : Nat := 79
abbrev MX6_least : Nat := 80
abbrev MX6_walk : Nat := 81
abbrev MX6_step : Nat := 82
abbrev MX6_remove : Nat := 83
abbrev MX6_go : Nat := 84
abbrev MX6_missing : Nat := 85
abbrev MX6_left : Nat := 86
abbrev MX6_bound : Nat := 87
abbrev MX6_cart : Nat := 88
abbrev MX6_full : Nat := 89
abbrev MX6_share : Nat := 90
abbrev MX6_far : Nat := 91
abbrev MX6_told : Nat := 92
abbrev MX6_count : Nat := 93
abbrev ML_cell : Nat := 94
abbrev ML_stop : Nat := 95
abbrev ML_closed : Nat := 96
abbrev ML_walk : Nat := 97
abbrev ML_step : Nat := 98
abbrev ML_go : Nat := 99
abbrev ML_missing : Nat := 100
abbrev ML_cart : Nat := 101
abbrev ML_share : Nat := 102
abbrev ML_far : Nat := 103
abbrev ML_told : Nat := 104
abbrev ML_law : Nat := 105
def axT : Nat → List AxI := fun i => match i with
  | 0 => inX0_init
  | 1 => inX0_hasAisle
  | 2 => inX0_hasPlace
  | 3 => inX0_backDepth
  | 4 => inX0_placeDepth
  | 5 => inX0_between
  | 6 => inX1_init
  | 7 => inX1_lay
  | 8 => inX1_gather
  | 9 => inX1_fillRests
  | 10 => inX1_bestNext
  | 11 => inX1_isIn
  | 12 => inX1_lengthBy
  | 13 => inX2_init
  | 14 => inX2_lay
  | 15 => inX2_layNearest
  | 16 => inX2_nearestFrom
  | 17 => inX2_layByKeys
  | 18 => inX2_keyOf
  | 19 => inX2_throughKey
  | 20 => inX2_gapKey
  | 21 => inX2_upward
  | 22 => inX2_downward
  | 23 => inX2_usedAislesBelow
  | 24 => inX2_isUsedAbove
  | 25 => inX2_isUsed
  | 26 => inX2_gapStart
  | 27 => inX2_nextDepth
  | 28 => inX3_init
  | 29 => inX3_clear
  | 30 => inX3_insert
  | 31 => inX3_append
  | 32 => inX3_drop
  | 33 => inX4_init
  | 34 => inX4_add
  | 35 => inX4_measure
  | 36 => inX4_way
  | 37 => inX4_isWalked
  | 38 => inX4_walkedOnes
  | 39 => inX4_doneOnes
  | 40 => inX4_openIn
  | 41 => inX5_init
  | 42 => inX5_stop
  | 43 => inX5_closed
  | 44 => inX5_walk
  | 45 => inX5_step
  | 46 => inX5_go
  | 47 => inX5_missing
  | 48 => inX5_left
  | 49 => inX5_bound
  | 50 => inX5_cart
  | 51 => inX5_full
  | 52 => inX5_share
  | 53 => inX5_far
  | 54 => inX5_told
  | 55 => inX5_count
  | 56 => inX5_requireAisle
  | 57 => inX5_requireStop
  | 58 => inX5_routeLength
  | 59 => inX6_init
  | 60 => inX6_thrown
  | 61 => inX6_in
  | 62 => inX6_isStop
  | 63 => inX6_isAisle
  | 64 => inX6_stop
  | 65 => inX6_closed
  | 66 => inX6_isWalked
  | 67 => inX6_walked
  | 68 => inX6_apart
  | 69 => inX6_aisleOf
  | 70 => inX6_depthOf
  | 71 => inX6_way
  | 72 => inX6_length
  | 73 => inX6_add
  | 74 => inX6_addAisle
  | 75 => inX6_hasLeft
  | 76 => inX6_through
  | 77 => inX6_gap
  | 78 => inX6_gaps
  | 79 => inX6_nearest
  | 80 => inX6_least
  | 81 => inX6_walk
  | 82 => inX6_step
  | 83 => inX6_remove
  | 84 => inX6_go
  | 85 => inX6_missing
  | 86 => inX6_left
  | 87 => inX6_bound
  | 88 => inX6_cart
  | 89 => inX6_full
  | 90 => inX6_share
  | 91 => inX6_far
  | 92 => inX6_told
  | 93 => inX6_count
  | 94 => inL_cell
  | 95 => inL_stop
  | 96 => inL_closed
  | 97 => inL_walk
  | 98 => inL_step
  | 99 => inL_go
  | 100 => inL_missing
  | 101 => inL_cart
  | 102 => inL_share
  | 103 => inL_far
  | 104 => inL_told
  | 105 => inL_law
  | _ => []
def axY : Nat → MethodName := fun i => match i with
  | 0 => yX0_init
  | 1 => yX0_hasAisle
  | 2 => yX0_hasPlace
  | 3 => yX0_backDepth
  | 4 => yX0_placeDepth
  | 5 => yX0_between
  | 6 => yX1_init
  | 7 => yX1_lay
  | 8 => yX1_gather
  | 9 => yX1_fillRests
  | 10 => yX1_bestNext
  | 11 => yX1_isIn
  | 12 => yX1_lengthBy
  | 13 => yX2_init
  | 14 => yX2_lay
  | 15 => yX2_layNearest
  | 16 => yX2_nearestFrom
  | 17 => yX2_layByKeys
  | 18 => yX2_keyOf
  | 19 => yX2_throughKey
  | 20 => yX2_gapKey
  | 21 => yX2_upward
  | 22 => yX2_downward
  | 23 => yX2_usedAislesBelow
  | 24 => yX2_isUsedAbove
  | 25 => yX2_isUsed
  | 26 => yX2_gapStart
  | 27 => yX2_nextDepth
  | 28 => yX3_init
  | 29 => yX3_clear
  | 30 => yX3_insert
  | 31 => yX3_append
  | 32 => yX3_drop
  | 33 => yX4_init
  | 34 => yX4_add
  | 35 => yX4_measure
  | 36 => yX4_way
  | 37 => yX4_isWalked
  | 38 => yX4_walkedOnes
  | 39 => yX4_doneOnes
  | 40 => yX4_openIn
  | 41 => yX5_init
  | 42 => yX5_stop
  | 43 => yX5_closed
  | 44 => yX5_walk
  | 45 => yX5_step
  | 46 => yX5_go
  | 47 => yX5_missing
  | 48 => yX5_left
  | 49 => yX5_bound
  | 50 => yX5_cart
  | 51 => yX5_full
  | 52 => yX5_share
  | 53 => yX5_far
  | 54 => yX5_told
  | 55 => yX5_count
  | 56 => yX5_requireAisle
  | 57 => yX5_requireStop
  | 58 => yX5_routeLength
  | 59 => yX6_init
  | 60 => yX6_thrown
  | 61 => yX6_in
  | 62 => yX6_isStop
  | 63 => yX6_isAisle
  | 64 => yX6_stop
  | 65 => yX6_closed
  | 66 => yX6_isWalked
  | 67 => yX6_walked
  | 68 => yX6_apart
  | 69 => yX6_aisleOf
  | 70 => yX6_depthOf
  | 71 => yX6_way
  | 72 => yX6_length
  | 73 => yX6_add
  | 74 => yX6_addAisle
  | 75 => yX6_hasLeft
  | 76 => yX6_through
  | 77 => yX6_gap
  | 78 => yX6_gaps
  | 79 => yX6_nearest
  | 80 => yX6_least
  | 81 => yX6_walk
  | 82 => yX6_step
  | 83 => yX6_remove
  | 84 => yX6_go
  | 85 => yX6_missing
  | 86 => yX6_left
  | 87 => yX6_bound
  | 88 => yX6_cart
  | 89 => yX6_full
  | 90 => yX6_share
  | 91 => yX6_far
  | 92 => yX6_told
  | 93 => yX6_count
  | 94 => yL_cell
  | 95 => yL_stop
  | 96 => yL_closed
  | 97 => yL_walk
  | 98 => yL_step
  | 99 => yL_go
  | 100 => yL_missing
  | 101 => yL_cart
  | 102 => yL_share
  | 103 => yL_far
  | 104 => yL_told
  | 105 => yL_law
  | _ => yL_law
def axB : Nat → ByteArray := fun i => match i with
  | 0 => cX0_init
  | 1 => cX0_hasAisle
  | 2 => cX0_hasPlace
  | 3 => cX0_backDepth
  | 4 => cX0_placeDepth
  | 5 => cX0_between
  | 6 => cX1_init
  | 7 => cX1_lay
  | 8 => cX1_gather
  | 9 => cX1_fillRests
  | 10 => cX1_bestNext
  | 11 => cX1_isIn
  | 12 => cX1_lengthBy
  | 13 => cX2_init
  | 14 => cX2_lay
  | 15 => cX2_layNearest
  | 16 => cX2_nearestFrom
  | 17 => cX2_layByKeys
  | 18 => cX2_keyOf
  | 19 => cX2_throughKey
  | 20 => cX2_gapKey
  | 21 => cX2_upward
  | 22 => cX2_downward
  | 23 => cX2_usedAislesBelow
  | 24 => cX2_isUsedAbove
  | 25 => cX2_isUsed
  | 26 => cX2_gapStart
  | 27 => cX2_nextDepth
  | 28 => cX3_init
  | 29 => cX3_clear
  | 30 => cX3_insert
  | 31 => cX3_append
  | 32 => cX3_drop
  | 33 => cX4_init
  | 34 => cX4_add
  | 35 => cX4_measure
  | 36 => cX4_way
  | 37 => cX4_isWalked
  | 38 => cX4_walkedOnes
  | 39 => cX4_doneOnes
  | 40 => cX4_openIn
  | 41 => cX5_init
  | 42 => cX5_stop
  | 43 => cX5_closed
  | 44 => cX5_walk
  | 45 => cX5_step
  | 46 => cX5_go
  | 47 => cX5_missing
  | 48 => cX5_left
  | 49 => cX5_bound
  | 50 => cX5_cart
  | 51 => cX5_full
  | 52 => cX5_share
  | 53 => cX5_far
  | 54 => cX5_told
  | 55 => cX5_count
  | 56 => cX5_requireAisle
  | 57 => cX5_requireStop
  | 58 => cX5_routeLength
  | 59 => cX6_init
  | 60 => cX6_thrown
  | 61 => cX6_in
  | 62 => cX6_isStop
  | 63 => cX6_isAisle
  | 64 => cX6_stop
  | 65 => cX6_closed
  | 66 => cX6_isWalked
  | 67 => cX6_walked
  | 68 => cX6_apart
  | 69 => cX6_aisleOf
  | 70 => cX6_depthOf
  | 71 => cX6_way
  | 72 => cX6_length
  | 73 => cX6_add
  | 74 => cX6_addAisle
  | 75 => cX6_hasLeft
  | 76 => cX6_through
  | 77 => cX6_gap
  | 78 => cX6_gaps
  | 79 => cX6_nearest
  | 80 => cX6_least
  | 81 => cX6_walk
  | 82 => cX6_step
  | 83 => cX6_remove
  | 84 => cX6_go
  | 85 => cX6_missing
  | 86 => cX6_left
  | 87 => cX6_bound
  | 88 => cX6_cart
  | 89 => cX6_full
  | 90 => cX6_share
  | 91 => cX6_far
  | 92 => cX6_told
  | 93 => cX6_count
  | 94 => cL_cell
  | 95 => cL_stop
  | 96 => cL_closed
  | 97 => cL_walk
  | 98 => cL_step
  | 99 => cL_go
  | 100 => cL_missing
  | 101 => cL_cart
  | 102 => cL_share
  | 103 => cL_far
  | 104 => cL_told
  | 105 => cL_law
  | _ => code
def axLo : Nat → Nat := fun i => match i with
  | 0 => 3
  | 1 => 2
  | 2 => 2
  | 3 => 1
  | 4 => 2
  | 5 => 8
  | 6 => 2
  | 7 => 7
  | 8 => 2
  | 9 => 4
  | 10 => 7
  | 11 => 2
  | 12 => 4
  | 13 => 3
  | 14 => 5
  | 15 => 7
  | 16 => 5
  | 17 => 5
  | 18 => 3
  | 19 => 4
  | 20 => 3
  | 21 => 3
  | 22 => 3
  | 23 => 4
  | 24 => 3
  | 25 => 3
  | 26 => 7
  | 27 => 5
  | 28 => 1
  | 29 => 1
  | 30 => 4
  | 31 => 2
  | 32 => 4
  | 33 => 2
  | 34 => 6
  | 35 => 4
  | 36 => 3
  | 37 => 2
  | 38 => 3
  | 39 => 3
  | 40 => 4
  | 41 => 3
  | 42 => 4
  | 43 => 3
  | 44 => 2
  | 45 => 2
  | 46 => 2
  | 47 => 2
  | 48 => 1
  | 49 => 3
  | 50 => 2
  | 51 => 7
  | 52 => 2
  | 53 => 3
  | 54 => 3
  | 55 => 2
  | 56 => 2
  | 57 => 2
  | 58 => 4
  | 59 => 3
  | 60 => 1
  | 61 => 3
  | 62 => 2
  | 63 => 2
  | 64 => 4
  | 65 => 5
  | 66 => 2
  | 67 => 3
  | 68 => 2
  | 69 => 2
  | 70 => 2
  | 71 => 6
  | 72 => 4
  | 73 => 2
  | 74 => 8
  | 75 => 3
  | 76 => 3
  | 77 => 7
  | 78 => 6
  | 79 => 6
  | 80 => 9
  | 81 => 4
  | 82 => 2
  | 83 => 3
  | 84 => 2
  | 85 => 3
  | 86 => 1
  | 87 => 3
  | 88 => 2
  | 89 => 6
  | 90 => 2
  | 91 => 3
  | 92 => 3
  | 93 => 4
  | 94 => 2
  | 95 => 6
  | 96 => 5
  | 97 => 4
  | 98 => 4
  | 99 => 3
  | 100 => 4
  | 101 => 3
  | 102 => 4
  | 103 => 5
  | 104 => 5
  | 105 => 7
  | _ => 0
def axRe : Nat → Option FieldType := fun i => match i with
  | 0 => none
  | 1 => (some .boolean)
  | 2 => (some .boolean)
  | 3 => (some .int)
  | 4 => (some .int)
  | 5 => (some .int)
  | 6 => none
  | 7 => none
  | 8 => none
  | 9 => none
  | 10 => (some .int)
  | 11 => (some .boolean)
  | 12 => (some .int)
  | 13 => none
  | 14 => none
  | 15 => none
  | 16 => (some .int)
  | 17 => none
  | 18 => (some .int)
  | 19 => (some .int)
  | 20 => (some .int)
  | 21 => (some .int)
  | 22 => (some .int)
  | 23 => (some .int)
  | 24 => (some .boolean)
  | 25 => (some .boolean)
  | 26 => (some .int)
  | 27 => (some .int)
  | 28 => none
  | 29 => none
  | 30 => none
  | 31 => none
  | 32 => none
  | 33 => none
  | 34 => (some .int)
  | 35 => none
  | 36 => (some .int)
  | 37 => (some .boolean)
  | 38 => (some .int)
  | 39 => (some .int)
  | 40 => (some .int)
  | 41 => none
  | 42 => (some .int)
  | 43 => (some .int)
  | 44 => (some .int)
  | 45 => (some .int)
  | 46 => (some .int)
  | 47 => (some .int)
  | 48 => (some .int)
  | 49 => (some .int)
  | 50 => none
  | 51 => (some .int)
  | 52 => (some .int)
  | 53 => (some .int)
  | 54 => (some .int)
  | 55 => (some .int)
  | 56 => none
  | 57 => none
  | 58 => (some .int)
  | 59 => none
  | 60 => (some .int)
  | 61 => (some .boolean)
  | 62 => (some .boolean)
  | 63 => (some .boolean)
  | 64 => (some .int)
  | 65 => (some .int)
  | 66 => (some .boolean)
  | 67 => (some .int)
  | 68 => (some .int)
  | 69 => (some .int)
  | 70 => (some .int)
  | 71 => (some .int)
  | 72 => (some .int)
  | 73 => none
  | 74 => none
  | 75 => (some .boolean)
  | 76 => none
  | 77 => (some .int)
  | 78 => none
  | 79 => none
  | 80 => none
  | 81 => (some .int)
  | 82 => (some .int)
  | 83 => none
  | 84 => (some .int)
  | 85 => (some .int)
  | 86 => (some .int)
  | 87 => (some .int)
  | 88 => none
  | 89 => (some .int)
  | 90 => (some .int)
  | 91 => (some .int)
  | 92 => (some .int)
  | 93 => (some .int)
  | 94 => (some .int)
  | 95 => (some .int)
  | 96 => (some .int)
  | 97 => (some .int)
  | 98 => (some .int)
  | 99 => (some .int)
  | 100 => (some .int)
  | 101 => (some .int)
  | 102 => (some .int)
  | 103 => (some .int)
  | 104 => (some .int)
  | 105 => (some .boolean)
  | _ => none
def axHh : Nat → List (Nat × Nat × Nat × Nat) := fun i => match i with
  | 0 => []
  | 1 => []
  | 2 => []
  | 3 => []
  | 4 => []
  | 5 => []
  | 6 => []
  | 7 => []
  | 8 => []
  | 9 => []
  | 10 => []
  | 11 => []
  | 12 => []
  | 13 => []
  | 14 => []
  | 15 => []
  | 16 => []
  | 17 => []
  | 18 => []
  | 19 => []
  | 20 => []
  | 21 => []
  | 22 => []
  | 23 => []
  | 24 => []
  | 25 => []
  | 26 => []
  | 27 => []
  | 28 => []
  | 29 => []
  | 30 => []
  | 31 => []
  | 32 => []
  | 33 => []
  | 34 => []
  | 35 => []
  | 36 => []
  | 37 => []
  | 38 => []
  | 39 => []
  | 40 => []
  | 41 => []
  | 42 => []
  | 43 => []
  | 44 => []
  | 45 => []
  | 46 => []
  | 47 => []
  | 48 => []
  | 49 => []
  | 50 => []
  | 51 => []
  | 52 => []
  | 53 => []
  | 54 => []
  | 55 => []
  | 56 => []
  | 57 => []
  | 58 => []
  | 59 => []
  | 60 => []
  | 61 => []
  | 62 => []
  | 63 => []
  | 64 => []
  | 65 => []
  | 66 => []
  | 67 => []
  | 68 => []
  | 69 => []
  | 70 => []
  | 71 => []
  | 72 => []
  | 73 => []
  | 74 => []
  | 75 => []
  | 76 => []
  | 77 => []
  | 78 => []
  | 79 => []
  | 80 => []
  | 81 => []
  | 82 => []
  | 83 => []
  | 84 => []
  | 85 => []
  | 86 => []
  | 87 => []
  | 88 => []
  | 89 => []
  | 90 => []
  | 91 => []
  | 92 => []
  | 93 => []
  | 94 => []
  | 95 => [(0, 12, 15, 13), (0, 12, 19, 15), (0, 12, 23, 17)]
  | 96 => [(0, 10, 13, 13)]
  | 97 => [(0, 9, 12, 15), (0, 9, 15, 27)]
  | 98 => [(0, 9, 12, 32)]
  | 99 => [(0, 8, 11, 27)]
  | 100 => [(0, 9, 12, 13), (0, 9, 15, 27)]
  | 101 => [(0, 5, 8, 15)]
  | 102 => [(0, 9, 12, 13), (0, 9, 15, 48)]
  | 103 => [(0, 10, 13, 13)]
  | 104 => [(0, 10, 13, 13), (0, 10, 17, 15)]
  | 105 => []
  | _ => []
def axNa : Nat → Nat := fun i => match i with
  | 0 => 3
  | 1 => 2
  | 2 => 2
  | 3 => 1
  | 4 => 2
  | 5 => 5
  | 6 => 2
  | 7 => 3
  | 8 => 1
  | 9 => 1
  | 10 => 3
  | 11 => 2
  | 12 => 4
  | 13 => 3
  | 14 => 4
  | 15 => 3
  | 16 => 2
  | 17 => 3
  | 18 => 3
  | 19 => 2
  | 20 => 2
  | 21 => 3
  | 22 => 3
  | 23 => 2
  | 24 => 2
  | 25 => 2
  | 26 => 2
  | 27 => 3
  | 28 => 1
  | 29 => 1
  | 30 => 3
  | 31 => 2
  | 32 => 2
  | 33 => 2
  | 34 => 4
  | 35 => 3
  | 36 => 3
  | 37 => 2
  | 38 => 1
  | 39 => 1
  | 40 => 2
  | 41 => 3
  | 42 => 4
  | 43 => 3
  | 44 => 2
  | 45 => 2
  | 46 => 1
  | 47 => 2
  | 48 => 1
  | 49 => 1
  | 50 => 2
  | 51 => 1
  | 52 => 2
  | 53 => 3
  | 54 => 3
  | 55 => 2
  | 56 => 2
  | 57 => 2
  | 58 => 1
  | 59 => 3
  | 60 => 1
  | 61 => 3
  | 62 => 2
  | 63 => 2
  | 64 => 4
  | 65 => 3
  | 66 => 2
  | 67 => 1
  | 68 => 2
  | 69 => 2
  | 70 => 2
  | 71 => 3
  | 72 => 1
  | 73 => 2
  | 74 => 5
  | 75 => 2
  | 76 => 1
  | 77 => 2
  | 78 => 1
  | 79 => 2
  | 80 => 2
  | 81 => 2
  | 82 => 2
  | 83 => 2
  | 84 => 1
  | 85 => 2
  | 86 => 1
  | 87 => 1
  | 88 => 2
  | 89 => 1
  | 90 => 2
  | 91 => 3
  | 92 => 3
  | 93 => 2
  | 94 => 2
  | 95 => 5
  | 96 => 4
  | 97 => 3
  | 98 => 3
  | 99 => 2
  | 100 => 3
  | 101 => 2
  | 102 => 3
  | 103 => 4
  | 104 => 4
  | 105 => 1
  | _ => 0
end
section
def axTT : Nat → u_T
  | 0 => TX0 | 1 => TX1 | 2 => TX2 | 3 => TX3 | 4 => TX4 | 5 => TX5 | _ => TX6
def axTy : Nat → Nat → FieldType
  | 0 => tyX0 | 1 => tyX1 | 2 => tyX2 | 3 => tyX3 | 4 => tyX4 | 5 => tyX5 | _ => tyX6
def axNF : Nat → Nat
  | 0 => 3 | 1 => 4 | 2 => 5 | 3 => 2 | 4 => 8 | 5 => 7 | _ => 18
def axRN : Nat → String
  | 0 => RX0 | 1 => RX1 | 2 => RX2 | 3 => RX3 | 4 => RX4 | 5 => RX5 | _ => RX6
def ax_aty : Nat → FieldType
  | 0 => .int | 1 => .boolean | _ => .long
def axCi : Nat → Nat := fun i => match i with
  | 0 => 0
  | 1 => 0
  | 2 => 0
  | 3 => 0
  | 4 => 0
  | 5 => 0
  | 6 => 1
  | 7 => 1
  | 8 => 1
  | 9 => 1
  | 10 => 1
  | 11 => 1
  | 12 => 1
  | 13 => 2
  | 14 => 2
  | 15 => 2
  | 16 => 2
  | 17 => 2
  | 18 => 2
  | 19 => 2
  | 20 => 2
  | 21 => 2
  | 22 => 2
  | 23 => 2
  | 24 => 2
  | 25 => 2
  | 26 => 2
  | 27 => 2
  | 28 => 3
  | 29 => 3
  | 30 => 3
  | 31 => 3
  | 32 => 3
  | 33 => 4
  | 34 => 4
  | 35 => 4
  | 36 => 4
  | 37 => 4
  | 38 => 4
  | 39 => 4
  | 40 => 4
  | 41 => 5
  | 42 => 5
  | 43 => 5
  | 44 => 5
  | 45 => 5
  | 46 => 5
  | 47 => 5
  | 48 => 5
  | 49 => 5
  | 50 => 5
  | 51 => 5
  | 52 => 5
  | 53 => 5
  | 54 => 5
  | 55 => 5
  | 56 => 5
  | 57 => 5
  | 58 => 5
  | 59 => 6
  | 60 => 6
  | 61 => 6
  | 62 => 6
  | 63 => 6
  | 64 => 6
  | 65 => 6
  | 66 => 6
  | 67 => 6
  | 68 => 6
  | 69 => 6
  | 70 => 6
  | 71 => 6
  | 72 => 6
  | 73 => 6
  | 74 => 6
  | 75 => 6
  | 76 => 6
  | 77 => 6
  | 78 => 6
  | 79 => 6
  | 80 => 6
  | 81 => 6
  | 82 => 6
  | 83 => 6
  | 84 => 6
  | 85 => 6
  | 86 => 6
  | 87 => 6
  | 88 => 6
  | 89 => 6
  | 90 => 6
  | 91 => 6
  | 92 => 6
  | 93 => 6
  | 94 => 9
  | 95 => 9
  | 96 => 9
  | 97 => 9
  | 98 => 9
  | 99 => 9
  | 100 => 9
  | 101 => 9
  | 102 => 9
  | 103 => 9
  | 104 => 9
  | 105 => 9
  | _ => 9
end
section
/-! What is checked of the program as data, by program: that its rows are the class files' own, and which words of the tables they need. -/
def axO (i : Nat) : String := (axY i).cls
def axEx : Nat → String
  | 0 => "java/util/NoSuchElementException" | 1 => "java/lang/IllegalArgumentException" | 2 => "java/lang/UnsupportedOperationException" | 3 => "java/lang/IllegalStateException" | 4 => "java/lang/ArrayIndexOutOfBoundsException" | _ => "java/lang/ArithmeticException"
def axEn : Nat → List String
  | 4 => ["java/lang/IndexOutOfBoundsException", "java/lang/RuntimeException", "java/lang/Exception"]
  | _ => ["java/lang/RuntimeException", "java/lang/Exception"]
/-- the throws: the exception; the entries of its class, of the text and of the constructor; the text -/
def axTh : Nat → Nat × Nat × Nat × Nat × String
  | 0 => (1, 61, 63, 65, "no such place")
  | 1 => (1, 61, 68, 65, "pieces are 0 to 100")
  | 2 => (2, 73, 75, 77, "no room for another stop")
  | 3 => (1, 61, 90, 65, "no such kind of walk")
  | 4 => (3, 96, 98, 100, "too many stops for the least walk")
  | 5 => (4, 109, 111, 113, "no such step is left")
  | 6 => (3, 96, 118, 100, "the walk has no stop left")
  | 7 => (3, 96, 123, 100, "the aisle of the next stop is closed")
  | 8 => (3, 96, 138, 100, "the stop is not open")
  | 9 => (1, 61, 148, 65, "a cart has room for 1 to 1000 pieces")
  | 10 => (5, 153, 155, 157, "no metres were walked")
  | 11 => (1, 61, 161, 65, "nothing is told under this number")
  | 12 => (0, 175, 177, 179, "no such aisle")
  | _ => (0, 175, 180, 179, "no such stop")
def axPa (j : Nat) : Option Nat := (parseMethodDescriptor (axY j).desc).map (fun d => d.parameters.length)
def ax_ln : Instr → Nat
  | .iload _ => 2 | .aload _ => 2 | .istore _ => 2 | .astore _ => 2 | .bipush _ => 2 | .ldc _ => 2 | .newarray _ => 2
  | .sipush _ => 3 | .iinc _ _ => 3 | .goto _ => 3 | .if_icmp _ _ => 3 | .ifCond _ _ => 3 | .getfield _ => 3 | .putfield _ => 3 | .new _ => 3
  | .invokespecial _ => 3 | .invokestatic _ => 3 | .invokevirtual _ => 3
  | _ => 1
def ax_isw : Instr → Bool
  | .tableswitch .. => true
  | .lookupswitch .. => true
  | _ => false
def ax_dec (bytes : ByteArray) (q : AxI) : Bool := match decode bytes q.1 with
  | .ok (i, n) => decide (i = q.2.1) && (ax_isw i || Nat.beq n (ax_ln i))
  | .error _ => false
def ax_need (i : Nat) (q : AxI) : List Cond := match q with
  | (_, ins, x, y) => match ins with
    | .getfield k => [.fieldLink (axO i) k (axTT x y).1 (axTT x y).2.1 (axTT x y).2.2.1]
    | .putfield k => [.fieldLink (axO i) k (axTT x y).1 (axTT x y).2.1 (axTT x y).2.2.1]
    | .new k => cond (Nat.blt x 100) [.classLink (axO i) k (axRN x), .instantiable (axRN x) (axNF x), .initialized (axRN x)] [.classLink (axO i) k (axEx (x - 100)), .initialized (axEx (x - 100))]
    | .newarray t => [.arrayClass (newarray.typeOf t)]
    | .ldc k => cond (Nat.beq x 0) [] [.constant (axO i) k (Int32.ofNat x)]
    | .invokespecial k => (match x with
      | 5 => [.methodLink (axO i) k objectInit, .instanceMethod objectInit, .code objectInit ⟨#[0xb1]⟩ 1 none]
      | 1 => [.methodLink (axO i) k (axY y), .instanceMethod (axY y), .initialized (axY y).cls]
      | 4 => [.methodLinkNest (axO i) k (axY y) "PickPaths", .instanceMethod (axY y), .initialized (axY y).cls]
      | _ => [])
    | .invokevirtual k => [.methodLink (axO i) k (axY y), .instanceMethod (axY y), .selects (axY y).cls (axY y) (axY y), .initialized (axY y).cls]
    | .invokestatic k => (match x with
      | 2 => [.methodLink (axO i) k (axY y), .static (axY y), .initialized (axY y).cls]
      | 3 => [.methodLink (axO i) k (axY y), .static (axY y), .initialized (axY y).cls]
      | 6 => [.methodLink (axO i) k Lib.Math.max.name, .static Lib.Math.max.name, .initialized "java/lang/Math", .code Lib.Math.max.name Lib.Math.max.code 2 (some .int)]
      | 7 => [.methodLink (axO i) k Lib.Math.min.name, .static Lib.Math.min.name, .initialized "java/lang/Math", .code Lib.Math.min.name Lib.Math.min.code 2 (some .int)]
      | 8 => [.methodLink (axO i) k Lib.Math.abs.name, .static Lib.Math.abs.name, .initialized "java/lang/Math", .code Lib.Math.abs.name Lib.Math.abs.code 1 (some .int)]
      | _ => [])
    | _ => []
def ax_tgs (pc : Nat) (off : Int) : Bool := decide (0 ≤ (pc : Int) + off)
/-- what must hold of a row whatever the state -/
def ax_stc (i : Nat) (q : AxI) : Bool := match q with
  | (pc, ins, x, y) => match ins with
    | .istore k => Nat.blt k (axLo i)
    | .istore_n k => Nat.blt k.val (axLo i)
    | .astore k => Nat.blt k (axLo i)
    | .astore_n k => Nat.blt k.val (axLo i)
    | .iinc k _ => Nat.blt k (axLo i)
    | .goto off => decide ((pc : Int) + off = (x : Int))
    | .if_icmp _ off => decide ((pc : Int) + off = (x : Int))
    | .ifCond _ off => decide ((pc : Int) + off = (x : Int))
    | .tableswitch dflt lo hi offs => ax_tgs pc dflt && offs.toList.all (ax_tgs pc) && decide (hi - lo + 1 = (offs.toList.length : Int))
    | .lookupswitch dflt ps => ax_tgs pc dflt && ps.toList.all (fun z => ax_tgs pc z.2) && (ps.toList.zip (ps.toList.drop 1)).all (fun (a, next) => a.1 < next.1)
    | .newarray t => decide (newarray.typeOf t = ax_aty y) && Nat.blt y 3 && Nat.ble x 60000
    | .getfield _ => Nat.blt x 7 && Nat.blt y (axNF x)
    | .putfield _ => Nat.blt x 7 && Nat.blt y (axNF x) && (!(axTT x y).2.2.2 || (decide ((axY i).name = "<init>") && decide ((axTT x y).1 = axO i)))
    | .new k => (Nat.blt x 7) || (Nat.ble 100 x && Nat.blt x 106 && Nat.blt y 14 && decide (axHh i = []) && decide (axO i = "PickPaths") && decide ((axTh y).1 = x - 100) && decide ((axTh y).2.1 = k)
        && ax_dec (axB i) (pc + 3, .dup, 0, 0) && ax_dec (axB i) (pc + 4, .ldc (axTh y).2.2.1, 0, 0) && ax_dec (axB i) (pc + 6, .invokespecial (axTh y).2.2.2.1, 0, 0) && ax_dec (axB i) (pc + 9, .athrow, 0, 0))
    | .invokevirtual _ => Nat.beq x 0 && Nat.blt y 105 && decide (axHh y = []) && decide (some (axNa y) = (axPa y).map (· + 1)) && Nat.blt (axCi y) 7 && decide ((axY y).cls = axRN (axCi y))
    | .invokespecial _ => Nat.beq x 5 || Nat.beq x 9 || ((Nat.beq x 1 || Nat.beq x 4) && Nat.blt y 105 && decide (axHh y = []) && decide (some (axNa y) = (axPa y).map (· + 1)) && decide ((axY y).name = "<init>") && decide (axRe y = none))
    | .invokestatic _ => Nat.blt 5 x || (Nat.blt y 105 && decide (some (axNa y) = axPa y) && ((Nat.beq x 2 && decide (axHh y = [])) || (Nat.beq x 3 && !decide (axHh y = []))))
    | _ => true
def axCode (i : Nat) : Cond := match axHh i with
  | [] => .code (axY i) (axB i) (axLo i) (axRe i)
  | h :: hs => .codeWith (axY i) (axB i) (axLo i) (axRe i) (h :: hs)

theorem dkX0_init : inX0_init.all (ax_dec cX0_init) = true := by decide +kernel
theorem skX0_init : inX0_init.all (ax_stc 0) = true := by decide +kernel
theorem nkX0_init : (inX0_init.flatMap (ax_need 0)).map some = ([89, 64, 65, 111, 101, 90, 91, 43, 92, 93, 94, 43, 95, 96, 90, 91, 43, 92, 93, 94, 43, 95, 99] : List Nat).map (fun p => lw_tbl[p]?) := by decide +kernel
theorem dkX0_hasAisle : inX0_hasAisle.all (ax_dec cX0_hasAisle) = true := by decide +kernel
theorem skX0_hasAisle : inX0_hasAisle.all (ax_stc 1) = true := by decide +kernel
theorem nkX0_hasAisle : (inX0_hasAisle.flatMap (ax_need 1)).map some = ([96] : List Nat).map (fun p => lw_tbl[p]?) := by decide +kernel
theorem dkX0_hasPlace : inX0_hasPlace.all (ax_dec cX0_hasPlace) = true := by decide +kernel
theorem skX0_hasPlace : inX0_hasPlace.all (ax_stc 2) = true := by decide +kernel
theorem nkX0_hasPlace : (inX0_hasPlace.flatMap (ax_need 2)).map some = ([99] : List Nat).map (fun p => lw_tbl[p]?) := by decide +kernel
theorem dkX0_backDepth : inX0_backDepth.all (ax_dec cX0_backDepth) = true := by decide +kernel
theorem skX0_backDepth : inX0_backDepth.all (ax_stc 3) = true := by decide +kernel
theorem nkX0_backDepth : (inX0_backDepth.flatMap (ax_need 3)).map some = ([99] : List Nat).map (fun p => lw_tbl[p]?) := by decide +kernel
theorem dkX0_placeDepth : inX0_placeDepth.all (ax_dec cX0_placeDepth) = true := by decide +kernel
theorem skX0_placeDepth : inX0_placeDepth.all (ax_stc 4) = true := by decide +kernel
theorem nkX0_placeDepth : (inX0_placeDepth.flatMap (ax_need 4)).map some = ([] : List Nat).map (fun p => lw_tbl[p]?) := by decide +kernel
theorem dkX0_between : inX0_between.all (ax_dec cX0_between) = true := by decide +kernel
theorem skX0_between : inX0_between.all (ax_stc 5) = true := by decide +kernel
theorem nkX0_between : (inX0_between.flatMap (ax_need 5)).map some = ([399, 400, 43, 401, 402, 99, 399, 400, 43, 401, 399, 400, 43, 401, 90, 91, 43, 92, 399, 400, 43, 401] : List Nat).map (fun p => lw_tbl[p]?) := by decide +kernel
theorem dkX1_init : inX1_init.all (ax_dec cX1_init) = true := by decide +kernel
theorem skX1_init : inX1_init.all (ax_stc 6) = true := by decide +kernel
theorem nkX1_init : (inX1_init.flatMap (ax_need 6)).map some = ([164, 64, 65, 83, 166, 167, 83, 168, 165] : List Nat).map (fun p => lw_tbl[p]?) := by decide +kernel
theorem dkX1_lay : inX1_lay.all (ax_dec cX1_lay) = true := by decide +kernel
theorem skX1_lay : inX1_lay.all (ax_stc 7) = true := by decide +kernel
theorem nkX1_lay : (inX1_lay.flatMap (ax_need 7)).map some = ([452, 454, 4, 46, 457, 459, 5, 46, 167, 167, 465, 467, 6, 46, 166, 474, 475, 476, 41] : List Nat).map (fun p => lw_tbl[p]?) := by decide +kernel
theorem dkX1_gather : inX1_gather.all (ax_dec cX1_gather) = true := by decide +kernel
theorem skX1_gather : inX1_gather.all (ax_stc 8) = true := by decide +kernel
theorem nkX1_gather : (inX1_gather.flatMap (ax_need 8)).map some = ([167, 165, 133, 167, 165, 456, 233, 234, 44, 166, 167, 167, 167] : List Nat).map (fun p => lw_tbl[p]?) := by decide +kernel
theorem dkX1_fillRests : inX1_fillRests.all (ax_dec cX1_fillRests) = true := by decide +kernel
theorem skX1_fillRests : inX1_fillRests.all (ax_stc 9) = true := by decide +kernel
theorem nkX1_fillRests : (inX1_fillRests.flatMap (ax_need 9)).map some = ([167, 168, 165, 166, 461, 225, 226, 44, 167, 167, 462, 463, 46, 166, 465, 467, 6, 46, 168, 166, 470, 472, 7, 46] : List Nat).map (fun p => lw_tbl[p]?) := by decide +kernel
theorem dkX1_bestNext : inX1_bestNext.all (ax_dec cX1_bestNext) = true := by decide +kernel
theorem skX1_bestNext : inX1_bestNext.all (ax_stc 10) = true := by decide +kernel
theorem nkX1_bestNext : (inX1_bestNext.flatMap (ax_need 10)).map some = ([469, 167, 462, 463, 46, 470, 472, 7, 46] : List Nat).map (fun p => lw_tbl[p]?) := by decide +kernel
theorem dkX1_isIn : inX1_isIn.all (ax_dec cX1_isIn) = true := by decide +kernel
theorem skX1_isIn : inX1_isIn.all (ax_stc 11) = true := by decide +kernel
theorem nkX1_isIn : (inX1_isIn.flatMap (ax_need 11)).map some = ([] : List Nat).map (fun p => lw_tbl[p]?) := by decide +kernel
theorem dkX1_lengthBy : inX1_lengthBy.all (ax_dec cX1_lengthBy) = true := by decide +kernel
theorem skX1_lengthBy : inX1_lengthBy.all (ax_stc 12) = true := by decide +kernel
theorem nkX1_lengthBy : (inX1_lengthBy.flatMap (ax_need 12)).map some = ([165, 166, 461, 225, 226, 44, 168] : List Nat).map (fun p => lw_tbl[p]?) := by decide +kernel
theorem dkX2_init : inX2_init.all (ax_dec cX2_init) = true := by decide +kernel
theorem skX2_init : inX2_init.all (ax_stc 13) = true := by decide +kernel
theorem nkX2_init : (inX2_init.flatMap (ax_need 13)).map some = ([158, 64, 65, 83, 181, 111, 182, 178, 179, 159, 160, 46, 161, 162, 46, 180] : List Nat).map (fun p => lw_tbl[p]?) := by decide +kernel
theorem dkX2_lay : inX2_lay.all (ax_dec cX2_lay) = true := by decide +kernel
theorem skX2_lay : inX2_lay.all (ax_stc 14) = true := by decide +kernel
theorem nkX2_lay : (inX2_lay.flatMap (ax_need 14)).map some = ([443, 444, 445, 41, 179, 131, 182, 179, 447, 233, 234, 44, 180, 448, 449, 450, 46, 482, 484, 8, 45, 494, 496, 10, 45] : List Nat).map (fun p => lw_tbl[p]?) := by decide +kernel
theorem dkX2_layNearest : inX2_layNearest.all (ax_dec cX2_layNearest) = true := by decide +kernel
theorem skX2_layNearest : inX2_layNearest.all (ax_stc 15) = true := by decide +kernel
theorem nkX2_layNearest : (inX2_layNearest.flatMap (ax_need 15)).map some = ([179, 486, 246, 247, 44, 487, 489, 9, 45, 182, 493, 475, 476, 41] : List Nat).map (fun p => lw_tbl[p]?) := by decide +kernel
theorem dkX2_nearestFrom : inX2_nearestFrom.all (ax_dec cX2_nearestFrom) = true := by decide +kernel
theorem skX2_nearestFrom : inX2_nearestFrom.all (ax_stc 16) = true := by decide +kernel
theorem nkX2_nearestFrom : (inX2_nearestFrom.flatMap (ax_need 16)).map some = ([491, 179, 131, 182, 179, 492, 225, 226, 44, 179, 492, 225, 226, 44] : List Nat).map (fun p => lw_tbl[p]?) := by decide +kernel
theorem dkX2_layByKeys : inX2_layByKeys.all (ax_dec cX2_layByKeys) = true := by decide +kernel
theorem skX2_layByKeys : inX2_layByKeys.all (ax_stc 17) = true := by decide +kernel
theorem nkX2_layByKeys : (inX2_layByKeys.flatMap (ax_need 17)).map some = ([179, 131, 182, 181, 498, 500, 11, 45, 77, 181, 74, 181, 543, 479, 480, 41] : List Nat).map (fun p => lw_tbl[p]?) := by decide +kernel
theorem dkX2_keyOf : inX2_keyOf.all (ax_dec cX2_keyOf) = true := by decide +kernel
theorem skX2_keyOf : inX2_keyOf.all (ax_stc 18) = true := by decide +kernel
theorem nkX2_keyOf : (inX2_keyOf.flatMap (ax_need 18)).map some = ([502, 504, 12, 45, 179, 119, 514, 516, 15, 45, 539, 541, 20, 45] : List Nat).map (fun p => lw_tbl[p]?) := by decide +kernel
theorem dkX2_throughKey : inX2_throughKey.all (ax_dec cX2_throughKey) = true := by decide +kernel
theorem skX2_throughKey : inX2_throughKey.all (ax_stc 19) = true := by decide +kernel
theorem nkX2_throughKey : (inX2_throughKey.flatMap (ax_need 19)).map some = ([179, 119, 506, 508, 13, 45, 514, 516, 15, 45, 522, 524, 17, 45] : List Nat).map (fun p => lw_tbl[p]?) := by decide +kernel
theorem dkX2_gapKey : inX2_gapKey.all (ax_dec cX2_gapKey) = true := by decide +kernel
theorem skX2_gapKey : inX2_gapKey.all (ax_stc 20) = true := by decide +kernel
theorem nkX2_gapKey : (inX2_gapKey.flatMap (ax_need 20)).map some = ([179, 119, 506, 508, 13, 45, 514, 516, 15, 45, 518, 520, 16, 45, 522, 524, 17, 45, 179, 125, 526, 528, 18, 45, 522, 524, 17, 45, 514, 516, 15, 45] : List Nat).map (fun p => lw_tbl[p]?) := by decide +kernel
theorem dkX2_upward : inX2_upward.all (ax_dec cX2_upward) = true := by decide +kernel
theorem skX2_upward : inX2_upward.all (ax_stc 21) = true := by decide +kernel
theorem nkX2_upward : (inX2_upward.flatMap (ax_need 21)).map some = ([179, 122] : List Nat).map (fun p => lw_tbl[p]?) := by decide +kernel
theorem dkX2_downward : inX2_downward.all (ax_dec cX2_downward) = true := by decide +kernel
theorem skX2_downward : inX2_downward.all (ax_stc 22) = true := by decide +kernel
theorem nkX2_downward : (inX2_downward.flatMap (ax_need 22)).map some = ([179, 122] : List Nat).map (fun p => lw_tbl[p]?) := by decide +kernel
theorem dkX2_usedAislesBelow : inX2_usedAislesBelow.all (ax_dec cX2_usedAislesBelow) = true := by decide +kernel
theorem skX2_usedAislesBelow : inX2_usedAislesBelow.all (ax_stc 23) = true := by decide +kernel
theorem nkX2_usedAislesBelow : (inX2_usedAislesBelow.flatMap (ax_need 23)).map some = ([510, 512, 14, 45] : List Nat).map (fun p => lw_tbl[p]?) := by decide +kernel
theorem dkX2_isUsedAbove : inX2_isUsedAbove.all (ax_dec cX2_isUsedAbove) = true := by decide +kernel
theorem skX2_isUsedAbove : inX2_isUsedAbove.all (ax_stc 24) = true := by decide +kernel
theorem nkX2_isUsedAbove : (inX2_isUsedAbove.flatMap (ax_need 24)).map some = ([178, 97, 510, 512, 14, 45] : List Nat).map (fun p => lw_tbl[p]?) := by decide +kernel
theorem dkX2_isUsed : inX2_isUsed.all (ax_dec cX2_isUsed) = true := by decide +kernel
theorem skX2_isUsed : inX2_isUsed.all (ax_stc 25) = true := by decide +kernel
theorem nkX2_isUsed : (inX2_isUsed.flatMap (ax_need 25)).map some = ([179, 131, 182, 179, 119] : List Nat).map (fun p => lw_tbl[p]?) := by decide +kernel
theorem dkX2_gapStart : inX2_gapStart.all (ax_dec cX2_gapStart) = true := by decide +kernel
theorem skX2_gapStart : inX2_gapStart.all (ax_stc 26) = true := by decide +kernel
theorem nkX2_gapStart : (inX2_gapStart.flatMap (ax_need 26)).map some = ([179, 131, 530, 532, 19, 45] : List Nat).map (fun p => lw_tbl[p]?) := by decide +kernel
theorem dkX2_nextDepth : inX2_nextDepth.all (ax_dec cX2_nextDepth) = true := by decide +kernel
theorem skX2_nextDepth : inX2_nextDepth.all (ax_stc 27) = true := by decide +kernel
theorem nkX2_nextDepth : (inX2_nextDepth.flatMap (ax_need 27)).map some = ([178, 534, 535, 536, 42, 179, 131, 182, 179, 119, 179, 125, 179, 125, 538, 91, 43, 92] : List Nat).map (fun p => lw_tbl[p]?) := by decide +kernel
theorem dkX3_init : inX3_init.all (ax_dec cX3_init) = true := by decide +kernel
theorem skX3_init : inX3_init.all (ax_stc 28) = true := by decide +kernel
theorem nkX3_init : (inX3_init.flatMap (ax_need 28)).map some = ([71, 64, 65, 83, 72, 75] : List Nat).map (fun p => lw_tbl[p]?) := by decide +kernel
theorem dkX3_clear : inX3_clear.all (ax_dec cX3_clear) = true := by decide +kernel
theorem skX3_clear : inX3_clear.all (ax_stc 29) = true := by decide +kernel
theorem nkX3_clear : (inX3_clear.flatMap (ax_need 29)).map some = ([75] : List Nat).map (fun p => lw_tbl[p]?) := by decide +kernel
theorem dkX3_insert : inX3_insert.all (ax_dec cX3_insert) = true := by decide +kernel
theorem skX3_insert : inX3_insert.all (ax_stc 30) = true := by decide +kernel
theorem nkX3_insert : (inX3_insert.flatMap (ax_need 30)).map some = ([75, 72, 75, 72, 72, 72, 75, 75] : List Nat).map (fun p => lw_tbl[p]?) := by decide +kernel
theorem dkX3_append : inX3_append.all (ax_dec cX3_append) = true := by decide +kernel
theorem skX3_append : inX3_append.all (ax_stc 31) = true := by decide +kernel
theorem nkX3_append : (inX3_append.flatMap (ax_need 31)).map some = ([75, 478, 479, 480, 41] : List Nat).map (fun p => lw_tbl[p]?) := by decide +kernel
theorem dkX3_drop : inX3_drop.all (ax_dec cX3_drop) = true := by decide +kernel
theorem skX3_drop : inX3_drop.all (ax_stc 32) = true := by decide +kernel
theorem nkX3_drop : (inX3_drop.flatMap (ax_need 32)).map some = ([75, 72, 72, 72, 75] : List Nat).map (fun p => lw_tbl[p]?) := by decide +kernel
end
section
theorem dkX4_init : inX4_init.all (ax_dec cX4_init) = true := by decide +kernel
theorem skX4_init : inX4_init.all (ax_stc 33) = true := by decide +kernel
theorem nkX4_init : (inX4_init.flatMap (ax_need 33)).map some = ([117, 64, 65, 83, 118, 83, 121, 83, 124, 83, 126, 83, 128, 130, 83, 135, 134] : List Nat).map (fun p => lw_tbl[p]?) := by decide +kernel
theorem dkX4_add : inX4_add.all (ax_dec cX4_add) = true := by decide +kernel
theorem skX4_add : inX4_add.all (ax_stc 34) = true := by decide +kernel
theorem nkX4_add : (inX4_add.flatMap (ax_need 34)).map some = ([130, 118, 121, 124, 134, 387, 388, 389, 42, 126, 128, 391, 393, 3, 44, 391, 393, 3, 44, 130, 130] : List Nat).map (fun p => lw_tbl[p]?) := by decide +kernel
theorem dkX4_measure : inX4_measure.all (ax_dec cX4_measure) = true := by decide +kernel
theorem skX4_measure : inX4_measure.all (ax_stc 35) = true := by decide +kernel
theorem nkX4_measure : (inX4_measure.flatMap (ax_need 35)).map some = ([134, 118, 124, 118, 124, 395, 396, 397, 42, 135, 135] : List Nat).map (fun p => lw_tbl[p]?) := by decide +kernel
theorem dkX4_way : inX4_way.all (ax_dec cX4_way) = true := by decide +kernel
theorem skX4_way : inX4_way.all (ax_stc 36) = true := by decide +kernel
theorem nkX4_way : (inX4_way.flatMap (ax_need 36)).map some = ([135] : List Nat).map (fun p => lw_tbl[p]?) := by decide +kernel
theorem dkX4_isWalked : inX4_isWalked.all (ax_dec cX4_isWalked) = true := by decide +kernel
theorem skX4_isWalked : inX4_isWalked.all (ax_stc 37) = true := by decide +kernel
theorem nkX4_isWalked : (inX4_isWalked.flatMap (ax_need 37)).map some = ([128, 126, 134, 103, 118] : List Nat).map (fun p => lw_tbl[p]?) := by decide +kernel
theorem dkX4_walkedOnes : inX4_walkedOnes.all (ax_dec cX4_walkedOnes) = true := by decide +kernel
theorem skX4_walkedOnes : inX4_walkedOnes.all (ax_stc 38) = true := by decide +kernel
theorem nkX4_walkedOnes : (inX4_walkedOnes.flatMap (ax_need 38)).map some = ([130, 249, 233, 234, 44] : List Nat).map (fun p => lw_tbl[p]?) := by decide +kernel
theorem dkX4_doneOnes : inX4_doneOnes.all (ax_dec cX4_doneOnes) = true := by decide +kernel
theorem skX4_doneOnes : inX4_doneOnes.all (ax_stc 39) = true := by decide +kernel
theorem nkX4_doneOnes : (inX4_doneOnes.flatMap (ax_need 39)).map some = ([130, 128] : List Nat).map (fun p => lw_tbl[p]?) := by decide +kernel
theorem dkX4_openIn : inX4_openIn.all (ax_dec cX4_openIn) = true := by decide +kernel
theorem skX4_openIn : inX4_openIn.all (ax_stc 40) = true := by decide +kernel
theorem nkX4_openIn : (inX4_openIn.flatMap (ax_need 40)).map some = ([130, 118, 128] : List Nat).map (fun p => lw_tbl[p]?) := by decide +kernel
theorem dkX5_init : inX5_init.all (ax_dec cX5_init) = true := by decide +kernel
theorem skX5_init : inX5_init.all (ax_stc 41) = true := by decide +kernel
theorem nkX5_init : (inX5_init.flatMap (ax_need 41)).map some = ([63, 64, 65, 66, 67, 41, 68, 69, 41, 197, 198, 199, 200, 84, 85, 42, 86, 87, 42, 194, 112, 113, 44, 194, 114, 115, 44, 195, 153, 154, 45, 194, 195, 155, 156, 45, 196] : List Nat).map (fun p => lw_tbl[p]?) := by decide +kernel
theorem dkX5_stop : inX5_stop.all (ax_dec cX5_stop) = true := by decide +kernel
theorem skX5_stop : inX5_stop.all (ax_stc 42) = true := by decide +kernel
theorem nkX5_stop : (inX5_stop.flatMap (ax_need 42)).map some = ([267, 269, 1, 40, 194, 346, 347, 348, 42, 350, 52, 350, 52, 195, 132, 367, 53, 195, 383, 384, 385, 44] : List Nat).map (fun p => lw_tbl[p]?) := by decide +kernel
theorem dkX5_closed : inX5_closed.all (ax_dec cX5_closed) = true := by decide +kernel
theorem skX5_closed : inX5_closed.all (ax_stc 43) = true := by decide +kernel
theorem nkX5_closed : (inX5_closed.flatMap (ax_need 43)).map some = ([267, 269, 1, 40, 194, 102, 195, 410, 411, 412, 44] : List Nat).map (fun p => lw_tbl[p]?) := by decide +kernel
theorem dkX5_walk : inX5_walk.all (ax_dec cX5_walk) = true := by decide +kernel
theorem skX5_walk : inX5_walk.all (ax_stc 44) = true := by decide +kernel
theorem nkX5_walk : (inX5_walk.flatMap (ax_need 44)).map some = ([350, 52, 195, 245, 246, 247, 44, 423, 54, 196, 198, 197, 439, 440, 441, 45, 220, 222, 0, 40] : List Nat).map (fun p => lw_tbl[p]?) := by decide +kernel
theorem dkX5_step : inX5_step.all (ax_dec cX5_step) = true := by decide +kernel
theorem skX5_step : inX5_step.all (ax_stc 45) = true := by decide +kernel
theorem nkX5_step : (inX5_step.flatMap (ax_need 45)).map some = ([197, 76, 552, 56, 197, 73] : List Nat).map (fun p => lw_tbl[p]?) := by decide +kernel
theorem dkX5_go : inX5_go.all (ax_dec cX5_go) = true := by decide +kernel
theorem skX5_go : inX5_go.all (ax_stc 46) = true := by decide +kernel
theorem nkX5_go : (inX5_go.flatMap (ax_need 46)).map some = ([197, 76, 423, 54, 197, 73, 194, 102, 195, 120, 423, 54, 199, 195, 198, 224, 225, 226, 44, 199, 195, 129, 198, 197, 582, 583, 584, 41] : List Nat).map (fun p => lw_tbl[p]?) := by decide +kernel
theorem dkX5_missing : inX5_missing.all (ax_dec cX5_missing) = true := by decide +kernel
theorem skX5_missing : inX5_missing.all (ax_stc 47) = true := by decide +kernel
theorem nkX5_missing : (inX5_missing.flatMap (ax_need 47)).map some = ([593, 595, 21, 40, 195, 129, 423, 54, 195, 129, 197, 582, 583, 584, 41, 220, 222, 0, 40] : List Nat).map (fun p => lw_tbl[p]?) := by decide +kernel
theorem dkX5_left : inX5_left.all (ax_dec cX5_left) = true := by decide +kernel
theorem skX5_left : inX5_left.all (ax_stc 48) = true := by decide +kernel
theorem nkX5_left : (inX5_left.flatMap (ax_need 48)).map some = ([220, 222, 0, 40] : List Nat).map (fun p => lw_tbl[p]?) := by decide +kernel
theorem dkX5_bound : inX5_bound.all (ax_dec cX5_bound) = true := by decide +kernel
theorem skX5_bound : inX5_bound.all (ax_stc 49) = true := by decide +kernel
theorem nkX5_bound : (inX5_bound.flatMap (ax_need 49)).map some = ([195, 132, 195, 232, 233, 234, 44, 195, 198, 224, 225, 226, 44, 195, 224, 225, 226, 44, 236, 94, 43, 95] : List Nat).map (fun p => lw_tbl[p]?) := by decide +kernel
theorem dkX5_cart : inX5_cart.all (ax_dec cX5_cart) = true := by decide +kernel
theorem skX5_cart : inX5_cart.all (ax_stc 50) = true := by decide +kernel
theorem nkX5_cart : (inX5_cart.flatMap (ax_need 50)).map some = ([350, 52, 200] : List Nat).map (fun p => lw_tbl[p]?) := by decide +kernel
theorem dkX5_full : inX5_full.all (ax_dec cX5_full) = true := by decide +kernel
theorem skX5_full : inX5_full.all (ax_stc 51) = true := by decide +kernel
theorem nkX5_full : (inX5_full.flatMap (ax_need 51)).map some = ([198, 197, 76, 197, 73, 195, 127, 200, 195, 224, 225, 226, 44, 195, 224, 225, 226, 44, 195, 224, 225, 226, 44] : List Nat).map (fun p => lw_tbl[p]?) := by decide +kernel
theorem dkX5_share : inX5_share.all (ax_dec cX5_share) = true := by decide +kernel
theorem skX5_share : inX5_share.all (ax_stc 52) = true := by decide +kernel
theorem nkX5_share : (inX5_share.flatMap (ax_need 52)).map some = ([593, 595, 21, 40, 199, 615, 57, 195, 198, 224, 225, 226, 44, 199] : List Nat).map (fun p => lw_tbl[p]?) := by decide +kernel
theorem dkX5_far : inX5_far.all (ax_dec cX5_far) = true := by decide +kernel
theorem skX5_far : inX5_far.all (ax_stc 53) = true := by decide +kernel
theorem nkX5_far : (inX5_far.flatMap (ax_need 53)).map some = ([593, 595, 21, 40, 593, 595, 21, 40, 195, 224, 225, 226, 44] : List Nat).map (fun p => lw_tbl[p]?) := by decide +kernel
theorem dkX5_told : inX5_told.all (ax_dec cX5_told) = true := by decide +kernel
theorem skX5_told : inX5_told.all (ax_stc 54) = true := by decide +kernel
theorem nkX5_told : (inX5_told.flatMap (ax_need 54)).map some = ([593, 595, 21, 40, 195, 120, 195, 123, 195, 127, 195, 129, 195, 232, 233, 234, 44, 350, 52] : List Nat).map (fun p => lw_tbl[p]?) := by decide +kernel
theorem dkX5_count : inX5_count.all (ax_dec cX5_count) = true := by decide +kernel
theorem skX5_count : inX5_count.all (ax_stc 55) = true := by decide +kernel
theorem nkX5_count : (inX5_count.flatMap (ax_need 55)).map some = ([195, 132, 195, 245, 246, 247, 44, 197, 76, 194, 98, 194, 100, 199, 195, 250, 251, 252, 44, 198, 198] : List Nat).map (fun p => lw_tbl[p]?) := by decide +kernel
theorem dkX5_requireAisle : inX5_requireAisle.all (ax_dec cX5_requireAisle) = true := by decide +kernel
theorem skX5_requireAisle : inX5_requireAisle.all (ax_stc 56) = true := by decide +kernel
theorem nkX5_requireAisle : (inX5_requireAisle.flatMap (ax_need 56)).map some = ([194, 271, 272, 273, 42, 275, 51] : List Nat).map (fun p => lw_tbl[p]?) := by decide +kernel
theorem dkX5_requireStop : inX5_requireStop.all (ax_dec cX5_requireStop) = true := by decide +kernel
theorem skX5_requireStop : inX5_requireStop.all (ax_stc 57) = true := by decide +kernel
theorem nkX5_requireStop : (inX5_requireStop.flatMap (ax_need 57)).map some = ([195, 132, 275, 51] : List Nat).map (fun p => lw_tbl[p]?) := by decide +kernel
theorem dkX5_routeLength : inX5_routeLength.all (ax_dec cX5_routeLength) = true := by decide +kernel
theorem skX5_routeLength : inX5_routeLength.all (ax_stc 58) = true := by decide +kernel
theorem nkX5_routeLength : (inX5_routeLength.flatMap (ax_need 58)).map some = ([198, 197, 76, 195, 197, 73, 224, 225, 226, 44, 197, 73, 195, 224, 225, 226, 44] : List Nat).map (fun p => lw_tbl[p]?) := by decide +kernel
end
section
theorem dkX6_init : inX6_init.all (ax_dec cX6_init) = true := by decide +kernel
theorem skX6_init : inX6_init.all (ax_stc 59) = true := by decide +kernel
theorem nkX6_init : (inX6_init.flatMap (ax_need 59)).map some = ([651, 64, 65, 655, 657, 111, 658, 83, 660, 83, 661, 83, 662, 83, 663, 83, 665, 111, 666, 111, 667, 83, 668, 83, 669, 653, 654] : List Nat).map (fun p => lw_tbl[p]?) := by decide +kernel
theorem dkX6_thrown : inX6_thrown.all (ax_dec cX6_thrown) = true := by decide +kernel
theorem skX6_thrown : inX6_thrown.all (ax_stc 60) = true := by decide +kernel
theorem nkX6_thrown : (inX6_thrown.flatMap (ax_need 60)).map some = ([652] : List Nat).map (fun p => lw_tbl[p]?) := by decide +kernel
theorem dkX6_in : inX6_in.all (ax_dec cX6_in) = true := by decide +kernel
theorem skX6_in : inX6_in.all (ax_stc 61) = true := by decide +kernel
theorem nkX6_in : (inX6_in.flatMap (ax_need 61)).map some = ([] : List Nat).map (fun p => lw_tbl[p]?) := by decide +kernel
theorem dkX6_isStop : inX6_isStop.all (ax_dec cX6_isStop) = true := by decide +kernel
theorem skX6_isStop : inX6_isStop.all (ax_stc 62) = true := by decide +kernel
theorem nkX6_isStop : (inX6_isStop.flatMap (ax_need 62)).map some = ([659, 719, 720, 47] : List Nat).map (fun p => lw_tbl[p]?) := by decide +kernel
theorem dkX6_isAisle : inX6_isAisle.all (ax_dec cX6_isAisle) = true := by decide +kernel
theorem skX6_isAisle : inX6_isAisle.all (ax_stc 63) = true := by decide +kernel
theorem nkX6_isAisle : (inX6_isAisle.flatMap (ax_need 63)).map some = ([653, 719, 720, 47] : List Nat).map (fun p => lw_tbl[p]?) := by decide +kernel
theorem dkX6_stop : inX6_stop.all (ax_dec cX6_stop) = true := by decide +kernel
theorem skX6_stop : inX6_stop.all (ax_stc 64) = true := by decide +kernel
theorem nkX6_stop : (inX6_stop.flatMap (ax_need 64)).map some = ([715, 717, 22, 47, 654, 719, 720, 47, 719, 720, 47, 659, 652, 652, 660, 659, 661, 659, 662, 659, 659, 659, 659] : List Nat).map (fun p => lw_tbl[p]?) := by decide +kernel
theorem dkX6_closed : inX6_closed.all (ax_dec cX6_closed) = true := by decide +kernel
theorem skX6_closed : inX6_closed.all (ax_stc 65) = true := by decide +kernel
theorem nkX6_closed : (inX6_closed.flatMap (ax_need 65)).map some = ([715, 717, 22, 47, 652, 652, 658, 659, 660, 663] : List Nat).map (fun p => lw_tbl[p]?) := by decide +kernel
theorem dkX6_isWalked : inX6_isWalked.all (ax_dec cX6_isWalked) = true := by decide +kernel
theorem skX6_isWalked : inX6_isWalked.all (ax_stc 66) = true := by decide +kernel
theorem nkX6_isWalked : (inX6_isWalked.flatMap (ax_need 66)).map some = ([663, 662, 658, 660] : List Nat).map (fun p => lw_tbl[p]?) := by decide +kernel
theorem dkX6_walked : inX6_walked.all (ax_dec cX6_walked) = true := by decide +kernel
theorem skX6_walked : inX6_walked.all (ax_stc 67) = true := by decide +kernel
theorem nkX6_walked : (inX6_walked.flatMap (ax_need 67)).map some = ([659, 734, 736, 24, 47] : List Nat).map (fun p => lw_tbl[p]?) := by decide +kernel
theorem dkX6_apart : inX6_apart.all (ax_dec cX6_apart) = true := by decide +kernel
theorem skX6_apart : inX6_apart.all (ax_stc 68) = true := by decide +kernel
theorem nkX6_apart : (inX6_apart.flatMap (ax_need 68)).map some = ([] : List Nat).map (fun p => lw_tbl[p]?) := by decide +kernel
theorem dkX6_aisleOf : inX6_aisleOf.all (ax_dec cX6_aisleOf) = true := by decide +kernel
theorem skX6_aisleOf : inX6_aisleOf.all (ax_stc 69) = true := by decide +kernel
theorem nkX6_aisleOf : (inX6_aisleOf.flatMap (ax_need 69)).map some = ([660] : List Nat).map (fun p => lw_tbl[p]?) := by decide +kernel
theorem dkX6_depthOf : inX6_depthOf.all (ax_dec cX6_depthOf) = true := by decide +kernel
theorem skX6_depthOf : inX6_depthOf.all (ax_stc 70) = true := by decide +kernel
theorem nkX6_depthOf : (inX6_depthOf.flatMap (ax_need 70)).map some = ([661, 661] : List Nat).map (fun p => lw_tbl[p]?) := by decide +kernel
theorem dkX6_way : inX6_way.all (ax_dec cX6_way) = true := by decide +kernel
theorem skX6_way : inX6_way.all (ax_stc 71) = true := by decide +kernel
theorem nkX6_way : (inX6_way.flatMap (ax_need 71)).map some = ([774, 776, 34, 47, 774, 776, 34, 47, 762, 764, 31, 47, 762, 764, 31, 47, 778, 779, 47, 781, 654, 762, 764, 31, 47, 778, 779, 47, 774, 776, 34, 47, 774, 776, 34, 47, 778, 779, 47, 762, 764, 31, 47, 778, 779, 47] : List Nat).map (fun p => lw_tbl[p]?) := by decide +kernel
theorem dkX6_length : inX6_length.all (ax_dec cX6_length) = true := by decide +kernel
theorem skX6_length : inX6_length.all (ax_stc 72) = true := by decide +kernel
theorem nkX6_length : (inX6_length.flatMap (ax_need 72)).map some = ([657, 664, 665, 770, 772, 33, 47, 665, 770, 772, 33, 47] : List Nat).map (fun p => lw_tbl[p]?) := by decide +kernel
theorem dkX6_add : inX6_add.all (ax_dec cX6_add) = true := by decide +kernel
theorem skX6_add : inX6_add.all (ax_stc 73) = true := by decide +kernel
theorem nkX6_add : (inX6_add.flatMap (ax_need 73)).map some = ([665, 664, 664, 664, 666] : List Nat).map (fun p => lw_tbl[p]?) := by decide +kernel
theorem dkX6_addAisle : inX6_addAisle.all (ax_dec cX6_addAisle) = true := by decide +kernel
theorem skX6_addAisle : inX6_addAisle.all (ax_stc 74) = true := by decide +kernel
theorem nkX6_addAisle : (inX6_addAisle.flatMap (ax_need 74)).map some = ([659, 666, 660, 667, 661, 661, 661, 661, 750, 752, 28, 47] : List Nat).map (fun p => lw_tbl[p]?) := by decide +kernel
theorem dkX6_hasLeft : inX6_hasLeft.all (ax_dec cX6_hasLeft) = true := by decide +kernel
theorem skX6_hasLeft : inX6_hasLeft.all (ax_stc 75) = true := by decide +kernel
theorem nkX6_hasLeft : (inX6_hasLeft.flatMap (ax_need 75)).map some = ([659, 666, 660] : List Nat).map (fun p => lw_tbl[p]?) := by decide +kernel
theorem dkX6_through : inX6_through.all (ax_dec cX6_through) = true := by decide +kernel
theorem skX6_through : inX6_through.all (ax_stc 76) = true := by decide +kernel
theorem nkX6_through : (inX6_through.flatMap (ax_need 76)).map some = ([653, 742, 744, 26, 47, 746, 748, 27, 47] : List Nat).map (fun p => lw_tbl[p]?) := by decide +kernel
theorem dkX6_gap : inX6_gap.all (ax_dec cX6_gap) = true := by decide +kernel
theorem skX6_gap : inX6_gap.all (ax_stc 77) = true := by decide +kernel
theorem nkX6_gap : (inX6_gap.flatMap (ax_need 77)).map some = ([654, 654, 659, 666, 660, 762, 764, 31, 47, 762, 764, 31, 47, 762, 764, 31, 47] : List Nat).map (fun p => lw_tbl[p]?) := by decide +kernel
theorem dkX6_gaps : inX6_gaps.all (ax_dec cX6_gaps) = true := by decide +kernel
theorem skX6_gaps : inX6_gaps.all (ax_stc 78) = true := by decide +kernel
theorem nkX6_gaps : (inX6_gaps.flatMap (ax_need 78)).map some = ([653, 742, 744, 26, 47, 653, 758, 760, 30, 47, 659, 660, 667, 762, 764, 31, 47, 746, 748, 27, 47, 746, 748, 27, 47, 746, 748, 27, 47, 746, 748, 27, 47] : List Nat).map (fun p => lw_tbl[p]?) := by decide +kernel
theorem dkX6_nearest : inX6_nearest.all (ax_dec cX6_nearest) = true := by decide +kernel
theorem skX6_nearest : inX6_nearest.all (ax_stc 79) = true := by decide +kernel
theorem nkX6_nearest : (inX6_nearest.flatMap (ax_need 79)).map some = ([657, 659, 666, 770, 772, 33, 47, 770, 772, 33, 47, 750, 752, 28, 47] : List Nat).map (fun p => lw_tbl[p]?) := by decide +kernel
theorem dkX6_least : inX6_least.all (ax_dec cX6_least) = true := by decide +kernel
theorem skX6_least : inX6_least.all (ax_stc 80) = true := by decide +kernel
theorem nkX6_least : (inX6_least.flatMap (ax_need 80)).map some = ([659, 666, 668, 668, 770, 772, 33, 47, 781, 668, 668, 770, 772, 33, 47, 669, 669, 657, 781, 668, 770, 772, 33, 47, 669, 668, 750, 752, 28, 47, 668] : List Nat).map (fun p => lw_tbl[p]?) := by decide +kernel
theorem dkX6_walk : inX6_walk.all (ax_dec cX6_walk) = true := by decide +kernel
theorem skX6_walk : inX6_walk.all (ax_stc 81) = true := by decide +kernel
theorem nkX6_walk : (inX6_walk.flatMap (ax_need 81)).map some = ([719, 720, 47, 730, 732, 23, 47, 652, 652, 664, 659, 666, 734, 736, 24, 47, 667, 730, 732, 23, 47, 738, 740, 25, 47, 653, 746, 748, 27, 47, 754, 756, 29, 47, 766, 768, 32, 47, 782, 784, 35, 47, 786, 788, 36, 47] : List Nat).map (fun p => lw_tbl[p]?) := by decide +kernel
theorem dkX6_step : inX6_step.all (ax_dec cX6_step) = true := by decide +kernel
theorem skX6_step : inX6_step.all (ax_stc 82) = true := by decide +kernel
theorem nkX6_step : (inX6_step.flatMap (ax_need 82)).map some = ([664, 719, 720, 47, 652, 652, 665] : List Nat).map (fun p => lw_tbl[p]?) := by decide +kernel
theorem dkX6_remove : inX6_remove.all (ax_dec cX6_remove) = true := by decide +kernel
theorem skX6_remove : inX6_remove.all (ax_stc 83) = true := by decide +kernel
theorem nkX6_remove : (inX6_remove.flatMap (ax_need 83)).map some = ([664, 664, 664, 665, 665] : List Nat).map (fun p => lw_tbl[p]?) := by decide +kernel
theorem dkX6_go : inX6_go.all (ax_dec cX6_go) = true := by decide +kernel
theorem skX6_go : inX6_go.all (ax_stc 84) = true := by decide +kernel
theorem nkX6_go : (inX6_go.flatMap (ax_need 84)).map some = ([664, 652, 652, 658, 660, 665, 652, 652, 665, 656, 657, 770, 772, 33, 47, 656, 657, 663, 798, 800, 37, 47] : List Nat).map (fun p => lw_tbl[p]?) := by decide +kernel
theorem dkX6_missing : inX6_missing.all (ax_dec cX6_missing) = true := by decide +kernel
theorem skX6_missing : inX6_missing.all (ax_stc 85) = true := by decide +kernel
theorem nkX6_missing : (inX6_missing.flatMap (ax_need 85)).map some = ([806, 808, 38, 47, 652, 652, 663, 652, 652, 663, 664, 665, 798, 800, 37, 47, 786, 788, 36, 47] : List Nat).map (fun p => lw_tbl[p]?) := by decide +kernel
theorem dkX6_left : inX6_left.all (ax_dec cX6_left) = true := by decide +kernel
theorem skX6_left : inX6_left.all (ax_stc 86) = true := by decide +kernel
theorem nkX6_left : (inX6_left.flatMap (ax_need 86)).map some = ([652, 786, 788, 36, 47] : List Nat).map (fun p => lw_tbl[p]?) := by decide +kernel
theorem dkX6_bound : inX6_bound.all (ax_dec cX6_bound) = true := by decide +kernel
theorem skX6_bound : inX6_bound.all (ax_stc 87) = true := by decide +kernel
theorem nkX6_bound : (inX6_bound.flatMap (ax_need 87)).map some = ([652, 659, 734, 736, 24, 47, 657, 770, 772, 33, 47, 770, 772, 33, 47, 657, 770, 772, 33, 47, 770, 772, 33, 47] : List Nat).map (fun p => lw_tbl[p]?) := by decide +kernel
theorem dkX6_cart : inX6_cart.all (ax_dec cX6_cart) = true := by decide +kernel
theorem skX6_cart : inX6_cart.all (ax_stc 88) = true := by decide +kernel
theorem nkX6_cart : (inX6_cart.flatMap (ax_need 88)).map some = ([719, 720, 47, 652, 652, 655] : List Nat).map (fun p => lw_tbl[p]?) := by decide +kernel
theorem dkX6_full : inX6_full.all (ax_dec cX6_full) = true := by decide +kernel
theorem skX6_full : inX6_full.all (ax_stc 89) = true := by decide +kernel
theorem nkX6_full : (inX6_full.flatMap (ax_need 89)).map some = ([652, 657, 664, 662, 665, 655, 770, 772, 33, 47, 665, 770, 772, 33, 47, 665, 662, 665, 770, 772, 33, 47] : List Nat).map (fun p => lw_tbl[p]?) := by decide +kernel
theorem dkX6_share : inX6_share.all (ax_dec cX6_share) = true := by decide +kernel
theorem skX6_share : inX6_share.all (ax_stc 90) = true := by decide +kernel
theorem nkX6_share : (inX6_share.flatMap (ax_need 90)).map some = ([806, 808, 38, 47, 656, 652, 652, 657, 770, 772, 33, 47, 656] : List Nat).map (fun p => lw_tbl[p]?) := by decide +kernel
theorem dkX6_far : inX6_far.all (ax_dec cX6_far) = true := by decide +kernel
theorem skX6_far : inX6_far.all (ax_stc 91) = true := by decide +kernel
theorem nkX6_far : (inX6_far.flatMap (ax_need 91)).map some = ([806, 808, 38, 47, 806, 808, 38, 47, 652, 652, 770, 772, 33, 47] : List Nat).map (fun p => lw_tbl[p]?) := by decide +kernel
theorem dkX6_told : inX6_told.all (ax_dec cX6_told) = true := by decide +kernel
theorem skX6_told : inX6_told.all (ax_stc 92) = true := by decide +kernel
theorem nkX6_told : (inX6_told.flatMap (ax_need 92)).map some = ([806, 808, 38, 47, 719, 720, 47, 652, 652, 660, 661, 662, 663, 734, 736, 24, 47] : List Nat).map (fun p => lw_tbl[p]?) := by decide +kernel
theorem dkX6_count : inX6_count.all (ax_dec cX6_count) = true := by decide +kernel
theorem skX6_count : inX6_count.all (ax_stc 93) = true := by decide +kernel
theorem nkX6_count : (inX6_count.flatMap (ax_need 93)).map some = ([652, 659, 730, 732, 23, 47, 664, 653, 654, 656, 657, 659, 663] : List Nat).map (fun p => lw_tbl[p]?) := by decide +kernel
end
section
theorem dkL_cell : inL_cell.all (ax_dec cL_cell) = true := by decide +kernel
theorem skL_cell : inL_cell.all (ax_stc 94) = true := by decide +kernel
theorem nkL_cell : (inL_cell.flatMap (ax_need 94)).map some = ([] : List Nat).map (fun p => lw_tbl[p]?) := by decide +kernel
theorem dkL_stop : inL_stop.all (ax_dec cL_stop) = true := by decide +kernel
theorem skL_stop : inL_stop.all (ax_stc 95) = true := by decide +kernel
theorem nkL_stop : (inL_stop.flatMap (ax_need 95)).map some = ([263, 264, 265, 40] : List Nat).map (fun p => lw_tbl[p]?) := by decide +kernel
theorem dkL_closed : inL_closed.all (ax_dec cL_closed) = true := by decide +kernel
theorem skL_closed : inL_closed.all (ax_stc 96) = true := by decide +kernel
theorem nkL_closed : (inL_closed.flatMap (ax_need 96)).map some = ([406, 407, 408, 40] : List Nat).map (fun p => lw_tbl[p]?) := by decide +kernel
theorem dkL_walk : inL_walk.all (ax_dec cL_walk) = true := by decide +kernel
theorem skL_walk : inL_walk.all (ax_stc 97) = true := by decide +kernel
theorem nkL_walk : (inL_walk.flatMap (ax_need 97)).map some = ([418, 419, 420, 40] : List Nat).map (fun p => lw_tbl[p]?) := by decide +kernel
theorem dkL_step : inL_step.all (ax_dec cL_step) = true := by decide +kernel
theorem skL_step : inL_step.all (ax_stc 98) = true := by decide +kernel
theorem nkL_step : (inL_step.flatMap (ax_need 98)).map some = ([548, 549, 550, 40] : List Nat).map (fun p => lw_tbl[p]?) := by decide +kernel
theorem dkL_go : inL_go.all (ax_dec cL_go) = true := by decide +kernel
theorem skL_go : inL_go.all (ax_stc 99) = true := by decide +kernel
theorem nkL_go : (inL_go.flatMap (ax_need 99)).map some = ([576, 577, 578, 40] : List Nat).map (fun p => lw_tbl[p]?) := by decide +kernel
theorem dkL_missing : inL_missing.all (ax_dec cL_missing) = true := by decide +kernel
theorem skL_missing : inL_missing.all (ax_stc 100) = true := by decide +kernel
theorem nkL_missing : (inL_missing.flatMap (ax_need 100)).map some = ([589, 590, 591, 40] : List Nat).map (fun p => lw_tbl[p]?) := by decide +kernel
theorem dkL_cart : inL_cart.all (ax_dec cL_cart) = true := by decide +kernel
theorem skL_cart : inL_cart.all (ax_stc 101) = true := by decide +kernel
theorem nkL_cart : (inL_cart.flatMap (ax_need 101)).map some = ([602, 603, 604, 40] : List Nat).map (fun p => lw_tbl[p]?) := by decide +kernel
theorem dkL_share : inL_share.all (ax_dec cL_share) = true := by decide +kernel
theorem skL_share : inL_share.all (ax_stc 102) = true := by decide +kernel
theorem nkL_share : (inL_share.flatMap (ax_need 102)).map some = ([611, 612, 613, 40] : List Nat).map (fun p => lw_tbl[p]?) := by decide +kernel
theorem dkL_far : inL_far.all (ax_dec cL_far) = true := by decide +kernel
theorem skL_far : inL_far.all (ax_stc 103) = true := by decide +kernel
theorem nkL_far : (inL_far.flatMap (ax_need 103)).map some = ([634, 635, 636, 40] : List Nat).map (fun p => lw_tbl[p]?) := by decide +kernel
theorem dkL_told : inL_told.all (ax_dec cL_told) = true := by decide +kernel
theorem skL_told : inL_told.all (ax_stc 104) = true := by decide +kernel
theorem nkL_told : (inL_told.flatMap (ax_need 104)).map some = ([641, 642, 643, 40] : List Nat).map (fun p => lw_tbl[p]?) := by decide +kernel
theorem dkL_law_0 : ((inL_law.drop 0).take 120).all (ax_dec cL_law) = true := by decide +kernel
theorem dkL_law_1 : ((inL_law.drop 120).take 120).all (ax_dec cL_law) = true := by decide +kernel
theorem dkL_law_2 : ((inL_law.drop 240).take 120).all (ax_dec cL_law) = true := by decide +kernel
theorem dkL_law_3 : ((inL_law.drop 360).take 120).all (ax_dec cL_law) = true := by decide +kernel
theorem ax_allc {α : Type} {f : α → Bool} {l : List α} {s n : Nat} (h1 : ((l.drop s).take n).all f = true) (h2 : (l.drop (s + n)).all f = true) : (l.drop s).all f = true := by
  rw [← List.take_append_drop n (l.drop s), List.all_append, h1, List.drop_drop, h2]
  rfl
theorem dkL_law : inL_law.all (ax_dec cL_law) = true := (ax_allc (s := 0) (n := 120) dkL_law_0 (ax_allc (s := 120) (n := 120) dkL_law_1 (ax_allc (s := 240) (n := 120) dkL_law_2 (ax_allc (s := 360) (n := 120) dkL_law_3 (by rfl)))))
theorem skL_law : inL_law.all (ax_stc 105) = true := by decide +kernel
theorem nkL_law : (inL_law.flatMap (ax_need 105)).map some = ([58, 59, 40, 254, 255, 39, 254, 255, 39, 60, 61, 40, 646, 647, 47, 254, 255, 39, 254, 255, 39, 648, 649, 47, 842, 257, 258, 39, 711, 712, 713, 47, 707, 708, 709, 47, 403, 404, 39, 722, 723, 724, 47, 707, 708, 709, 47, 414, 415, 39, 726, 727, 728, 47, 707, 708, 709, 47, 544, 545, 39, 790, 791, 792, 47, 707, 708, 709, 47, 573, 574, 39, 794, 795, 796, 47, 707, 708, 709, 47, 586, 587, 39, 802, 803, 804, 47, 707, 708, 709, 47, 216, 217, 218, 40, 810, 811, 812, 47, 228, 229, 230, 40, 814, 815, 816, 47, 599, 600, 39, 818, 819, 820, 47, 707, 708, 709, 47, 237, 238, 239, 40, 822, 823, 824, 47, 607, 608, 39, 826, 827, 828, 47, 707, 708, 709, 47, 631, 632, 39, 830, 831, 832, 47, 707, 708, 709, 47, 638, 639, 39, 834, 835, 836, 47, 707, 708, 709, 47, 241, 242, 243, 40, 838, 839, 840, 47] : List Nat).map (fun p => lw_tbl[p]?) := by decide +kernel
end
section
set_option maxRecDepth 100000 in
theorem ckX0_init : lw_tbl[88]? = some (axCode 0) := by rfl
set_option maxRecDepth 100000 in
theorem ckX0_hasAisle : lw_tbl[274]? = some (axCode 1) := by rfl
set_option maxRecDepth 100000 in
theorem ckX0_hasPlace : lw_tbl[349]? = some (axCode 2) := by rfl
set_option maxRecDepth 100000 in
theorem ckX0_backDepth : lw_tbl[537]? = some (axCode 3) := by rfl
set_option maxRecDepth 100000 in
theorem ckX0_placeDepth : lw_tbl[390]? = some (axCode 4) := by rfl
set_option maxRecDepth 100000 in
theorem ckX0_between : lw_tbl[398]? = some (axCode 5) := by rfl
set_option maxRecDepth 100000 in
theorem ckX1_init : lw_tbl[163]? = some (axCode 6) := by rfl
set_option maxRecDepth 100000 in
theorem ckX1_lay : lw_tbl[451]? = some (axCode 7) := by rfl
set_option maxRecDepth 100000 in
theorem ckX1_gather : lw_tbl[455]? = some (axCode 8) := by rfl
set_option maxRecDepth 100000 in
theorem ckX1_fillRests : lw_tbl[460]? = some (axCode 9) := by rfl
set_option maxRecDepth 100000 in
theorem ckX1_bestNext : lw_tbl[468]? = some (axCode 10) := by rfl
set_option maxRecDepth 100000 in
theorem ckX1_isIn : lw_tbl[464]? = some (axCode 11) := by rfl
set_option maxRecDepth 100000 in
theorem ckX1_lengthBy : lw_tbl[473]? = some (axCode 12) := by rfl
set_option maxRecDepth 100000 in
theorem ckX2_init : lw_tbl[157]? = some (axCode 13) := by rfl
set_option maxRecDepth 100000 in
theorem ckX2_lay : lw_tbl[442]? = some (axCode 14) := by rfl
set_option maxRecDepth 100000 in
theorem ckX2_layNearest : lw_tbl[485]? = some (axCode 15) := by rfl
set_option maxRecDepth 100000 in
theorem ckX2_nearestFrom : lw_tbl[490]? = some (axCode 16) := by rfl
set_option maxRecDepth 100000 in
theorem ckX2_layByKeys : lw_tbl[497]? = some (axCode 17) := by rfl
set_option maxRecDepth 100000 in
theorem ckX2_keyOf : lw_tbl[501]? = some (axCode 18) := by rfl
set_option maxRecDepth 100000 in
theorem ckX2_throughKey : lw_tbl[542]? = some (axCode 19) := by rfl
set_option maxRecDepth 100000 in
theorem ckX2_gapKey : lw_tbl[505]? = some (axCode 20) := by rfl
set_option maxRecDepth 100000 in
theorem ckX2_upward : lw_tbl[517]? = some (axCode 21) := by rfl
set_option maxRecDepth 100000 in
theorem ckX2_downward : lw_tbl[525]? = some (axCode 22) := by rfl
set_option maxRecDepth 100000 in
theorem ckX2_usedAislesBelow : lw_tbl[509]? = some (axCode 23) := by rfl
set_option maxRecDepth 100000 in
theorem ckX2_isUsedAbove : lw_tbl[521]? = some (axCode 24) := by rfl
set_option maxRecDepth 100000 in
theorem ckX2_isUsed : lw_tbl[513]? = some (axCode 25) := by rfl
set_option maxRecDepth 100000 in
theorem ckX2_gapStart : lw_tbl[529]? = some (axCode 26) := by rfl
set_option maxRecDepth 100000 in
theorem ckX2_nextDepth : lw_tbl[533]? = some (axCode 27) := by rfl
set_option maxRecDepth 100000 in
theorem ckX3_init : lw_tbl[70]? = some (axCode 28) := by rfl
set_option maxRecDepth 100000 in
theorem ckX3_clear : lw_tbl[446]? = some (axCode 29) := by rfl
set_option maxRecDepth 100000 in
theorem ckX3_insert : lw_tbl[481]? = some (axCode 30) := by rfl
set_option maxRecDepth 100000 in
theorem ckX3_append : lw_tbl[477]? = some (axCode 31) := by rfl
set_option maxRecDepth 100000 in
theorem ckX3_drop : lw_tbl[585]? = some (axCode 32) := by rfl
set_option maxRecDepth 100000 in
theorem ckX4_init : lw_tbl[116]? = some (axCode 33) := by rfl
set_option maxRecDepth 100000 in
theorem ckX4_add : lw_tbl[386]? = some (axCode 34) := by rfl
set_option maxRecDepth 100000 in
theorem ckX4_measure : lw_tbl[394]? = some (axCode 35) := by rfl
set_option maxRecDepth 100000 in
theorem ckX4_way : lw_tbl[227]? = some (axCode 36) := by rfl
set_option maxRecDepth 100000 in
theorem ckX4_isWalked : lw_tbl[235]? = some (axCode 37) := by rfl
set_option maxRecDepth 100000 in
theorem ckX4_walkedOnes : lw_tbl[248]? = some (axCode 38) := by rfl
set_option maxRecDepth 100000 in
theorem ckX4_doneOnes : lw_tbl[253]? = some (axCode 39) := by rfl
set_option maxRecDepth 100000 in
theorem ckX4_openIn : lw_tbl[413]? = some (axCode 40) := by rfl
set_option maxRecDepth 100000 in
theorem ckX5_init : lw_tbl[62]? = some (axCode 41) := by rfl
set_option maxRecDepth 100000 in
theorem ckX5_stop : lw_tbl[266]? = some (axCode 42) := by rfl
set_option maxRecDepth 100000 in
theorem ckX5_closed : lw_tbl[409]? = some (axCode 43) := by rfl
set_option maxRecDepth 100000 in
theorem ckX5_walk : lw_tbl[421]? = some (axCode 44) := by rfl
set_option maxRecDepth 100000 in
theorem ckX5_step : lw_tbl[551]? = some (axCode 45) := by rfl
set_option maxRecDepth 100000 in
theorem ckX5_go : lw_tbl[579]? = some (axCode 46) := by rfl
set_option maxRecDepth 100000 in
theorem ckX5_missing : lw_tbl[592]? = some (axCode 47) := by rfl
set_option maxRecDepth 100000 in
theorem ckX5_left : lw_tbl[219]? = some (axCode 48) := by rfl
set_option maxRecDepth 100000 in
theorem ckX5_bound : lw_tbl[231]? = some (axCode 49) := by rfl
set_option maxRecDepth 100000 in
theorem ckX5_cart : lw_tbl[605]? = some (axCode 50) := by rfl
set_option maxRecDepth 100000 in
theorem ckX5_full : lw_tbl[240]? = some (axCode 51) := by rfl
set_option maxRecDepth 100000 in
theorem ckX5_share : lw_tbl[614]? = some (axCode 52) := by rfl
set_option maxRecDepth 100000 in
theorem ckX5_far : lw_tbl[637]? = some (axCode 53) := by rfl
set_option maxRecDepth 100000 in
theorem ckX5_told : lw_tbl[644]? = some (axCode 54) := by rfl
set_option maxRecDepth 100000 in
theorem ckX5_count : lw_tbl[244]? = some (axCode 55) := by rfl
set_option maxRecDepth 100000 in
theorem ckX5_requireAisle : lw_tbl[270]? = some (axCode 56) := by rfl
set_option maxRecDepth 100000 in
theorem ckX5_requireStop : lw_tbl[596]? = some (axCode 57) := by rfl
set_option maxRecDepth 100000 in
theorem ckX5_routeLength : lw_tbl[223]? = some (axCode 58) := by rfl
set_option maxRecDepth 100000 in
theorem ckX6_init : lw_tbl[650]? = some (axCode 59) := by rfl
set_option maxRecDepth 100000 in
theorem ckX6_thrown : lw_tbl[710]? = some (axCode 60) := by rfl
set_option maxRecDepth 100000 in
theorem ckX6_in : lw_tbl[721]? = some (axCode 61) := by rfl
set_option maxRecDepth 100000 in
theorem ckX6_isStop : lw_tbl[809]? = some (axCode 62) := by rfl
set_option maxRecDepth 100000 in
theorem ckX6_isAisle : lw_tbl[718]? = some (axCode 63) := by rfl
set_option maxRecDepth 100000 in
theorem ckX6_stop : lw_tbl[714]? = some (axCode 64) := by rfl
set_option maxRecDepth 100000 in
theorem ckX6_closed : lw_tbl[725]? = some (axCode 65) := by rfl
set_option maxRecDepth 100000 in
theorem ckX6_isWalked : lw_tbl[737]? = some (axCode 66) := by rfl
set_option maxRecDepth 100000 in
theorem ckX6_walked : lw_tbl[733]? = some (axCode 67) := by rfl
set_option maxRecDepth 100000 in
theorem ckX6_apart : lw_tbl[780]? = some (axCode 68) := by rfl
set_option maxRecDepth 100000 in
theorem ckX6_aisleOf : lw_tbl[777]? = some (axCode 69) := by rfl
set_option maxRecDepth 100000 in
theorem ckX6_depthOf : lw_tbl[765]? = some (axCode 70) := by rfl
set_option maxRecDepth 100000 in
theorem ckX6_way : lw_tbl[773]? = some (axCode 71) := by rfl
set_option maxRecDepth 100000 in
theorem ckX6_length : lw_tbl[789]? = some (axCode 72) := by rfl
set_option maxRecDepth 100000 in
theorem ckX6_add : lw_tbl[753]? = some (axCode 73) := by rfl
set_option maxRecDepth 100000 in
theorem ckX6_addAisle : lw_tbl[749]? = some (axCode 74) := by rfl
set_option maxRecDepth 100000 in
theorem ckX6_hasLeft : lw_tbl[745]? = some (axCode 75) := by rfl
set_option maxRecDepth 100000 in
theorem ckX6_through : lw_tbl[741]? = some (axCode 76) := by rfl
set_option maxRecDepth 100000 in
theorem ckX6_gap : lw_tbl[761]? = some (axCode 77) := by rfl
set_option maxRecDepth 100000 in
theorem ckX6_gaps : lw_tbl[757]? = some (axCode 78) := by rfl
set_option maxRecDepth 100000 in
theorem ckX6_nearest : lw_tbl[769]? = some (axCode 79) := by rfl
set_option maxRecDepth 100000 in
theorem ckX6_least : lw_tbl[785]? = some (axCode 80) := by rfl
set_option maxRecDepth 100000 in
theorem ckX6_walk : lw_tbl[729]? = some (axCode 81) := by rfl
set_option maxRecDepth 100000 in
theorem ckX6_step : lw_tbl[793]? = some (axCode 82) := by rfl
set_option maxRecDepth 100000 in
theorem ckX6_remove : lw_tbl[801]? = some (axCode 83) := by rfl
set_option maxRecDepth 100000 in
theorem ckX6_go : lw_tbl[797]? = some (axCode 84) := by rfl
set_option maxRecDepth 100000 in
theorem ckX6_missing : lw_tbl[805]? = some (axCode 85) := by rfl
set_option maxRecDepth 100000 in
theorem ckX6_left : lw_tbl[813]? = some (axCode 86) := by rfl
set_option maxRecDepth 100000 in
theorem ckX6_bound : lw_tbl[817]? = some (axCode 87) := by rfl
set_option maxRecDepth 100000 in
theorem ckX6_cart : lw_tbl[821]? = some (axCode 88) := by rfl
set_option maxRecDepth 100000 in
theorem ckX6_full : lw_tbl[825]? = some (axCode 89) := by rfl
set_option maxRecDepth 100000 in
theorem ckX6_share : lw_tbl[829]? = some (axCode 90) := by rfl
set_option maxRecDepth 100000 in
theorem ckX6_far : lw_tbl[833]? = some (axCode 91) := by rfl
set_option maxRecDepth 100000 in
theorem ckX6_told : lw_tbl[837]? = some (axCode 92) := by rfl
set_option maxRecDepth 100000 in
theorem ckX6_count : lw_tbl[841]? = some (axCode 93) := by rfl
set_option maxRecDepth 100000 in
theorem ckL_cell : lw_tbl[256]? = some (axCode 94) := by rfl
set_option maxRecDepth 100000 in
theorem ckL_stop : lw_tbl[259]? = some (axCode 95) := by rfl
set_option maxRecDepth 100000 in
theorem ckL_closed : lw_tbl[405]? = some (axCode 96) := by rfl
set_option maxRecDepth 100000 in
theorem ckL_walk : lw_tbl[416]? = some (axCode 97) := by rfl
set_option maxRecDepth 100000 in
theorem ckL_step : lw_tbl[546]? = some (axCode 98) := by rfl
set_option maxRecDepth 100000 in
theorem ckL_go : lw_tbl[575]? = some (axCode 99) := by rfl
set_option maxRecDepth 100000 in
theorem ckL_missing : lw_tbl[588]? = some (axCode 100) := by rfl
set_option maxRecDepth 100000 in
theorem ckL_cart : lw_tbl[601]? = some (axCode 101) := by rfl
set_option maxRecDepth 100000 in
theorem ckL_share : lw_tbl[609]? = some (axCode 102) := by rfl
set_option maxRecDepth 100000 in
theorem ckL_far : lw_tbl[633]? = some (axCode 103) := by rfl
set_option maxRecDepth 100000 in
theorem ckL_told : lw_tbl[640]? = some (axCode 104) := by rfl
theorem ax_dk : ∀ i, i < 106 → (axT i).all (ax_dec (axB i)) = true := fun i hi => match i, hi with
  | 0, _ => dkX0_init
  | 1, _ => dkX0_hasAisle
  | 2, _ => dkX0_hasPlace
  | 3, _ => dkX0_backDepth
  | 4, _ => dkX0_placeDepth
  | 5, _ => dkX0_between
  | 6, _ => dkX1_init
  | 7, _ => dkX1_lay
  | 8, _ => dkX1_gather
  | 9, _ => dkX1_fillRests
  | 10, _ => dkX1_bestNext
  | 11, _ => dkX1_isIn
  | 12, _ => dkX1_lengthBy
  | 13, _ => dkX2_init
  | 14, _ => dkX2_lay
  | 15, _ => dkX2_layNearest
  | 16, _ => dkX2_nearestFrom
  | 17, _ => dkX2_layByKeys
  | 18, _ => dkX2_keyOf
  | 19, _ => dkX2_throughKey
  | 20, _ => dkX2_gapKey
  | 21, _ => dkX2_upward
  | 22, _ => dkX2_downward
  | 23, _ => dkX2_usedAislesBelow
  | 24, _ => dkX2_isUsedAbove
  | 25, _ => dkX2_isUsed
  | 26, _ => dkX2_gapStart
  | 27, _ => dkX2_nextDepth
  | 28, _ => dkX3_init
  | 29, _ => dkX3_clear
  | 30, _ => dkX3_insert
  | 31, _ => dkX3_append
  | 32, _ => dkX3_drop
  | 33, _ => dkX4_init
  | 34, _ => dkX4_add
  | 35, _ => dkX4_measure
  | 36, _ => dkX4_way
  | 37, _ => dkX4_isWalked
  | 38, _ => dkX4_walkedOnes
  | 39, _ => dkX4_doneOnes
  | 40, _ => dkX4_openIn
  | 41, _ => dkX5_init
  | 42, _ => dkX5_stop
  | 43, _ => dkX5_closed
  | 44, _ => dkX5_walk
  | 45, _ => dkX5_step
  | 46, _ => dkX5_go
  | 47, _ => dkX5_missing
  | 48, _ => dkX5_left
  | 49, _ => dkX5_bound
  | 50, _ => dkX5_cart
  | 51, _ => dkX5_full
  | 52, _ => dkX5_share
  | 53, _ => dkX5_far
  | 54, _ => dkX5_told
  | 55, _ => dkX5_count
  | 56, _ => dkX5_requireAisle
  | 57, _ => dkX5_requireStop
  | 58, _ => dkX5_routeLength
  | 59, _ => dkX6_init
  | 60, _ => dkX6_thrown
  | 61, _ => dkX6_in
  | 62, _ => dkX6_isStop
  | 63, _ => dkX6_isAisle
  | 64, _ => dkX6_stop
  | 65, _ => dkX6_closed
  | 66, _ => dkX6_isWalked
  | 67, _ => dkX6_walked
  | 68, _ => dkX6_apart
  | 69, _ => dkX6_aisleOf
  | 70, _ => dkX6_depthOf
  | 71, _ => dkX6_way
  | 72, _ => dkX6_length
  | 73, _ => dkX6_add
  | 74, _ => dkX6_addAisle
  | 75, _ => dkX6_hasLeft
  | 76, _ => dkX6_through
  | 77, _ => dkX6_gap
  | 78, _ => dkX6_gaps
  | 79, _ => dkX6_nearest
  | 80, _ => dkX6_least
  | 81, _ => dkX6_walk
  | 82, _ => dkX6_step
  | 83, _ => dkX6_remove
  | 84, _ => dkX6_go
  | 85, _ => dkX6_missing
  | 86, _ => dkX6_left
  | 87, _ => dkX6_bound
  | 88, _ => dkX6_cart
  | 89, _ => dkX6_full
  | 90, _ => dkX6_share
  | 91, _ => dkX6_far
  | 92, _ => dkX6_told
  | 93, _ => dkX6_count
  | 94, _ => dkL_cell
  | 95, _ => dkL_stop
  | 96, _ => dkL_closed
  | 97, _ => dkL_walk
  | 98, _ => dkL_step
  | 99, _ => dkL_go
  | 100, _ => dkL_missing
  | 101, _ => dkL_cart
  | 102, _ => dkL_share
  | 103, _ => dkL_far
  | 104, _ => dkL_told
  | 105, _ => dkL_law
  | n + 106, h => absurd h (by omega)
theorem ax_sk : ∀ i, i < 106 → (axT i).all (ax_stc i) = true := fun i hi => match i, hi with
  | 0, _ => skX0_init
  | 1, _ => skX0_hasAisle
  | 2, _ => skX0_hasPlace
  | 3, _ => skX0_backDepth
  | 4, _ => skX0_placeDepth
  | 5, _ => skX0_between
  | 6, _ => skX1_init
  | 7, _ => skX1_lay
  | 8, _ => skX1_gather
  | 9, _ => skX1_fillRests
  | 10, _ => skX1_bestNext
  | 11, _ => skX1_isIn
  | 12, _ => skX1_lengthBy
  | 13, _ => skX2_init
  | 14, _ => skX2_lay
  | 15, _ => skX2_layNearest
  | 16, _ => skX2_nearestFrom
  | 17, _ => skX2_layByKeys
  | 18, _ => skX2_keyOf
  | 19, _ => skX2_throughKey
  | 20, _ => skX2_gapKey
  | 21, _ => skX2_upward
  | 22, _ => skX2_downward
  | 23, _ => skX2_usedAislesBelow
  | 24, _ => skX2_isUsedAbove
  | 25, _ => skX2_isUsed
  | 26, _ => skX2_gapStart
  | 27, _ => skX2_nextDepth
  | 28, _ => skX3_init
  | 29, _ => skX3_clear
  | 30, _ => skX3_insert
  | 31, _ => skX3_append
  | 32, _ => skX3_drop
  | 33, _ => skX4_init
  | 34, _ => skX4_add
  | 35, _ => skX4_measure
  | 36, _ => skX4_way
  | 37, _ => skX4_isWalked
  | 38, _ => skX4_walkedOnes
  | 39, _ => skX4_doneOnes
  | 40, _ => skX4_openIn
  | 41, _ => skX5_init
  | 42, _ => skX5_stop
  | 43, _ => skX5_closed
  | 44, _ => skX5_walk
  | 45, _ => skX5_step
  | 46, _ => skX5_go
  | 47, _ => skX5_missing
  | 48, _ => skX5_left
  | 49, _ => skX5_bound
  | 50, _ => skX5_cart
  | 51, _ => skX5_full
  | 52, _ => skX5_share
  | 53, _ => skX5_far
  | 54, _ => skX5_told
  | 55, _ => skX5_count
  | 56, _ => skX5_requireAisle
  | 57, _ => skX5_requireStop
  | 58, _ => skX5_routeLength
  | 59, _ => skX6_init
  | 60, _ => skX6_thrown
  | 61, _ => skX6_in
  | 62, _ => skX6_isStop
  | 63, _ => skX6_isAisle
  | 64, _ => skX6_stop
  | 65, _ => skX6_closed
  | 66, _ => skX6_isWalked
  | 67, _ => skX6_walked
  | 68, _ => skX6_apart
  | 69, _ => skX6_aisleOf
  | 70, _ => skX6_depthOf
  | 71, _ => skX6_way
  | 72, _ => skX6_length
  | 73, _ => skX6_add
  | 74, _ => skX6_addAisle
  | 75, _ => skX6_hasLeft
  | 76, _ => skX6_through
  | 77, _ => skX6_gap
  | 78, _ => skX6_gaps
  | 79, _ => skX6_nearest
  | 80, _ => skX6_least
  | 81, _ => skX6_walk
  | 82, _ => skX6_step
  | 83, _ => skX6_remove
  | 84, _ => skX6_go
  | 85, _ => skX6_missing
  | 86, _ => skX6_left
  | 87, _ => skX6_bound
  | 88, _ => skX6_cart
  | 89, _ => skX6_full
  | 90, _ => skX6_share
  | 91, _ => skX6_far
  | 92, _ => skX6_told
  | 93, _ => skX6_count
  | 94, _ => skL_cell
  | 95, _ => skL_stop
  | 96, _ => skL_closed
  | 97, _ => skL_walk
  | 98, _ => skL_step
  | 99, _ => skL_go
  | 100, _ => skL_missing
  | 101, _ => skL_cart
  | 102, _ => skL_share
  | 103, _ => skL_far
  | 104, _ => skL_told
  | 105, _ => skL_law
  | n + 106, h => absurd h (by omega)
theorem ax_nk : ∀ i, i < 106 → ∃ ps : List Nat, ((axT i).flatMap (ax_need i)).map some = ps.map (fun p => lw_tbl[p]?) := fun i hi => match i, hi with
  | 0, _ => ⟨_, nkX0_init⟩
  | 1, _ => ⟨_, nkX0_hasAisle⟩
  | 2, _ => ⟨_, nkX0_hasPlace⟩
  | 3, _ => ⟨_, nkX0_backDepth⟩
  | 4, _ => ⟨_, nkX0_placeDepth⟩
  | 5, _ => ⟨_, nkX0_between⟩
  | 6, _ => ⟨_, nkX1_init⟩
  | 7, _ => ⟨_, nkX1_lay⟩
  | 8, _ => ⟨_, nkX1_gather⟩
  | 9, _ => ⟨_, nkX1_fillRests⟩
  | 10, _ => ⟨_, nkX1_bestNext⟩
  | 11, _ => ⟨_, nkX1_isIn⟩
  | 12, _ => ⟨_, nkX1_lengthBy⟩
  | 13, _ => ⟨_, nkX2_init⟩
  | 14, _ => ⟨_, nkX2_lay⟩
  | 15, _ => ⟨_, nkX2_layNearest⟩
  | 16, _ => ⟨_, nkX2_nearestFrom⟩
  | 17, _ => ⟨_, nkX2_layByKeys⟩
  | 18, _ => ⟨_, nkX2_keyOf⟩
  | 19, _ => ⟨_, nkX2_throughKey⟩
  | 20, _ => ⟨_, nkX2_gapKey⟩
  | 21, _ => ⟨_, nkX2_upward⟩
  | 22, _ => ⟨_, nkX2_downward⟩
  | 23, _ => ⟨_, nkX2_usedAislesBelow⟩
  | 24, _ => ⟨_, nkX2_isUsedAbove⟩
  | 25, _ => ⟨_, nkX2_isUsed⟩
  | 26, _ => ⟨_, nkX2_gapStart⟩
  | 27, _ => ⟨_, nkX2_nextDepth⟩
  | 28, _ => ⟨_, nkX3_init⟩
  | 29, _ => ⟨_, nkX3_clear⟩
  | 30, _ => ⟨_, nkX3_insert⟩
  | 31, _ => ⟨_, nkX3_append⟩
  | 32, _ => ⟨_, nkX3_drop⟩
  | 33, _ => ⟨_, nkX4_init⟩
  | 34, _ => ⟨_, nkX4_add⟩
  | 35, _ => ⟨_, nkX4_measure⟩
  | 36, _ => ⟨_, nkX4_way⟩
  | 37, _ => ⟨_, nkX4_isWalked⟩
  | 38, _ => ⟨_, nkX4_walkedOnes⟩
  | 39, _ => ⟨_, nkX4_doneOnes⟩
  | 40, _ => ⟨_, nkX4_openIn⟩
  | 41, _ => ⟨_, nkX5_init⟩
  | 42, _ => ⟨_, nkX5_stop⟩
  | 43, _ => ⟨_, nkX5_closed⟩
  | 44, _ => ⟨_, nkX5_walk⟩
  | 45, _ => ⟨_, nkX5_step⟩
  | 46, _ => ⟨_, nkX5_go⟩
  | 47, _ => ⟨_, nkX5_missing⟩
  | 48, _ => ⟨_, nkX5_left⟩
  | 49, _ => ⟨_, nkX5_bound⟩
  | 50, _ => ⟨_, nkX5_cart⟩
  | 51, _ => ⟨_, nkX5_full⟩
  | 52, _ => ⟨_, nkX5_share⟩
  | 53, _ => ⟨_, nkX5_far⟩
  | 54, _ => ⟨_, nkX5_told⟩
  | 55, _ => ⟨_, nkX5_count⟩
  | 56, _ => ⟨_, nkX5_requireAisle⟩
  | 57, _ => ⟨_, nkX5_requireStop⟩
  | 58, _ => ⟨_, nkX5_routeLength⟩
  | 59, _ => ⟨_, nkX6_init⟩
  | 60, _ => ⟨_, nkX6_thrown⟩
  | 61, _ => ⟨_, nkX6_in⟩
  | 62, _ => ⟨_, nkX6_isStop⟩
  | 63, _ => ⟨_, nkX6_isAisle⟩
  | 64, _ => ⟨_, nkX6_stop⟩
  | 65, _ => ⟨_, nkX6_closed⟩
  | 66, _ => ⟨_, nkX6_isWalked⟩
  | 67, _ => ⟨_, nkX6_walked⟩
  | 68, _ => ⟨_, nkX6_apart⟩
  | 69, _ => ⟨_, nkX6_aisleOf⟩
  | 70, _ => ⟨_, nkX6_depthOf⟩
  | 71, _ => ⟨_, nkX6_way⟩
  | 72, _ => ⟨_, nkX6_length⟩
  | 73, _ => ⟨_, nkX6_add⟩
  | 74, _ => ⟨_, nkX6_addAisle⟩
  | 75, _ => ⟨_, nkX6_hasLeft⟩
  | 76, _ => ⟨_, nkX6_through⟩
  | 77, _ => ⟨_, nkX6_gap⟩
  | 78, _ => ⟨_, nkX6_gaps⟩
  | 79, _ => ⟨_, nkX6_nearest⟩
  | 80, _ => ⟨_, nkX6_least⟩
  | 81, _ => ⟨_, nkX6_walk⟩
  | 82, _ => ⟨_, nkX6_step⟩
  | 83, _ => ⟨_, nkX6_remove⟩
  | 84, _ => ⟨_, nkX6_go⟩
  | 85, _ => ⟨_, nkX6_missing⟩
  | 86, _ => ⟨_, nkX6_left⟩
  | 87, _ => ⟨_, nkX6_bound⟩
  | 88, _ => ⟨_, nkX6_cart⟩
  | 89, _ => ⟨_, nkX6_full⟩
  | 90, _ => ⟨_, nkX6_share⟩
  | 91, _ => ⟨_, nkX6_far⟩
  | 92, _ => ⟨_, nkX6_told⟩
  | 93, _ => ⟨_, nkX6_count⟩
  | 94, _ => ⟨_, nkL_cell⟩
  | 95, _ => ⟨_, nkL_stop⟩
  | 96, _ => ⟨_, nkL_closed⟩
  | 97, _ => ⟨_, nkL_walk⟩
  | 98, _ => ⟨_, nkL_step⟩
  | 99, _ => ⟨_, nkL_go⟩
  | 100, _ => ⟨_, nkL_missing⟩
  | 101, _ => ⟨_, nkL_cart⟩
  | 102, _ => ⟨_, nkL_share⟩
  | 103, _ => ⟨_, nkL_far⟩
  | 104, _ => ⟨_, nkL_told⟩
  | 105, _ => ⟨_, nkL_law⟩
  | n + 106, h => absurd h (by omega)
theorem ax_ck : ∀ i, i < 105 → ∃ p : Nat, lw_tbl[p]? = some (axCode i) := fun i hi => match i, hi with
  | 0, _ => ⟨_, ckX0_init⟩
  | 1, _ => ⟨_, ckX0_hasAisle⟩
  | 2, _ => ⟨_, ckX0_hasPlace⟩
  | 3, _ => ⟨_, ckX0_backDepth⟩
  | 4, _ => ⟨_, ckX0_placeDepth⟩
  | 5, _ => ⟨_, ckX0_between⟩
  | 6, _ => ⟨_, ckX1_init⟩
  | 7, _ => ⟨_, ckX1_lay⟩
  | 8, _ => ⟨_, ckX1_gather⟩
  | 9, _ => ⟨_, ckX1_fillRests⟩
  | 10, _ => ⟨_, ckX1_bestNext⟩
  | 11, _ => ⟨_, ckX1_isIn⟩
  | 12, _ => ⟨_, ckX1_lengthBy⟩
  | 13, _ => ⟨_, ckX2_init⟩
  | 14, _ => ⟨_, ckX2_lay⟩
  | 15, _ => ⟨_, ckX2_layNearest⟩
  | 16, _ => ⟨_, ckX2_nearestFrom⟩
  | 17, _ => ⟨_, ckX2_layByKeys⟩
  | 18, _ => ⟨_, ckX2_keyOf⟩
  | 19, _ => ⟨_, ckX2_throughKey⟩
  | 20, _ => ⟨_, ckX2_gapKey⟩
  | 21, _ => ⟨_, ckX2_upward⟩
  | 22, _ => ⟨_, ckX2_downward⟩
  | 23, _ => ⟨_, ckX2_usedAislesBelow⟩
  | 24, _ => ⟨_, ckX2_isUsedAbove⟩
  | 25, _ => ⟨_, ckX2_isUsed⟩
  | 26, _ => ⟨_, ckX2_gapStart⟩
  | 27, _ => ⟨_, ckX2_nextDepth⟩
  | 28, _ => ⟨_, ckX3_init⟩
  | 29, _ => ⟨_, ckX3_clear⟩
  | 30, _ => ⟨_, ckX3_insert⟩
  | 31, _ => ⟨_, ckX3_append⟩
  | 32, _ => ⟨_, ckX3_drop⟩
  | 33, _ => ⟨_, ckX4_init⟩
  | 34, _ => ⟨_, ckX4_add⟩
  | 35, _ => ⟨_, ckX4_measure⟩
  | 36, _ => ⟨_, ckX4_way⟩
  | 37, _ => ⟨_, ckX4_isWalked⟩
  | 38, _ => ⟨_, ckX4_walkedOnes⟩
  | 39, _ => ⟨_, ckX4_doneOnes⟩
  | 40, _ => ⟨_, ckX4_openIn⟩
  | 41, _ => ⟨_, ckX5_init⟩
  | 42, _ => ⟨_, ckX5_stop⟩
  | 43, _ => ⟨_, ckX5_closed⟩
  | 44, _ => ⟨_, ckX5_walk⟩
  | 45, _ => ⟨_, ckX5_step⟩
  | 46, _ => ⟨_, ckX5_go⟩
  | 47, _ => ⟨_, ckX5_missing⟩
  | 48, _ => ⟨_, ckX5_left⟩
  | 49, _ => ⟨_, ckX5_bound⟩
  | 50, _ => ⟨_, ckX5_cart⟩
  | 51, _ => ⟨_, ckX5_full⟩
  | 52, _ => ⟨_, ckX5_share⟩
  | 53, _ => ⟨_, ckX5_far⟩
  | 54, _ => ⟨_, ckX5_told⟩
  | 55, _ => ⟨_, ckX5_count⟩
  | 56, _ => ⟨_, ckX5_requireAisle⟩
  | 57, _ => ⟨_, ckX5_requireStop⟩
  | 58, _ => ⟨_, ckX5_routeLength⟩
  | 59, _ => ⟨_, ckX6_init⟩
  | 60, _ => ⟨_, ckX6_thrown⟩
  | 61, _ => ⟨_, ckX6_in⟩
  | 62, _ => ⟨_, ckX6_isStop⟩
  | 63, _ => ⟨_, ckX6_isAisle⟩
  | 64, _ => ⟨_, ckX6_stop⟩
  | 65, _ => ⟨_, ckX6_closed⟩
  | 66, _ => ⟨_, ckX6_isWalked⟩
  | 67, _ => ⟨_, ckX6_walked⟩
  | 68, _ => ⟨_, ckX6_apart⟩
  | 69, _ => ⟨_, ckX6_aisleOf⟩
  | 70, _ => ⟨_, ckX6_depthOf⟩
  | 71, _ => ⟨_, ckX6_way⟩
  | 72, _ => ⟨_, ckX6_length⟩
  | 73, _ => ⟨_, ckX6_add⟩
  | 74, _ => ⟨_, ckX6_addAisle⟩
  | 75, _ => ⟨_, ckX6_hasLeft⟩
  | 76, _ => ⟨_, ckX6_through⟩
  | 77, _ => ⟨_, ckX6_gap⟩
  | 78, _ => ⟨_, ckX6_gaps⟩
  | 79, _ => ⟨_, ckX6_nearest⟩
  | 80, _ => ⟨_, ckX6_least⟩
  | 81, _ => ⟨_, ckX6_walk⟩
  | 82, _ => ⟨_, ckX6_step⟩
  | 83, _ => ⟨_, ckX6_remove⟩
  | 84, _ => ⟨_, ckX6_go⟩
  | 85, _ => ⟨_, ckX6_missing⟩
  | 86, _ => ⟨_, ckX6_left⟩
  | 87, _ => ⟨_, ckX6_bound⟩
  | 88, _ => ⟨_, ckX6_cart⟩
  | 89, _ => ⟨_, ckX6_full⟩
  | 90, _ => ⟨_, ckX6_share⟩
  | 91, _ => ⟨_, ckX6_far⟩
  | 92, _ => ⟨_, ckX6_told⟩
  | 93, _ => ⟨_, ckX6_count⟩
  | 94, _ => ⟨_, ckL_cell⟩
  | 95, _ => ⟨_, ckL_stop⟩
  | 96, _ => ⟨_, ckL_closed⟩
  | 97, _ => ⟨_, ckL_walk⟩
  | 98, _ => ⟨_, ckL_step⟩
  | 99, _ => ⟨_, ckL_go⟩
  | 100, _ => ⟨_, ckL_missing⟩
  | 101, _ => ⟨_, ckL_cart⟩
  | 102, _ => ⟨_, ckL_share⟩
  | 103, _ => ⟨_, ckL_far⟩
  | 104, _ => ⟨_, ckL_told⟩
  | n + 105, h => absurd h (by omega)
end
section
/-! A machine of our own over the program as data: cells by their numbers (the number 0 is the script, k + 1 is cell k), and what it means. -/
abbrev AxW : Type := List va_E
abbrev AxL : Type := List (Nat × Value)
/-- place, locals, operand stack, cells, how many cells and slots were made -/
abbrev AxC : Type := Nat × AxL × List Value × AxW × Nat × Nat
/-- the cells behind a call; what it returned, or which exception it threw; the two counts -/
abbrev AxR : Type := AxW × (Option Value ⊕ Nat) × Nat × Nat
def ax_at : List AxI → Nat → Option (Instr × Nat × Nat)
  | [], _ => none
  | (p, i, x, y) :: r, pc => cond (Nat.beq p pc) (some (i, x, y)) (ax_at r pc)
def ax_get : AxL → Nat → Option Value
  | [], _ => none
  | (i, v) :: r, k => cond (Nat.beq i k) (some v) (ax_get r k)
def ax_del : AxL → Nat → AxL
  | [], _ => []
  | (i, v) :: r, k => cond (Nat.beq i k) (ax_del r k) ((i, v) :: ax_del r k)
def ax_set : AxL → Nat → Value → AxL
  | [], k, v => [(k, v)]
  | (i, u) :: r, k, v => cond (Nat.beq i k) ((k, v) :: ax_del r k) ((i, u) :: ax_set r k v)
def ax_nth {α : Type} : List α → Nat → Option α
  | [], _ => none
  | a :: _, 0 => some a
  | _ :: r, n + 1 => ax_nth r n
def ax_upd {α : Type} : List α → Nat → α → List α
  | [], _, _ => []
  | _ :: r, 0, b => b :: r
  | a :: r, n + 1, b => a :: ax_upd r n b
def ax_fit : FieldType → Value → Bool
  | .int, .int _ => true
  | .object _, .ref _ => true
  | .array _, .ref _ => true
  | _, _ => false
def ax_dfl (ci : Nat) : List Value := (List.range (axNF ci)).map (fun k => defaultValue (axTy ci k))
/-- references go no further than the cells that there are -/
def ax_wv (n : Nat) : Value → Bool
  | .ref k => Nat.ble k n
  | _ => true
def ax_we (n : Nat) : va_E → Bool
  | .inl (_, _, .inl _) => true
  | .inl (_, _, .inr (.inl _)) => true
  | .inl _ => false
  | .inr (_, fs) => fs.all (ax_wv n)
def ax_fr (n : Nat) (ls : AxL) (st : List Value) : Bool := ls.all (fun q => ax_wv n q.2) && st.all (ax_wv n)
def ax_cmp (c : ClassFile.Cond) (x y : Int32) : Prop := match c with
  | .eq => x = y
  | .ne => ¬ x = y
  | .lt => x < y
  | .ge => y ≤ x
  | .gt => y < x
  | .le => x ≤ y
/-- what stays on the stack under a call weighs little -/
def ax_wt (r : List Value) : Bool := Nat.ble (r.map fun v => v.category).sum 8
def ax_tg (pc : Nat) (off : Int) : Nat := ((pc : Int) + off).toNat
def ax_sw (pc : Nat) (x : Int32) (lo : Int) : Nat → List Int → List (Prop × Nat)
  | _, [] => []
  | j, off :: r => (x.toInt = lo + (j : Int), ax_tg pc off) :: ax_sw pc x lo (j + 1) r
def ax_lk (pc : Nat) (x : Int32) (ps : List (Int × Int)) (dflt : Int) : List Int → List (Prop × Nat)
  | [] => []
  | off :: r => (Op.lookupswitch.offset ps dflt x.toInt = off, ax_tg pc off) :: ax_lk pc x ps dflt r
def ax_anew (n : Nat) : Nat → va_E
  | 0 => .inl (0, n, .inl (fun _ => 0))
  | 1 => .inl (1, n, .inl (fun _ => 0))
  | _ => .inl (2, n, .inr (.inl (fun _ => 0)))
/-- two numbers on the stack give one -/
def ax_b2 (f : Int32 → Int32 → Int32) (pc : Nat) (ls : AxL) (w : AxW) (a b : Nat) : List Value → Option (AxC ⊕ List (Prop × AxC))
  | .int y :: .int x :: r => some (.inl (pc + 1, ls, .int (f x y) :: r, w, a, b))
  | _ => none
/-- what a simple instruction may do: one way, or several, each with what it asks -/
def ax_alts (L : Nat) (xs : Nat → Int32) (ins : Instr) (x y : Nat) : AxC → Option (AxC ⊕ List (Prop × AxC))
  | (pc, ls, st, w, a, b) => match ins with
    | .iload k => (match ax_get ls k with | some (.int z) => some (.inl (pc + 2, ls, .int z :: st, w, a, b)) | _ => none)
    | .iload_n k => (match ax_get ls k.val with | some (.int z) => some (.inl (pc + 1, ls, .int z :: st, w, a, b)) | _ => none)
    | .aload k => (match ax_get ls k with | some (.ref z) => some (.inl (pc + 2, ls, .ref z :: st, w, a, b)) | _ => none)
    | .aload_n k => (match ax_get ls k.val with | some (.ref z) => some (.inl (pc + 1, ls, .ref z :: st, w, a, b)) | _ => none)
    | .istore k => (match st with | .int z :: r => some (.inl (pc + 2, ax_set ls k (.int z), r, w, a, b)) | _ => none)
    | .istore_n k => (match st with | .int z :: r => some (.inl (pc + 1, ax_set ls k.val (.int z), r, w, a, b)) | _ => none)
    | .astore k => (match st with | .ref z :: r => some (.inl (pc + 2, ax_set ls k (.ref z), r, w, a, b)) | _ => none)
    | .astore_n k => (match st with | .ref z :: r => some (.inl (pc + 1, ax_set ls k.val (.ref z), r, w, a, b)) | _ => none)
    | .iconst v => some (.inl (pc + 1, ls, .int (Int32.ofInt v) :: st, w, a, b))
    | .bipush v => some (.inl (pc + 2, ls, .int (Int8.ofInt v).toInt32 :: st, w, a, b))
    | .sipush v => some (.inl (pc + 3, ls, .int (Int16.ofInt v).toInt32 :: st, w, a, b))
    | .ldc _ => cond (Nat.beq x 0) none (some (.inl (pc + 2, ls, .int (Int32.ofNat x) :: st, w, a, b)))
    | .iinc k v => (match ax_get ls k with | some (.int z) => some (.inl (pc + 3, ax_set ls k (.int (z + Int32.ofInt v)), st, w, a, b)) | _ => none)
    | .iadd => ax_b2 (fun p q => p + q) pc ls w a b st
    | .isub => ax_b2 (fun p q => p - q) pc ls w a b st
    | .imul => ax_b2 (fun p q => p * q) pc ls w a b st
    | .iand => ax_b2 (fun p q => p &&& q) pc ls w a b st
    | .ixor => ax_b2 (fun p q => p ^^^ q) pc ls w a b st
    | .ishl => ax_b2 (fun p q => p <<< (q &&& 31)) pc ls w a b st
    | .ishr => ax_b2 (fun p q => p >>> (q &&& 31)) pc ls w a b st
    | .idiv => (match st with | .int q :: .int p :: r => some (.inr [(¬ q = 0, (pc + 1, ls, .int (p / q) :: r, w, a, b))]) | _ => none)
    | .irem => (match st with | .int q :: .int p :: r => some (.inr [(¬ q = 0, (pc + 1, ls, .int (p - p / q * q) :: r, w, a, b))]) | _ => none)
    | .i2l => (match st with | .int p :: r => some (.inl (pc + 1, ls, .long p.toInt64 :: r, w, a, b)) | _ => none)
    | .lcmp => (match st with | .long q :: .long p :: r => some (.inl (pc + 1, ls, .int (lg_cmp p q) :: r, w, a, b)) | _ => none)
    | .dup => (match st with | .ref z :: r => some (.inl (pc + 1, ls, .ref z :: .ref z :: r, w, a, b)) | .int z :: r => some (.inl (pc + 1, ls, .int z :: .int z :: r, w, a, b)) | _ => none)
    | .goto _ => some (.inl (x, ls, st, w, a, b))
    | .if_icmp c _ => (match st with | .int q :: .int p :: r => some (.inr [(ax_cmp c p q, (x, ls, r, w, a, b)), (¬ ax_cmp c p q, (pc + 3, ls, r, w, a, b))]) | _ => none)
    | .ifCond c _ => (match st with | .int p :: r => some (.inr [(ax_cmp c p 0, (x, ls, r, w, a, b)), (¬ ax_cmp c p 0, (pc + 3, ls, r, w, a, b))]) | _ => none)
    | .tableswitch dflt lo hi offs => (match st with | .int p :: r => some (.inr (((p.toInt < lo ∨ hi < p.toInt, ax_tg pc dflt) :: ax_sw pc p lo 0 offs.toList).map (fun q => (q.1, (q.2, ls, r, w, a, b))))) | _ => none)
    | .lookupswitch dflt ps => (match st with | .int p :: r => some (.inr ((ax_lk pc p ps.toList dflt (dflt :: ps.toList.map (fun q => q.2))).map (fun q => (q.1, (q.2, ls, r, w, a, b))))) | _ => none)
    | .getfield _ => (match st with
      | .ref (c + 1) :: r => (match ax_nth w c with
        | some (.inr (ci, fs)) => cond (Nat.beq ci x) (match ax_nth fs y with | some v => some (.inl (pc + 3, ls, v :: r, w, a, b)) | none => none) none
        | _ => none)
      | _ => none)
    | .putfield _ => (match st with
      | v :: .ref (c + 1) :: r => (match ax_nth w c with
        | some (.inr (ci, fs)) => cond (Nat.beq ci x && Nat.blt y fs.length && ax_fit (axTy x y) v) (some (.inl (pc + 3, ls, r, ax_upd w c (.inr (x, ax_upd fs y v)), a, b))) none
        | _ => none)
      | _ => none)
    | .iaload => (match st with
      | .int j :: .ref 0 :: r => some (.inr [(vp_in j L, (pc + 1, ls, .int (xs j.toNatClampNeg) :: r, w, a, b))])
      | .int j :: .ref (c + 1) :: r => (match ax_nth w c with
        | some (.inl (0, n, .inl f)) => some (.inr [(vp_in j n, (pc + 1, ls, .int (f j.toNatClampNeg) :: r, w, a, b))])
        | _ => none)
      | _ => none)
    | .baload => (match st with
      | .int j :: .ref (c + 1) :: r => (match ax_nth w c with
        | some (.inl (1, n, .inl f)) => some (.inr [(vp_in j n, (pc + 1, ls, .int (f j.toNatClampNeg) :: r, w, a, b))])
        | _ => none)
      | _ => none)
    | .laload => (match st with
      | .int j :: .ref (c + 1) :: r => (match ax_nth w c with
        | some (.inl (2, n, .inr (.inl f))) => some (.inr [(vp_in j n, (pc + 1, ls, .long (f j.toNatClampNeg) :: r, w, a, b))])
        | _ => none)
      | _ => none)
    | .iastore => (match st with
      | .int v :: .int j :: .ref (c + 1) :: r => (match ax_nth w c with
        | some (.inl (0, n, .inl f)) => some (.inr [(vp_in j n, (pc + 1, ls, r, ax_upd w c (.inl (0, n, .inl (upd f j.toNatClampNeg v))), a, b))])
        | _ => none)
      | _ => none)
    | .bastore => (match st with
      | .int v :: .int j :: .ref (c + 1) :: r => (match ax_nth w c with
        | some (.inl (1, n, .inl f)) => some (.inr [(vp_in j n, (pc + 1, ls, r, ax_upd w c (.inl (1, n, .inl (upd f j.toNatClampNeg (vp_nar .boolean v)))), a, b))])
        | _ => none)
      | _ => none)
    | .lastore => (match st with
      | .long v :: .int j :: .ref (c + 1) :: r => (match ax_nth w c with
        | some (.inl (2, n, .inr (.inl f))) => some (.inr [(vp_in j n, (pc + 1, ls, r, ax_upd w c (.inl (2, n, .inr (.inl (vp_updL f j.toNatClampNeg v)))), a, b))])
        | _ => none)
      | _ => none)
    | .arraylength => (match st with
      | .ref 0 :: r => some (.inl (pc + 1, ls, .int (Int32.ofNat L) :: r, w, a, b))
      | .ref (c + 1) :: r => (match ax_nth w c with
        | some (.inl (0, n, _)) => some (.inl (pc + 1, ls, .int (Int32.ofNat n) :: r, w, a, b))
        | _ => none)
      | _ => none)
    | .newarray _ => (match st with
      | .int j :: r => cond (ax_fr w.length ls r && w.all (ax_we w.length)) (some (.inr [(j = nI x, (pc + 2, ls, .ref (w.length + 1) :: r, w ++ [ax_anew x y], a + 1, b + x))])) none
      | _ => none)
    | .new _ => cond (ax_fr w.length ls st && w.all (ax_we w.length)) (some (.inl (pc + 3, ls, .ref (w.length + 1) :: st, w ++ [.inr (x, ax_dfl x)], a + 1, b + axNF x))) none
    | .invokespecial _ => (match x, st with | 5, .ref _ :: r => cond (ax_wt r) (some (.inl (pc + 3, ls, r, w, a, b))) none | _, _ => none)
    | .invokestatic _ => (match x, st with
      | 6, .int q :: .int p :: r => cond (ax_wt r) (some (.inl (pc + 3, ls, .int (if p < q then q else p) :: r, w, a, b))) none
      | 7, .int q :: .int p :: r => cond (ax_wt r) (some (.inl (pc + 3, ls, .int (if q < p then q else p) :: r, w, a, b))) none
      | 8, .int p :: r => cond (ax_wt r) (some (.inl (pc + 3, ls, .int (if 0 ≤ p then p else 0 - p) :: r, w, a, b))) none
      | _, _ => none)
    | _ => none
/-- how an instruction is taken: 0 a simple one, 1 a call of an own method, 2 a return, 3 a throw -/
def ax_kind (ins : Instr) (x : Nat) : Nat := match ins with
  | .ireturn => 2
  | .return_ => 2
  | .invokevirtual _ => 1
  | .invokespecial _ => cond (Nat.blt x 5) 1 0
  | .invokestatic _ => cond (Nat.blt x 5) 1 0
  | .new _ => cond (Nat.blt x 100) 0 3
  | _ => 0
/-- the arguments (the receiver among them) off the stack, in their order; and what stays -/
def ax_split : Nat → List Value → List Value → Option (List Value × List Value)
  | 0, acc, r => some (acc, r)
  | n + 1, acc, v :: r => ax_split n (v :: acc) r
  | _ + 1, _, [] => none
def ax_ent : Nat → List Value → AxL
  | _, [] => []
  | k, v :: r => (k, v) :: ax_ent (k + 1) r
/-- where an exception is caught: the handler's first instruction keeps it in a local; the place behind that, and the local -/
def ax_hd : Nat → Nat → Option (Nat × Nat)
  | 95, 0 => some (17, 5)
  | 95, 1 => some (21, 5)
  | 95, 2 => some (25, 5)
  | 96, 0 => some (15, 4)
  | 97, 1 => some (13, 3)
  | 97, 3 => some (16, 3)
  | 98, 4 => some (13, 3)
  | 99, 3 => some (12, 2)
  | 100, 0 => some (13, 3)
  | 100, 3 => some (16, 3)
  | 101, 1 => some (9, 2)
  | 102, 0 => some (13, 3)
  | 102, 5 => some (16, 3)
  | 103, 0 => some (15, 4)
  | 104, 0 => some (15, 4)
  | 104, 1 => some (19, 4)
  | _, _ => none
/-- the value of a returning method's result: what the type allows -/
def ax_rv (i : Nat) (z : Int32) : Prop := match axRe i with
  | some .int => True
  | some .boolean => z = 0 ∨ z = 1
  | _ => False
/-- all of one slot -/
def ax_c1 (as : List Value) : Bool := as.all (fun v => Nat.beq v.category 1)
/-- the receiver is of the callee's own class -/
def ax_rc (w : AxW) (j : Nat) : List Value → Prop
  | .ref (c + 1) :: _ => ∃ fs, ax_nth w c = some (.inr (axCi j, fs))
  | _ => False
/-- THE MACHINE: from this place, with fuel n and d calls deep at most, method i comes to this end -/
def ax_ev (L : Nat) (xs : Nat → Int32) : Nat → Nat → Nat → AxC → AxR → Prop
  | 0, _, _, _, _ => False
  | n + 1, d, i, (pc, ls, st, w, a, b), res => match ax_at (axT i) pc with
    | none => False
    | some (ins, x, y) => match ax_kind ins x with
      | 0 => (match ax_alts L xs ins x y (pc, ls, st, w, a, b) with
        | none => False
        | some (.inl c) => ax_ev L xs n d i c res
        | some (.inr alts) => ∃ q ∈ alts, q.1 ∧ ax_ev L xs n d i q.2 res)
      | 1 => (match ax_split (axNa y) [] st with
        | none => False
        | some (as, rest) => ax_fr w.length ls rest = true ∧ ax_wt rest = true ∧ ax_c1 as = true ∧ ((Nat.beq x 2 || Nat.beq x 3) = false → ax_rc w y as) ∧ 2 ≤ d ∧
            ∃ (w1 : AxW) (r1 : Option Value ⊕ Nat) (a1 b1 : Nat), ax_ev L xs n (d - 1) y (0, ax_ent 0 as, [], w, a, b) (w1, r1, a1, b1) ∧ ((Nat.beq x 1 || Nat.beq x 4) = true → r1 = .inl none) ∧
              (match r1 with
              | .inl v => ax_ev L xs n d i (pc + 3, ls, v.toList ++ rest, w1, a1, b1) res
              | .inr e => (match axHh i with
                | [] => res = (w1, .inr e, a1, b1)
                | _ :: _ => ∃ (h k : Nat), ax_hd i e = some (h, k) ∧ ax_ev L xs n d i (h, ax_del ls k, [], w1, a1, b1) res)))
      | 2 => (match ins, st with
        | .ireturn, [.int z] => ax_rv i z ∧ res = (w, .inl (some (.int z)), a, b)
        | .return_, [] => axRe i = none ∧ res = (w, .inl none, a, b)
        | _, _ => False)
      | _ => 7 ≤ d ∧ ax_wt st = true ∧ res = (w, .inr (x - 100), a + 1, b + 6)
/-- .. with some fuel -/
def ax_Ev (L : Nat) (xs : Nat → Int32) (d i : Nat) (c : AxC) (res : AxR) : Prop := ∃ n, ax_ev L xs n d i c res
end
section
/-! Lists of cells, locals and stacks; what they are in the heap. -/
theorem ax_nth_eq {α : Type} : ∀ (l : List α) (k : Nat), ax_nth l k = l[k]?
  | [], _ => by simp [ax_nth]
  | _ :: _, 0 => by simp [ax_nth]
  | _ :: r, n + 1 => by simp [ax_nth, ax_nth_eq r n]
theorem ax_upd_eq {α : Type} : ∀ (l : List α) (k : Nat) (b : α), ax_upd l k b = l.set k b
  | [], _, _ => by simp [ax_upd]
  | _ :: _, 0, _ => by simp [ax_upd]
  | _ :: r, n + 1, b => by simp [ax_upd, ax_upd_eq r n b]
theorem ax_at_mem : ∀ (t : List AxI) (pc : Nat) {ins : Instr} {x y : Nat}, ax_at t pc = some (ins, x, y) → (pc, ins, x, y) ∈ t
  | [], _, _, _, _, h => by simp [ax_at] at h
  | (p, i, x0, y0) :: r, pc, ins, x, y, h => by
    simp only [ax_at] at h
    cases hb : Nat.beq p pc with
    | true =>
      rw [hb] at h
      have e1 : p = pc := Nat.eq_of_beq_eq_true hb
      simp at h
      obtain ⟨e2, e3, e4⟩ := h
      subst e1; subst e2; subst e3; subst e4
      exact List.mem_cons_self
    | false =>
      rw [hb] at h
      exact List.mem_cons_of_mem _ (ax_at_mem r pc h)
theorem ax_get_mem : ∀ (l : AxL) (k : Nat) {v : Value}, ax_get l k = some v → (k, v) ∈ l
  | [], _, _, h => by simp [ax_get] at h
  | (i, u) :: r, k, v, h => by
    simp only [ax_get] at h
    cases hb : Nat.beq i k with
    | true =>
      rw [hb] at h
      have e1 : i = k := Nat.eq_of_beq_eq_true hb
      simp at h
      subst e1; subst h
      exact List.mem_cons_self
    | false =>
      rw [hb] at h
      exact List.mem_cons_of_mem _ (ax_get_mem r k h)
theorem ax_del_mem : ∀ (l : AxL) (k : Nat) {q : Nat × Value}, q ∈ ax_del l k → q ∈ l ∧ q.1 ≠ k
  | [], _, _, h => by simp [ax_del] at h
  | (i, u) :: r, k, q, h => by
    simp only [ax_del] at h
    cases hb : Nat.beq i k with
    | true =>
      rw [hb] at h
      obtain ⟨h1, h2⟩ := ax_del_mem r k h
      exact ⟨List.mem_cons_of_mem _ h1, h2⟩
    | false =>
      rw [hb] at h
      rcases List.mem_cons.mp h with h1 | h1
      · subst h1
        exact ⟨List.mem_cons_self, fun e => by rw [show i = k from e, Nat.beq_refl] at hb; cases hb⟩
      · obtain ⟨h2, h3⟩ := ax_del_mem r k h1
        exact ⟨List.mem_cons_of_mem _ h2, h3⟩
theorem ax_set_mem : ∀ (l : AxL) (k : Nat) (v : Value) {q : Nat × Value}, q ∈ ax_set l k v → q = (k, v) ∨ (q ∈ l ∧ q.1 ≠ k)
  | [], _, _, _, h => by simp [ax_set] at h; exact Or.inl h
  | (i, u) :: r, k, v, q, h => by
    simp only [ax_set] at h
    cases hb : Nat.beq i k with
    | true =>
      rw [hb] at h
      rcases List.mem_cons.mp h with h1 | h1
      · exact Or.inl h1
      · obtain ⟨h2, h3⟩ := ax_del_mem r k h1
        exact Or.inr ⟨List.mem_cons_of_mem _ h2, h3⟩
    | false =>
      rw [hb] at h
      rcases List.mem_cons.mp h with h1 | h1
      · subst h1
        exact Or.inr ⟨List.mem_cons_self, fun e => by rw [show i = k from e, Nat.beq_refl] at hb; cases hb⟩
      · rcases ax_set_mem r k v h1 with h2 | ⟨h2, h3⟩
        · exact Or.inl h2
        · exact Or.inr ⟨List.mem_cons_of_mem _ h2, h3⟩
def ax_v (σ : Nat → Nat) : Value → Value
  | .ref k => .ref (σ k)
  | v => v
theorem ax_v_cat (σ : Nat → Nat) (v : Value) : (ax_v σ v).category = v.category := by cases v <;> rfl
theorem ax_v_cats (σ : Nat → Nat) (st : List Value) : ((st.map (ax_v σ)).map fun v => v.category) = st.map fun v => v.category := by
  rw [List.map_map]
  congr 1
  funext v
  exact ax_v_cat σ v
def ax_e (σ : Nat → Nat) (τ : Nat → ClassId) : va_E → va_E
  | .inl (t, a) => .inl (τ t, a)
  | .inr (ci, fs) => .inr (ci, fs.map (ax_v σ))
def ax_Wd (σ : Nat → Nat) (τ : Nat → ClassId) : Nat → AxW → va_W
  | _, [] => []
  | k, c :: r => (σ (k + 1), ax_e σ τ c) :: ax_Wd σ τ (k + 1) r
def ax_W (σ : Nat → Nat) (τ : Nat → ClassId) (w : AxW) : va_W := ax_Wd σ τ 0 w
def ax_l (σ : Nat → Nat) (ls : AxL) : AxL := ls.map (fun q => (q.1, ax_v σ q.2))
theorem ax_Wd_at (σ : Nat → Nat) (τ : Nat → ClassId) : ∀ (w : AxW) (j k : Nat), (ax_Wd σ τ j w)[k]? = (w[k]?).map (fun c => (σ (j + k + 1), ax_e σ τ c))
  | [], _, _ => by simp [ax_Wd]
  | c :: r, j, 0 => by simp [ax_Wd]
  | c :: r, j, k + 1 => by
    simp only [ax_Wd, List.getElem?_cons_succ]
    rw [ax_Wd_at σ τ r (j + 1) k, show j + 1 + k + 1 = j + (k + 1) + 1 by omega]
theorem ax_W_at (σ : Nat → Nat) (τ : Nat → ClassId) (w : AxW) (k : Nat) : (ax_W σ τ w)[k]? = (w[k]?).map (fun c => (σ (k + 1), ax_e σ τ c)) := by
  unfold ax_W
  rw [ax_Wd_at, Nat.zero_add]
theorem ax_W_some {σ : Nat → Nat} {τ : Nat → ClassId} {w : AxW} {k : Nat} {c : va_E} (h : ax_nth w k = some c) : (ax_W σ τ w)[k]? = some (σ (k + 1), ax_e σ τ c) := by
  rw [ax_nth_eq] at h
  rw [ax_W_at, h]
  rfl
theorem ax_W_len (σ : Nat → Nat) (τ : Nat → ClassId) (w : AxW) : (ax_W σ τ w).length = w.length := by
  have : ∀ (w : AxW) (j : Nat), (ax_Wd σ τ j w).length = w.length := by
    intro w
    induction w with
    | nil => intro j; rfl
    | cons c r ih => intro j; simp [ax_Wd, ih]
  exact this w 0
theorem ax_W_set (σ : Nat → Nat) (τ : Nat → ClassId) (w : AxW) (k : Nat) (c : va_E) (hk : k < w.length) : ax_W σ τ (ax_upd w k c) = (ax_W σ τ w).set k (σ (k + 1), ax_e σ τ c) := by
  apply List.ext_getElem?
  intro j
  rw [ax_W_at, ax_upd_eq, List.getElem?_set, List.getElem?_set, ax_W_at, ax_W_len]
  by_cases h : k = j
  · subst h
    simp [hk]
  · simp [h]
theorem ax_v_ext {σ σ' : Nat → Nat} {n : Nat} (h : ∀ k, k ≤ n → σ' k = σ k) {v : Value} (hv : ax_wv n v = true) : ax_v σ' v = ax_v σ v := by
  cases v with
  | ref k => simp only [ax_v]; rw [h k (Nat.le_of_ble_eq_true hv)]
  | _ => rfl
theorem ax_vs_ext {σ σ' : Nat → Nat} {n : Nat} (h : ∀ k, k ≤ n → σ' k = σ k) {st : List Value} (hv : st.all (ax_wv n) = true) : st.map (ax_v σ') = st.map (ax_v σ) := by
  apply List.map_congr_left
  intro v hm
  exact ax_v_ext h (List.all_eq_true.mp hv v hm)
theorem ax_l_ext {σ σ' : Nat → Nat} {n : Nat} (h : ∀ k, k ≤ n → σ' k = σ k) {ls : AxL} (hv : ls.all (fun q => ax_wv n q.2) = true) : ax_l σ' ls = ax_l σ ls := by
  apply List.map_congr_left
  intro q hm
  rw [ax_v_ext h (List.all_eq_true.mp hv q hm)]
theorem ax_e_ext {σ σ' : Nat → Nat} {τ : Nat → ClassId} {n : Nat} (h : ∀ k, k ≤ n → σ' k = σ k) {c : va_E} (hv : ax_we n c = true) : ax_e σ' τ c = ax_e σ τ c := by
  cases c with
  | inl a => rfl
  | inr o =>
    obtain ⟨ci, fs⟩ := o
    simp only [ax_e]
    rw [ax_vs_ext h hv]
theorem ax_W_ext {σ σ' : Nat → Nat} {τ : Nat → ClassId} {w : AxW} (h : ∀ k, k ≤ w.length → σ' k = σ k) (hv : w.all (ax_we w.length) = true) : ax_W σ' τ w = ax_W σ τ w := by
  apply List.ext_getElem?
  intro j
  rw [ax_W_at, ax_W_at]
  cases hj : w[j]? with
  | none => rfl
  | some c =>
    have hlt : j < w.length := (List.getElem?_eq_some_iff.mp hj).1
    simp only [Option.map_some]
    rw [h (j + 1) hlt, ax_e_ext h (List.all_eq_true.mp hv c (List.mem_of_getElem? hj))]
theorem ax_W_push (σ : Nat → Nat) (τ : Nat → ClassId) (w : AxW) (c : va_E) : ax_W σ τ (w ++ [c]) = ax_W σ τ w ++ [(σ (w.length + 1), ax_e σ τ c)] := by
  apply List.ext_getElem?
  intro j
  rw [ax_W_at, List.getElem?_append, List.getElem?_append, ax_W_len, ax_W_at]
  by_cases h : j < w.length
  · simp [h]
  · simp only [h, if_false]
    by_cases h2 : j = w.length
    · subst h2; simp
    · have : 1 ≤ j - w.length := by omega
      rw [List.getElem?_eq_none (by simpa using this), List.getElem?_eq_none (by simpa using this)]
      rfl
theorem ax_split_eq : ∀ (n : Nat) (acc st as rest : List Value), ax_split n acc st = some (as, rest) → ∃ ys : List Value, as = ys ++ acc ∧ st = ys.reverse ++ rest ∧ ys.length = n
  | 0, acc, st, as, rest, h => by
    simp only [ax_split, Option.some.injEq, Prod.mk.injEq] at h
    obtain ⟨h1, h2⟩ := h
    exact ⟨[], by simp [h1], by simp [h2], rfl⟩
  | n + 1, acc, [], as, rest, h => by simp [ax_split] at h
  | n + 1, acc, v :: r, as, rest, h => by
    simp only [ax_split] at h
    obtain ⟨ys, h1, h2, h3⟩ := ax_split_eq n (v :: acc) r as rest h
    exact ⟨ys ++ [v], by simp [h1], by simp [h2], by simp [h3]⟩
theorem ax_split_of {n : Nat} {st as rest : List Value} (h : ax_split n [] st = some (as, rest)) : st = as.reverse ++ rest ∧ as.length = n := by
  obtain ⟨ys, h1, h2, h3⟩ := ax_split_eq n [] st as rest h
  rw [List.append_nil] at h1
  subst h1
  exact ⟨h2, h3⟩
theorem ax_ent_args (σ : Nat → Nat) : ∀ (k : Nat) (as : List Value), (∀ v ∈ as, v.category = 1) → lv_args k (as.map (ax_v σ)) = ax_l σ (ax_ent k as)
  | _, [], _ => rfl
  | k, v :: r, h => by
    have h1 : (ax_v σ v).category = 1 := by rw [ax_v_cat]; exact h v List.mem_cons_self
    simp only [List.map_cons, lv_args, ax_ent, ax_l, h1]
    rw [if_neg (by decide)]
    have h2 := ax_ent_args σ (k + 1) r (fun u hu => h u (List.mem_cons_of_mem _ hu))
    simp only [ax_l] at h2
    rw [h2]
theorem ax_ent_cat : ∀ (k : Nat) (as : List Value), (∀ v ∈ as, v.category = 1) → ∀ q ∈ ax_ent k as, q.2.category = 1
  | _, [], _, q, h => by simp [ax_ent] at h
  | k, v :: r, hv, q, h => by
    simp only [ax_ent] at h
    rcases List.mem_cons.mp h with h1 | h1
    · subst h1; exact hv v List.mem_cons_self
    · exact ax_ent_cat (k + 1) r (fun u hu => hv u (List.mem_cons_of_mem _ hu)) q h1
theorem ax_lv_sub {ls : Array Slot} {n : Nat} {l l' : AxL} (h : lv_has ls n l) (hs : ∀ q ∈ l', q ∈ l) : lv_has ls n l' := ⟨h.1, h.2.1, fun q hq => h.2.2 q (hs q hq)⟩
theorem ax_sl_len : ∀ (vs : List Value), (∀ v ∈ vs, v.category = 1) → (lg_sl vs).length = vs.length
  | [], _ => rfl
  | v :: r, h => by
    have h1 : v.category = 1 := h v List.mem_cons_self
    have h2 := ax_sl_len r (fun u hu => h u (List.mem_cons_of_mem _ hu))
    simp only [lg_sl, List.flatMap_cons, List.length_append, h1] at h2 ⊢
    rw [h2, if_neg (by decide)]
    simp
    omega
/-- a store into a local, in our lists -/
theorem ax_set_has {σ : Nat → Nat} {ls : AxL} {k : Nat} {v : Value} (hc : ∀ q ∈ ls, q.2.category = 1) : ∀ q ∈ ax_l σ (ax_set ls k v), q ∈ (k, ax_v σ v) :: (ax_l σ ls).filter (fun q => !(q.1 == k) && !(q.1 + 1 == k && q.2.category == 2)) := by
  intro q hq
  obtain ⟨q0, h0, rfl⟩ := List.mem_map.mp hq
  rcases ax_set_mem ls k v h0 with h1 | ⟨h1, h2⟩
  · subst h1; exact List.mem_cons_self
  · refine List.mem_cons_of_mem _ (List.mem_filter.mpr ⟨List.mem_map.mpr ⟨q0, h1, rfl⟩, ?_⟩)
    have h3 := hc q0 h1
    simp [h2, ax_v_cat, h3]
theorem ax_set_cat {ls : AxL} {k : Nat} {v : Value} (hc : ∀ q ∈ ls, q.2.category = 1) (hv : v.category = 1) : ∀ q ∈ ax_set ls k v, q.2.category = 1 := by
  intro q hq
  rcases ax_set_mem ls k v hq with h1 | ⟨h1, -⟩
  · subst h1; exact hv
  · exact hc q h1
end
section
/-! 'throw new X("text")' where X's constructor hands the text on by another entry of its class file than the library's words have (java.util.NoSuchElementException): the pass of X by itself, then the chain above it. -/
section AXT
/-- the words of such a throw -/
def ax_atN (own : String) (ic : Nat) (X : String) (idx : Nat) (bytes : ByteArray) (sup : String) (names : List String) : List Cond :=
  Bundle.throwableAtoms ++ (Bundle.throwableSAtoms ++ (Bundle.passSAtoms X sup idx bytes ++ (Bundle.chainSAtoms sup names ++
  [.methodLink own ic (Bundle.initS X), .instantiable X 6, .castable X X, .selects X Bundle.tFill0 Bundle.tFill0, .selects X Bundle.tFill Bundle.tFill,
   .lays X Bundle.tN "cause" "Ljava/lang/Throwable;", .lays X Bundle.tN "stackTrace" Bundle.steD, .lays X Bundle.tN "suppressedExceptions" Bundle.listD, .lays X Bundle.tN "detailMessage" "Ljava/lang/String;",
   .isRef (.static Bundle.tN "UNASSIGNED_STACK" Bundle.steD), .isRef (.static Bundle.tN "SUPPRESSED_SENTINEL" Bundle.listD),
   .fieldLink Bundle.tN 198 Bundle.tN "backtrace" "Ljava/lang/Object;", .lays Bundle.tN Bundle.tN "backtrace" "Ljava/lang/Object;", .lays X Bundle.tN "backtrace" "Ljava/lang/Object;"])))
variable {p : Program} {l : Launch} {e : Env} {R : Room} {s : State} {m₀ : MethodId} {args : Array Value} {below : List Frame} {meth : Method} {c : Code} {V : State} {locs : List Loc} {cells slots : Nat}
set_option maxHeartbeats 1000000 in
/-- from the constructor's call to 'threw', traces off -/
theorem ax_ctorN (X : Stand p l e R s m₀ args below meth c V locs cells slots) (hexec : p.tables.exec = Jvm.exec) (htr : e.platform.stackTraces = false) {own cls sup : String} {names : List String} {ic idx : Nat} {bytes : ByteArray}
    (hown : s.vm.findClass own = some m₀.cls) (hcls : Bundle.fit cls = true) (hsup : Bundle.fit sup = true) (hnames : ∀ n ∈ names, Bundle.fit n = true)
    (b0 : decode bytes 0 = .ok (.aload_n 0, 1)) (b1 : decode bytes 1 = .ok (.aload_n 1, 1)) (b2 : decode bytes 2 = .ok (.invokespecial idx, 3)) (b5 : decode bytes 5 = .ok (.return_, 1))
    (h : ∀ a ∈ ax_atN own ic cls idx bytes sup names, a.before args s = true)
    {a : Addr} {cX : ClassId} {kX : Class} (hfoundX : s.vm.findClass cls = some cX) (hkX : s.vm.classes[cX]? = some kX) (hcell : V.heap[a]? = some (freshCell cX kX)) (hnew : s.heap.size ≤ a) (hlocs : locs = [])
    {msg : Value} (hmsg : msg.isRef = true)
    {g : JFrame} (hg : g.method = m₀) (hsize : g.locals.size = c.maxLocals) (hlocked : g.locked = none) (hentered : g.entered = []) {rest : List Value} (hstack : g.stack = msg :: .ref a :: .ref a :: rest)
    (hd6 : decode c.code g.pc = .ok (.invokespecial ic, 3)) (hd9 : decode c.code (g.pc + 3) = .ok (.athrow, 1)) (hout : ∀ x ∈ c.exceptionTable.toList, covers x (g.pc + 3) = false)
    (hRframes : names.length + 4 < R.frames) (hRlocals : 2 * g.monitorRoom + ((Value.ref a :: rest).map fun v => v.category).sum + (13 * (names.length + 2) + 42) ≤ R.locals) (hlocks : meth.locks = false) :
    ∃ U : State, Steps p.tables e below (V.setTop g) U ∧ U.status = .running ∧ Ended U below (.threw a) ∧ s.WarmedH U.vm ∧ s.sameButNew ({ U with vm := s.vm } : State) locs cells slots ∧
      ∃ ce, U.heap[a]? = some ce ∧ ce.vm = .none ∧ s.vm.findClass cls = some ce.cls := by
  have howns : e.platform.frameOwnsMonitors = true := by rw [X.admits.platform]
  have hfin : e.platform.finalization = false := by rw [X.admits.platform]
  have hpl : e.platform.magicAccessors = ({} : Platform).magicAccessors := by rw [X.admits.platform]
  have a' : ∀ x, x ∈ ax_atN own ic cls idx bytes sup names → x.holds args s none s [] = true := fun x hx => h x hx
  obtain ⟨T, Z0, L, -, Y⟩ := ThrowableC.of_atoms (args := args) howns hfin hpl (fun x hx => h x (List.mem_append_left _ hx))
  obtain ⟨Z, M, LZ, LM, hnZ⟩ := Init0T.ofS_atoms (args := args) hpl L Y (fun x hx => h x (List.mem_append_right _ (List.mem_append_left _ hx)))
  obtain ⟨P1, L1, hP1m, hP1s⟩ := PassC.ofS_atoms (args := args) (s := s) hpl (X := cls) (Y := sup) (Bundle.fit_spec hcls).1 (Bundle.fit_spec hsup).2 b0 b1 b2 b5 (fun x hx => h x (List.mem_append_right _ (List.mem_append_right _ (List.mem_append_left _ hx))))
  obtain ⟨P2, Ps, hlen, L2, hL, hP2m, hlink2, hlink⟩ := Bundle.chainS (args := args) hpl hnZ names sup hsup hnames (fun x hx => h x (List.mem_append_right _ (List.mem_append_right _ (List.mem_append_right _ (List.mem_append_left _ hx)))))
  have hmem : ∀ w, w ∈ ([.methodLink own ic (Bundle.initS cls), .instantiable cls 6, .castable cls cls, .selects cls Bundle.tFill0 Bundle.tFill0, .selects cls Bundle.tFill Bundle.tFill,
     .lays cls Bundle.tN "cause" "Ljava/lang/Throwable;", .lays cls Bundle.tN "stackTrace" Bundle.steD, .lays cls Bundle.tN "suppressedExceptions" Bundle.listD, .lays cls Bundle.tN "detailMessage" "Ljava/lang/String;",
     .isRef (.static Bundle.tN "UNASSIGNED_STACK" Bundle.steD), .isRef (.static Bundle.tN "SUPPRESSED_SENTINEL" Bundle.listD),
     .fieldLink Bundle.tN 198 Bundle.tN "backtrace" "Ljava/lang/Object;", .lays Bundle.tN Bundle.tN "backtrace" "Ljava/lang/Object;", .lays cls Bundle.tN "backtrace" "Ljava/lang/Object;"] : List Cond) → w.holds args s none s [] = true :=
    fun w hw => a' w (List.mem_append_right _ (List.mem_append_right _ (List.mem_append_right _ (List.mem_append_right _ hw))))
  have hpm : ∀ w, w ∈ Bundle.passSAtoms cls sup idx bytes → w.before args s = true := fun w hw => h w (List.mem_append_right _ (List.mem_append_right _ (List.mem_append_left _ hw)))
  have hfound : s.vm.findClass cls = some P1.m.cls := findClass_of_methodNamed hP1m
  cases Option.some.inj (hfoundX.symm.trans hfound)
  obtain ⟨c1, kX', hc1, hk, hord, -, -, hn6⟩ := Cond.instantiable_spec (hmem (.instantiable cls 6) (by simp))
  cases Option.some.inj (hc1.symm.trans hfound)
  cases Option.some.inj (hkX.symm.trans hk)
  have hsel0 : selectMethod e.platform s.vm P1.m.cls T.fill0 = .method T.fill0 := by
    obtain ⟨c2, r2, m2, q1, q2, q3, q4, -⟩ := Cond.selects_spec (hmem (.selects cls Bundle.tFill0 Bundle.tFill0) (by simp))
    cases Option.some.inj (q1.symm.trans hfound)
    cases Option.some.inj (q2.symm.trans (State.methodFound?_of_named Y.fill0 (by decide)))
    cases Option.some.inj (q3.symm.trans Y.fill0)
    rw [Launch.admits_selectMethod X.admits]; exact q4
  have hselF : selectMethod e.platform s.vm P1.m.cls T.fill = .method T.fill := by
    obtain ⟨c2, r2, m2, q1, q2, q3, q4, -⟩ := Cond.selects_spec (hmem (.selects cls Bundle.tFill Bundle.tFill) (by simp))
    cases Option.some.inj (q1.symm.trans hfound)
    cases Option.some.inj (q2.symm.trans (State.methodFound?_of_named Y.fill (by decide)))
    cases Option.some.inj (q3.symm.trans Y.fill)
    rw [Launch.admits_selectMethod X.admits]; exact q4
  obtain ⟨cellS0, hcS0, hiss⟩ := Y.statics
  obtain ⟨u0, hu0⟩ := Cond.staticRefV Y.unassigned L.unassignedStatic L.statics hcS0 hiss (hmem (.isRef (.static Bundle.tN "UNASSIGNED_STACK" Bundle.steD)) (by simp))
  obtain ⟨sen, hsen⟩ := Cond.staticRefV Y.sentinel L.sentinelStatic L.statics hcS0 hiss (hmem (.isRef (.static Bundle.tN "SUPPRESSED_SENTINEL" Bundle.listD)) (by simp))
  obtain ⟨ci198, i198, fB, hk198, hg198, ha198, hsB, -, hnB, htB, hffB⟩ := Cond.ownField (t := .object "java/lang/Object") Y.found L.cls (by decide +kernel) (hmem (.fieldLink Bundle.tN 198 Bundle.tN "backtrace" "Ljava/lang/Object;") (by simp)) (hmem (.lays Bundle.tN Bundle.tN "backtrace" "Ljava/lang/Object;") (by simp)) e.platform hpl
  obtain ⟨cellS, hcS', heS, -, hkeep⟩ := X.same.2.2.2.2.2 T.aS cellS0 hcS0
  have hcellS : V.heap[T.aS]? = some cellS := hcS'
  have hout' : ∀ i, (⟨T.aS, i⟩ : Loc) ∉ locs := fun i hm => by rw [hlocs] at hm; cases hm
  have hknownS : cellS.vm ≠ .unknown := by
    rw [heS]; intro hu
    rw [show cellS0.vm = .unknown from hu] at hiss
    cases hiss
  have hneS : T.aS ≠ a := Nat.ne_of_lt (Nat.lt_of_lt_of_le (Array.getElem?_eq_some_iff.mp hcS0).1 hnew)
  obtain ⟨iM, hffM⟩ := Y.msg
  obtain ⟨tyC, dC, hdC, hdnC⟩ := Cond.laysAt hfound hk Y.cause (hmem (.lays cls Bundle.tN "cause" "Ljava/lang/Throwable;") (by simp))
  obtain ⟨tyS, dS, hdS, hdnS⟩ := Cond.laysAt hfound hk Y.stack (hmem (.lays cls Bundle.tN "stackTrace" Bundle.steD) (by simp))
  obtain ⟨tyP, dP, hdP, hdnP⟩ := Cond.laysAt hfound hk Y.supp (hmem (.lays cls Bundle.tN "suppressedExceptions" Bundle.listD) (by simp))
  obtain ⟨tyM, dM, hdM, hdnM⟩ := Cond.laysAt hfound hk hffM (hmem (.lays cls Bundle.tN "detailMessage" "Ljava/lang/String;") (by simp))
  obtain ⟨tyB, dB, hdB, hdnB⟩ := Cond.laysAt hfound hk hffB (hmem (.lays cls Bundle.tN "backtrace" "Ljava/lang/Object;") (by simp))
  have bC := Cond.laysApart hdB hdC hdnB hdnC (by rw [hnB, Y.causeName]; decide)
  have bS := Cond.laysApart hdB hdS hdnB hdnS (by rw [hnB, Y.stackName]; decide)
  have bP := Cond.laysApart hdB hdP hdnB hdnP (by rw [hnB, Y.suppName]; decide)
  have hskip : SkipFacts T e.platform s (fun u => u) u0 ((preparedCellV T.toThrowableT (freshCell P1.m.cls kX) a u0 sen).withEntry V.cur) :=
    ⟨{ ci198 := ci198, i198 := i198, fBack := fB }, ⟨hk198, hg198, ha198, hsB⟩, by
      have := fresh_default (c := P1.m.cls) tyB
      rw [htB] at this
      simpa [preparedCellV, Cell.setSlot, Cell.withEntry, Array.getElem?_setIfInBounds, bC, bS, bP, bC.symm, bS.symm, bP.symm, defaultValue] using this, fun _ _ => rfl⟩
  obtain ⟨tm, methC, cdC, kC, vm₁, hnC, -, -, -, -, -, -, -, hW₁, st1⟩ := Steps.initColdS (tb := p.tables) (e := e) (below := below) (s := s) (U := V) X.here hexec X.warmed hpl hown (t := Bundle.initS cls) rfl rfl (Bundle.fit_spec hcls).2
    (hmem (.methodLink own ic (Bundle.initS cls)) (by simp)) (hpm (.instanceMethod (Bundle.initS cls)) (by simp [Bundle.passSAtoms])) (bytes := bytes) (maxL := 2) (hpm (.code (Bundle.initS cls) bytes 2 none) (by simp [Bundle.passSAtoms]))
    (f := g) hg (a := a) (msg := msg) (rest := .ref a :: rest) hstack hd6
  cases Option.some.inj (hnC.symm.trans hP1m)
  have X₁ := X.noted hW₁
  have hjoin : P1.sup = firstOf (Z.m T.toThrowableT) ((P2 :: Ps).map (·.toPassT)) := Option.some.inj (hP1s.symm.trans hP2m)
  obtain ⟨vm₂, X₂, st2⟩ := X₁.ctorMessageOffV hexec (g := { g with stack := .ref a :: rest }) hg hsize T L Z LZ M LM (P1 :: P2 :: Ps)
    (fun P hP => by
      rcases List.mem_cons.mp hP with rfl | hP
      · exact L1
      rcases List.mem_cons.mp hP with rfl | hP
      · exact L2
      · exact hL P hP) ⟨hjoin, hlink2, hlink⟩ (u0 := u0) (sen := sen) (self := a) hmsg (cell := freshCell P1.m.cls kX) (cellS := cellS)
    hcell (fun _ => by simp) (by simp) rfl rfl hsel0 hselF hcellS hneS hknownS (by rw [hkeep _ (hout' _)]; exact hu0) (by rw [hkeep _ (hout' _)]; exact hsen)
    (Takes.of_laid hk hord tyC (by rw [Y.causeType]; rfl)) (Takes.of_laid hk hord tyS (by rw [Y.stackType]; exact fits_refV_array _ u0)) (Takes.of_laid hk hord tyP (by rw [Y.suppType]; exact fits_refV_object _ sen))
    (Takes.of_laid hk hord tyM (by rw [Y.msgType]; exact fits_refV_object _ ⟨msg, hmsg⟩)) Y.objLocals hskip htr [] hd6
    (by simp only [List.length_cons, hlen]; omega) (by simp only [List.length_cons, hlen]; omega)
  obtain ⟨hwalk, hrun, hended, hWU, hsame⟩ := X₂.athrowLeaves hexec (g := { g with stack := .ref a :: rest, pc := g.pc + 3 }) hg hlocked hentered hout (a := a) (rest := rest) rfl hd9
  have hlt : a < ((V.setVm vm₁).setVm vm₂).heap.size := (Array.getElem?_eq_some_iff.mp hcell).1
  have hU := heapAt_setCell_self (s := (V.setVm vm₁).setVm vm₂) (plainBareV T.toThrowableT (freshCell P1.m.cls kX) a u0 sen msg) hlt
  refine ⟨_, st1 _ (fun acts => ?_), hrun, hended, hWU, hsame.weaken (fun y hy hlt' => ?_) (Nat.le_refl _) (Nat.le_refl _), _, hU, rfl, hfound⟩
  · rw [doInvoke_state]
    exact st2 _ hwalk
  · rcases List.mem_append.mp hy with h1 | h1
    · exact h1
    · exfalso
      have hb : y.base = a := by
        simp only [List.mem_cons, List.not_mem_nil, or_false] at h1
        rcases h1 with rfl | rfl | rfl | rfl | rfl <;> rfl
      rw [hb] at hlt'
      exact Nat.not_lt.mpr hnew hlt'
section
variable {m : MethodId} {H : Heap} {ls : Array Slot} {rest : List Value} {free : Addr → Prop} {Qc : Array Value → State → Outcome → State → Prop} {XC : String → State → State → Prop}
/-- the whole row: new; dup; ldc; invokespecial; athrow -/
theorem ax_throwN {cc : ByteArray} {pc : Nat} (hexec : p.tables.exec = Jvm.exec) (hb : c.code = cc) (hl : l.stackTraces = false) {own cls sup text : String} {names : List String} {ik is ic idx mc ms sa : Nat} {bytes : ByteArray} {A : Nat → Prop}
    (hown : s.vm.findClass own = some m.cls) (hcls : Bundle.fit cls = true) (hsup : Bundle.fit sup = true) (hnames : ∀ n ∈ names, Bundle.fit n = true)
    (b0 : decode bytes 0 = .ok (.aload_n 0, 1)) (b1 : decode bytes 1 = .ok (.aload_n 1, 1)) (b2 : decode bytes 2 = .ok (.invokespecial idx, 3)) (b5 : decode bytes 5 = .ok (.return_, 1))
    (hk : (Cond.classLink own ik cls).before args s = true) (hini : (Cond.initialized cls).before args s = true) (hstr : vk_R own is text sa s) (hat : ∀ w ∈ (ax_atN own ic cls idx bytes sup names).filter vx_no, w.before args s = true)
    (hgood : ∀ w ∈ Cond.classLink own ik cls :: Cond.initialized cls :: (ax_atN own ic cls idx bytes sup names).filter vx_no, vx_ot w = true)
    (hU : vx_Zq Bundle.tN "UNASSIGNED_STACK" Bundle.steD A s s.heap) (hN : vx_Zq Bundle.tN "SUPPRESSED_SENTINEL" Bundle.listD A s s.heap) (hS : va_S A s.heap H locs) (hsize : ls.size = c.maxLocals)
    (d0 : decode cc pc = .ok (.new ik, 3)) (d3 : decode cc (pc + 3) = .ok (.dup, 1)) (d4 : decode cc (pc + 4) = .ok (.ldc is, 2)) (d6 : decode cc (pc + 6) = .ok (.invokespecial ic, 3)) (d9 : decode cc (pc + 9) = .ok (.athrow, 1))
    (hout : ∀ x ∈ c.exceptionTable.toList, covers x (pc + 9) = false)
    (hRframes : names.length + 4 < R.frames) (hRlocals : (rest.map fun v => v.category).sum + (13 * (names.length + 2) + 43) ≤ R.locals) (hRcells : cells + 1 ≤ R.cells) (hRslots : slots + 6 ≤ R.slots) (hlocks : meth.locks = false)
    (hx : ∀ t : State, s.vm.Alike t.vm → H.size ≤ t.heap.size → (∀ q : Nat, q < H.size → t.heap[q]? = H[q]?) → XC cls s t)
    (hf : ∀ z ∈ locs, free z.base) (hc : cells + 1 ≤ mc) (hs : slots + 6 ≤ ms) :
    W p l e R s m args below meth c H locs cells slots (vx_MQ below Qc XC args s mc ms free) (F0 m pc ls rest) := by
  intro T hT X
  have htr : e.platform.stackTraces = false := (show e.platform.stackTraces = l.stackTraces by rw [X.admits.platform]).trans hl
  have Y := vx_rebase X (R' := { frames := R.frames, locals := R.locals, cells := 1, slots := 6 }) (Nat.le_refl _) (Nat.le_refl _) hRcells hRslots
  obtain ⟨s', hA⟩ : ∃ z, z = (T.setVm s.vm).setFrames (.invoking m args :: below) := ⟨_, rfl⟩
  rw [← hA] at Y
  have hvm : s'.vm = s.vm := by rw [hA]; rfl
  have hhp : s'.heap = H := by rw [hA]; exact hT
  have hW0 : s.WarmedH s'.vm := by rw [hvm]; exact State.WarmedH.refl s
  have hat' : ∀ w ∈ (ax_atN own ic cls idx bytes sup names).filter vx_no, w.before args s' = true := fun w hw => vx_ot_at hW0 hvm.symm (hgood w (List.mem_cons_of_mem _ (List.mem_cons_of_mem _ hw))) (hat w hw)
  have hk' : (Cond.classLink own ik cls).before args s' = true := vx_ot_at hW0 hvm.symm (hgood _ List.mem_cons_self) hk
  have hini' : (Cond.initialized cls).before args s' = true := vx_ot_at hW0 hvm.symm (hgood _ (List.mem_cons_of_mem _ List.mem_cons_self)) hini
  have hU' : vx_Zq Bundle.tN "UNASSIGNED_STACK" Bundle.steD A s' s'.heap := by rw [hhp]; exact vx_Zq.moved hW0.alike (hU.kept hS.2.1)
  have hN' : vx_Zq Bundle.tN "SUPPRESSED_SENTINEL" Bundle.listD A s' s'.heap := by rw [hhp]; exact vx_Zq.moved hW0.alike (hN.kept hS.2.1)
  have h : ∀ w ∈ ax_atN own ic cls idx bytes sup names, w.before args s' = true := vx_own hat' (vx_isRefq hU'.1) (vx_isRefq hN'.1) hU'.2.word hN'.2.word
  have hown' : s'.vm.findClass own = some m.cls := by rw [hvm]; exact hown
  have hins : (Cond.instantiable cls 6).before args s' = true := h _ (List.mem_append_right _ (List.mem_append_right _ (List.mem_append_right _ (List.mem_append_right _ (by simp)))))
  obtain ⟨vm₁, cX, kX, hfX, hkX, -, -, X₁, st1⟩ := Y.newCold hexec (own := own) (C := cls) (index := ik) (n := 6) hown' hk' hins hini'
    (g := F0 m pc ls rest) rfl (by rw [hb]; exact d0) (Nat.le_refl _) (Nat.le_refl _)
  generalize hT1 : (T.setVm vm₁).pushCell { cls := cX, slots := kX.instanceTypes.map defaultValue, vm := .none } = T1 at X₁ st1
  have hcat : (Value.ref T.heap.size).category = 1 := rfl
  have hcellA : T1.heap[T.heap.size]? = some (freshCell cX kX) := by rw [← hT1]; exact State.heap_pushCell_size _ _
  have d3' : decode c.code (pc + 3) = .ok (.dup, 1) := by rw [hb]; exact d3
  have d4' : decode c.code (pc + 4) = .ok (.ldc is, 2) := by rw [hb]; exact d4
  have hstr' : vk_R own is text sa s' := vk_R.warm hW0 hstr
  obtain ⟨U, hsteps, hrun, hend, hW, hsame, ce, hce, hcv, hcl9⟩ := ax_ctorN X₁ hexec htr (own := own) (cls := cls) (sup := sup) (names := names) (ic := ic) (idx := idx) (bytes := bytes) hown' hcls hsup hnames b0 b1 b2 b5 h hfX hkX hcellA (by rw [hhp, hT]; exact Nat.le_refl _) rfl (msg := .ref sa) rfl
    (g := { method := m, pc := pc + 6, locals := ls, stack := .ref sa :: .ref T.heap.size :: .ref T.heap.size :: rest, locked := none }) rfl hsize rfl rfl (rest := rest) rfl
    (by rw [hb]; exact d6) (by rw [hb]; exact d9) hout hRframes (by simp only [List.map_cons, List.sum_cons, hcat]; show 2 * 0 + _ + _ ≤ _; omega) hlocks
  obtain ⟨f1, f2⟩ := vx_frame hsame
  rw [hhp] at f1 f2
  have hWs : s.WarmedH U.vm := State.WarmedH.trans hW0 hW
  have hcl : s.vm.findClass cls = some ce.cls := by
    rw [hvm] at hcl9
    exact hcl9
  have hall : s.sameButNew ({ U with vm := s.vm } : State) locs mc ms := by
    subst hA
    obtain ⟨e1, e2⟩ := hsame
    rw [State.setFrames_setFrames] at e1
    have h2 : (T.setVm s.vm).sameButNew ({ U with vm := s.vm } : State) [] (0 + 1) (0 + 6) := ⟨e1, e2⟩
    have h3 := X.same.trans h2
    rw [List.append_nil] at h3
    exact h3.mono hc hs
  refine ⟨U, ?_, .threw T.heap.size, hrun, hend, Or.inr ⟨T.heap.size, rfl, cls, ce, locs, hx U hWs.alike f1 (fun q hq => f2 q hq (fun z hz => nomatch hz)), hce, hcv, hcl, hWs, hall, hf⟩⟩
  refine st1 _ ?_
  show Steps p.tables e below (T1.setTop { method := m, pc := pc + 3, locals := ls, stack := .ref T.heap.size :: rest, locked := none }) _
  jvm_step X₁.here [X₁.here.top, hexec, d3', Value.category]
  exact X₁.ldcString hexec (own := own) (text := text) (index := is) (a := sa) hown' hstr'.1 hstr'.2
    (g := { method := m, pc := pc + 4, locals := ls, stack := .ref T.heap.size :: .ref T.heap.size :: rest, locked := none }) rfl d4' _ hsteps
end
end AXT
end
section
/-! The words of the tables that every method of the program stands on, and how they go over to a callee. -/
def ax_gw : Cond → Bool
  | .arrayClass _ => true
  | w => w.onTables && w.keepsFace
theorem ax_ride {args a' : Array Value} {s U : State} {w : Cond} (hg : ax_gw w = true) (hW : s.WarmedH U.vm) (h : w.before args s = true) : w.before a' U = true := by
  by_cases hA : ∃ ty, w = .arrayClass ty
  · exact word_at hW (Or.inr hA) h
  · have h2 : (w.onTables && w.keepsFace) = true := by cases w <;> first | exact hg | exact absurd ⟨_, rfl⟩ hA
    simp only [Bool.and_eq_true] at h2
    have h3 : w.before args (s.setVm U.vm) = true := Cond.before_shiftedFace (State.Shifted.of_warmed hW) _ h2.2 h
    rw [Cond.onTables_vm (A' := a') (U' := U) U.vm w h2.1, State.setVm_self] at h3
    exact h3
def ax_isN : Cond → Bool
  | .methodLinkNest .. => true
  | _ => false
def axClW : List Cond := wsX00 ++ (wsX10 ++ (wsX20 ++ (wsX30 ++ (wsX40 ++ (wsX50 ++ wsX60)))))
abbrev axNb : ByteArray := prog_20_method_4_code
def axNw : List Cond := (ax_atN "PickPaths" 179 "java/util/NoSuchElementException" 13 axNb "java/lang/RuntimeException" ["java/lang/Exception"]).filter vx_no
def axThL (y : Nat) : List Cond := cond (Nat.blt y 12) (vx_atS "PickPaths" (axTh y).2.2.2.1 (axEx (axTh y).1) (axEn (axTh y).1)) axNw
/-- the exception that a handler's row of the law's class names -/
def axHe : Nat → Nat
  | 13 => 0 | 15 => 1 | 17 => 2 | 27 => 3 | 32 => 4 | _ => 5
def axHdL (i : Nat) : List Cond := (axHh i).flatMap (fun q => [.classLink (axO i) q.2.2.2 (axEx (axHe q.2.2.2)), .castable (axEx (axHe q.2.2.2)) (axEx (axHe q.2.2.2))])
def axTB : List Cond := (List.range 105).map axCode ++ ((List.range 106).flatMap (fun i => ((axT i).flatMap (ax_need i)).filter ax_gw) ++ (axClW ++ ((List.range 14).flatMap axThL ++ (List.range 106).flatMap axHdL)))
theorem ax_k1 : ∀ i, i < 105 → ax_gw (axCode i) = true := by decide +kernel
theorem ax_k2 : ∀ i, i < 106 → ((axT i).flatMap (ax_need i)).all (fun w => ax_gw w || ax_isN w) = true := by decide +kernel
theorem ax_k3 : axClW.all (fun w => decide (w ∈ lw_tbl) && ax_gw w) = true := by decide +kernel
theorem ax_k4a : (axThL 0).all (fun w => decide (w ∈ lw_tbl) && ax_gw w) = true := by decide +kernel
theorem ax_k4b : (axThL 2).all (fun w => decide (w ∈ lw_tbl) && ax_gw w) = true := by decide +kernel
theorem ax_k4c : (axThL 4).all (fun w => decide (w ∈ lw_tbl) && ax_gw w) = true := by decide +kernel
theorem ax_k4d : (axThL 5).all (fun w => decide (w ∈ lw_tbl) && ax_gw w) = true := by decide +kernel
theorem ax_k4e : (axThL 10).all (fun w => decide (w ∈ lw_tbl) && ax_gw w) = true := by decide +kernel
theorem ax_k4f : axNw.all (fun w => decide (w ∈ lw_tbl) && ax_gw w) = true := by decide +kernel
theorem ax_k4 : ∀ y, y < 14 → (axThL y).all (fun w => decide (w ∈ lw_tbl) && ax_gw w) = true := fun y hy => match y, hy with
  | 0, _ => ax_k4a | 1, _ => ax_k4a | 2, _ => ax_k4b | 3, _ => ax_k4a | 4, _ => ax_k4c | 5, _ => ax_k4d | 6, _ => ax_k4c | 7, _ => ax_k4c | 8, _ => ax_k4c | 9, _ => ax_k4a | 10, _ => ax_k4e | 11, _ => ax_k4a | 12, _ => ax_k4f | 13, _ => ax_k4f
  | n + 14, h => absurd h (by omega)
theorem ax_k5 : ∀ i, i < 106 → (axHdL i).all (fun w => decide (w ∈ lw_tbl) && ax_gw w) = true := by decide +kernel
theorem ax_TB_ok : ∀ w ∈ axTB, w ∈ lw_tbl ∧ ax_gw w = true := by
  intro w hw
  have two : ∀ {L : List Cond}, L.all (fun w => decide (w ∈ lw_tbl) && ax_gw w) = true → w ∈ L → w ∈ lw_tbl ∧ ax_gw w = true := by
    intro L h hm
    have h1 := List.all_eq_true.mp h w hm
    simp only [Bool.and_eq_true, decide_eq_true_eq] at h1
    exact h1
  rcases List.mem_append.mp hw with h | h
  · obtain ⟨i, hi, rfl⟩ := List.mem_map.mp h
    have hi := List.mem_range.mp hi
    obtain ⟨p, hp⟩ := ax_ck i hi
    exact ⟨List.mem_of_getElem? hp, ax_k1 i hi⟩
  rcases List.mem_append.mp h with h | h
  · obtain ⟨i, hi, hm⟩ := List.mem_flatMap.mp h
    have hi := List.mem_range.mp hi
    obtain ⟨ps, hp⟩ := ax_nk i hi
    obtain ⟨hm, hg⟩ := List.mem_filter.mp hm
    have h1 : some w ∈ ((axT i).flatMap (ax_need i)).map some := List.mem_map.mpr ⟨w, hm, rfl⟩
    rw [hp] at h1
    obtain ⟨p, -, h2⟩ := List.mem_map.mp h1
    exact ⟨List.mem_of_getElem? h2, hg⟩
  rcases List.mem_append.mp h with h | h
  · exact two ax_k3 h
  rcases List.mem_append.mp h with h | h
  · obtain ⟨y, hy, hm⟩ := List.mem_flatMap.mp h
    exact two (ax_k4 y (List.mem_range.mp hy)) hm
  · obtain ⟨y, hy, hm⟩ := List.mem_flatMap.mp h
    exact two (ax_k5 y (List.mem_range.mp hy)) hm
theorem ax_in_code {i : Nat} (hi : i < 105) : axCode i ∈ axTB := List.mem_append_left _ (List.mem_map.mpr ⟨i, List.mem_range.mpr hi, rfl⟩)
theorem ax_in_need {i : Nat} (hi : i < 106) {q : AxI} (hq : q ∈ axT i) {w : Cond} (hw : w ∈ ax_need i q) (hN : ax_isN w = false) : w ∈ axTB := by
  have h1 : w ∈ (axT i).flatMap (ax_need i) := List.mem_flatMap.mpr ⟨q, hq, hw⟩
  have h2 := List.all_eq_true.mp (ax_k2 i hi) w h1
  rw [hN, Bool.or_false] at h2
  exact List.mem_append_right _ (List.mem_append_left _ (List.mem_flatMap.mpr ⟨i, List.mem_range.mpr hi, List.mem_filter.mpr ⟨h1, h2⟩⟩))
theorem ax_in_cls {w : Cond} (hw : w ∈ axClW) : w ∈ axTB := List.mem_append_right _ (List.mem_append_right _ (List.mem_append_left _ hw))
theorem ax_in_th {y : Nat} (hy : y < 14) {w : Cond} (hw : w ∈ axThL y) : w ∈ axTB := List.mem_append_right _ (List.mem_append_right _ (List.mem_append_right _ (List.mem_append_left _ (List.mem_flatMap.mpr ⟨y, List.mem_range.mpr hy, hw⟩))))
theorem ax_in_hd {i : Nat} (hi : i < 106) {w : Cond} (hw : w ∈ axHdL i) : w ∈ axTB := List.mem_append_right _ (List.mem_append_right _ (List.mem_append_right _ (List.mem_append_right _ (List.mem_flatMap.mpr ⟨i, List.mem_range.mpr hi, hw⟩))))
/-- a class of ours by its number: its words, types and names -/
theorem ax_class : ∀ ci, ci < 7 → axCl[ci]? = some (axRN ci, axTT ci, axNF ci) ∧ (∀ w ∈ u_ws (axRN ci) (axTT ci) (axNF ci), w ∈ axClW) ∧ (∀ k, k < axNF ci → parseFieldDescriptor (axTT ci k).2.2.1 = some (axTy ci k)) ∧ (∀ a, a < axNF ci → ∀ b, b < axNF ci → a ≠ b → (axTT ci a).2.1 ≠ (axTT ci b).2.1) := fun ci h => match ci, h with
  | 0, _ => ⟨rfl, fun w h => List.mem_append_left _ h, tyX0_ok, nmX0⟩
  | 1, _ => ⟨rfl, fun w h => List.mem_append_right _ (List.mem_append_left _ h), tyX1_ok, nmX1⟩
  | 2, _ => ⟨rfl, fun w h => List.mem_append_right _ (List.mem_append_right _ (List.mem_append_left _ h)), tyX2_ok, nmX2⟩
  | 3, _ => ⟨rfl, fun w h => List.mem_append_right _ (List.mem_append_right _ (List.mem_append_right _ (List.mem_append_left _ h))), tyX3_ok, nmX3⟩
  | 4, _ => ⟨rfl, fun w h => List.mem_append_right _ (List.mem_append_right _ (List.mem_append_right _ (List.mem_append_right _ (List.mem_append_left _ h)))), tyX4_ok, nmX4⟩
  | 5, _ => ⟨rfl, fun w h => List.mem_append_right _ (List.mem_append_right _ (List.mem_append_right _ (List.mem_append_right _ (List.mem_append_right _ (List.mem_append_left _ h))))), tyX5_ok, nmX5⟩
  | 6, _ => ⟨rfl, fun w h => List.mem_append_right _ (List.mem_append_right _ (List.mem_append_right _ (List.mem_append_right _ (List.mem_append_right _ (List.mem_append_right _ h))))), tyX6_ok, nmX6⟩
  | n + 7, h => absurd h (by omega)
def axTys (τ : Nat → ClassId) : List (ClassId × FieldType) := [(τ 0, .int), (τ 1, .boolean), (τ 2, .long)]
/-- what stands around the cells: the classes, the script, what a throw reads, the texts, which exceptions are no others -/
def ax_G (D : va_G) (τ : Nat → ClassId) (bS L : Nat) (xs : Nat → Int32) (A : Nat → Prop) (U : State) (H : Heap) : Prop :=
  va_K D axCl (axTys τ) U ∧ va_X bS L xs U H ∧ bS < H.size ∧ ¬ A bS ∧ vx_Zq Bundle.tN "UNASSIGNED_STACK" Bundle.steD A U H ∧ vx_Zq Bundle.tN "SUPPRESSED_SENTINEL" Bundle.listD A U H ∧
  (∀ y, y < 14 → ∃ sa, vk_R "PickPaths" (axTh y).2.2.1 (axTh y).2.2.2.2 sa U) ∧ (∀ e1 e2, e1 < 6 → e2 < 6 → e1 ≠ e2 → va_Nc (axEx e1) (axEx e2) U) ∧ va_Nw (.methodLinkNest "PickPaths" 11 (axY MX3_init) "PickPaths") U
theorem ax_G.to {D : va_G} {τ : Nat → ClassId} {bS L : Nat} {xs : Nat → Int32} {A B : Nat → Prop} {u U : State} {H H1 : Heap} (h : ax_G D τ bS L xs A u H) (hW : u.WarmedH U.vm) (hsz : H.size ≤ H1.size)
    (hq : ∀ a : Nat, a < H.size → ¬ A a → H1[a]? = H[a]?) (hAB : ∀ q, B q → A q) : ax_G D τ bS L xs B U H1 := by
  obtain ⟨h1, h2, h3, h4, h5, h6, h7, h8, h9⟩ := h
  exact ⟨va_K.moved hW.alike h1, (va_X.moved hW.alike h2).kept (hq _ h3 h4), Nat.lt_of_lt_of_le h3 hsz, fun h => h4 (hAB _ h), vx_Zq.narrow (vx_Zq.moved hW.alike (h5.kept hq)) hAB, vx_Zq.narrow (vx_Zq.moved hW.alike (h6.kept hq)) hAB,
    fun y hy => by obtain ⟨sa, h⟩ := h7 y hy; exact ⟨sa, vk_R.warm hW h⟩, fun e1 e2 a b c => va_Nc.moved hW.alike (h8 e1 e2 a b c), va_Nw.warmM hW h9⟩
end
section
/-! Where a method of the program stands, in the machine and in our own. -/
def ax_Cx (i : Nat) (p : Program) (l : Launch) (s : State) (m : MethodId) (args : Array Value) (meth : Method) (c : Code) (A : Nat → Prop) (D : va_G) (τ : Nat → ClassId) (bS L : Nat) (xs : Nat → Int32) : Prop :=
  i < 106 ∧ p.tables.exec = Jvm.exec ∧ c.code = axB i ∧ meth.sig.returnType = axRe i ∧ c.maxLocals = axLo i ∧ s.vm.findClass (axO i) = some m.cls ∧ (∀ w ∈ axTB, w.before args s = true) ∧ meth.locks = false ∧ meth.name = (axY i).name ∧
  c.exceptionTable.toList = tableOf (axHh i) ∧ ax_G D τ bS L xs A s s.heap ∧ (∀ q, s.heap.size ≤ q → A q) ∧ l.stackTraces = false
/-- our cells, locals and counts are the machine's -/
def ax_In (i : Nat) (s : State) (A : Nat → Prop) (D : va_G) (τ : Nat → ClassId) (bS : Nat) (a0 b0 n0 : Nat) (σ0 : Nat → Nat) (ls : AxL) (w : AxW) (a b : Nat) (H : Heap) (locs : List Loc) (cells slots : Nat) (σ : Nat → Nat) (lsA : Array Slot) : Prop :=
  va_P D axCl (ax_W σ τ w) H ∧ va_D A (ax_W σ τ w) ∧ va_S A s.heap H locs ∧ lv_has lsA (axLo i) (ax_l σ ls) ∧ (∀ q ∈ ls, q.2.category = 1) ∧ (∀ k, k ≤ n0 → σ k = σ0 k) ∧ n0 ≤ w.length ∧ cells + a0 = a ∧ slots + b0 = b ∧ σ 0 = bS
/-- from this place of ours, wherever its cells lie, the machine comes to Q -/
def ax_Go (i : Nat) (p : Program) (l : Launch) (e : Env) (R : Room) (s : State) (m : MethodId) (args : Array Value) (below : List Frame) (meth : Method) (c : Code) (A : Nat → Prop) (D : va_G) (τ : Nat → ClassId) (bS a0 b0 n0 : Nat) (σ0 : Nat → Nat) (Q : State → Prop) (k : AxC) : Prop :=
  ∀ (H : Heap) (locs : List Loc) (cells slots : Nat) (σ : Nat → Nat) (lsA : Array Slot), ax_In i s A D τ bS a0 b0 n0 σ0 k.2.1 k.2.2.2.1 k.2.2.2.2.1 k.2.2.2.2.2 H locs cells slots σ lsA →
    W p l e R s m args below meth c H locs cells slots Q (F0 m k.1 lsA (k.2.2.1.map (ax_v σ)))
def ax_next (o : Option (AxC ⊕ List (Prop × AxC))) (k : AxC) : Prop := match o with
  | none => False
  | some (.inl c) => c = k
  | some (.inr q) => ∃ P : Prop, (P, k) ∈ q ∧ P
theorem ax_decs {i pc : Nat} (hi : i < 106) {ins : Instr} {x y : Nat} (h : ax_at (axT i) pc = some (ins, x, y)) : ∃ n, decode (axB i) pc = .ok (ins, n) ∧ (ax_isw ins = true ∨ n = ax_ln ins) := by
  have h1 := List.all_eq_true.mp (ax_dk i hi) _ (ax_at_mem _ _ h)
  unfold ax_dec at h1
  cases hd : decode (axB i) pc with
  | error e => simp [hd] at h1
  | ok q =>
    obtain ⟨ins', n⟩ := q
    simp only [hd, Bool.and_eq_true, decide_eq_true_eq, Bool.or_eq_true] at h1
    obtain ⟨h2, h3⟩ := h1
    subst h2
    exact ⟨n, rfl, h3.imp id (fun h => Nat.eq_of_beq_eq_true h)⟩
theorem ax_decn {i pc : Nat} (hi : i < 106) {ins : Instr} {x y : Nat} (h : ax_at (axT i) pc = some (ins, x, y)) (hs : ax_isw ins = false) : decode (axB i) pc = .ok (ins, ax_ln ins) := by
  obtain ⟨n, h1, h2⟩ := ax_decs hi h
  rcases h2 with h2 | h2
  · rw [hs] at h2; cases h2
  · rw [h1, h2]
theorem ax_stat {i pc : Nat} (hi : i < 106) {ins : Instr} {x y : Nat} (h : ax_at (axT i) pc = some (ins, x, y)) : ax_stc i (pc, ins, x, y) = true := List.all_eq_true.mp (ax_sk i hi) _ (ax_at_mem _ _ h)
theorem ax_blt {a b : Nat} (h : Nat.blt a b = true) : a < b := Nat.le_of_ble_eq_true h
theorem ax_tg_eq {pc : Nat} {off : Int} (h : ax_tgs pc off = true) : (pc : Int) + off = (ax_tg pc off : Int) := by
  unfold ax_tgs at h
  have := of_decide_eq_true h
  unfold ax_tg
  omega
theorem ax_fit_ok {ty : FieldType} {σ : Nat → Nat} {v : Value} (h : ax_fit ty v = true) : narrow ty (ax_v σ v) = ax_v σ v ∧ fits ty (ax_v σ v) = true := by
  cases v <;> cases ty <;> first | (simp [ax_fit] at h; done) | exact ⟨rfl, rfl⟩
/-- a place in a switch's list -/
theorem ax_sw_mem {pc : Nat} {z : Int32} {lo : Int} : ∀ (offs : List Int) (j : Nat) {P : Prop} {t : Nat}, (P, t) ∈ ax_sw pc z lo j offs → P → ∃ k off, offs[k]? = some off ∧ z.toInt = lo + ((j + k : Nat) : Int) ∧ t = ax_tg pc off
  | [], _, _, _, h, _ => by simp [ax_sw] at h
  | off :: r, j, P, t, h, hP => by
    simp only [ax_sw] at h
    rcases List.mem_cons.mp h with h1 | h1
    · obtain ⟨e1, e2⟩ := Prod.mk.inj h1
      subst e1
      exact ⟨0, off, rfl, by simpa using hP, e2⟩
    · obtain ⟨k, o2, q1, q2, q3⟩ := ax_sw_mem r (j + 1) h1 hP
      exact ⟨k + 1, o2, by simpa using q1, by rw [q2]; congr 2; omega, q3⟩
theorem ax_lk_mem {pc : Nat} {z : Int32} {ps : List (Int × Int)} {dflt : Int} : ∀ (offs : List Int) {P : Prop} {t : Nat}, (P, t) ∈ ax_lk pc z ps dflt offs → P → ∃ off ∈ offs, Op.lookupswitch.offset ps dflt z.toInt = off ∧ t = ax_tg pc off
  | [], _, _, h, _ => by simp [ax_lk] at h
  | off :: r, P, t, h, hP => by
    simp only [ax_lk] at h
    rcases List.mem_cons.mp h with h1 | h1
    · obtain ⟨e1, e2⟩ := Prod.mk.inj h1
      subst e1
      exact ⟨off, List.mem_cons_self, hP, e2⟩
    · obtain ⟨o2, q1, q2, q3⟩ := ax_lk_mem r h1 hP
      exact ⟨o2, List.mem_cons_of_mem _ q1, q2, q3⟩
end
section
/-! A simple instruction of ours is a step of the machine. -/
section AXS
variable {p : Program} {l : Launch} {e : Env} {R : Room} {s : State} {m : MethodId} {args : Array Value} {below : List Frame} {meth : Method} {c : Code} {A : Nat → Prop} {D : va_G} {τ : Nat → ClassId} {bS L a0 b0 n0 : Nat} {xs : Nat → Int32} {σ0 : Nat → Nat} {Q : State → Prop}
variable {i pc x y a b cells slots : Nat} {ls : AxL} {st : List Value} {w : AxW} {H : Heap} {locs : List Loc} {σ : Nat → Nat} {lsA : Array Slot} {k : AxC}
/-- the number that a local holds -/
theorem ax_lget (hl : lv_has lsA (axLo i) (ax_l σ ls)) {j : Nat} {v : Value} (h : ax_get ls j = some v) : lsA[j]? = some (.val (ax_v σ v)) := hl.2.2 (j, ax_v σ v) (List.mem_map.mpr ⟨(j, v), ax_get_mem ls j h, rfl⟩)

set_option maxHeartbeats 1000000 in
theorem as_iload {j : Nat} (hat : ax_at (axT i) pc = some ((.iload j), x, y)) (hn : ax_next (ax_alts L xs (.iload j) x y (pc, ls, st, w, a, b)) k)
    (C : ax_Cx i p l s m args meth c A D τ bS L xs) (hR : 1 ≤ R.frames ∧ 40 ≤ R.locals) (I : ax_In i s A D τ bS a0 b0 n0 σ0 ls w a b H locs cells slots σ lsA)
    (hbd : k.2.2.2.2.1 ≤ a0 + R.cells ∧ k.2.2.2.2.2 ≤ b0 + R.slots) (hgo : ax_Go i p l e R s m args below meth c A D τ bS a0 b0 n0 σ0 Q k) : W p l e R s m args below meth c H locs cells slots Q (F0 m pc lsA (st.map (ax_v σ))) := by
  obtain ⟨hi, hx, hb, hr, hml, hown, hts, hlocks, hnm, htab, hG, hA, hl9⟩ := C
  obtain ⟨hP, hD, hS, hl, hc, hσ, hn0, hca, hcb, hs0⟩ := id I
  have hd := ax_decn hi hat (by rfl)
  have hst := ax_stat hi hat
  simp only [ax_alts] at hn
  split at hn
  · next z hz =>
    cases hn
    exact lv_iload hx hb hd (ax_lget hl hz) (hgo _ _ _ _ _ _ I)
  · exact hn.elim

set_option maxHeartbeats 1000000 in
theorem as_iload_n {j : Fin 4} (hat : ax_at (axT i) pc = some ((.iload_n j), x, y)) (hn : ax_next (ax_alts L xs (.iload_n j) x y (pc, ls, st, w, a, b)) k)
    (C : ax_Cx i p l s m args meth c A D τ bS L xs) (hR : 1 ≤ R.frames ∧ 40 ≤ R.locals) (I : ax_In i s A D τ bS a0 b0 n0 σ0 ls w a b H locs cells slots σ lsA)
    (hbd : k.2.2.2.2.1 ≤ a0 + R.cells ∧ k.2.2.2.2.2 ≤ b0 + R.slots) (hgo : ax_Go i p l e R s m args below meth c A D τ bS a0 b0 n0 σ0 Q k) : W p l e R s m args below meth c H locs cells slots Q (F0 m pc lsA (st.map (ax_v σ))) := by
  obtain ⟨hi, hx, hb, hr, hml, hown, hts, hlocks, hnm, htab, hG, hA, hl9⟩ := C
  obtain ⟨hP, hD, hS, hl, hc, hσ, hn0, hca, hcb, hs0⟩ := id I
  have hd := ax_decn hi hat (by rfl)
  have hst := ax_stat hi hat
  simp only [ax_alts] at hn
  split at hn
  · next z hz =>
    cases hn
    exact lv_iload_n hx hb hd rfl (ax_lget hl hz) (hgo _ _ _ _ _ _ I)
  · exact hn.elim

set_option maxHeartbeats 1000000 in
theorem as_aload {j : Nat} (hat : ax_at (axT i) pc = some ((.aload j), x, y)) (hn : ax_next (ax_alts L xs (.aload j) x y (pc, ls, st, w, a, b)) k)
    (C : ax_Cx i p l s m args meth c A D τ bS L xs) (hR : 1 ≤ R.frames ∧ 40 ≤ R.locals) (I : ax_In i s A D τ bS a0 b0 n0 σ0 ls w a b H locs cells slots σ lsA)
    (hbd : k.2.2.2.2.1 ≤ a0 + R.cells ∧ k.2.2.2.2.2 ≤ b0 + R.slots) (hgo : ax_Go i p l e R s m args below meth c A D τ bS a0 b0 n0 σ0 Q k) : W p l e R s m args below meth c H locs cells slots Q (F0 m pc lsA (st.map (ax_v σ))) := by
  obtain ⟨hi, hx, hb, hr, hml, hown, hts, hlocks, hnm, htab, hG, hA, hl9⟩ := C
  obtain ⟨hP, hD, hS, hl, hc, hσ, hn0, hca, hcb, hs0⟩ := id I
  have hd := ax_decn hi hat (by rfl)
  have hst := ax_stat hi hat
  simp only [ax_alts] at hn
  split at hn
  · next z hz =>
    cases hn
    exact lv_aload hx hb hd (ax_lget hl hz) (hgo _ _ _ _ _ _ I)
  · exact hn.elim

set_option maxHeartbeats 1000000 in
theorem as_aload_n {j : Fin 4} (hat : ax_at (axT i) pc = some ((.aload_n j), x, y)) (hn : ax_next (ax_alts L xs (.aload_n j) x y (pc, ls, st, w, a, b)) k)
    (C : ax_Cx i p l s m args meth c A D τ bS L xs) (hR : 1 ≤ R.frames ∧ 40 ≤ R.locals) (I : ax_In i s A D τ bS a0 b0 n0 σ0 ls w a b H locs cells slots σ lsA)
    (hbd : k.2.2.2.2.1 ≤ a0 + R.cells ∧ k.2.2.2.2.2 ≤ b0 + R.slots) (hgo : ax_Go i p l e R s m args below meth c A D τ bS a0 b0 n0 σ0 Q k) : W p l e R s m args below meth c H locs cells slots Q (F0 m pc lsA (st.map (ax_v σ))) := by
  obtain ⟨hi, hx, hb, hr, hml, hown, hts, hlocks, hnm, htab, hG, hA, hl9⟩ := C
  obtain ⟨hP, hD, hS, hl, hc, hσ, hn0, hca, hcb, hs0⟩ := id I
  have hd := ax_decn hi hat (by rfl)
  have hst := ax_stat hi hat
  simp only [ax_alts] at hn
  split at hn
  · next z hz =>
    cases hn
    exact lv_aload_n hx hb hd rfl (ax_lget hl hz) (hgo _ _ _ _ _ _ I)
  · exact hn.elim

set_option maxHeartbeats 1000000 in
theorem as_istore {j : Nat} (hat : ax_at (axT i) pc = some ((.istore j), x, y)) (hn : ax_next (ax_alts L xs (.istore j) x y (pc, ls, st, w, a, b)) k)
    (C : ax_Cx i p l s m args meth c A D τ bS L xs) (hR : 1 ≤ R.frames ∧ 40 ≤ R.locals) (I : ax_In i s A D τ bS a0 b0 n0 σ0 ls w a b H locs cells slots σ lsA)
    (hbd : k.2.2.2.2.1 ≤ a0 + R.cells ∧ k.2.2.2.2.2 ≤ b0 + R.slots) (hgo : ax_Go i p l e R s m args below meth c A D τ bS a0 b0 n0 σ0 Q k) : W p l e R s m args below meth c H locs cells slots Q (F0 m pc lsA (st.map (ax_v σ))) := by
  obtain ⟨hi, hx, hb, hr, hml, hown, hts, hlocks, hnm, htab, hG, hA, hl9⟩ := C
  obtain ⟨hP, hD, hS, hl, hc, hσ, hn0, hca, hcb, hs0⟩ := id I
  have hd := ax_decn hi hat (by rfl)
  have hst := ax_stat hi hat
  simp only [ax_alts] at hn
  split at hn
  · cases hn
    exact lv_istore hx hb hd hl (ax_blt hst) rfl (fun ls' h' => hgo _ _ _ _ _ _ ⟨hP, hD, hS, ax_lv_sub h' (ax_set_has hc), ax_set_cat hc rfl, hσ, hn0, hca, hcb, hs0⟩)
  · exact hn.elim

set_option maxHeartbeats 1000000 in
theorem as_istore_n {j : Fin 4} (hat : ax_at (axT i) pc = some ((.istore_n j), x, y)) (hn : ax_next (ax_alts L xs (.istore_n j) x y (pc, ls, st, w, a, b)) k)
    (C : ax_Cx i p l s m args meth c A D τ bS L xs) (hR : 1 ≤ R.frames ∧ 40 ≤ R.locals) (I : ax_In i s A D τ bS a0 b0 n0 σ0 ls w a b H locs cells slots σ lsA)
    (hbd : k.2.2.2.2.1 ≤ a0 + R.cells ∧ k.2.2.2.2.2 ≤ b0 + R.slots) (hgo : ax_Go i p l e R s m args below meth c A D τ bS a0 b0 n0 σ0 Q k) : W p l e R s m args below meth c H locs cells slots Q (F0 m pc lsA (st.map (ax_v σ))) := by
  obtain ⟨hi, hx, hb, hr, hml, hown, hts, hlocks, hnm, htab, hG, hA, hl9⟩ := C
  obtain ⟨hP, hD, hS, hl, hc, hσ, hn0, hca, hcb, hs0⟩ := id I
  have hd := ax_decn hi hat (by rfl)
  have hst := ax_stat hi hat
  simp only [ax_alts] at hn
  split at hn
  · cases hn
    exact lv_istore_n hx hb hd rfl hl (ax_blt hst) rfl (fun ls' h' => hgo _ _ _ _ _ _ ⟨hP, hD, hS, ax_lv_sub h' (ax_set_has hc), ax_set_cat hc rfl, hσ, hn0, hca, hcb, hs0⟩)
  · exact hn.elim

set_option maxHeartbeats 1000000 in
theorem as_astore {j : Nat} (hat : ax_at (axT i) pc = some ((.astore j), x, y)) (hn : ax_next (ax_alts L xs (.astore j) x y (pc, ls, st, w, a, b)) k)
    (C : ax_Cx i p l s m args meth c A D τ bS L xs) (hR : 1 ≤ R.frames ∧ 40 ≤ R.locals) (I : ax_In i s A D τ bS a0 b0 n0 σ0 ls w a b H locs cells slots σ lsA)
    (hbd : k.2.2.2.2.1 ≤ a0 + R.cells ∧ k.2.2.2.2.2 ≤ b0 + R.slots) (hgo : ax_Go i p l e R s m args below meth c A D τ bS a0 b0 n0 σ0 Q k) : W p l e R s m args below meth c H locs cells slots Q (F0 m pc lsA (st.map (ax_v σ))) := by
  obtain ⟨hi, hx, hb, hr, hml, hown, hts, hlocks, hnm, htab, hG, hA, hl9⟩ := C
  obtain ⟨hP, hD, hS, hl, hc, hσ, hn0, hca, hcb, hs0⟩ := id I
  have hd := ax_decn hi hat (by rfl)
  have hst := ax_stat hi hat
  simp only [ax_alts] at hn
  split at hn
  · cases hn
    exact lv_astore hx hb hd hl (ax_blt hst) rfl (fun ls' h' => hgo _ _ _ _ _ _ ⟨hP, hD, hS, ax_lv_sub h' (ax_set_has hc), ax_set_cat hc rfl, hσ, hn0, hca, hcb, hs0⟩)
  · exact hn.elim

set_option maxHeartbeats 1000000 in
theorem as_astore_n {j : Fin 4} (hat : ax_at (axT i) pc = some ((.astore_n j), x, y)) (hn : ax_next (ax_alts L xs (.astore_n j) x y (pc, ls, st, w, a, b)) k)
    (C : ax_Cx i p l s m args meth c A D τ bS L xs) (hR : 1 ≤ R.frames ∧ 40 ≤ R.locals) (I : ax_In i s A D τ bS a0 b0 n0 σ0 ls w a b H locs cells slots σ lsA)
    (hbd : k.2.2.2.2.1 ≤ a0 + R.cells ∧ k.2.2.2.2.2 ≤ b0 + R.slots) (hgo : ax_Go i p l e R s m args below meth c A D τ bS a0 b0 n0 σ0 Q k) : W p l e R s m args below meth c H locs cells slots Q (F0 m pc lsA (st.map (ax_v σ))) := by
  obtain ⟨hi, hx, hb, hr, hml, hown, hts, hlocks, hnm, htab, hG, hA, hl9⟩ := C
  obtain ⟨hP, hD, hS, hl, hc, hσ, hn0, hca, hcb, hs0⟩ := id I
  have hd := ax_decn hi hat (by rfl)
  have hst := ax_stat hi hat
  simp only [ax_alts] at hn
  split at hn
  · cases hn
    exact lv_astore_n hx hb hd rfl hl (ax_blt hst) rfl (fun ls' h' => hgo _ _ _ _ _ _ ⟨hP, hD, hS, ax_lv_sub h' (ax_set_has hc), ax_set_cat hc rfl, hσ, hn0, hca, hcb, hs0⟩)
  · exact hn.elim

set_option maxHeartbeats 1000000 in
theorem as_iconst {v : Int} (hat : ax_at (axT i) pc = some ((.iconst v), x, y)) (hn : ax_next (ax_alts L xs (.iconst v) x y (pc, ls, st, w, a, b)) k)
    (C : ax_Cx i p l s m args meth c A D τ bS L xs) (hR : 1 ≤ R.frames ∧ 40 ≤ R.locals) (I : ax_In i s A D τ bS a0 b0 n0 σ0 ls w a b H locs cells slots σ lsA)
    (hbd : k.2.2.2.2.1 ≤ a0 + R.cells ∧ k.2.2.2.2.2 ≤ b0 + R.slots) (hgo : ax_Go i p l e R s m args below meth c A D τ bS a0 b0 n0 σ0 Q k) : W p l e R s m args below meth c H locs cells slots Q (F0 m pc lsA (st.map (ax_v σ))) := by
  obtain ⟨hi, hx, hb, hr, hml, hown, hts, hlocks, hnm, htab, hG, hA, hl9⟩ := C
  obtain ⟨hP, hD, hS, hl, hc, hσ, hn0, hca, hcb, hs0⟩ := id I
  have hd := ax_decn hi hat (by rfl)
  have hst := ax_stat hi hat
  simp only [ax_alts] at hn
  cases hn
  exact lv_iconst hx hb hd rfl (hgo _ _ _ _ _ _ I)

set_option maxHeartbeats 1000000 in
theorem as_bipush {v : Int} (hat : ax_at (axT i) pc = some ((.bipush v), x, y)) (hn : ax_next (ax_alts L xs (.bipush v) x y (pc, ls, st, w, a, b)) k)
    (C : ax_Cx i p l s m args meth c A D τ bS L xs) (hR : 1 ≤ R.frames ∧ 40 ≤ R.locals) (I : ax_In i s A D τ bS a0 b0 n0 σ0 ls w a b H locs cells slots σ lsA)
    (hbd : k.2.2.2.2.1 ≤ a0 + R.cells ∧ k.2.2.2.2.2 ≤ b0 + R.slots) (hgo : ax_Go i p l e R s m args below meth c A D τ bS a0 b0 n0 σ0 Q k) : W p l e R s m args below meth c H locs cells slots Q (F0 m pc lsA (st.map (ax_v σ))) := by
  obtain ⟨hi, hx, hb, hr, hml, hown, hts, hlocks, hnm, htab, hG, hA, hl9⟩ := C
  obtain ⟨hP, hD, hS, hl, hc, hσ, hn0, hca, hcb, hs0⟩ := id I
  have hd := ax_decn hi hat (by rfl)
  have hst := ax_stat hi hat
  simp only [ax_alts] at hn
  cases hn
  exact lv_bipush hx hb hd rfl (hgo _ _ _ _ _ _ I)

set_option maxHeartbeats 1000000 in
theorem as_sipush {v : Int} (hat : ax_at (axT i) pc = some ((.sipush v), x, y)) (hn : ax_next (ax_alts L xs (.sipush v) x y (pc, ls, st, w, a, b)) k)
    (C : ax_Cx i p l s m args meth c A D τ bS L xs) (hR : 1 ≤ R.frames ∧ 40 ≤ R.locals) (I : ax_In i s A D τ bS a0 b0 n0 σ0 ls w a b H locs cells slots σ lsA)
    (hbd : k.2.2.2.2.1 ≤ a0 + R.cells ∧ k.2.2.2.2.2 ≤ b0 + R.slots) (hgo : ax_Go i p l e R s m args below meth c A D τ bS a0 b0 n0 σ0 Q k) : W p l e R s m args below meth c H locs cells slots Q (F0 m pc lsA (st.map (ax_v σ))) := by
  obtain ⟨hi, hx, hb, hr, hml, hown, hts, hlocks, hnm, htab, hG, hA, hl9⟩ := C
  obtain ⟨hP, hD, hS, hl, hc, hσ, hn0, hca, hcb, hs0⟩ := id I
  have hd := ax_decn hi hat (by rfl)
  have hst := ax_stat hi hat
  simp only [ax_alts] at hn
  cases hn
  exact lv_sipush hx hb hd rfl (hgo _ _ _ _ _ _ I)

set_option maxHeartbeats 1000000 in
theorem as_ldc {j : Nat} (hat : ax_at (axT i) pc = some ((.ldc j), x, y)) (hn : ax_next (ax_alts L xs (.ldc j) x y (pc, ls, st, w, a, b)) k)
    (C : ax_Cx i p l s m args meth c A D τ bS L xs) (hR : 1 ≤ R.frames ∧ 40 ≤ R.locals) (I : ax_In i s A D τ bS a0 b0 n0 σ0 ls w a b H locs cells slots σ lsA)
    (hbd : k.2.2.2.2.1 ≤ a0 + R.cells ∧ k.2.2.2.2.2 ≤ b0 + R.slots) (hgo : ax_Go i p l e R s m args below meth c A D τ bS a0 b0 n0 σ0 Q k) : W p l e R s m args below meth c H locs cells slots Q (F0 m pc lsA (st.map (ax_v σ))) := by
  obtain ⟨hi, hx, hb, hr, hml, hown, hts, hlocks, hnm, htab, hG, hA, hl9⟩ := C
  obtain ⟨hP, hD, hS, hl, hc, hσ, hn0, hca, hcb, hs0⟩ := id I
  have hd := ax_decn hi hat (by rfl)
  have hst := ax_stat hi hat
  simp only [ax_alts] at hn
  cases hz : Nat.beq x 0 with
  | true => rw [hz] at hn; exact hn.elim
  | false =>
    rw [hz] at hn
    cases hn
    exact lv_ldc hx hb hown (hts _ (ax_in_need hi (ax_at_mem _ _ hat) (w := .constant (axO i) j (Int32.ofNat x)) (by simp [ax_need, hz]) rfl)) hd (hgo _ _ _ _ _ _ I)

set_option maxHeartbeats 1000000 in
theorem as_iinc {j : Nat} {v : Int} (hat : ax_at (axT i) pc = some ((.iinc j v), x, y)) (hn : ax_next (ax_alts L xs (.iinc j v) x y (pc, ls, st, w, a, b)) k)
    (C : ax_Cx i p l s m args meth c A D τ bS L xs) (hR : 1 ≤ R.frames ∧ 40 ≤ R.locals) (I : ax_In i s A D τ bS a0 b0 n0 σ0 ls w a b H locs cells slots σ lsA)
    (hbd : k.2.2.2.2.1 ≤ a0 + R.cells ∧ k.2.2.2.2.2 ≤ b0 + R.slots) (hgo : ax_Go i p l e R s m args below meth c A D τ bS a0 b0 n0 σ0 Q k) : W p l e R s m args below meth c H locs cells slots Q (F0 m pc lsA (st.map (ax_v σ))) := by
  obtain ⟨hi, hx, hb, hr, hml, hown, hts, hlocks, hnm, htab, hG, hA, hl9⟩ := C
  obtain ⟨hP, hD, hS, hl, hc, hσ, hn0, hca, hcb, hs0⟩ := id I
  have hd := ax_decn hi hat (by rfl)
  have hst := ax_stat hi hat
  simp only [ax_alts] at hn
  split at hn
  · next z hz =>
    cases hn
    obtain ⟨k9, hk9⟩ := List.mem_iff_getElem?.mp (List.mem_map.mpr ⟨(j, Value.int z), ax_get_mem ls j hz, rfl⟩ : (j, ax_v σ (.int z)) ∈ ax_l σ ls)
    exact lv_iinc hx hb hd hl hk9 rfl (ax_blt hst) rfl (fun ls' h' => hgo _ _ _ _ _ _ ⟨hP, hD, hS, ax_lv_sub h' (ax_set_has hc), ax_set_cat hc rfl, hσ, hn0, hca, hcb, hs0⟩)
  · exact hn.elim

set_option maxHeartbeats 1000000 in
theorem as_iadd (hat : ax_at (axT i) pc = some (.iadd, x, y)) (hn : ax_next (ax_alts L xs .iadd x y (pc, ls, st, w, a, b)) k)
    (C : ax_Cx i p l s m args meth c A D τ bS L xs) (hR : 1 ≤ R.frames ∧ 40 ≤ R.locals) (I : ax_In i s A D τ bS a0 b0 n0 σ0 ls w a b H locs cells slots σ lsA)
    (hbd : k.2.2.2.2.1 ≤ a0 + R.cells ∧ k.2.2.2.2.2 ≤ b0 + R.slots) (hgo : ax_Go i p l e R s m args below meth c A D τ bS a0 b0 n0 σ0 Q k) : W p l e R s m args below meth c H locs cells slots Q (F0 m pc lsA (st.map (ax_v σ))) := by
  obtain ⟨hi, hx, hb, hr, hml, hown, hts, hlocks, hnm, htab, hG, hA, hl9⟩ := C
  obtain ⟨hP, hD, hS, hl, hc, hσ, hn0, hca, hcb, hs0⟩ := id I
  have hd := ax_decn hi hat (by rfl)
  have hst := ax_stat hi hat
  simp only [ax_alts] at hn
  unfold ax_b2 at hn
  split at hn
  · cases hn
    exact lv_iadd hx hb hd (hgo _ _ _ _ _ _ I)
  · exact hn.elim

set_option maxHeartbeats 1000000 in
theorem as_isub (hat : ax_at (axT i) pc = some (.isub, x, y)) (hn : ax_next (ax_alts L xs .isub x y (pc, ls, st, w, a, b)) k)
    (C : ax_Cx i p l s m args meth c A D τ bS L xs) (hR : 1 ≤ R.frames ∧ 40 ≤ R.locals) (I : ax_In i s A D τ bS a0 b0 n0 σ0 ls w a b H locs cells slots σ lsA)
    (hbd : k.2.2.2.2.1 ≤ a0 + R.cells ∧ k.2.2.2.2.2 ≤ b0 + R.slots) (hgo : ax_Go i p l e R s m args below meth c A D τ bS a0 b0 n0 σ0 Q k) : W p l e R s m args below meth c H locs cells slots Q (F0 m pc lsA (st.map (ax_v σ))) := by
  obtain ⟨hi, hx, hb, hr, hml, hown, hts, hlocks, hnm, htab, hG, hA, hl9⟩ := C
  obtain ⟨hP, hD, hS, hl, hc, hσ, hn0, hca, hcb, hs0⟩ := id I
  have hd := ax_decn hi hat (by rfl)
  have hst := ax_stat hi hat
  simp only [ax_alts] at hn
  unfold ax_b2 at hn
  split at hn
  · cases hn
    exact lv_isub hx hb hd (hgo _ _ _ _ _ _ I)
  · exact hn.elim

set_option maxHeartbeats 1000000 in
theorem as_imul (hat : ax_at (axT i) pc = some (.imul, x, y)) (hn : ax_next (ax_alts L xs .imul x y (pc, ls, st, w, a, b)) k)
    (C : ax_Cx i p l s m args meth c A D τ bS L xs) (hR : 1 ≤ R.frames ∧ 40 ≤ R.locals) (I : ax_In i s A D τ bS a0 b0 n0 σ0 ls w a b H locs cells slots σ lsA)
    (hbd : k.2.2.2.2.1 ≤ a0 + R.cells ∧ k.2.2.2.2.2 ≤ b0 + R.slots) (hgo : ax_Go i p l e R s m args below meth c A D τ bS a0 b0 n0 σ0 Q k) : W p l e R s m args below meth c H locs cells slots Q (F0 m pc lsA (st.map (ax_v σ))) := by
  obtain ⟨hi, hx, hb, hr, hml, hown, hts, hlocks, hnm, htab, hG, hA, hl9⟩ := C
  obtain ⟨hP, hD, hS, hl, hc, hσ, hn0, hca, hcb, hs0⟩ := id I
  have hd := ax_decn hi hat (by rfl)
  have hst := ax_stat hi hat
  simp only [ax_alts] at hn
  unfold ax_b2 at hn
  split at hn
  · cases hn
    exact lv_imul hx hb hd (hgo _ _ _ _ _ _ I)
  · exact hn.elim

set_option maxHeartbeats 1000000 in
theorem as_iand (hat : ax_at (axT i) pc = some (.iand, x, y)) (hn : ax_next (ax_alts L xs .iand x y (pc, ls, st, w, a, b)) k)
    (C : ax_Cx i p l s m args meth c A D τ bS L xs) (hR : 1 ≤ R.frames ∧ 40 ≤ R.locals) (I : ax_In i s A D τ bS a0 b0 n0 σ0 ls w a b H locs cells slots σ lsA)
    (hbd : k.2.2.2.2.1 ≤ a0 + R.cells ∧ k.2.2.2.2.2 ≤ b0 + R.slots) (hgo : ax_Go i p l e R s m args below meth c A D τ bS a0 b0 n0 σ0 Q k) : W p l e R s m args below meth c H locs cells slots Q (F0 m pc lsA (st.map (ax_v σ))) := by
  obtain ⟨hi, hx, hb, hr, hml, hown, hts, hlocks, hnm, htab, hG, hA, hl9⟩ := C
  obtain ⟨hP, hD, hS, hl, hc, hσ, hn0, hca, hcb, hs0⟩ := id I
  have hd := ax_decn hi hat (by rfl)
  have hst := ax_stat hi hat
  simp only [ax_alts] at hn
  unfold ax_b2 at hn
  split at hn
  · cases hn
    exact lv_iand hx hb hd (hgo _ _ _ _ _ _ I)
  · exact hn.elim

set_option maxHeartbeats 1000000 in
theorem as_ixor (hat : ax_at (axT i) pc = some (.ixor, x, y)) (hn : ax_next (ax_alts L xs .ixor x y (pc, ls, st, w, a, b)) k)
    (C : ax_Cx i p l s m args meth c A D τ bS L xs) (hR : 1 ≤ R.frames ∧ 40 ≤ R.locals) (I : ax_In i s A D τ bS a0 b0 n0 σ0 ls w a b H locs cells slots σ lsA)
    (hbd : k.2.2.2.2.1 ≤ a0 + R.cells ∧ k.2.2.2.2.2 ≤ b0 + R.slots) (hgo : ax_Go i p l e R s m args below meth c A D τ bS a0 b0 n0 σ0 Q k) : W p l e R s m args below meth c H locs cells slots Q (F0 m pc lsA (st.map (ax_v σ))) := by
  obtain ⟨hi, hx, hb, hr, hml, hown, hts, hlocks, hnm, htab, hG, hA, hl9⟩ := C
  obtain ⟨hP, hD, hS, hl, hc, hσ, hn0, hca, hcb, hs0⟩ := id I
  have hd := ax_decn hi hat (by rfl)
  have hst := ax_stat hi hat
  simp only [ax_alts] at hn
  unfold ax_b2 at hn
  split at hn
  · cases hn
    exact lv_ixor hx hb hd (hgo _ _ _ _ _ _ I)
  · exact hn.elim

set_option maxHeartbeats 1000000 in
theorem as_ishl (hat : ax_at (axT i) pc = some (.ishl, x, y)) (hn : ax_next (ax_alts L xs .ishl x y (pc, ls, st, w, a, b)) k)
    (C : ax_Cx i p l s m args meth c A D τ bS L xs) (hR : 1 ≤ R.frames ∧ 40 ≤ R.locals) (I : ax_In i s A D τ bS a0 b0 n0 σ0 ls w a b H locs cells slots σ lsA)
    (hbd : k.2.2.2.2.1 ≤ a0 + R.cells ∧ k.2.2.2.2.2 ≤ b0 + R.slots) (hgo : ax_Go i p l e R s m args below meth c A D τ bS a0 b0 n0 σ0 Q k) : W p l e R s m args below meth c H locs cells slots Q (F0 m pc lsA (st.map (ax_v σ))) := by
  obtain ⟨hi, hx, hb, hr, hml, hown, hts, hlocks, hnm, htab, hG, hA, hl9⟩ := C
  obtain ⟨hP, hD, hS, hl, hc, hσ, hn0, hca, hcb, hs0⟩ := id I
  have hd := ax_decn hi hat (by rfl)
  have hst := ax_stat hi hat
  simp only [ax_alts] at hn
  unfold ax_b2 at hn
  split at hn
  · cases hn
    exact lv_ishl hx hb hd (hgo _ _ _ _ _ _ I)
  · exact hn.elim

set_option maxHeartbeats 1000000 in
theorem as_ishr (hat : ax_at (axT i) pc = some (.ishr, x, y)) (hn : ax_next (ax_alts L xs .ishr x y (pc, ls, st, w, a, b)) k)
    (C : ax_Cx i p l s m args meth c A D τ bS L xs) (hR : 1 ≤ R.frames ∧ 40 ≤ R.locals) (I : ax_In i s A D τ bS a0 b0 n0 σ0 ls w a b H locs cells slots σ lsA)
    (hbd : k.2.2.2.2.1 ≤ a0 + R.cells ∧ k.2.2.2.2.2 ≤ b0 + R.slots) (hgo : ax_Go i p l e R s m args below meth c A D τ bS a0 b0 n0 σ0 Q k) : W p l e R s m args below meth c H locs cells slots Q (F0 m pc lsA (st.map (ax_v σ))) := by
  obtain ⟨hi, hx, hb, hr, hml, hown, hts, hlocks, hnm, htab, hG, hA, hl9⟩ := C
  obtain ⟨hP, hD, hS, hl, hc, hσ, hn0, hca, hcb, hs0⟩ := id I
  have hd := ax_decn hi hat (by rfl)
  have hst := ax_stat hi hat
  simp only [ax_alts] at hn
  unfold ax_b2 at hn
  split at hn
  · cases hn
    exact lv_ishr hx hb hd (hgo _ _ _ _ _ _ I)
  · exact hn.elim

set_option maxHeartbeats 1000000 in
theorem as_idiv (hat : ax_at (axT i) pc = some (.idiv, x, y)) (hn : ax_next (ax_alts L xs .idiv x y (pc, ls, st, w, a, b)) k)
    (C : ax_Cx i p l s m args meth c A D τ bS L xs) (hR : 1 ≤ R.frames ∧ 40 ≤ R.locals) (I : ax_In i s A D τ bS a0 b0 n0 σ0 ls w a b H locs cells slots σ lsA)
    (hbd : k.2.2.2.2.1 ≤ a0 + R.cells ∧ k.2.2.2.2.2 ≤ b0 + R.slots) (hgo : ax_Go i p l e R s m args below meth c A D τ bS a0 b0 n0 σ0 Q k) : W p l e R s m args below meth c H locs cells slots Q (F0 m pc lsA (st.map (ax_v σ))) := by
  obtain ⟨hi, hx, hb, hr, hml, hown, hts, hlocks, hnm, htab, hG, hA, hl9⟩ := C
  obtain ⟨hP, hD, hS, hl, hc, hσ, hn0, hca, hcb, hs0⟩ := id I
  have hd := ax_decn hi hat (by rfl)
  have hst := ax_stat hi hat
  simp only [ax_alts] at hn
  split at hn
  · obtain ⟨P, hm, hp⟩ := hn
    rw [List.mem_singleton] at hm
    cases hm
    exact lv_idiv hx hb hd hp (hgo _ _ _ _ _ _ I)
  · exact hn.elim

set_option maxHeartbeats 1000000 in
theorem as_irem (hat : ax_at (axT i) pc = some (.irem, x, y)) (hn : ax_next (ax_alts L xs .irem x y (pc, ls, st, w, a, b)) k)
    (C : ax_Cx i p l s m args meth c A D τ bS L xs) (hR : 1 ≤ R.frames ∧ 40 ≤ R.locals) (I : ax_In i s A D τ bS a0 b0 n0 σ0 ls w a b H locs cells slots σ lsA)
    (hbd : k.2.2.2.2.1 ≤ a0 + R.cells ∧ k.2.2.2.2.2 ≤ b0 + R.slots) (hgo : ax_Go i p l e R s m args below meth c A D τ bS a0 b0 n0 σ0 Q k) : W p l e R s m args below meth c H locs cells slots Q (F0 m pc lsA (st.map (ax_v σ))) := by
  obtain ⟨hi, hx, hb, hr, hml, hown, hts, hlocks, hnm, htab, hG, hA, hl9⟩ := C
  obtain ⟨hP, hD, hS, hl, hc, hσ, hn0, hca, hcb, hs0⟩ := id I
  have hd := ax_decn hi hat (by rfl)
  have hst := ax_stat hi hat
  simp only [ax_alts] at hn
  split at hn
  · obtain ⟨P, hm, hp⟩ := hn
    rw [List.mem_singleton] at hm
    cases hm
    exact lv_irem hx hb hd hp (hgo _ _ _ _ _ _ I)
  · exact hn.elim

set_option maxHeartbeats 1000000 in
theorem as_i2l (hat : ax_at (axT i) pc = some (.i2l, x, y)) (hn : ax_next (ax_alts L xs .i2l x y (pc, ls, st, w, a, b)) k)
    (C : ax_Cx i p l s m args meth c A D τ bS L xs) (hR : 1 ≤ R.frames ∧ 40 ≤ R.locals) (I : ax_In i s A D τ bS a0 b0 n0 σ0 ls w a b H locs cells slots σ lsA)
    (hbd : k.2.2.2.2.1 ≤ a0 + R.cells ∧ k.2.2.2.2.2 ≤ b0 + R.slots) (hgo : ax_Go i p l e R s m args below meth c A D τ bS a0 b0 n0 σ0 Q k) : W p l e R s m args below meth c H locs cells slots Q (F0 m pc lsA (st.map (ax_v σ))) := by
  obtain ⟨hi, hx, hb, hr, hml, hown, hts, hlocks, hnm, htab, hG, hA, hl9⟩ := C
  obtain ⟨hP, hD, hS, hl, hc, hσ, hn0, hca, hcb, hs0⟩ := id I
  have hd := ax_decn hi hat (by rfl)
  have hst := ax_stat hi hat
  simp only [ax_alts] at hn
  split at hn
  · cases hn
    exact lv_i2l hx hb hd rfl (hgo _ _ _ _ _ _ I)
  · exact hn.elim

set_option maxHeartbeats 1000000 in
theorem as_lcmp (hat : ax_at (axT i) pc = some (.lcmp, x, y)) (hn : ax_next (ax_alts L xs .lcmp x y (pc, ls, st, w, a, b)) k)
    (C : ax_Cx i p l s m args meth c A D τ bS L xs) (hR : 1 ≤ R.frames ∧ 40 ≤ R.locals) (I : ax_In i s A D τ bS a0 b0 n0 σ0 ls w a b H locs cells slots σ lsA)
    (hbd : k.2.2.2.2.1 ≤ a0 + R.cells ∧ k.2.2.2.2.2 ≤ b0 + R.slots) (hgo : ax_Go i p l e R s m args below meth c A D τ bS a0 b0 n0 σ0 Q k) : W p l e R s m args below meth c H locs cells slots Q (F0 m pc lsA (st.map (ax_v σ))) := by
  obtain ⟨hi, hx, hb, hr, hml, hown, hts, hlocks, hnm, htab, hG, hA, hl9⟩ := C
  obtain ⟨hP, hD, hS, hl, hc, hσ, hn0, hca, hcb, hs0⟩ := id I
  have hd := ax_decn hi hat (by rfl)
  have hst := ax_stat hi hat
  simp only [ax_alts] at hn
  split at hn
  · cases hn
    exact W.lcmp hx hb hd (hgo _ _ _ _ _ _ I)
  · exact hn.elim

set_option maxHeartbeats 1000000 in
theorem as_dup (hat : ax_at (axT i) pc = some (.dup, x, y)) (hn : ax_next (ax_alts L xs .dup x y (pc, ls, st, w, a, b)) k)
    (C : ax_Cx i p l s m args meth c A D τ bS L xs) (hR : 1 ≤ R.frames ∧ 40 ≤ R.locals) (I : ax_In i s A D τ bS a0 b0 n0 σ0 ls w a b H locs cells slots σ lsA)
    (hbd : k.2.2.2.2.1 ≤ a0 + R.cells ∧ k.2.2.2.2.2 ≤ b0 + R.slots) (hgo : ax_Go i p l e R s m args below meth c A D τ bS a0 b0 n0 σ0 Q k) : W p l e R s m args below meth c H locs cells slots Q (F0 m pc lsA (st.map (ax_v σ))) := by
  obtain ⟨hi, hx, hb, hr, hml, hown, hts, hlocks, hnm, htab, hG, hA, hl9⟩ := C
  obtain ⟨hP, hD, hS, hl, hc, hσ, hn0, hca, hcb, hs0⟩ := id I
  have hd := ax_decn hi hat (by rfl)
  have hst := ax_stat hi hat
  simp only [ax_alts] at hn
  split at hn
  · cases hn
    exact lv_dup hx hb hd rfl (hgo _ _ _ _ _ _ I)
  · cases hn
    exact lv_dup hx hb hd rfl (hgo _ _ _ _ _ _ I)
  · exact hn.elim

set_option maxHeartbeats 1000000 in
theorem as_goto {off : Int} (hat : ax_at (axT i) pc = some ((.goto off), x, y)) (hn : ax_next (ax_alts L xs (.goto off) x y (pc, ls, st, w, a, b)) k)
    (C : ax_Cx i p l s m args meth c A D τ bS L xs) (hR : 1 ≤ R.frames ∧ 40 ≤ R.locals) (I : ax_In i s A D τ bS a0 b0 n0 σ0 ls w a b H locs cells slots σ lsA)
    (hbd : k.2.2.2.2.1 ≤ a0 + R.cells ∧ k.2.2.2.2.2 ≤ b0 + R.slots) (hgo : ax_Go i p l e R s m args below meth c A D τ bS a0 b0 n0 σ0 Q k) : W p l e R s m args below meth c H locs cells slots Q (F0 m pc lsA (st.map (ax_v σ))) := by
  obtain ⟨hi, hx, hb, hr, hml, hown, hts, hlocks, hnm, htab, hG, hA, hl9⟩ := C
  obtain ⟨hP, hD, hS, hl, hc, hσ, hn0, hca, hcb, hs0⟩ := id I
  have hd := ax_decn hi hat (by rfl)
  have hst := ax_stat hi hat
  simp only [ax_alts] at hn
  cases hn
  exact lv_goto hx hb hd (of_decide_eq_true hst) (hgo _ _ _ _ _ _ I)

set_option maxHeartbeats 1000000 in
theorem as_if_icmp {cd : ClassFile.Cond} {off : Int} (hat : ax_at (axT i) pc = some ((.if_icmp cd off), x, y)) (hn : ax_next (ax_alts L xs (.if_icmp cd off) x y (pc, ls, st, w, a, b)) k)
    (C : ax_Cx i p l s m args meth c A D τ bS L xs) (hR : 1 ≤ R.frames ∧ 40 ≤ R.locals) (I : ax_In i s A D τ bS a0 b0 n0 σ0 ls w a b H locs cells slots σ lsA)
    (hbd : k.2.2.2.2.1 ≤ a0 + R.cells ∧ k.2.2.2.2.2 ≤ b0 + R.slots) (hgo : ax_Go i p l e R s m args below meth c A D τ bS a0 b0 n0 σ0 Q k) : W p l e R s m args below meth c H locs cells slots Q (F0 m pc lsA (st.map (ax_v σ))) := by
  obtain ⟨hi, hx, hb, hr, hml, hown, hts, hlocks, hnm, htab, hG, hA, hl9⟩ := C
  obtain ⟨hP, hD, hS, hl, hc, hσ, hn0, hca, hcb, hs0⟩ := id I
  have hd := ax_decn hi hat (by rfl)
  have hst := ax_stat hi hat
  simp only [ax_alts] at hn
  have ht := of_decide_eq_true hst
  split at hn
  · obtain ⟨P, hm, hp⟩ := hn
    rcases List.mem_cons.mp hm with hm | hm
    · cases hm
      cases cd
      · exact lv_icmp_eq hx hb hd ht (fun _ => hgo _ _ _ _ _ _ I) (fun h => absurd hp h)
      · exact lv_icmp_ne hx hb hd ht (fun _ => hgo _ _ _ _ _ _ I) (fun h => absurd h hp)
      · exact lv_icmp_lt hx hb hd ht (fun _ => hgo _ _ _ _ _ _ I) (fun h => absurd hp h)
      · exact lv_icmp_ge hx hb hd ht (fun _ => hgo _ _ _ _ _ _ I) (fun h => absurd hp h)
      · exact lv_icmp_gt hx hb hd ht (fun _ => hgo _ _ _ _ _ _ I) (fun h => absurd hp h)
      · exact lv_icmp_le hx hb hd ht (fun _ => hgo _ _ _ _ _ _ I) (fun h => absurd hp h)
    · rw [List.mem_singleton] at hm
      cases hm
      cases cd
      · exact lv_icmp_eq hx hb hd ht (fun h => absurd h hp) (fun _ => hgo _ _ _ _ _ _ I)
      · exact lv_icmp_ne hx hb hd ht (fun h => absurd h hp) (fun _ => hgo _ _ _ _ _ _ I)
      · exact lv_icmp_lt hx hb hd ht (fun h => absurd h hp) (fun _ => hgo _ _ _ _ _ _ I)
      · exact lv_icmp_ge hx hb hd ht (fun h => absurd h hp) (fun _ => hgo _ _ _ _ _ _ I)
      · exact lv_icmp_gt hx hb hd ht (fun h => absurd h hp) (fun _ => hgo _ _ _ _ _ _ I)
      · exact lv_icmp_le hx hb hd ht (fun h => absurd h hp) (fun _ => hgo _ _ _ _ _ _ I)
  · exact hn.elim

set_option maxHeartbeats 1000000 in
theorem as_ifCond {cd : ClassFile.Cond} {off : Int} (hat : ax_at (axT i) pc = some ((.ifCond cd off), x, y)) (hn : ax_next (ax_alts L xs (.ifCond cd off) x y (pc, ls, st, w, a, b)) k)
    (C : ax_Cx i p l s m args meth c A D τ bS L xs) (hR : 1 ≤ R.frames ∧ 40 ≤ R.locals) (I : ax_In i s A D τ bS a0 b0 n0 σ0 ls w a b H locs cells slots σ lsA)
    (hbd : k.2.2.2.2.1 ≤ a0 + R.cells ∧ k.2.2.2.2.2 ≤ b0 + R.slots) (hgo : ax_Go i p l e R s m args below meth c A D τ bS a0 b0 n0 σ0 Q k) : W p l e R s m args below meth c H locs cells slots Q (F0 m pc lsA (st.map (ax_v σ))) := by
  obtain ⟨hi, hx, hb, hr, hml, hown, hts, hlocks, hnm, htab, hG, hA, hl9⟩ := C
  obtain ⟨hP, hD, hS, hl, hc, hσ, hn0, hca, hcb, hs0⟩ := id I
  have hd := ax_decn hi hat (by rfl)
  have hst := ax_stat hi hat
  simp only [ax_alts] at hn
  have ht := of_decide_eq_true hst
  split at hn
  · obtain ⟨P, hm, hp⟩ := hn
    rcases List.mem_cons.mp hm with hm | hm
    · cases hm
      cases cd
      · exact lv_if_eq hx hb hd ht (fun _ => hgo _ _ _ _ _ _ I) (fun h => absurd hp h)
      · exact lv_if_ne hx hb hd ht (fun _ => hgo _ _ _ _ _ _ I) (fun h => absurd h hp)
      · exact lv_if_lt hx hb hd ht (fun _ => hgo _ _ _ _ _ _ I) (fun h => absurd hp h)
      · exact lv_if_ge hx hb hd ht (fun _ => hgo _ _ _ _ _ _ I) (fun h => absurd hp h)
      · exact lv_if_gt hx hb hd ht (fun _ => hgo _ _ _ _ _ _ I) (fun h => absurd hp h)
      · exact lv_if_le hx hb hd ht (fun _ => hgo _ _ _ _ _ _ I) (fun h => absurd hp h)
    · rw [List.mem_singleton] at hm
      cases hm
      cases cd
      · exact lv_if_eq hx hb hd ht (fun h => absurd h hp) (fun _ => hgo _ _ _ _ _ _ I)
      · exact lv_if_ne hx hb hd ht (fun h => absurd h hp) (fun _ => hgo _ _ _ _ _ _ I)
      · exact lv_if_lt hx hb hd ht (fun h => absurd h hp) (fun _ => hgo _ _ _ _ _ _ I)
      · exact lv_if_ge hx hb hd ht (fun h => absurd h hp) (fun _ => hgo _ _ _ _ _ _ I)
      · exact lv_if_gt hx hb hd ht (fun h => absurd h hp) (fun _ => hgo _ _ _ _ _ _ I)
      · exact lv_if_le hx hb hd ht (fun h => absurd h hp) (fun _ => hgo _ _ _ _ _ _ I)
  · exact hn.elim

set_option maxHeartbeats 1000000 in
theorem as_getfield {j : Nat} (hat : ax_at (axT i) pc = some ((.getfield j), x, y)) (hn : ax_next (ax_alts L xs (.getfield j) x y (pc, ls, st, w, a, b)) k)
    (C : ax_Cx i p l s m args meth c A D τ bS L xs) (hR : 1 ≤ R.frames ∧ 40 ≤ R.locals) (I : ax_In i s A D τ bS a0 b0 n0 σ0 ls w a b H locs cells slots σ lsA)
    (hbd : k.2.2.2.2.1 ≤ a0 + R.cells ∧ k.2.2.2.2.2 ≤ b0 + R.slots) (hgo : ax_Go i p l e R s m args below meth c A D τ bS a0 b0 n0 σ0 Q k) : W p l e R s m args below meth c H locs cells slots Q (F0 m pc lsA (st.map (ax_v σ))) := by
  obtain ⟨hi, hx, hb, hr, hml, hown, hts, hlocks, hnm, htab, hG, hA, hl9⟩ := C
  obtain ⟨hP, hD, hS, hl, hc, hσ, hn0, hca, hcb, hs0⟩ := id I
  have hd := ax_decn hi hat (by rfl)
  have hst := ax_stat hi hat
  simp only [ax_alts] at hn
  simp only [ax_stc, Bool.and_eq_true] at hst
  obtain ⟨hx7, hyN⟩ := hst
  obtain ⟨hcl, hws, hty, hnmz⟩ := ax_class x (ax_blt hx7)
  split at hn
  · next q r =>
    split at hn
    · next ci fs hw =>
      cases hz : Nat.beq ci x with
      | false => rw [hz] at hn; exact hn.elim
      | true =>
        rw [hz] at hn
        have e1 := Nat.eq_of_beq_eq_true hz
        subst e1
        simp only [cond_true] at hn
        split at hn
        · next v hv =>
          cases hn
          rw [ax_nth_eq] at hv
          exact va_get (D := D) (v := ax_v σ v) hx hb hts (fun w h => ax_in_cls (hws w h)) hown hG.1 hP q (ax_W_some hw) hcl y (ax_blt hyN) (hts _ (ax_in_need hi (ax_at_mem _ _ hat) (w := .fieldLink (axO i) j (axTT ci y).1 (axTT ci y).2.1 (axTT ci y).2.2.1) (by simp [ax_need]) rfl)) (fun _ h => h) (by rw [List.getElem?_map, hv]; rfl) hd (hgo _ _ _ _ _ _ I)
        · exact hn.elim
    · exact hn.elim
  · exact hn.elim

set_option maxHeartbeats 1000000 in
theorem as_putfield {j : Nat} (hat : ax_at (axT i) pc = some ((.putfield j), x, y)) (hn : ax_next (ax_alts L xs (.putfield j) x y (pc, ls, st, w, a, b)) k)
    (C : ax_Cx i p l s m args meth c A D τ bS L xs) (hR : 1 ≤ R.frames ∧ 40 ≤ R.locals) (I : ax_In i s A D τ bS a0 b0 n0 σ0 ls w a b H locs cells slots σ lsA)
    (hbd : k.2.2.2.2.1 ≤ a0 + R.cells ∧ k.2.2.2.2.2 ≤ b0 + R.slots) (hgo : ax_Go i p l e R s m args below meth c A D τ bS a0 b0 n0 σ0 Q k) : W p l e R s m args below meth c H locs cells slots Q (F0 m pc lsA (st.map (ax_v σ))) := by
  obtain ⟨hi, hx, hb, hr, hml, hown, hts, hlocks, hnm, htab, hG, hA, hl9⟩ := C
  obtain ⟨hP, hD, hS, hl, hc, hσ, hn0, hca, hcb, hs0⟩ := id I
  have hd := ax_decn hi hat (by rfl)
  have hst := ax_stat hi hat
  simp only [ax_alts] at hn
  simp only [ax_stc, Bool.and_eq_true, Bool.or_eq_true] at hst
  obtain ⟨⟨hx7, hyN⟩, hfin⟩ := hst
  obtain ⟨hcl, hws, hty, hnmz⟩ := ax_class x (ax_blt hx7)
  split at hn
  · next v q r =>
    split at hn
    · next ci fs hw =>
      cases hz : (Nat.beq ci x && Nat.blt y fs.length && ax_fit (axTy x y) v) with
      | false => rw [hz] at hn; exact hn.elim
      | true =>
        rw [hz] at hn
        simp only [Bool.and_eq_true] at hz
        obtain ⟨⟨hz1, hz2⟩, hz3⟩ := hz
        have e1 := Nat.eq_of_beq_eq_true hz1
        subst e1
        cases hn
        obtain ⟨f1, f2⟩ := ax_fit_ok (σ := σ) hz3
        have hq : q < w.length := by rw [ax_nth_eq] at hw; exact (List.getElem?_eq_some_iff.mp hw).1
        have hlink := hts _ (ax_in_need hi (ax_at_mem _ _ hat) (w := .fieldLink (axO i) j (axTT ci y).1 (axTT ci y).2.1 (axTT ci y).2.2.1) (by simp [ax_need]) rfl)
        have hWs : (ax_W σ τ w).set q (σ (q + 1), .inr (ci, (fs.map (ax_v σ)).set y (ax_v σ v))) = ax_W σ τ (ax_upd w q (.inr (ci, ax_upd fs y v))) := by
          rw [ax_W_set σ τ w q _ hq]
          simp only [ax_e]
          rw [ax_upd_eq, List.map_set]
        have hlen : y < (fs.map (ax_v σ)).length := by rw [List.length_map]; exact ax_blt hz2
        have hn0' : n0 ≤ (ax_upd w q (.inr (ci, ax_upd fs y v))).length := by rw [ax_upd_eq, List.length_set]; exact hn0
        cases hf : (axTT ci y).2.2.2 with
        | false =>
          refine va_put (D := D) hx hb hts (fun w h => ax_in_cls (hws w h)) (axTy ci) hty hnmz hown hG.1 hP hD hS q (ax_W_some hw) hcl y (ax_blt hyN) hlink (fun _ h => h) hf (hty y (ax_blt hyN)) f1 f2 hlen hd (fun H1 locs1 h1 h2 h3 => ?_)
          rw [hWs] at h1 h2
          exact hgo _ _ _ _ _ _ ⟨h1, h2, h3, hl, hc, hσ, hn0', hca, hcb, hs0⟩
        | true =>
          rcases hfin with h9 | h9
          · rw [hf] at h9; cases h9
          · obtain ⟨h10, h11⟩ := h9
            refine va_putF (D := D) hx hb hts (fun w h => ax_in_cls (hws w h)) (axTy ci) hty hnmz hown hG.1 hP hD hS q (ax_W_some hw) hcl y (ax_blt hyN) hlink (fun _ h => h) hf (hnm.trans (of_decide_eq_true h10)) (of_decide_eq_true h11) (hty y (ax_blt hyN)) f1 f2 hlen hd (fun H1 locs1 h1 h2 h3 => ?_)
            rw [hWs] at h1 h2
            exact hgo _ _ _ _ _ _ ⟨h1, h2, h3, hl, hc, hσ, hn0', hca, hcb, hs0⟩
    · exact hn.elim
  · exact hn.elim

set_option maxHeartbeats 1000000 in
theorem as_iaload (hat : ax_at (axT i) pc = some (.iaload, x, y)) (hn : ax_next (ax_alts L xs .iaload x y (pc, ls, st, w, a, b)) k)
    (C : ax_Cx i p l s m args meth c A D τ bS L xs) (hR : 1 ≤ R.frames ∧ 40 ≤ R.locals) (I : ax_In i s A D τ bS a0 b0 n0 σ0 ls w a b H locs cells slots σ lsA)
    (hbd : k.2.2.2.2.1 ≤ a0 + R.cells ∧ k.2.2.2.2.2 ≤ b0 + R.slots) (hgo : ax_Go i p l e R s m args below meth c A D τ bS a0 b0 n0 σ0 Q k) : W p l e R s m args below meth c H locs cells slots Q (F0 m pc lsA (st.map (ax_v σ))) := by
  obtain ⟨hi, hx, hb, hr, hml, hown, hts, hlocks, hnm, htab, hG, hA, hl9⟩ := C
  obtain ⟨hP, hD, hS, hl, hc, hσ, hn0, hca, hcb, hs0⟩ := id I
  have hd := ax_decn hi hat (by rfl)
  have hst := ax_stat hi hat
  simp only [ax_alts] at hn
  split at hn
  · obtain ⟨P, hm, hp⟩ := hn
    rw [List.mem_singleton] at hm
    cases hm
    simp only [List.map_cons, ax_v]
    rw [hs0]
    exact va_sld hx hb hG.2.1 hG.2.2.1 hG.2.2.2.1 hS hp hd (hgo _ _ _ _ _ _ I)
  · split at hn
    · next n f hw =>
      obtain ⟨P, hm, hp⟩ := hn
      rw [List.mem_singleton] at hm
      cases hm
      exact va_iald hx hb hG.1 hP _ 0 (ax_W_some hw) rfl hp hd (hgo _ _ _ _ _ _ I)
    · exact hn.elim
  · exact hn.elim

set_option maxHeartbeats 1000000 in
theorem as_baload (hat : ax_at (axT i) pc = some (.baload, x, y)) (hn : ax_next (ax_alts L xs .baload x y (pc, ls, st, w, a, b)) k)
    (C : ax_Cx i p l s m args meth c A D τ bS L xs) (hR : 1 ≤ R.frames ∧ 40 ≤ R.locals) (I : ax_In i s A D τ bS a0 b0 n0 σ0 ls w a b H locs cells slots σ lsA)
    (hbd : k.2.2.2.2.1 ≤ a0 + R.cells ∧ k.2.2.2.2.2 ≤ b0 + R.slots) (hgo : ax_Go i p l e R s m args below meth c A D τ bS a0 b0 n0 σ0 Q k) : W p l e R s m args below meth c H locs cells slots Q (F0 m pc lsA (st.map (ax_v σ))) := by
  obtain ⟨hi, hx, hb, hr, hml, hown, hts, hlocks, hnm, htab, hG, hA, hl9⟩ := C
  obtain ⟨hP, hD, hS, hl, hc, hσ, hn0, hca, hcb, hs0⟩ := id I
  have hd := ax_decn hi hat (by rfl)
  have hst := ax_stat hi hat
  simp only [ax_alts] at hn
  split at hn
  · split at hn
    · next n f hw =>
      obtain ⟨P, hm, hp⟩ := hn
      rw [List.mem_singleton] at hm
      cases hm
      exact va_zald hx hb hG.1 hP _ 1 (ax_W_some hw) rfl hp hd (hgo _ _ _ _ _ _ I)
    · exact hn.elim
  · exact hn.elim

set_option maxHeartbeats 1000000 in
theorem as_laload (hat : ax_at (axT i) pc = some (.laload, x, y)) (hn : ax_next (ax_alts L xs .laload x y (pc, ls, st, w, a, b)) k)
    (C : ax_Cx i p l s m args meth c A D τ bS L xs) (hR : 1 ≤ R.frames ∧ 40 ≤ R.locals) (I : ax_In i s A D τ bS a0 b0 n0 σ0 ls w a b H locs cells slots σ lsA)
    (hbd : k.2.2.2.2.1 ≤ a0 + R.cells ∧ k.2.2.2.2.2 ≤ b0 + R.slots) (hgo : ax_Go i p l e R s m args below meth c A D τ bS a0 b0 n0 σ0 Q k) : W p l e R s m args below meth c H locs cells slots Q (F0 m pc lsA (st.map (ax_v σ))) := by
  obtain ⟨hi, hx, hb, hr, hml, hown, hts, hlocks, hnm, htab, hG, hA, hl9⟩ := C
  obtain ⟨hP, hD, hS, hl, hc, hσ, hn0, hca, hcb, hs0⟩ := id I
  have hd := ax_decn hi hat (by rfl)
  have hst := ax_stat hi hat
  simp only [ax_alts] at hn
  split at hn
  · split at hn
    · next n f hw =>
      obtain ⟨P, hm, hp⟩ := hn
      rw [List.mem_singleton] at hm
      cases hm
      exact va_lald hx hb hG.1 hP _ 2 (ax_W_some hw) rfl hp hd (hgo _ _ _ _ _ _ I)
    · exact hn.elim
  · exact hn.elim

set_option maxHeartbeats 1000000 in
theorem as_iastore (hat : ax_at (axT i) pc = some (.iastore, x, y)) (hn : ax_next (ax_alts L xs .iastore x y (pc, ls, st, w, a, b)) k)
    (C : ax_Cx i p l s m args meth c A D τ bS L xs) (hR : 1 ≤ R.frames ∧ 40 ≤ R.locals) (I : ax_In i s A D τ bS a0 b0 n0 σ0 ls w a b H locs cells slots σ lsA)
    (hbd : k.2.2.2.2.1 ≤ a0 + R.cells ∧ k.2.2.2.2.2 ≤ b0 + R.slots) (hgo : ax_Go i p l e R s m args below meth c A D τ bS a0 b0 n0 σ0 Q k) : W p l e R s m args below meth c H locs cells slots Q (F0 m pc lsA (st.map (ax_v σ))) := by
  obtain ⟨hi, hx, hb, hr, hml, hown, hts, hlocks, hnm, htab, hG, hA, hl9⟩ := C
  obtain ⟨hP, hD, hS, hl, hc, hσ, hn0, hca, hcb, hs0⟩ := id I
  have hd := ax_decn hi hat (by rfl)
  have hst := ax_stat hi hat
  simp only [ax_alts] at hn
  split at hn
  · next q r =>
    split at hn
    · next n f hw =>
      obtain ⟨P, hm, hp⟩ := hn
      rw [List.mem_singleton] at hm
      cases hm
      have hq : q < w.length := by rw [ax_nth_eq] at hw; exact (List.getElem?_eq_some_iff.mp hw).1
      refine va_iast hx hb hG.1 hP hD hS _ 0 (ax_W_some hw) rfl hp hd (fun H1 locs1 h1 h2 h3 => ?_)
      have e1 := fun c9 => (ax_W_set σ τ w q c9 hq)
      refine hgo _ _ _ _ _ _ ⟨?_, ?_, h3, hl, hc, hσ, by rw [ax_upd_eq, List.length_set]; exact hn0, hca, hcb, hs0⟩
      · show va_P D axCl (ax_W σ τ (ax_upd w q _)) H1
        rw [e1]
        exact h1
      · show va_D A (ax_W σ τ (ax_upd w q _))
        rw [e1]
        exact h2
    · exact hn.elim
  · exact hn.elim

set_option maxHeartbeats 1000000 in
theorem as_bastore (hat : ax_at (axT i) pc = some (.bastore, x, y)) (hn : ax_next (ax_alts L xs .bastore x y (pc, ls, st, w, a, b)) k)
    (C : ax_Cx i p l s m args meth c A D τ bS L xs) (hR : 1 ≤ R.frames ∧ 40 ≤ R.locals) (I : ax_In i s A D τ bS a0 b0 n0 σ0 ls w a b H locs cells slots σ lsA)
    (hbd : k.2.2.2.2.1 ≤ a0 + R.cells ∧ k.2.2.2.2.2 ≤ b0 + R.slots) (hgo : ax_Go i p l e R s m args below meth c A D τ bS a0 b0 n0 σ0 Q k) : W p l e R s m args below meth c H locs cells slots Q (F0 m pc lsA (st.map (ax_v σ))) := by
  obtain ⟨hi, hx, hb, hr, hml, hown, hts, hlocks, hnm, htab, hG, hA, hl9⟩ := C
  obtain ⟨hP, hD, hS, hl, hc, hσ, hn0, hca, hcb, hs0⟩ := id I
  have hd := ax_decn hi hat (by rfl)
  have hst := ax_stat hi hat
  simp only [ax_alts] at hn
  split at hn
  · next q r =>
    split at hn
    · next n f hw =>
      obtain ⟨P, hm, hp⟩ := hn
      rw [List.mem_singleton] at hm
      cases hm
      have hq : q < w.length := by rw [ax_nth_eq] at hw; exact (List.getElem?_eq_some_iff.mp hw).1
      refine va_zast hx hb hG.1 hP hD hS _ 1 (ax_W_some hw) rfl hp hd (fun H1 locs1 h1 h2 h3 => ?_)
      have e1 := fun c9 => (ax_W_set σ τ w q c9 hq)
      refine hgo _ _ _ _ _ _ ⟨?_, ?_, h3, hl, hc, hσ, by rw [ax_upd_eq, List.length_set]; exact hn0, hca, hcb, hs0⟩
      · show va_P D axCl (ax_W σ τ (ax_upd w q _)) H1
        rw [e1]
        exact h1
      · show va_D A (ax_W σ τ (ax_upd w q _))
        rw [e1]
        exact h2
    · exact hn.elim
  · exact hn.elim

set_option maxHeartbeats 1000000 in
theorem as_lastore (hat : ax_at (axT i) pc = some (.lastore, x, y)) (hn : ax_next (ax_alts L xs .lastore x y (pc, ls, st, w, a, b)) k)
    (C : ax_Cx i p l s m args meth c A D τ bS L xs) (hR : 1 ≤ R.frames ∧ 40 ≤ R.locals) (I : ax_In i s A D τ bS a0 b0 n0 σ0 ls w a b H locs cells slots σ lsA)
    (hbd : k.2.2.2.2.1 ≤ a0 + R.cells ∧ k.2.2.2.2.2 ≤ b0 + R.slots) (hgo : ax_Go i p l e R s m args below meth c A D τ bS a0 b0 n0 σ0 Q k) : W p l e R s m args below meth c H locs cells slots Q (F0 m pc lsA (st.map (ax_v σ))) := by
  obtain ⟨hi, hx, hb, hr, hml, hown, hts, hlocks, hnm, htab, hG, hA, hl9⟩ := C
  obtain ⟨hP, hD, hS, hl, hc, hσ, hn0, hca, hcb, hs0⟩ := id I
  have hd := ax_decn hi hat (by rfl)
  have hst := ax_stat hi hat
  simp only [ax_alts] at hn
  split at hn
  · next q r =>
    split at hn
    · next n f hw =>
      obtain ⟨P, hm, hp⟩ := hn
      rw [List.mem_singleton] at hm
      cases hm
      have hq : q < w.length := by rw [ax_nth_eq] at hw; exact (List.getElem?_eq_some_iff.mp hw).1
      refine va_last hx hb hG.1 hP hD hS _ 2 (ax_W_some hw) rfl hp hd (fun H1 locs1 h1 h2 h3 => ?_)
      have e1 := fun c9 => (ax_W_set σ τ w q c9 hq)
      refine hgo _ _ _ _ _ _ ⟨?_, ?_, h3, hl, hc, hσ, by rw [ax_upd_eq, List.length_set]; exact hn0, hca, hcb, hs0⟩
      · show va_P D axCl (ax_W σ τ (ax_upd w q _)) H1
        rw [e1]
        exact h1
      · show va_D A (ax_W σ τ (ax_upd w q _))
        rw [e1]
        exact h2
    · exact hn.elim
  · exact hn.elim

set_option maxHeartbeats 1000000 in
theorem as_arraylength (hat : ax_at (axT i) pc = some (.arraylength, x, y)) (hn : ax_next (ax_alts L xs .arraylength x y (pc, ls, st, w, a, b)) k)
    (C : ax_Cx i p l s m args meth c A D τ bS L xs) (hR : 1 ≤ R.frames ∧ 40 ≤ R.locals) (I : ax_In i s A D τ bS a0 b0 n0 σ0 ls w a b H locs cells slots σ lsA)
    (hbd : k.2.2.2.2.1 ≤ a0 + R.cells ∧ k.2.2.2.2.2 ≤ b0 + R.slots) (hgo : ax_Go i p l e R s m args below meth c A D τ bS a0 b0 n0 σ0 Q k) : W p l e R s m args below meth c H locs cells slots Q (F0 m pc lsA (st.map (ax_v σ))) := by
  obtain ⟨hi, hx, hb, hr, hml, hown, hts, hlocks, hnm, htab, hG, hA, hl9⟩ := C
  obtain ⟨hP, hD, hS, hl, hc, hσ, hn0, hca, hcb, hs0⟩ := id I
  have hd := ax_decn hi hat (by rfl)
  have hst := ax_stat hi hat
  simp only [ax_alts] at hn
  split at hn
  · cases hn
    simp only [List.map_cons, ax_v]
    rw [hs0]
    exact va_slen hx hb hG.2.1 hG.2.2.1 hG.2.2.2.1 hS hd (hgo _ _ _ _ _ _ I)
  · split at hn
    · next n f hw =>
      cases hn
      exact va_alen hx hb hG.1 hP _ 0 (ax_W_some hw) rfl rfl hd (hgo _ _ _ _ _ _ I)
    · exact hn.elim
  · exact hn.elim

set_option maxHeartbeats 1000000 in
theorem as_objinit {j : Nat} (hat : ax_at (axT i) pc = some ((.invokespecial j), x, y)) (hn : ax_next (ax_alts L xs (.invokespecial j) x y (pc, ls, st, w, a, b)) k)
    (C : ax_Cx i p l s m args meth c A D τ bS L xs) (hR : 1 ≤ R.frames ∧ 40 ≤ R.locals) (I : ax_In i s A D τ bS a0 b0 n0 σ0 ls w a b H locs cells slots σ lsA)
    (hbd : k.2.2.2.2.1 ≤ a0 + R.cells ∧ k.2.2.2.2.2 ≤ b0 + R.slots) (hgo : ax_Go i p l e R s m args below meth c A D τ bS a0 b0 n0 σ0 Q k) : W p l e R s m args below meth c H locs cells slots Q (F0 m pc lsA (st.map (ax_v σ))) := by
  obtain ⟨hi, hx, hb, hr, hml, hown, hts, hlocks, hnm, htab, hG, hA, hl9⟩ := C
  obtain ⟨hP, hD, hS, hl, hc, hσ, hn0, hca, hcb, hs0⟩ := id I
  have hd := ax_decn hi hat (by rfl)
  have hst := ax_stat hi hat
  simp only [ax_alts] at hn
  split at hn
  · next r =>
    cases hz : ax_wt r with
    | false => rw [hz] at hn; exact hn.elim
    | true =>
      rw [hz] at hn
      cases hn
      have hw := Nat.le_of_ble_eq_true hz
      refine W.objInit hx hb hown (hts _ (ax_in_need hi (ax_at_mem _ _ hat) (w := .methodLink (axO i) j objectInit) (by simp [ax_need]) rfl)) (hts _ (ax_in_need hi (ax_at_mem _ _ hat) (w := .instanceMethod objectInit) (by simp [ax_need]) rfl)) (hts _ (ax_in_need hi (ax_at_mem _ _ hat) (w := .code objectInit ⟨#[0xb1]⟩ 1 none) (by simp [ax_need]) rfl)) rfl (by rw [hml]; exact hl.1) rfl hd hR.1 (by
        show 2 * 0 + _ + 12 ≤ _
        rw [ax_v_cats]
        omega) (hgo _ _ _ _ _ _ I)
  · exact hn.elim

set_option maxHeartbeats 1000000 in
theorem as_math {j : Nat} (hat : ax_at (axT i) pc = some ((.invokestatic j), x, y)) (hn : ax_next (ax_alts L xs (.invokestatic j) x y (pc, ls, st, w, a, b)) k)
    (C : ax_Cx i p l s m args meth c A D τ bS L xs) (hR : 1 ≤ R.frames ∧ 40 ≤ R.locals) (I : ax_In i s A D τ bS a0 b0 n0 σ0 ls w a b H locs cells slots σ lsA)
    (hbd : k.2.2.2.2.1 ≤ a0 + R.cells ∧ k.2.2.2.2.2 ≤ b0 + R.slots) (hgo : ax_Go i p l e R s m args below meth c A D τ bS a0 b0 n0 σ0 Q k) : W p l e R s m args below meth c H locs cells slots Q (F0 m pc lsA (st.map (ax_v σ))) := by
  obtain ⟨hi, hx, hb, hr, hml, hown, hts, hlocks, hnm, htab, hG, hA, hl9⟩ := C
  obtain ⟨hP, hD, hS, hl, hc, hσ, hn0, hca, hcb, hs0⟩ := id I
  have hd := ax_decn hi hat (by rfl)
  have hst := ax_stat hi hat
  simp only [ax_alts] at hn
  split at hn
  · next r =>
    cases hz : ax_wt r with
    | false => rw [hz] at hn; exact hn.elim
    | true =>
      rw [hz] at hn
      cases hn
      have hw := Nat.le_of_ble_eq_true hz
      have hq := hbd.1
      have hq2 := hbd.2
      simp only at hq hq2
      exact va_mmax hx hb (by rw [hml]; exact hl.1.symm) hown (hts _ (ax_in_need hi (ax_at_mem _ _ hat) (w := .methodLink (axO i) j Lib.Math.max.name) (by simp [ax_need]) rfl)) (hts _ (ax_in_need hi (ax_at_mem _ _ hat) (w := .static Lib.Math.max.name) (by simp [ax_need]) rfl)) (hts _ (ax_in_need hi (ax_at_mem _ _ hat) (w := .initialized "java/lang/Math") (by simp [ax_need]) rfl)) (hts _ (ax_in_need hi (ax_at_mem _ _ hat) (w := .code Lib.Math.max.name Lib.Math.max.code 2 (some .int)) (by simp [ax_need]) rfl)) hR.1 (by
        rw [ax_v_cats]
        omega) (by omega) (by omega) hd (hgo _ _ _ _ _ _ I)
  · next r =>
    cases hz : ax_wt r with
    | false => rw [hz] at hn; exact hn.elim
    | true =>
      rw [hz] at hn
      cases hn
      have hw := Nat.le_of_ble_eq_true hz
      have hq := hbd.1
      have hq2 := hbd.2
      simp only at hq hq2
      exact va_mmin hx hb (by rw [hml]; exact hl.1.symm) hown (hts _ (ax_in_need hi (ax_at_mem _ _ hat) (w := .methodLink (axO i) j Lib.Math.min.name) (by simp [ax_need]) rfl)) (hts _ (ax_in_need hi (ax_at_mem _ _ hat) (w := .static Lib.Math.min.name) (by simp [ax_need]) rfl)) (hts _ (ax_in_need hi (ax_at_mem _ _ hat) (w := .initialized "java/lang/Math") (by simp [ax_need]) rfl)) (hts _ (ax_in_need hi (ax_at_mem _ _ hat) (w := .code Lib.Math.min.name Lib.Math.min.code 2 (some .int)) (by simp [ax_need]) rfl)) hR.1 (by
        rw [ax_v_cats]
        omega) (by omega) (by omega) hd (hgo _ _ _ _ _ _ I)
  · next r =>
    cases hz : ax_wt r with
    | false => rw [hz] at hn; exact hn.elim
    | true =>
      rw [hz] at hn
      cases hn
      have hw := Nat.le_of_ble_eq_true hz
      have hq := hbd.1
      have hq2 := hbd.2
      simp only at hq hq2
      exact va_mabs hx hb (by rw [hml]; exact hl.1.symm) hown (hts _ (ax_in_need hi (ax_at_mem _ _ hat) (w := .methodLink (axO i) j Lib.Math.abs.name) (by simp [ax_need]) rfl)) (hts _ (ax_in_need hi (ax_at_mem _ _ hat) (w := .static Lib.Math.abs.name) (by simp [ax_need]) rfl)) (hts _ (ax_in_need hi (ax_at_mem _ _ hat) (w := .initialized "java/lang/Math") (by simp [ax_need]) rfl)) (hts _ (ax_in_need hi (ax_at_mem _ _ hat) (w := .code Lib.Math.abs.name Lib.Math.abs.code 1 (some .int)) (by simp [ax_need]) rfl)) hR.1 (by
        rw [ax_v_cats]
        omega) (by omega) (by omega) hd (hgo _ _ _ _ _ _ I)
  · exact hn.elim

set_option maxHeartbeats 1000000 in
theorem as_tableswitch {dflt lo hi9 : Int} {offs : Array Int} (hat : ax_at (axT i) pc = some ((.tableswitch dflt lo hi9 offs), x, y)) (hn : ax_next (ax_alts L xs (.tableswitch dflt lo hi9 offs) x y (pc, ls, st, w, a, b)) k)
    (C : ax_Cx i p l s m args meth c A D τ bS L xs) (hR : 1 ≤ R.frames ∧ 40 ≤ R.locals) (I : ax_In i s A D τ bS a0 b0 n0 σ0 ls w a b H locs cells slots σ lsA)
    (hbd : k.2.2.2.2.1 ≤ a0 + R.cells ∧ k.2.2.2.2.2 ≤ b0 + R.slots) (hgo : ax_Go i p l e R s m args below meth c A D τ bS a0 b0 n0 σ0 Q k) : W p l e R s m args below meth c H locs cells slots Q (F0 m pc lsA (st.map (ax_v σ))) := by
  obtain ⟨hi, hx, hb, hr, hml, hown, hts, hlocks, hnm, htab, hG, hA, hl9⟩ := C
  obtain ⟨n9, hd, -⟩ := ax_decs hi hat
  have hst := ax_stat hi hat
  simp only [ax_alts] at hn
  simp only [ax_stc, Bool.and_eq_true] at hst
  obtain ⟨⟨hs1, hs2⟩, hs3⟩ := hst
  have hs3 := of_decide_eq_true hs3
  split at hn
  · next z r =>
    obtain ⟨P, hm, hp⟩ := hn
    obtain ⟨q, hq, he⟩ := List.mem_map.mp hm
    obtain ⟨e1, e2⟩ := Prod.mk.inj he
    subst e1; subst e2
    rcases List.mem_cons.mp hq with h1 | h1
    · subst h1
      exact lv_tableOut hx hb hd hp (ax_tg_eq hs1) (hgo _ _ _ _ _ _ I)
    · obtain ⟨j, off, q1, q2, q3⟩ := ax_sw_mem offs.toList 0 (P := q.1) (t := q.2) h1 hp
      have hj : j < offs.toList.length := (List.getElem?_eq_some_iff.mp q1).1
      rw [Nat.zero_add] at q2
      have hof : offs[(z.toInt - lo).toNat]? = some off := by
        rw [q2, show lo + (j : Int) - lo = (j : Int) by omega, Int.toNat_natCast, ← Array.getElem?_toList]
        exact q1
      have hG2 := hgo _ _ _ _ _ _ I
      simp only [q3] at hG2
      exact lv_tableIn hx hb hd (by omega) (by omega) hof (ax_tg_eq (List.all_eq_true.mp hs2 off (List.mem_of_getElem? q1))) hG2
  · exact hn.elim

set_option maxHeartbeats 1000000 in
theorem as_lookupswitch {dflt : Int} {ps : Array (Int × Int)} (hat : ax_at (axT i) pc = some ((.lookupswitch dflt ps), x, y)) (hn : ax_next (ax_alts L xs (.lookupswitch dflt ps) x y (pc, ls, st, w, a, b)) k)
    (C : ax_Cx i p l s m args meth c A D τ bS L xs) (hR : 1 ≤ R.frames ∧ 40 ≤ R.locals) (I : ax_In i s A D τ bS a0 b0 n0 σ0 ls w a b H locs cells slots σ lsA)
    (hbd : k.2.2.2.2.1 ≤ a0 + R.cells ∧ k.2.2.2.2.2 ≤ b0 + R.slots) (hgo : ax_Go i p l e R s m args below meth c A D τ bS a0 b0 n0 σ0 Q k) : W p l e R s m args below meth c H locs cells slots Q (F0 m pc lsA (st.map (ax_v σ))) := by
  obtain ⟨hi, hx, hb, hr, hml, hown, hts, hlocks, hnm, htab, hG, hA, hl9⟩ := C
  obtain ⟨n9, hd, -⟩ := ax_decs hi hat
  have hst := ax_stat hi hat
  simp only [ax_alts] at hn
  simp only [ax_stc, Bool.and_eq_true] at hst
  obtain ⟨⟨hs1, hs2⟩, hs3⟩ := hst
  split at hn
  · next z r =>
    obtain ⟨P, hm, hp⟩ := hn
    obtain ⟨q, hq, he⟩ := List.mem_map.mp hm
    obtain ⟨e1, e2⟩ := Prod.mk.inj he
    subst e1; subst e2
    obtain ⟨off, q1, q2, q3⟩ := ax_lk_mem _ (P := q.1) (t := q.2) hq hp
    have hG2 := hgo _ _ _ _ _ _ I
    simp only [q3] at hG2
    refine lv_lookup hx hb hd hs3 q2 (ax_tg_eq ?_) hG2
    rcases List.mem_cons.mp q1 with h1 | h1
    · rw [h1]; exact hs1
    · obtain ⟨z9, h2, h3⟩ := List.mem_map.mp h1
      rw [← h3]
      exact List.all_eq_true.mp hs2 z9 h2
  · exact hn.elim

set_option maxHeartbeats 1000000 in
theorem as_new {j : Nat} (hk : ax_kind (.new j) x = 0) (hat : ax_at (axT i) pc = some ((.new j), x, y)) (hn : ax_next (ax_alts L xs (.new j) x y (pc, ls, st, w, a, b)) k)
    (C : ax_Cx i p l s m args meth c A D τ bS L xs) (hR : 1 ≤ R.frames ∧ 40 ≤ R.locals) (I : ax_In i s A D τ bS a0 b0 n0 σ0 ls w a b H locs cells slots σ lsA)
    (hbd : k.2.2.2.2.1 ≤ a0 + R.cells ∧ k.2.2.2.2.2 ≤ b0 + R.slots) (hgo : ax_Go i p l e R s m args below meth c A D τ bS a0 b0 n0 σ0 Q k) : W p l e R s m args below meth c H locs cells slots Q (F0 m pc lsA (st.map (ax_v σ))) := by
  obtain ⟨hi, hx, hb, hr, hml, hown, hts, hlocks, hnm, htab, hG, hA, hl9⟩ := C
  obtain ⟨hP, hD, hS, hl, hc, hσ, hn0, hca, hcb, hs0⟩ := id I
  have hd := ax_decn hi hat (by rfl)
  have hst := ax_stat hi hat
  simp only [ax_alts] at hn
  have hx7 : Nat.blt x 7 = true := by
    cases h7 : Nat.blt x 100 with
    | false => simp [ax_kind, h7] at hk
    | true =>
      simp only [ax_stc, Bool.or_eq_true, Bool.and_eq_true] at hst
      rcases hst with h | h
      · exact h
      · have := Nat.le_of_ble_eq_true h.1.1.1.1.1.1.1.1.1.1
        have := ax_blt h7
        omega
  have hxlt := ax_blt hx7
  have h100 : Nat.blt x 100 = true := by
    show Nat.ble (x + 1) 100 = true
    exact Nat.ble_eq_true_of_le (by omega)
  obtain ⟨hcl, hws, hty, hnmz⟩ := ax_class x hxlt
  cases hz : (ax_fr w.length ls st && w.all (ax_we w.length)) with
  | false => rw [hz] at hn; exact hn.elim
  | true =>
    rw [hz] at hn
    cases hn
    simp only [ax_fr, Bool.and_eq_true] at hz
    obtain ⟨⟨hz1, hz2⟩, hz3⟩ := hz
    have hq1 := hbd.1
    have hq2 := hbd.2
    simp only at hq1 hq2
    have hf : ∀ u, u ∈ ([.classLink (axO i) j (axRN x), .instantiable (axRN x) (axNF x), .initialized (axRN x)] : List Cond) → u.before args s = true := fun u hu => hts _ (ax_in_need hi (ax_at_mem _ _ hat) (w := u) (by simp only [ax_need, h100, cond_true]; exact hu) (by
      simp only [List.mem_cons, List.not_mem_nil, or_false] at hu
      rcases hu with rfl | rfl | rfl <;> rfl))
    refine va_new (D := D) (ci := x) (fs := ax_dfl x) hx hb hts (fun w h => ax_in_cls (hws w h)) (axTy x) hty hown (hf _ (by simp)) (hf _ (by simp)) (hf _ (by simp)) hG.1 hP hD hS hA hcl (fun j9 hj9 => ?_) (by omega) (by omega) hd (fun q H1 h1 h2 h3 => ?_)
    · unfold ax_dfl vp_V
      simp [hj9]
    · obtain ⟨σ1, hσ1⟩ : ∃ z : Nat → Nat, z = fun k => if k = w.length + 1 then q else σ k := ⟨_, rfl⟩
      have hext : ∀ k, k ≤ w.length → σ1 k = σ k := fun k hk9 => by rw [hσ1]; simp only; rw [if_neg (by omega)]
      have hnew : σ1 (w.length + 1) = q := by rw [hσ1]; simp
      have hWn : ax_W σ1 τ (w ++ [.inr (x, ax_dfl x)]) = ax_W σ τ w ++ [(q, .inr (x, ax_dfl x))] := by
        rw [ax_W_push, ax_W_ext hext hz3, hnew]
        congr 1
        simp only [ax_e]
        congr 4
        conv => rhs; rw [← List.map_id (ax_dfl x)]
        apply List.map_congr_left
        intro v hv
        unfold ax_dfl at hv
        obtain ⟨k9, -, rfl⟩ := List.mem_map.mp hv
        cases axTy x k9 <;> rfl
      have hGo := hgo H1 locs (cells + 1) (slots + axNF x) σ1 lsA ⟨by show va_P D axCl (ax_W σ1 τ (w ++ [.inr (x, ax_dfl x)])) H1; rw [hWn]; exact h1, by show va_D A (ax_W σ1 τ (w ++ [.inr (x, ax_dfl x)])); rw [hWn]; exact h2, h3, by rw [ax_l_ext hext hz1]; exact hl, hc, fun k9 h9 => (hext k9 (by omega)).trans (hσ k9 h9), by simp only [List.length_append]; omega, by simp only; omega, by simp only; omega, (hext 0 (Nat.zero_le _)).trans hs0⟩
      simp only [List.map_cons, ax_v, hnew, ax_vs_ext hext hz2] at hGo
      exact hGo

set_option maxHeartbeats 1000000 in
theorem as_newarray {t : ArrayType} (hat : ax_at (axT i) pc = some ((.newarray t), x, y)) (hn : ax_next (ax_alts L xs (.newarray t) x y (pc, ls, st, w, a, b)) k)
    (C : ax_Cx i p l s m args meth c A D τ bS L xs) (hR : 1 ≤ R.frames ∧ 40 ≤ R.locals) (I : ax_In i s A D τ bS a0 b0 n0 σ0 ls w a b H locs cells slots σ lsA)
    (hbd : k.2.2.2.2.1 ≤ a0 + R.cells ∧ k.2.2.2.2.2 ≤ b0 + R.slots) (hgo : ax_Go i p l e R s m args below meth c A D τ bS a0 b0 n0 σ0 Q k) : W p l e R s m args below meth c H locs cells slots Q (F0 m pc lsA (st.map (ax_v σ))) := by
  obtain ⟨hi, hx, hb, hr, hml, hown, hts, hlocks, hnm, htab, hG, hA, hl9⟩ := C
  obtain ⟨hP, hD, hS, hl, hc, hσ, hn0, hca, hcb, hs0⟩ := id I
  have hd := ax_decn hi hat (by rfl)
  have hst := ax_stat hi hat
  simp only [ax_alts] at hn
  simp only [ax_stc, Bool.and_eq_true] at hst
  obtain ⟨⟨hs1, hs2⟩, hs3⟩ := hst
  have hs1 := of_decide_eq_true hs1
  have hs3 := Nat.le_of_ble_eq_true hs3
  split at hn
  · next z r =>
    cases hz : (ax_fr w.length ls r && w.all (ax_we w.length)) with
    | false => rw [hz] at hn; exact hn.elim
    | true =>
      rw [hz] at hn
      obtain ⟨P, hm, hp⟩ := hn
      rw [List.mem_singleton] at hm
      cases hm
      simp only [ax_fr, Bool.and_eq_true] at hz
      obtain ⟨⟨hz1, hz2⟩, hz3⟩ := hz
      have hq1 := hbd.1
      have hq2 := hbd.2
      simp only at hq1 hq2
      subst hp
      obtain ⟨t0, va, hva, hvb, hvc⟩ : ∃ (t0 : Nat) (va : vp_A), ax_anew x y = .inl (t0, va) ∧ (axTys τ)[t0]? = some (τ t0, ax_aty y) ∧ ∀ cA : ClassId, vp_cell cA va = arrV cA x (fun _ => defaultValue (ax_aty y)) := by
        match y, ax_blt hs2 with
        | 0, _ => exact ⟨0, _, rfl, rfl, fun cA => rfl⟩
        | 1, _ => exact ⟨1, _, rfl, rfl, fun cA => rfl⟩
        | 2, _ => exact ⟨2, _, rfl, rfl, fun cA => rfl⟩
        | n + 3, h => exact absurd h (by omega)
      have hcb9 : x * componentBytes (ax_aty y) ≤ 536870912 := by
        have : componentBytes (ax_aty y) ≤ 8 := by
          match y, ax_blt hs2 with
          | 0, _ => decide
          | 1, _ => decide
          | 2, _ => decide
          | n + 3, h => exact absurd h (by omega)
        calc x * componentBytes (ax_aty y) ≤ 60000 * 8 := Nat.mul_le_mul hs3 this
          _ ≤ 536870912 := by decide
      refine va_newa (D := D) hx hb (hts _ (ax_in_need hi (ax_at_mem _ _ hat) (w := .arrayClass (newarray.typeOf t)) (by simp [ax_need]) rfl)) hs1 hG.1 hP hD hS hA (a0 := va) hvc (nI_pos (by omega)) (nI_clamp (by omega)) hcb9 (by omega) (by omega) hd (fun q cA H1 hK1 h1 h2 h3 => ?_)
      have hcA : cA = τ t0 := by
        have e1 := (hK1.2 3 (cA, ax_aty y) rfl).2
        have e2 := (hG.1.2 t0 _ hvb).2
        have hfc : s.vm.findClass ("[" ++ (ax_aty y).toString) = some cA := by
          match y, ax_blt hs2 with
          | 0, _ => exact e1
          | 1, _ => exact e1
          | 2, _ => exact e1
          | n + 3, h => exact absurd h (by omega)
        have hfd : s.vm.findClass ("[" ++ (ax_aty y).toString) = some (τ t0) := by
          match y, ax_blt hs2 with
          | 0, _ => exact e2
          | 1, _ => exact e2
          | 2, _ => exact e2
          | n + 3, h => exact absurd h (by omega)
        exact Option.some.inj (hfc.symm.trans hfd)
      subst hcA
      obtain ⟨σ1, hσ1⟩ : ∃ z : Nat → Nat, z = fun k => if k = w.length + 1 then q else σ k := ⟨_, rfl⟩
      have hext : ∀ k, k ≤ w.length → σ1 k = σ k := fun k hk9 => by rw [hσ1]; simp only; rw [if_neg (by omega)]
      have hnew : σ1 (w.length + 1) = q := by rw [hσ1]; simp
      have hWn : ax_W σ1 τ (w ++ [ax_anew x y]) = ax_W σ τ w ++ [(q, .inl (τ t0, va))] := by
        rw [ax_W_push, ax_W_ext hext hz3, hnew, hva]
        rfl
      have hGo := hgo H1 locs (cells + 1) (slots + x) σ1 lsA ⟨by show va_P D axCl (ax_W σ1 τ (w ++ [ax_anew x y])) H1; rw [hWn]; exact h1, by show va_D A (ax_W σ1 τ (w ++ [ax_anew x y])); rw [hWn]; exact h2, h3, by rw [ax_l_ext hext hz1]; exact hl, hc, fun k9 h9 => (hext k9 (by omega)).trans (hσ k9 h9), by simp only [List.length_append]; omega, by simp only; omega, by simp only; omega, (hext 0 (Nat.zero_le _)).trans hs0⟩
      simp only [List.map_cons, ax_v, hnew, ax_vs_ext hext hz2] at hGo
      exact hGo
  · exact hn.elim

end AXS
end
section
section AXU
variable {p : Program} {l : Launch} {e : Env} {R : Room} {s : State} {m : MethodId} {args : Array Value} {below : List Frame} {meth : Method} {c : Code} {A : Nat → Prop} {D : va_G} {τ : Nat → ClassId} {bS L a0 b0 n0 : Nat} {xs : Nat → Int32} {σ0 : Nat → Nat} {Q : State → Prop}
variable {i pc x y a b cells slots : Nat} {ls : AxL} {st : List Value} {w : AxW} {H : Heap} {locs : List Loc} {σ : Nat → Nat} {lsA : Array Slot} {k : AxC}
set_option maxHeartbeats 4000000 in
/-- every simple instruction -/
theorem ax_simple {ins : Instr} (hk : ax_kind ins x = 0) (hat : ax_at (axT i) pc = some (ins, x, y)) (hn : ax_next (ax_alts L xs ins x y (pc, ls, st, w, a, b)) k)
    (C : ax_Cx i p l s m args meth c A D τ bS L xs) (hR : 1 ≤ R.frames ∧ 40 ≤ R.locals) (I : ax_In i s A D τ bS a0 b0 n0 σ0 ls w a b H locs cells slots σ lsA)
    (hbd : k.2.2.2.2.1 ≤ a0 + R.cells ∧ k.2.2.2.2.2 ≤ b0 + R.slots) (hgo : ax_Go i p l e R s m args below meth c A D τ bS a0 b0 n0 σ0 Q k) : W p l e R s m args below meth c H locs cells slots Q (F0 m pc lsA (st.map (ax_v σ))) := by
  cases ins
  case iload => exact as_iload hat hn C hR I hbd hgo
  case iload_n => exact as_iload_n hat hn C hR I hbd hgo
  case aload => exact as_aload hat hn C hR I hbd hgo
  case aload_n => exact as_aload_n hat hn C hR I hbd hgo
  case istore => exact as_istore hat hn C hR I hbd hgo
  case istore_n => exact as_istore_n hat hn C hR I hbd hgo
  case astore => exact as_astore hat hn C hR I hbd hgo
  case astore_n => exact as_astore_n hat hn C hR I hbd hgo
  case iconst => exact as_iconst hat hn C hR I hbd hgo
  case bipush => exact as_bipush hat hn C hR I hbd hgo
  case sipush => exact as_sipush hat hn C hR I hbd hgo
  case ldc => exact as_ldc hat hn C hR I hbd hgo
  case iinc => exact as_iinc hat hn C hR I hbd hgo
  case iadd => exact as_iadd hat hn C hR I hbd hgo
  case isub => exact as_isub hat hn C hR I hbd hgo
  case imul => exact as_imul hat hn C hR I hbd hgo
  case iand => exact as_iand hat hn C hR I hbd hgo
  case ixor => exact as_ixor hat hn C hR I hbd hgo
  case ishl => exact as_ishl hat hn C hR I hbd hgo
  case ishr => exact as_ishr hat hn C hR I hbd hgo
  case idiv => exact as_idiv hat hn C hR I hbd hgo
  case irem => exact as_irem hat hn C hR I hbd hgo
  case i2l => exact as_i2l hat hn C hR I hbd hgo
  case lcmp => exact as_lcmp hat hn C hR I hbd hgo
  case dup => exact as_dup hat hn C hR I hbd hgo
  case goto => exact as_goto hat hn C hR I hbd hgo
  case if_icmp => exact as_if_icmp hat hn C hR I hbd hgo
  case ifCond => exact as_ifCond hat hn C hR I hbd hgo
  case tableswitch => exact as_tableswitch hat hn C hR I hbd hgo
  case lookupswitch => exact as_lookupswitch hat hn C hR I hbd hgo
  case getfield => exact as_getfield hat hn C hR I hbd hgo
  case putfield => exact as_putfield hat hn C hR I hbd hgo
  case iaload => exact as_iaload hat hn C hR I hbd hgo
  case baload => exact as_baload hat hn C hR I hbd hgo
  case laload => exact as_laload hat hn C hR I hbd hgo
  case iastore => exact as_iastore hat hn C hR I hbd hgo
  case bastore => exact as_bastore hat hn C hR I hbd hgo
  case lastore => exact as_lastore hat hn C hR I hbd hgo
  case arraylength => exact as_arraylength hat hn C hR I hbd hgo
  case newarray => exact as_newarray hat hn C hR I hbd hgo
  case new => exact as_new hk hat hn C hR I hbd hgo
  case invokespecial => exact as_objinit hat hn C hR I hbd hgo
  case invokestatic => exact as_math hat hn C hR I hbd hgo
  all_goals exact hn.elim
end AXU
end
section
/-! Counts and cells only grow. -/
theorem ax_alts_mono {L : Nat} {xs : Nat → Int32} {ins : Instr} {x y pc a b : Nat} {ls : AxL} {st : List Value} {w : AxW} {k : AxC} (hn : ax_next (ax_alts L xs ins x y (pc, ls, st, w, a, b)) k) :
    a ≤ k.2.2.2.2.1 ∧ b ≤ k.2.2.2.2.2 ∧ w.length ≤ k.2.2.2.1.length := by
  cases ins
  case tableswitch =>
    simp only [ax_alts] at hn
    split at hn
    · obtain ⟨P, hm, -⟩ := hn
      obtain ⟨q, -, he⟩ := List.mem_map.mp hm
      cases he
      exact ⟨Nat.le_refl _, Nat.le_refl _, Nat.le_refl _⟩
    · exact hn.elim
  case lookupswitch =>
    simp only [ax_alts] at hn
    split at hn
    · obtain ⟨P, hm, -⟩ := hn
      obtain ⟨q, -, he⟩ := List.mem_map.mp hm
      cases he
      exact ⟨Nat.le_refl _, Nat.le_refl _, Nat.le_refl _⟩
    · exact hn.elim
  all_goals
    simp only [ax_alts, ax_b2, Bool.cond_eq_ite] at hn
    (repeat' split at hn)
  all_goals first
    | exact hn.elim
    | (cases hn; exact ⟨Nat.le_refl _, Nat.le_refl _, Nat.le_refl _⟩)
    | (cases hn; simp [ax_upd_eq]; done)
    | (obtain ⟨P, hm, -⟩ := hn
       rcases List.mem_cons.mp hm with hm | hm
       · cases hm; simp [ax_upd_eq]
       · first
         | (rw [List.mem_singleton] at hm; cases hm; simp [ax_upd_eq]; done)
         | cases hm)
theorem ax_ev_mono {L : Nat} {xs : Nat → Int32} : ∀ (n d i : Nat) (k : AxC) (res : AxR), ax_ev L xs n d i k res → k.2.2.2.2.1 ≤ res.2.2.1 ∧ k.2.2.2.2.2 ≤ res.2.2.2 ∧ k.2.2.2.1.length ≤ res.1.length := by
  intro n
  induction n with
  | zero => intro d i k res h; exact h.elim
  | succ n ih =>
    intro d i k res h
    obtain ⟨pc, ls, st, w, a, b⟩ := k
    simp only [ax_ev] at h
    split at h
    · exact h.elim
    · next ins x y hat =>
      split at h
      · split at h
        · exact h.elim
        · next c9 hc9 =>
          have h1 := ax_alts_mono (k := c9) (show ax_next (ax_alts L xs ins x y (pc, ls, st, w, a, b)) c9 by rw [hc9]; rfl)
          have h2 := ih d i c9 res h
          exact ⟨Nat.le_trans h1.1 h2.1, Nat.le_trans h1.2.1 h2.2.1, Nat.le_trans h1.2.2 h2.2.2⟩
        · next q9 hc9 =>
          obtain ⟨q, hq, hp, h⟩ := h
          have h1 := ax_alts_mono (k := q.2) (show ax_next (ax_alts L xs ins x y (pc, ls, st, w, a, b)) q.2 by rw [hc9]; exact ⟨q.1, hq, hp⟩)
          have h2 := ih d i q.2 res h
          exact ⟨Nat.le_trans h1.1 h2.1, Nat.le_trans h1.2.1 h2.2.1, Nat.le_trans h1.2.2 h2.2.2⟩
      · split at h
        · exact h.elim
        · obtain ⟨-, -, -, -, -, w1, r1, a1, b1, h1, -, h2⟩ := h
          have h3 := ih _ _ _ _ h1
          simp only at h3
          split at h2
          · have h4 := ih _ _ _ _ h2
            exact ⟨Nat.le_trans h3.1 h4.1, Nat.le_trans h3.2.1 h4.2.1, Nat.le_trans h3.2.2 h4.2.2⟩
          · split at h2
            · subst h2; exact h3
            · obtain ⟨h9, k9, -, h2⟩ := h2
              have h4 := ih _ _ _ _ h2
              exact ⟨Nat.le_trans h3.1 h4.1, Nat.le_trans h3.2.1 h4.2.1, Nat.le_trans h3.2.2 h4.2.2⟩
      · split at h
        · obtain ⟨-, rfl⟩ := h
          exact ⟨Nat.le_refl _, Nat.le_refl _, Nat.le_refl _⟩
        · obtain ⟨-, rfl⟩ := h
          exact ⟨Nat.le_refl _, Nat.le_refl _, Nat.le_refl _⟩
        · exact h.elim
      · obtain ⟨-, -, rfl⟩ := h
        exact ⟨Nat.le_succ _, Nat.le_add_right _ _, Nat.le_refl _⟩
end
section
/-! How a method of ours ends: it returns, or it throws. -/
def ax_Qr (D : va_G) (τ : Nat → ClassId) (A : Nat → Prop) (σ0 : Nat → Nat) (n0 : Nat) (w1 : AxW) (r : Option Value ⊕ Nat) : Array Value → State → Outcome → State → Prop := fun _ st oc t =>
  (∃ (σ' : Nat → Nat) (v : Option Value), (∀ k, k ≤ n0 → σ' k = σ0 k) ∧ r = .inl v ∧ oc = .returned (v.map (ax_v σ')) ∧ va_P D axCl (ax_W σ' τ w1) t.heap ∧ va_D A (ax_W σ' τ w1)) ∧ va_F A st t
def ax_Xr (D : va_G) (τ : Nat → ClassId) (A : Nat → Prop) (σ0 : Nat → Nat) (n0 : Nat) (w1 : AxW) (r : Option Value ⊕ Nat) : String → State → State → Prop := fun E st t =>
  (∃ (σ' : Nat → Nat) (x : Nat), (∀ k, k ≤ n0 → σ' k = σ0 k) ∧ r = .inr x ∧ x < 6 ∧ E = axEx x ∧ va_P D axCl (ax_W σ' τ w1) t.heap ∧ va_D A (ax_W σ' τ w1)) ∧ va_F A st t
section AXE
variable {p : Program} {l : Launch} {e : Env} {R : Room} {s : State} {m : MethodId} {args : Array Value} {below : List Frame} {meth : Method} {c : Code} {A : Nat → Prop} {D : va_G} {τ : Nat → ClassId} {bS L a0 b0 n0 mc ms : Nat} {xs : Nat → Int32} {σ0 : Nat → Nat}
variable {i pc x y a b cells slots : Nat} {ls : AxL} {st : List Value} {w : AxW} {H : Heap} {locs : List Loc} {σ : Nat → Nat} {lsA : Array Slot}
theorem ax_iret {z : Int32} (hat : ax_at (axT i) pc = some (.ireturn, x, y)) (hz : ax_rv i z) (C : ax_Cx i p l s m args meth c A D τ bS L xs) (I : ax_In i s A D τ bS a0 b0 n0 σ0 ls w a b H locs cells slots σ lsA) (hm1 : a ≤ a0 + mc) (hm2 : b ≤ b0 + ms) :
    W p l e R s m args below meth c H locs cells slots (vx_MQ below (ax_Qr D τ A σ0 n0 w (.inl (some (.int z)))) (ax_Xr D τ A σ0 n0 w (.inl (some (.int z)))) args s mc ms A) (F0 m pc lsA [.int z]) := by
  obtain ⟨hi, hx, hb, hr, hml, hown, hts, hlocks, hnm, htab, hG, hA, hl9⟩ := C
  obtain ⟨hP, hD, hS, hl, hc, hσ, hn0, hca, hcb, hs0⟩ := I
  have hd := ax_decn hi hat (by rfl)
  refine W.widen (k := mc) (n := ms) (by omega) (by omega) ?_
  have hq : ∀ t : State, t.heap = H → s.WarmedH t.vm → ax_Qr D τ A σ0 n0 w (.inl (some (.int z))) args s (.returned (some (.int z))) t := fun t ht hW => ⟨⟨σ, some (.int z), hσ, rfl, rfl, by rw [ht]; exact hP, hD⟩, hS.F ht⟩
  unfold ax_rv at hz
  split at hz
  · next h9 => exact vx_ret (W.iret hx hb (hr.trans h9) hq hS.2.2 hd hlocks)
  · next h9 =>
    refine vx_ret (W.zret hx hb (hr.trans h9) ?_ hq hS.2.2 hd hlocks)
    rcases hz with rfl | rfl <;> rfl
  · exact hz.elim
theorem ax_vret (hat : ax_at (axT i) pc = some (.return_, x, y)) (hz : axRe i = none) (C : ax_Cx i p l s m args meth c A D τ bS L xs) (I : ax_In i s A D τ bS a0 b0 n0 σ0 ls w a b H locs cells slots σ lsA) (hm1 : a ≤ a0 + mc) (hm2 : b ≤ b0 + ms) :
    W p l e R s m args below meth c H locs cells slots (vx_MQ below (ax_Qr D τ A σ0 n0 w (.inl none)) (ax_Xr D τ A σ0 n0 w (.inl none)) args s mc ms A) (F0 m pc lsA []) := by
  obtain ⟨hi, hx, hb, hr, hml, hown, hts, hlocks, hnm, htab, hG, hA, hl9⟩ := C
  obtain ⟨hP, hD, hS, hl, hc, hσ, hn0, hca, hcb, hs0⟩ := I
  have hd := ax_decn hi hat (by rfl)
  refine W.widen (k := mc) (n := ms) (by omega) (by omega) ?_
  exact vx_ret (W.vret hx hb (hr.trans hz) (fun t ht hW => ⟨⟨σ, none, hσ, rfl, rfl, by rw [ht]; exact hP, hD⟩, hS.F ht⟩) hS.2.2 hd hlocks)
theorem ax_ot {w9 : Cond} (h : ax_gw w9 = true) : vx_ot w9 = true := by
  unfold vx_ot
  cases w9 <;> first
    | (simp only [ax_gw, Bool.and_eq_true] at h; rw [h.1]; rfl)
    | rfl
theorem ax_efit : ∀ e9, e9 < 6 → Bundle.fit (axEx e9) = true ∧ (∀ n ∈ axEn e9, Bundle.fit n = true) ∧ (axEn e9).length ≤ 3 := by decide +kernel
set_option maxHeartbeats 1000000 in
theorem ax_thrown {j : Nat} (hk : ax_kind (.new j) x = 3) (hat : ax_at (axT i) pc = some (.new j, x, y)) (hw : ax_wt st = true) (hf : 7 ≤ R.frames) (hlo : 280 ≤ R.locals) (C : ax_Cx i p l s m args meth c A D τ bS L xs) (I : ax_In i s A D τ bS a0 b0 n0 σ0 ls w a b H locs cells slots σ lsA)
    (hq1 : a + 1 ≤ a0 + R.cells) (hq2 : b + 6 ≤ b0 + R.slots) (hm1 : a + 1 ≤ a0 + mc) (hm2 : b + 6 ≤ b0 + ms) :
    W p l e R s m args below meth c H locs cells slots (vx_MQ below (ax_Qr D τ A σ0 n0 w (.inr (x - 100))) (ax_Xr D τ A σ0 n0 w (.inr (x - 100))) args s mc ms A) (F0 m pc lsA (st.map (ax_v σ))) := by
  obtain ⟨hi, hx, hb, hr, hml, hown, hts, hlocks, hnm, htab, hG, hA, hl9⟩ := C
  obtain ⟨hP, hD, hS, hl, hc, hσ, hn0, hca, hcb, hs0⟩ := I
  have hd := ax_decn hi hat (by rfl)
  have hst := ax_stat hi hat
  have h100 : Nat.blt x 100 = false := by
    cases h7 : Nat.blt x 100 with
    | false => rfl
    | true => simp [ax_kind, h7] at hk
  have hx100 : ¬ x < 100 := fun h => by
    have : Nat.blt x 100 = true := by
      show Nat.ble (x + 1) 100 = true
      exact Nat.ble_eq_true_of_le h
    rw [h100] at this
    cases this
  simp only [ax_stc, Bool.or_eq_true, Bool.and_eq_true] at hst
  rcases hst with h7 | hst
  · have := ax_blt h7
    omega
  obtain ⟨⟨⟨⟨⟨⟨⟨⟨⟨⟨g1, g2⟩, g3⟩, g4⟩, g5⟩, g6⟩, g7⟩, g8⟩, g9⟩, g10⟩, g11⟩ := hst
  have g2 := ax_blt g2
  have g3 := ax_blt g3
  have g4 : axHh i = [] := of_decide_eq_true g4
  have g5 : axO i = "PickPaths" := of_decide_eq_true g5
  have g6 : (axTh y).1 = x - 100 := of_decide_eq_true g6
  have g7 : (axTh y).2.1 = j := of_decide_eq_true g7
  have dd : ∀ {pc9 : Nat} {ins : Instr}, ax_dec (axB i) (pc9, ins, 0, 0) = true → ax_isw ins = false → decode (axB i) pc9 = .ok (ins, ax_ln ins) := by
    intro pc9 ins h hs
    unfold ax_dec at h
    cases hd9 : decode (axB i) pc9 with
    | error _ => simp [hd9] at h
    | ok q =>
      obtain ⟨i9, n9⟩ := q
      simp only [hd9, Bool.and_eq_true, decide_eq_true_eq, Bool.or_eq_true] at h
      obtain ⟨h2, h3⟩ := h
      subst h2
      rcases h3 with h3 | h3
      · rw [hs] at h3; cases h3
      · rw [Nat.eq_of_beq_eq_true h3]
  have d3 := dd g8 rfl
  have d4 := dd g9 rfl
  have d6 := dd g10 rfl
  have d9 := dd g11 rfl
  have hout : ∀ x ∈ c.exceptionTable.toList, covers x (pc + 9) = false := fun z hz => by rw [htab, g4] at hz; cases hz
  have he6 : x - 100 < 6 := by omega
  obtain ⟨f1, f2, f3⟩ := ax_efit (x - 100) he6
  obtain ⟨sa, hstr⟩ := hG.2.2.2.2.2.2.1 y g3
  have hcl : ∀ u, u ∈ ([.classLink (axO i) j (axEx (x - 100)), .initialized (axEx (x - 100))] : List Cond) → u ∈ axTB := fun u hu => ax_in_need hi (ax_at_mem _ _ hat) (w := u) (by simp only [ax_need, h100, cond_false]; exact hu) (by
    simp only [List.mem_cons, List.not_mem_nil, or_false] at hu
    rcases hu with rfl | rfl <;> rfl)
  have hwt := Nat.le_of_ble_eq_true hw
  rw [g5] at hown hcl
  have hQ : ∀ t : State, s.vm.Alike t.vm → H.size ≤ t.heap.size → (∀ q : Nat, q < H.size → t.heap[q]? = H[q]?) → ax_Xr D τ A σ0 n0 w (.inr (x - 100)) (axEx (x - 100)) s t := fun t h1 h2 h3 =>
    ⟨⟨σ, x - 100, hσ, rfl, he6, rfl, hP.kept (fun k9 q9 hq9 => h3 _ ((hP k9 q9 hq9).lt)), hD⟩, Nat.le_trans hS.1 h2, fun q hq hnq => (h3 q (Nat.lt_of_lt_of_le hq hS.1)).trans (hS.2.1 q hq hnq)⟩
  by_cases h12 : y < 12
  · have hT : axThL y = vx_atS "PickPaths" (axTh y).2.2.2.1 (axEx (x - 100)) (axEn (x - 100)) := by
      unfold axThL
      rw [show Nat.blt y 12 = true from Nat.ble_eq_true_of_le h12, ← g6]
      rfl
    refine vx_throwS (A := A) hx hb hl9 (own := "PickPaths") (cls := axEx (x - 100)) (names := axEn (x - 100)) (ik := j) (is := (axTh y).2.2.1) (ic := (axTh y).2.2.2.1) hown f1 f2 (hts _ (hcl _ (by simp))) (hts _ (hcl _ (by simp))) hstr
      (fun w9 h9 => hts _ (ax_in_th g3 (by rw [hT]; exact h9))) (fun w9 h9 => ?_) hG.2.2.2.2.1 hG.2.2.2.2.2.1 hS (by rw [hml]; exact hl.1) hd d3 d4 d6 d9 hout (by omega) (by rw [ax_v_cats]; omega) (by omega) (by omega) hlocks hQ hS.2.2 (by omega) (by omega)
    rcases List.mem_cons.mp h9 with h9 | h9
    · rw [h9]; exact ax_ot (ax_TB_ok _ (hcl _ (by simp))).2
    rcases List.mem_cons.mp h9 with h9 | h9
    · rw [h9]; exact ax_ot (ax_TB_ok _ (hcl _ (by simp))).2
    · exact ax_ot (ax_TB_ok _ (ax_in_th g3 (by rw [hT]; exact h9))).2
  · have hT : axThL y = axNw := by
      unfold axThL
      have : Nat.blt y 12 = false := by
        cases h7 : Nat.blt y 12 with
        | false => rfl
        | true => exact absurd (ax_blt h7) h12
      rw [this]
      rfl
    have hy2 : (axTh y).1 = 0 ∧ (axTh y).2.2.2.1 = 179 := by
      rcases (show y = 12 ∨ y = 13 by omega) with rfl | rfl <;> exact ⟨rfl, rfl⟩
    have hx0 : x - 100 = 0 := g6.symm.trans hy2.1
    rw [hy2.2] at d6
    rw [hx0] at hcl hQ ⊢
    refine ax_throwN (A := A) hx hb hl9 (own := "PickPaths") (cls := "java/util/NoSuchElementException") (sup := "java/lang/RuntimeException") (names := ["java/lang/Exception"]) (ik := j) (is := (axTh y).2.2.1) (ic := 179) (idx := 13) (bytes := axNb) hown (by decide +kernel) (by decide +kernel) (by decide +kernel)
      (by decide +kernel) (by decide +kernel) (by decide +kernel) (by decide +kernel) (hts _ (hcl _ List.mem_cons_self)) (hts _ (hcl _ (List.mem_cons_of_mem _ List.mem_cons_self))) hstr
      (fun w9 h9 => hts _ (ax_in_th g3 (by rw [hT]; exact h9))) (fun w9 h9 => ?_) hG.2.2.2.2.1 hG.2.2.2.2.2.1 hS (by rw [hml]; exact hl.1) hd d3 d4 d6 d9 hout (by show 1 + 4 < _; omega) (by rw [ax_v_cats]; show _ + (13 * (1 + 2) + 43) ≤ _; omega) (by omega) (by omega) hlocks hQ hS.2.2 (by omega) (by omega)
    rcases List.mem_cons.mp h9 with h9 | h9
    · rw [h9]; exact ax_ot (ax_TB_ok _ (hcl _ List.mem_cons_self)).2
    rcases List.mem_cons.mp h9 with h9 | h9
    · rw [h9]; exact ax_ot (ax_TB_ok _ (hcl _ (List.mem_cons_of_mem _ List.mem_cons_self))).2
    · exact ax_ot (ax_TB_ok _ (ax_in_th g3 (by rw [hT]; exact h9))).2
end AXE
end
section
/-! Calls among the program's methods. -/
theorem ax_sizes : ∀ j, j < 106 → axNa j ≤ axLo j ∧ axLo j + 19 ≤ 40 ∧ plainName (axY j).cls = true ∧ (axY j).cls ≠ "java/lang/invoke/MethodHandle" ∧ (axY j).cls ≠ "java/lang/invoke/VarHandle" := by decide +kernel
/-- handlers: the row that takes the exception, and where it goes on -/
def ax_hast (bytes : ByteArray) (h h1 k : Nat) : Bool := match decode bytes h with
  | .ok (.astore j, 2) => Nat.beq j k && Nat.beq h1 (h + 2)
  | .ok (.astore_n j, 1) => Nat.beq j.val k && Nat.beq h1 (h + 1)
  | _ => false
def ax_hfind (bytes : ByteArray) (pc e h1 k : Nat) : List (Nat × Nat × Nat × Nat) → Bool
  | [] => false
  | (s, t, h, ct) :: r => (Nat.ble s pc && Nat.blt pc t && !Nat.beq ct 0) && cond (Nat.beq (axHe ct) e) (ax_hast bytes h h1 k) (ax_hfind bytes pc e h1 k r)
def ax_hchk (i pc e : Nat) : Bool := match ax_hd i e with
  | none => true
  | some (h1, k) => ax_hfind (axB i) pc e h1 k (axHh i) && Nat.blt k (axLo i)
def ax_isI : Instr → Bool
  | .invokevirtual _ => true
  | .invokestatic _ => true
  | .invokespecial _ => true
  | _ => false
theorem ax_hk : ∀ i, i < 106 → (decide (axHh i = []) || (axT i).all (fun q => !ax_isI q.2.1 || (List.range 6).all (fun e => ax_hchk i q.1 e))) = true := by decide +kernel
theorem axHe_lt (ct : Nat) : axHe ct < 6 := by unfold axHe; split <;> decide
theorem ax_hfind_ok {bytes : ByteArray} {pc e h1 k : Nat} : ∀ (hh : List (Nat × Nat × Nat × Nat)), ax_hfind bytes pc e h1 k hh = true →
    ∃ (ahead suf : List (Nat × Nat × Nat × Nat)) (s t h ct : Nat), hh = ahead ++ (s, t, h, ct) :: suf ∧ (∀ q ∈ ahead, q.1 ≤ pc ∧ pc < q.2.1 ∧ q.2.2.2 ≠ 0 ∧ axHe q.2.2.2 ≠ e) ∧ s ≤ pc ∧ pc < t ∧ ct ≠ 0 ∧ axHe ct = e ∧ ax_hast bytes h h1 k = true
  | [], h => by simp [ax_hfind] at h
  | (s, t, h, ct) :: r, hf => by
    simp only [ax_hfind, Bool.and_eq_true, Bool.not_eq_true'] at hf
    obtain ⟨⟨⟨g1, g2⟩, g3⟩, g4⟩ := hf
    have g1 := Nat.le_of_ble_eq_true g1
    have g2 := ax_blt g2
    have g3 : ct ≠ 0 := fun h0 => by rw [h0] at g3; cases g3
    cases hb : Nat.beq (axHe ct) e with
    | true =>
      rw [hb] at g4
      exact ⟨[], r, s, t, h, ct, rfl, fun _ hq => absurd hq List.not_mem_nil, g1, g2, g3, Nat.eq_of_beq_eq_true hb, g4⟩
    | false =>
      rw [hb] at g4
      obtain ⟨ah, sf, s2, t2, h2, c2, q1, q2, q3⟩ := ax_hfind_ok r g4
      refine ⟨(s, t, h, ct) :: ah, sf, s2, t2, h2, c2, by rw [q1]; rfl, fun q hq => ?_, q3⟩
      rcases List.mem_cons.mp hq with rfl | hq
      · exact ⟨g1, g2, g3, fun he => by simp only at he; rw [he, Nat.beq_refl] at hb; cases hb⟩
      · exact q2 q hq
section AXM
variable {p : Program} {l : Launch} {e : Env} {R : Room} {s : State} {m : MethodId} {args : Array Value} {below : List Frame} {meth : Method} {c : Code} {A : Nat → Prop} {D : va_G} {τ : Nat → ClassId} {bS L a0 b0 n0 mc ms : Nat} {xs : Nat → Int32} {σ0 : Nat → Nat} {Q : State → Prop}
variable {i pc x y a b cells slots : Nat} {ls : AxL} {st : List Value} {w : AxW} {H : Heap} {locs : List Loc} {σ : Nat → Nat} {lsA : Array Slot}
/-- CAUGHT: the law's methods -/
theorem ax_caughtHere {ins : Instr} {e9 h1 k : Nat} {q : Addr} {ce : Cell} {rest : List Value} (hat : ax_at (axT i) pc = some (ins, x, y)) (hI : ax_isI ins = true) (hh : axHh i ≠ []) (h6 : e9 < 6) (hhd : ax_hd i e9 = some (h1, k)) (C : ax_Cx i p l s m args meth c A D τ bS L xs)
    (hl : lv_has lsA (axLo i) (ax_l σ ls)) (hc1 : ∀ q ∈ ls, q.2.category = 1) (hcell : H[q]? = some ce) (hv : ce.vm = .none) (hcl : s.vm.findClass (axEx e9) = some ce.cls)
    (kk : ∀ lsB : Array Slot, lv_has lsB (axLo i) (ax_l σ (ax_del ls k)) → W p l e R s m args below meth c H locs cells slots Q (F0 m h1 lsB [])) : vx_W p l e R s m args below meth c H locs cells slots Q (F0 m pc lsA rest) q := by
  obtain ⟨hi, hx, hb, hr, hml, hown, hts, hlocks, hnm, htab, hG, hA, hl9⟩ := C
  have h1k := ax_hk i hi
  rw [decide_eq_false hh, Bool.false_or] at h1k
  have h2k := List.all_eq_true.mp h1k _ (ax_at_mem _ _ hat)
  simp only [hI, Bool.not_true, Bool.false_or] at h2k
  have h3k := List.all_eq_true.mp h2k e9 (List.mem_range.mpr h6)
  unfold ax_hchk at h3k
  rw [hhd] at h3k
  simp only [Bool.and_eq_true] at h3k
  obtain ⟨h4k, hkL⟩ := h3k
  obtain ⟨ahead, suf, s2, t2, h2, ct, hq, hah, hs2, ht2, hct, hce9, hast⟩ := ax_hfind_ok _ h4k
  have hword : ∀ q ∈ axHh i, (Cond.classLink (axO i) q.2.2.2 (axEx (axHe q.2.2.2))).before args s = true ∧ (Cond.castable (axEx (axHe q.2.2.2)) (axEx (axHe q.2.2.2))).before args s = true := fun q hq =>
    ⟨hts _ (ax_in_hd hi (List.mem_flatMap.mpr ⟨q, hq, by simp⟩)), hts _ (ax_in_hd hi (List.mem_flatMap.mpr ⟨q, hq, by simp⟩))⟩
  have hin : (s2, t2, h2, ct) ∈ axHh i := by rw [hq]; exact List.mem_append_right _ List.mem_cons_self
  have htab2 : c.exceptionTable.toList = tableOf ahead ++ (⟨s2, t2, h2, ct⟩ : ExceptionTableEntry) :: tableOf suf := by
    rw [htab, hq]
    simp [tableOf]
  have hcov : ∀ {s3 t3 h3 c3 : Nat}, s3 ≤ pc → pc < t3 → covers (⟨s3, t3, h3, c3⟩ : ExceptionTableEntry) pc = true := fun a b => by simp [covers, a, b]
  have hw2 := hword _ hin
  simp only [hce9] at hw2
  refine ax_catch (own := axO i) (name := axEx e9) (E := axEx e9) hown (tableOf ahead) ⟨s2, t2, h2, ct⟩ (tableOf suf) htab2 (fun z hz => ?_) (hcov hs2 ht2) hct hw2.1 hw2.2 hcell hv hcl ?_
  · obtain ⟨q9, hq9, rfl⟩ := List.mem_map.mp hz
    obtain ⟨z1, z2, z3, z4⟩ := hah q9 hq9
    have hin9 : q9 ∈ axHh i := by rw [hq]; exact List.mem_append_left _ hq9
    exact ⟨hcov z1 z2, z3, _, (hword q9 hin9).1, hG.2.2.2.2.2.2.2.1 _ _ h6 (axHe_lt _) (fun h => z4 h.symm)⟩
  · have hsub : ∀ z ∈ ax_l σ (ax_del ls k), z ∈ (k, Value.ref q) :: (ax_l σ ls).filter (fun q => !(q.1 == k) && !(q.1 + 1 == k && q.2.category == 2)) := by
      intro z hz
      obtain ⟨q0, h0, rfl⟩ := List.mem_map.mp hz
      obtain ⟨g1, g2⟩ := ax_del_mem ls k h0
      refine List.mem_cons_of_mem _ (List.mem_filter.mpr ⟨List.mem_map.mpr ⟨q0, g1, rfl⟩, ?_⟩)
      have h3 := hc1 q0 g1
      simp [g2, ax_v_cat, h3]
    unfold ax_hast at hast
    split at hast
    · next j hd9 =>
      simp only [Bool.and_eq_true] at hast
      obtain ⟨e1, e2⟩ := hast
      have e1 := Nat.eq_of_beq_eq_true e1
      have e2 := Nat.eq_of_beq_eq_true e2
      subst e1; subst e2
      exact lv_astore hx hb hd9 hl (ax_blt hkL) rfl (fun ls' h' => kk ls' (ax_lv_sub h' hsub))
    · next j hd9 =>
      simp only [Bool.and_eq_true] at hast
      obtain ⟨e1, e2⟩ := hast
      have e1 := Nat.eq_of_beq_eq_true e1
      have e2 := Nat.eq_of_beq_eq_true e2
      subst e1; subst e2
      exact lv_astore_n hx hb hd9 rfl hl (ax_blt hkL) rfl (fun ls' h' => kk ls' (ax_lv_sub h' hsub))
    · cases hast
/-- behind a call -/
theorem ax_called {A1 : Nat → Prop} {n1 mc1 ms1 : Nat} {w1 : AxW} {r1 : Option Value ⊕ Nat} {st0 rest : List Value} {av : Array Value}
    (hr : vx_Run p l e R s m args below meth c H locs cells slots mc1 ms1 (F0 m pc lsA st0) rest (ax_Qr D τ A1 σ n1 w1 r1 av) (ax_Xr D τ A1 σ n1 w1 r1) A1) (hS : va_S A s.heap H locs) (hA1 : ∀ q, A1 q → A q)
    (kk : ∀ v, r1 = .inl v → ∀ (H1 : Heap) (locs1 : List Loc) (σ1 : Nat → Nat), (∀ k, k ≤ n1 → σ1 k = σ k) → va_P D axCl (ax_W σ1 τ w1) H1 → va_D A (ax_W σ1 τ w1) → va_S A s.heap H1 locs1 → W p l e R s m args below meth c H1 locs1 (cells + mc1) (slots + ms1) Q (F0 m (pc + 3) lsA ((v.map (ax_v σ1)).toList ++ rest)))
    (kx : ∀ x9, r1 = .inr x9 → x9 < 6 → ∀ (H1 : Heap) (locs1 : List Loc) (σ1 : Nat → Nat) (q : Addr) (ce : Cell), (∀ k, k ≤ n1 → σ1 k = σ k) → va_P D axCl (ax_W σ1 τ w1) H1 → va_D A (ax_W σ1 τ w1) → va_S A s.heap H1 locs1 → H1[q]? = some ce → ce.vm = .none → s.vm.findClass (axEx x9) = some ce.cls →
      vx_W p l e R s m args below meth c H1 locs1 (cells + mc1) (slots + ms1) Q (F0 m pc lsA rest) q) : W p l e R s m args below meth c H locs cells slots Q (F0 m pc lsA st0) := by
  intro T hT X
  rcases hr T hT X with ⟨v, st₀, t, T', L9, h0, X', hL, e1, e2, ⟨⟨σ1, v1, hσ1, hr1, hv, hP1, hD1⟩, hF⟩, st⟩ | ⟨q, st₀, t, T', L9, E, ce, h0, X', hL, e1, e2, ⟨⟨σ1, x9, hσ1, hr1, hx6, hE, hP1, hD1⟩, hF⟩, hce, hcv, hcl, st⟩
  · cases hv
    obtain ⟨k1, k2, k3⟩ := vx_keep h0 e1 hS (fun q _ h => hA1 q h) hA1 hL hF
    obtain ⟨t2, a1, b1⟩ := kk v1 hr1 T'.heap (locs ++ L9) σ1 hσ1 (by rw [e1]; exact hP1) (hD1.weaken (fun _ _ _ h => hA1 _ h)) k3 T' rfl X'
    exact ⟨t2, st t2 a1, b1⟩
  · obtain ⟨k1, k2, k3⟩ := vx_keep h0 e1 hS (fun q _ h => hA1 q h) hA1 hL hF
    subst hE
    obtain ⟨t2, a1, b1⟩ := kx x9 hr1 hx6 T'.heap (locs ++ L9) σ1 q ce hσ1 (by rw [e1]; exact hP1) (hD1.weaken (fun _ _ _ h => hA1 _ h)) k3 (by rw [e1]; exact hce) hcv hcl T' rfl X'
    exact ⟨t2, st.trans a1, b1⟩
/-- what a callee of ours finds -/
def ax_Pc (D : va_G) (τ : Nat → ClassId) (bS L : Nat) (xs : Nat → Int32) (σ : Nat → Nat) (w : AxW) (vs : List Value) (sz : Nat) : Array Value → State → Prop := va_Pc vs (fun U => U.heap.size = sz ∧ va_P D axCl (ax_W σ τ w) U.heap ∧ va_D (fun _ => True) (ax_W σ τ w) ∧ ax_G D τ bS L xs (va_A (ax_W σ τ w) sz) U U.heap)
theorem ax_blind {vs : List Value} {sz : Nat} : FrameBlind (ax_Pc D τ bS L xs σ w vs sz) := fun a9 U g mk h => by
  obtain ⟨h1, h2, h3, h4, h5⟩ := h
  exact ⟨h1, h2, h3, h4, ax_G.to (U := U.calling g mk a9) h5 (State.WarmedH.refl U) (Nat.le_refl _) (fun _ _ _ => rfl) (fun _ h => h)⟩
end AXM
end
section
/-! THE MACHINE OF OURS IS RIGHT: what it comes to, the Java machine comes to. -/
def ax_S (l : Launch) (L : Nat) (xs : Nat → Int32) (n : Nat) : Prop := ∀ (d i : Nat) (k : AxC) (res : AxR), ax_ev L xs n d i k res → 1 ≤ d →
  ∀ (p : Program) (e : Env) (R : Room) (s : State) (m : MethodId) (args : Array Value) (below : List Frame) (meth : Method) (c : Code) (A : Nat → Prop) (D : va_G) (τ : Nat → ClassId) (bS a0 b0 n0 : Nat) (σ0 : Nat → Nat) (mc ms : Nat),
    ax_Cx i p l s m args meth c A D τ bS L xs → d ≤ R.frames → 40 * d ≤ R.locals → res.2.2.1 ≤ a0 + R.cells → res.2.2.2 ≤ b0 + R.slots → res.2.2.1 ≤ a0 + mc → res.2.2.2 ≤ b0 + ms →
    ax_Go i p l e R s m args below meth c A D τ bS a0 b0 n0 σ0 (vx_MQ below (ax_Qr D τ A σ0 n0 res.1 res.2.1) (ax_Xr D τ A σ0 n0 res.1 res.2.1) args s mc ms A) k
section AXF
variable {l : Launch} {L : Nat} {xs : Nat → Int32} {D : va_G} {τ : Nat → ClassId} {bS : Nat} {σ : Nat → Nat} {w w1 : AxW} {r1 : Option Value ⊕ Nat} {n d j a b a1 b1 sz : Nat} {as : List Value}
abbrev ax_rm (d a b a1 b1 : Nat) : Room := { frames := d, cells := a1 - a, slots := b1 - b, locals := 40 * d }
theorem ax_c1_ok (h : ax_c1 as = true) : ∀ v ∈ as, v.category = 1 := fun v hv => Nat.eq_of_beq_eq_true (List.all_eq_true.mp h v hv)
/-- a method's body, from its entry -/
theorem ax_body (hl : l.stackTraces = false) (hS : ax_S l L xs n) (hj : j < 105) (hd : 1 ≤ d) (hev : ax_ev L xs n d j (0, ax_ent 0 as, [], w, a, b) (w1, r1, a1, b1)) (hc1 : ax_c1 as = true) (hlen : as.length = axNa j) (h0 : σ 0 = bS)
    {p : Program} {e : Env} {s : State} {m : MethodId} {args : Array Value} {below : List Frame} {meth : Method} {c : Code} {s₁ : State} (B : BodyLoose p l (axY j) (headSpec (axCode j :: axTB) (ax_rm d a b a1 b1)) (axB j) (axLo j) (axRe j) e s m args below meth c s₁) (hml : c.maxLocals = axLo j)
    (htab : c.exceptionTable.toList = tableOf (axHh j)) (hv : ax_Pc D τ bS L xs σ w (as.map (ax_v σ)) sz args s) :
    W p l e (headSpec (axCode j :: axTB) (ax_rm d a b a1 b1)).room s m args below meth c s.heap [] 0 0 (vx_MQ below (ax_Qr D τ (va_A (ax_W σ τ w) sz) σ w.length w1 r1) (ax_Xr D τ (va_A (ax_W σ τ w) sz) σ w.length w1 r1) args s (a1 - a) (b1 - b) (va_A (ax_W σ τ w) sz)) (entryFrame m args (axLo j)) := by
  obtain ⟨rfl, hsz, hP, hD0, hG⟩ := hv
  subst hsz
  have hcat := ax_c1_ok hc1
  have hcatv : ∀ v ∈ as.map (ax_v σ), v.category = 1 := fun v hv => by
    obtain ⟨u, hu, rfl⟩ := List.mem_map.mp hv
    rw [ax_v_cat]
    exact hcat u hu
  obtain ⟨hz1, hz2, hz3, hz4, hz5⟩ := ax_sizes j (by omega)
  have hlsl : (lg_sl (as.map (ax_v σ))).length ≤ axLo j := by rw [ax_sl_len _ hcatv, List.length_map, hlen]; exact hz1
  have hle := lv_entry (as.map (ax_v σ)) (n := axLo j) hlsl
  rw [lg_entry_eq]
  generalize (lg_sl (as.map (ax_v σ)) ++ List.replicate (axLo j - (lg_sl (as.map (ax_v σ))).length) Slot.unset).toArray = lsA at hle ⊢
  rw [ax_ent_args σ 0 as hcat] at hle
  have hts : ∀ u ∈ axTB, u.before (as.map (ax_v σ)).toArray s = true := fun u hu => atoms_spec (ws := axCode j :: axTB) B.pre u (List.mem_cons_of_mem _ hu)
  have hmono := ax_ev_mono n d j _ _ hev
  simp only at hmono
  have hA : ∀ q : Nat, s.heap.size ≤ q → va_A (ax_W σ τ w) s.heap.size q := fun q h => Or.inr h
  have C : ax_Cx j p l s m (as.map (ax_v σ)).toArray meth c (va_A (ax_W σ τ w) s.heap.size) D τ bS L xs :=
    ⟨by omega, B.exec, B.bytes, B.returns, hml, findClass_of_methodNamed B.named, hts, B.notSynchronized, (name_of_methodNamed B.named B.method).1, htab, hG, hA, hl⟩
  have hgo := hS d j _ _ hev hd p e (headSpec (axCode j :: axTB) (ax_rm d a b a1 b1)).room s m (as.map (ax_v σ)).toArray below meth c (va_A (ax_W σ τ w) s.heap.size) D τ bS a b w.length σ (a1 - a) (b1 - b) C (Nat.le_refl d) (Nat.le_refl _) (by show a1 ≤ a + (a1 - a); omega) (by show b1 ≤ b + (b1 - b); omega) (by show a1 ≤ a + (a1 - a); omega) (by show b1 ≤ b + (b1 - b); omega)
  exact hgo s.heap [] 0 0 σ lsA ⟨hP, hD0.self, va_S.rf, hle, ax_ent_cat 0 as hcat, fun _ _ => rfl, Nat.le_refl _, Nat.zero_add _, Nat.zero_add _, h0⟩
theorem ax_code0 (h : axHh j = []) : axCode j = Cond.code (axY j) (axB j) (axLo j) (axRe j) := by unfold axCode; rw [h]
theorem ax_codeH (h : axHh j ≠ []) : axCode j = Cond.codeWith (axY j) (axB j) (axLo j) (axRe j) (axHh j) := by
  unfold axCode
  cases hh : axHh j with
  | nil => exact absurd hh h
  | cons q r => rfl
/-- a method's contract -/
theorem ax_met (hl : l.stackTraces = false) (hS : ax_S l L xs n) (hj : j < 105) (hd : 1 ≤ d) (hev : ax_ev L xs n d j (0, ax_ent 0 as, [], w, a, b) (w1, r1, a1, b1)) (hc1 : ax_c1 as = true) (hlen : as.length = axNa j) (h0 : σ 0 = bS) (sz : Nat) (D : va_G) (τ : Nat → ClassId) :
    vx_Met l (axY j) (axCode j :: axTB) (ax_rm d a b a1 b1) (ax_Pc D τ bS L xs σ w (as.map (ax_v σ)) sz) (ax_Qr D τ (va_A (ax_W σ τ w) sz) σ w.length w1 r1) (ax_Xr D τ (va_A (ax_W σ τ w) sz) σ w.length w1 r1) (a1 - a) (b1 - b) (va_A (ax_W σ τ w) sz) := by
  obtain ⟨hz1, hz2, hz3, hz4, hz5⟩ := ax_sizes j (by omega)
  by_cases hh : axHh j = []
  · refine vx_ofW (cc := axB j) (maxL := axLo j) (ret := axRe j) (ws' := axTB) hz3 (by rw [ax_code0 hh]) ?_
    intro p e s m args below meth c s₁ B hml ht hv
    exact ax_body hl hS hj hd hev hc1 hlen h0 B hml (by rw [hh]; exact List.eq_nil_iff_forall_not_mem.mpr (fun x hx => ht x hx)) hv
  · refine vx_ofWH (cc := axB j) (maxL := axLo j) (ret := axRe j) (hh := axHh j) (ws' := axTB) hz3 (by rw [ax_codeH hh]) ?_
    intro p e s m args below meth c s₁ B hml hv
    exact ax_body hl hS hj hd hev hc1 hlen h0 B hml (vx_table (x := axY j) B (by rw [← ax_codeH hh]; exact atoms_spec (ws := axCode j :: axTB) B.pre _ List.mem_cons_self)) hv
/-- a contract that never throws -/
theorem ax_met0 {y : MethodName} {ws : List Cond} {rm : Room} {Pc : Array Value → State → Prop} {A : Nat → Prop} {n0 mc ms : Nat} {v : Option Value} (h : vx_Met l y ws rm Pc (ax_Qr D τ A σ n0 w1 (.inl v)) (ax_Xr D τ A σ n0 w1 (.inl v)) mc ms A) :
    Met l y ws rm Pc (ax_Qr D τ A σ n0 w1 (.inl v)) mc ms A := by
  intro p e h1 h2 h3 s m args below h4 h5 h6 h7
  obtain ⟨n9, o, g1, g2, g3, g4⟩ := h p e h1 h2 h3 s m args below h4 h5 h6 h7
  refine ⟨n9, o, g1, g2, g3, ?_⟩
  rcases g4 with g4 | ⟨q, -, E, ce, L9, ⟨⟨σ', x, -, hx, -⟩, -⟩, -⟩
  · exact g4
  · cases hx
theorem ax_runx {p : Program} {e : Env} {R : Room} {s : State} {m : MethodId} {args : Array Value} {below : List Frame} {meth : Method} {c : Code} {H : Heap} {locs : List Loc} {cells slots mc ms : Nat} {g : JFrame} {rest : List Value} {Qa : State → Outcome → State → Prop} {XC : String → State → State → Prop} {free : Addr → Prop}
    (h : va_Run p l e R s m args below meth c H locs cells slots mc ms g rest Qa free) : vx_Run p l e R s m args below meth c H locs cells slots mc ms g rest Qa XC free := fun T hT X => Or.inl (h T hT X)
end AXF
end
section
/-- the one call of a nest mate's own constructor -/
theorem ax_nk4 : ∀ i, i < 106 → (axT i).all (fun q => match q with | (_, .invokespecial k, 4, y) => decide (axO i = "PickPaths") && Nat.beq k 11 && Nat.beq y MX3_init | _ => true) = true := by decide +kernel
theorem ax_nest {i pc j y bS L : Nat} {D : va_G} {τ : Nat → ClassId} {xs : Nat → Int32} {A : Nat → Prop} {s : State} {args : Array Value} {H : Heap} (hi : i < 106) (hat : ax_at (axT i) pc = some (.invokespecial j, 4, y)) (hG : ax_G D τ bS L xs A s H) : (Cond.methodLinkNest (axO i) j (axY y) "PickPaths").before args s = true := by
  have h := List.all_eq_true.mp (ax_nk4 i hi) _ (ax_at_mem _ _ hat)
  simp only [Bool.and_eq_true] at h
  obtain ⟨⟨h1, h2⟩, h3⟩ := h
  rw [of_decide_eq_true h1, Nat.eq_of_beq_eq_true h2, Nat.eq_of_beq_eq_true h3]
  exact va_Nw.use rfl hG.2.2.2.2.2.2.2.2
theorem ax_rc_ok {w : AxW} {y : Nat} {as : List Value} (h : ax_rc w y as) : ∃ (q : Nat) (as' : List Value) (fs : List Value), as = .ref (q + 1) :: as' ∧ ax_nth w q = some (.inr (axCi y, fs)) := by
  unfold ax_rc at h
  split at h
  · obtain ⟨fs, hw⟩ := h
    exact ⟨_, _, fs, rfl, hw⟩
  · exact h.elim
section AXR
variable {p : Program} {l : Launch} {e : Env} {R : Room} {s : State} {m : MethodId} {args : Array Value} {below : List Frame} {meth : Method} {c : Code} {A : Nat → Prop} {D : va_G} {τ : Nat → ClassId} {bS L a0 b0 n0 : Nat} {xs : Nat → Int32} {σ0 : Nat → Nat} {Q : State → Prop}
variable {i pc x y a b a1 b1 cells slots n d : Nat} {ls : AxL} {st as rest : List Value} {w w1 : AxW} {r1 : Option Value ⊕ Nat} {H : Heap} {locs : List Loc} {σ : Nat → Nat} {lsA : Array Slot}
set_option maxHeartbeats 1000000 in
/-- the call itself -/
theorem ax_run {ins : Instr} (hS : ax_S l L xs n) (hk : ax_kind ins x = 1) (hat : ax_at (axT i) pc = some (ins, x, y)) (hsp : ax_split (axNa y) [] st = some (as, rest)) (hwt : ax_wt rest = true) (hc1 : ax_c1 as = true) (hrc : (Nat.beq x 2 || Nat.beq x 3) = false → ax_rc w y as)
    (hd2 : 2 ≤ d) (hev : ax_ev L xs n (d - 1) y (0, ax_ent 0 as, [], w, a, b) (w1, r1, a1, b1)) (hsi : (Nat.beq x 1 || Nat.beq x 4) = true → r1 = .inl none)
    (C : ax_Cx i p l s m args meth c A D τ bS L xs) (hdf : d ≤ R.frames) (hdl : 40 * d ≤ R.locals) (I : ax_In i s A D τ bS a0 b0 n0 σ0 ls w a b H locs cells slots σ lsA) (hq1 : a1 ≤ a0 + R.cells) (hq2 : b1 ≤ b0 + R.slots) :
    ∃ av : Array Value, vx_Run p l e R s m args below meth c H locs cells slots (a1 - a) (b1 - b) (F0 m pc lsA (st.map (ax_v σ))) (rest.map (ax_v σ)) (ax_Qr D τ (va_A (ax_W σ τ w) H.size) σ w.length w1 r1 av) (ax_Xr D τ (va_A (ax_W σ τ w) H.size) σ w.length w1 r1) (va_A (ax_W σ τ w) H.size) := by
  obtain ⟨hi, hx, hb, hr, hml, hown, hts, hlocks, hnm, htab, hG, hA, hl9⟩ := C
  obtain ⟨hP, hD, hSv, hl, hc, hσ, hn0, hca, hcb, hs0⟩ := I
  have hst := ax_stat hi hat
  have hmono := ax_ev_mono n (d - 1) y _ _ hev
  simp only at hmono
  obtain ⟨hste, hlen⟩ := ax_split_of hsp
  have hA1 : ∀ q, va_A (ax_W σ τ w) H.size q → A q := fun q h => by
    rcases h with ⟨k9, e9, h⟩ | h
    · exact hD.2 k9 (q, e9) h
    · exact hA q (Nat.le_trans hSv.1 h)
  have hwr : 2 * (F0 m pc lsA (st.map (ax_v σ))).monitorRoom + ((rest.map (ax_v σ)).map fun v => v.category).sum ≤ 8 := by
    show 2 * 0 + _ ≤ 8
    rw [ax_v_cats]
    have := Nat.le_of_ble_eq_true hwt
    omega
  have hfix : CallFix p m c (axB i) (axLo i) s args axTB (axO i) := ⟨hx, hb, hml, hown, hts⟩
  have hws : ∀ u ∈ axCode y :: axTB, y < 105 → ∀ (a' : Array Value) (U : State), s.WarmedH U.vm → u.before a' U = true := fun u hu hy a' U hW => by
    have hu9 : u ∈ axTB := by
      rcases List.mem_cons.mp hu with h | h
      · rw [h]; exact ax_in_code hy
      · exact h
    exact ax_ride (ax_TB_ok u hu9).2 hW (hts u hu9)
  have hpre : ∀ U : State, U.heap = H → s.WarmedH U.vm → ax_Pc D τ bS L xs σ w (as.map (ax_v σ)) H.size (as.map (ax_v σ)).toArray U := fun U hU hW =>
    ⟨rfl, by rw [hU], by rw [hU]; exact hP, hD.weaken (fun _ _ _ _ => trivial), by
      rw [hU]
      exact ax_G.to hG hW hSv.1 hSv.2.1 hA1⟩
  have hne : ∀ {u : Cond}, u ∈ ax_need i (pc, ins, x, y) → ax_isN u = false → u.before args s = true := fun h1 h2 => hts _ (ax_in_need hi (ax_at_mem _ _ hat) h1 h2)
  have hrm : y < 105 → (ax_rm (d - 1) a b a1 b1).frames + 1 ≤ R.frames ∧ 8 + (axLo y + 11) + (ax_rm (d - 1) a b a1 b1).locals ≤ R.locals := fun hy => by
    have := (ax_sizes y (by omega)).2.1
    refine ⟨?_, ?_⟩
    · show d - 1 + 1 ≤ R.frames
      omega
    · show 8 + (axLo y + 11) + 40 * (d - 1) ≤ R.locals
      omega
  have hroom : cells + (a1 - a) ≤ R.cells ∧ slots + (b1 - b) ≤ R.slots := by omega
  have hnot : y < 105 → (axY y).cls ≠ "java/lang/invoke/MethodHandle" ∧ (axY y).cls ≠ "java/lang/invoke/VarHandle" := fun hy => (ax_sizes y (by omega)).2.2.2
  have hmet : y < 105 → vx_Met l (axY y) (axCode y :: axTB) (ax_rm (d - 1) a b a1 b1) (ax_Pc D τ bS L xs σ w (as.map (ax_v σ)) H.size) (ax_Qr D τ (va_A (ax_W σ τ w) H.size) σ w.length w1 r1) (ax_Xr D τ (va_A (ax_W σ τ w) H.size) σ w.length w1 r1) (a1 - a) (b1 - b) (va_A (ax_W σ τ w) H.size) :=
    fun hy => ax_met hl9 hS hy (by omega) hev hc1 hlen hs0 H.size D τ
  cases ins
  case invokevirtual j =>
    have hd := ax_decn hi hat (by rfl)
    simp only [ax_stc, Bool.and_eq_true] at hst
    obtain ⟨⟨⟨⟨⟨g1, g2⟩, g3⟩, g4⟩, g5⟩, g6⟩ := hst
    have g1 := Nat.eq_of_beq_eq_true g1
    have g2 := ax_blt g2
    have g3 : axHh y = [] := of_decide_eq_true g3
    have g4 := of_decide_eq_true g4
    have g6 : (axY y).cls = axRN (axCi y) := of_decide_eq_true g6
    subst g1
    obtain ⟨q, as', fs, has, hw⟩ := ax_rc_ok (hrc rfl)
    subst has
    · skip
      obtain ⟨hcl, hwsz, hty, hnmz⟩ := ax_class (axCi y) (ax_blt g5)
      obtain ⟨hrm1, hrm2⟩ := hrm g2
      have hcode : (Cond.code (axY y) (axB y) (axLo y) (axRe y)).before args s = true := by rw [← ax_code0 g3]; exact hts _ (ax_in_code g2)
      have cw : CallW R s args (axO i) (axY y).cls j (axY y) (axB y) (axLo y) (axRe y) (axCode y :: axTB) (ax_rm (d - 1) a b a1 b1) (a1 - a) (b1 - b) as'.length :=
        ⟨⟨rfl, rfl, hrm1, hrm2, fun u hu => hws u hu g2, by rw [ax_code0 g3]; exact List.mem_cons_self, hcode, hne (by simp [ax_need]) rfl, hnot g2, fun sig hsig => by
          unfold axPa at g4
          rw [hsig] at g4
          simp only [Option.map_some, Option.some.injEq] at g4
          simp only [List.length_cons] at hlen
          omega, hne (by simp [ax_need]) rfl⟩, hne (by simp [ax_need]) rfl, hne (by simp [ax_need]) rfl⟩
      refine ⟨_, vx_runV (b := σ (q + 1)) (As := as'.map (ax_v σ)) hfix (hmet g2) cw ⟨ax_blind, ?_, hpre⟩ rfl (List.length_map _) hl.1 ?_ hwr hd hroom⟩
      · have := va_recv hG.1 hP (ci := axCi y) (q0 := q) hcl (ax_W_some hw)
        rw [g6]
        exact this
      · show st.map (ax_v σ) = _
        rw [hste]
        simp [ax_v]
  case invokestatic j =>
    have hd := ax_decn hi hat (by rfl)
    simp only [ax_stc, Bool.or_eq_true, Bool.and_eq_true] at hst
    rcases hst with h5 | hst
    · have h5 := ax_blt h5
      exfalso
      have : Nat.blt x 5 = false := by
        cases h7 : Nat.blt x 5 with
        | false => rfl
        | true => have := ax_blt h7; omega
      simp [ax_kind, this] at hk
    obtain ⟨⟨g2, g4⟩, g5⟩ := hst
    have g2 := ax_blt g2
    have g4 := of_decide_eq_true g4
    obtain ⟨hrm1, hrm2⟩ := hrm g2
    have hsig9 : ∀ sig, parseMethodDescriptor (axY y).desc = some sig → as.length = sig.parameters.length := fun sig hsig => by
      unfold axPa at g4
      rw [hsig] at g4
      simp only [Option.map_some, Option.some.injEq] at g4
      omega
    have hstk : (F0 m pc lsA (st.map (ax_v σ))).stack = (as.map (ax_v σ)).reverse ++ rest.map (ax_v σ) := by
      show st.map (ax_v σ) = _
      rw [hste]
      simp
    rcases g5 with ⟨g6, g7⟩ | ⟨g6, g7⟩
    · have g6 := Nat.eq_of_beq_eq_true g6
      have g7 : axHh y = [] := of_decide_eq_true g7
      subst g6
      have hcode : (Cond.code (axY y) (axB y) (axLo y) (axRe y)).before args s = true := by rw [← ax_code0 g7]; exact hts _ (ax_in_code g2)
      have cw : CallB R s args (axO i) j (axY y) (axB y) (axLo y) (axRe y) (axCode y :: axTB) (ax_rm (d - 1) a b a1 b1) (a1 - a) (b1 - b) as.length ∧ (Cond.static (axY y)).before args s = true :=
        ⟨⟨rfl, rfl, hrm1, hrm2, fun u hu => hws u hu g2, by rw [ax_code0 g7]; exact List.mem_cons_self, hcode, hne (by simp [ax_need]) rfl, hnot g2, hsig9, hne (by simp [ax_need]) rfl⟩, hne (by simp [ax_need]) rfl⟩
      exact ⟨_, vx_runS (As := as.map (ax_v σ)) hfix (hmet g2) cw ⟨ax_blind, hpre⟩ rfl (List.length_map _) hl.1 hstk hwr hd hroom⟩
    · have g6 := Nat.eq_of_beq_eq_true g6
      have g7 : axHh y ≠ [] := fun h => by rw [decide_eq_true h] at g7; cases g7
      subst g6
      have hcode : (Cond.codeWith (axY y) (axB y) (axLo y) (axRe y) (axHh y)).before args s = true := by rw [← ax_codeH g7]; exact hts _ (ax_in_code g2)
      have cw : vx_CSW R s args (axO i) j (axY y) (axB y) (axLo y) (axRe y) (axHh y) (axCode y :: axTB) (ax_rm (d - 1) a b a1 b1) (a1 - a) (b1 - b) as.length :=
        ⟨⟨rfl, rfl, hrm1, hrm2, fun u hu => hws u hu g2, by rw [ax_codeH g7]; exact List.mem_cons_self⟩, hcode, hne (by simp [ax_need]) rfl, hnot g2, hsig9, hne (by simp [ax_need]) rfl, hne (by simp [ax_need]) rfl⟩
      exact ⟨_, vx_runSX (As := as.map (ax_v σ)) hfix (hmet g2) cw ⟨ax_blind, hpre⟩ rfl (List.length_map _) hl.1 hstk hwr hd hroom⟩
  case invokespecial j =>
    have hd := ax_decn hi hat (by rfl)
    have hlt : Nat.blt x 5 = true := by
      cases h7 : Nat.blt x 5 with
      | true => rfl
      | false => simp [ax_kind, h7] at hk
    have hlt := ax_blt hlt
    simp only [ax_stc, Bool.or_eq_true, Bool.and_eq_true] at hst
    rcases hst with (h5 | h5) | hst
    · have := Nat.eq_of_beq_eq_true h5; omega
    · have := Nat.eq_of_beq_eq_true h5; omega
    obtain ⟨⟨⟨⟨⟨g1, g2⟩, g3⟩, g4⟩, g5⟩, g6⟩ := hst
    have g2 := ax_blt g2
    have g3 : axHh y = [] := of_decide_eq_true g3
    have g4 := of_decide_eq_true g4
    have g5 : (axY y).name = "<init>" := of_decide_eq_true g5
    have g6 : axRe y = none := of_decide_eq_true g6
    obtain ⟨hrm1, hrm2⟩ := hrm g2
    have hx23 : (Nat.beq x 2 || Nat.beq x 3) = false := by
      rcases g1 with h | h <;> (have := Nat.eq_of_beq_eq_true h; subst this; rfl)
    have hr1 : r1 = .inl none := hsi (by
      rcases g1 with h | h <;> (have := Nat.eq_of_beq_eq_true h; subst this; rfl))
    subst hr1
    have hcode : (Cond.code (axY y) (axB y) (axLo y) none).before args s = true := by
      have := hts _ (ax_in_code g2)
      rw [ax_code0 g3, g6] at this
      exact this
    have hcm : Cond.code (axY y) (axB y) (axLo y) none ∈ axCode y :: axTB := by rw [ax_code0 g3, g6]; exact List.mem_cons_self
    obtain ⟨q, as', fs, has, hw⟩ := ax_rc_ok (hrc hx23)
    subst has
    · have hsig9 : ∀ sig, parseMethodDescriptor (axY y).desc = some sig → as'.length = sig.parameters.length := fun sig hsig => by
        unfold axPa at g4
        rw [hsig] at g4
        simp only [Option.map_some, Option.some.injEq] at g4
        simp only [List.length_cons] at hlen
        omega
      have hstk : (F0 m pc lsA (st.map (ax_v σ))).stack = (as'.map (ax_v σ)).reverse ++ .ref (σ (q + 1)) :: rest.map (ax_v σ) := by
        show st.map (ax_v σ) = _
        rw [hste]
        simp [ax_v]
      rcases g1 with h | h
      · have := Nat.eq_of_beq_eq_true h
        subst this
        have cw : CallB R s args (axO i) j (axY y) (axB y) (axLo y) none (axCode y :: axTB) (ax_rm (d - 1) a b a1 b1) (a1 - a) (b1 - b) as'.length ∧ (axY y).name = "<init>" ∧ (Cond.instanceMethod (axY y)).before args s = true :=
          ⟨⟨rfl, rfl, hrm1, hrm2, fun u hu => hws u hu g2, hcm, hcode, hne (by simp [ax_need]) rfl, hnot g2, hsig9, hne (by simp [ax_need]) rfl⟩, g5, hne (by simp [ax_need]) rfl⟩
        exact ⟨_, ax_runx (va_runI (b := σ (q + 1)) (As := as'.map (ax_v σ)) hfix (ax_met0 (hmet g2)) cw ⟨ax_blind, hpre⟩ rfl (List.length_map _) hl.1 hstk hwr hd hroom)⟩
      · have := Nat.eq_of_beq_eq_true h
        subst this
        have hnest : (Cond.methodLinkNest (axO i) j (axY y) "PickPaths").before args s = true := ax_nest hi hat hG
        have cw : va_CN R s args (axO i) j (axY y) "PickPaths" (axB y) (axLo y) none (axCode y :: axTB) (ax_rm (d - 1) a b a1 b1) (a1 - a) (b1 - b) as'.length ∧ (axY y).name = "<init>" ∧ (Cond.instanceMethod (axY y)).before args s = true :=
          ⟨⟨⟨rfl, rfl, hrm1, hrm2, fun u hu => hws u hu g2, hcm⟩, hcode, hne (by simp [ax_need]) rfl, hnot g2, hsig9, hnest⟩, g5, hne (by simp [ax_need]) rfl⟩
        exact ⟨_, ax_runx (va_runIN (b := σ (q + 1)) (As := as'.map (ax_v σ)) hfix (ax_met0 (hmet g2)) cw ⟨ax_blind, hpre⟩ rfl (List.length_map _) hl.1 hstk hwr hd hroom)⟩
  case new => simp only [ax_kind, Bool.cond_eq_ite] at hk; split at hk <;> cases hk
  all_goals cases hk
end AXR
end
section
set_option maxHeartbeats 2000000 in
/-- WHAT OUR MACHINE COMES TO, THE JAVA MACHINE COMES TO -/
theorem ax_sound {l : Launch} {L : Nat} {xs : Nat → Int32} : ∀ n, ax_S l L xs n := by
  intro n
  induction n with
  | zero => intro d i k res h; exact h.elim
  | succ n ih =>
    intro d i k res h hd p e R s m args below meth c A D τ bS a0 b0 n0 σ0 mc ms C hdf hdl hq1 hq2 hm1 hm2 H locs cells slots σ lsA I
    obtain ⟨pc, ls, st, w, a, b⟩ := k
    have hR : 1 ≤ R.frames ∧ 40 ≤ R.locals := by omega
    have I : ax_In i s A D τ bS a0 b0 n0 σ0 ls w a b H locs cells slots σ lsA := I
    simp only [ax_ev] at h
    split at h
    · exact h.elim
    · next ins x y hat =>
      split at h
      · next hk =>
        split at h
        · exact h.elim
        · next c9 hc9 =>
          have h2 := ax_ev_mono n d i c9 res h
          exact ax_simple hk hat (show ax_next (ax_alts L xs ins x y (pc, ls, st, w, a, b)) c9 by rw [hc9]; rfl) C hR I ⟨Nat.le_trans h2.1 hq1, Nat.le_trans h2.2.1 hq2⟩ (ih d i c9 res h hd p e R s m args below meth c A D τ bS a0 b0 n0 σ0 mc ms C hdf hdl hq1 hq2 hm1 hm2)
        · next q9 hc9 =>
          obtain ⟨q, hq, hp, h⟩ := h
          have h2 := ax_ev_mono n d i q.2 res h
          exact ax_simple hk hat (show ax_next (ax_alts L xs ins x y (pc, ls, st, w, a, b)) q.2 by rw [hc9]; exact ⟨q.1, hq, hp⟩) C hR I ⟨Nat.le_trans h2.1 hq1, Nat.le_trans h2.2.1 hq2⟩ (ih d i q.2 res h hd p e R s m args below meth c A D τ bS a0 b0 n0 σ0 mc ms C hdf hdl hq1 hq2 hm1 hm2)
      · next hk =>
        split at h
        · exact h.elim
        · next as rest hsp =>
          obtain ⟨hfr, hwt, hc1, hrc, hd2, w1, r1, a1, b1, hev, hsi, h2⟩ := h
          have hmono := ax_ev_mono n (d - 1) y _ _ hev
          simp only at hmono
          have hfin : a1 ≤ res.2.2.1 ∧ b1 ≤ res.2.2.2 := by
            split at h2
            · have := ax_ev_mono n d i _ _ h2; exact ⟨this.1, this.2.1⟩
            · split at h2
              · subst h2; exact ⟨Nat.le_refl _, Nat.le_refl _⟩
              · obtain ⟨h9, k9, -, h2⟩ := h2
                have := ax_ev_mono n d i _ _ h2; exact ⟨this.1, this.2.1⟩
          obtain ⟨av, hrun⟩ := ax_run (e := e) (below := below) ih hk hat hsp hwt hc1 hrc hd2 hev hsi C hdf hdl I (by omega) (by omega)
          obtain ⟨hi, hx, hb, hr, hml, hown, hts, hlocks, hnm, htab, hG, hA, hl9⟩ := id C
          obtain ⟨hP, hD, hSv, hl, hc, hσ, hn0, hca, hcb, hs0⟩ := id I
          simp only [ax_fr, Bool.and_eq_true] at hfr
          obtain ⟨hf1, hf2⟩ := hfr
          have hA1 : ∀ q, va_A (ax_W σ τ w) H.size q → A q := fun q h => by
            rcases h with ⟨k9, e9, h⟩ | h
            · exact hD.2 k9 (q, e9) h
            · exact hA q (Nat.le_trans hSv.1 h)
          refine ax_called hrun hSv hA1 (fun v hv H1 locs1 σ1 hσ1 h1 h3 h4 => ?_) (fun x9 hv hx6 H1 locs1 σ1 q ce hσ1 h1 h3 h4 hce hcv hcl => ?_)
          · subst hv
            simp only at h2
            have hgo := ih d i _ _ h2 hd p e R s m args below meth c A D τ bS a0 b0 n0 σ0 mc ms C hdf hdl hq1 hq2 hm1 hm2 H1 locs1 (cells + (a1 - a)) (slots + (b1 - b)) σ1 lsA
              ⟨h1, h3, h4, by rw [ax_l_ext hσ1 hf1]; exact hl, hc, fun k9 h9 => (hσ1 k9 (by omega)).trans (hσ k9 h9), by simp only; omega, by simp only; omega, by simp only; omega, (hσ1 0 (Nat.zero_le _)).trans hs0⟩
            have hst : (v.map (ax_v σ1)).toList ++ rest.map (ax_v σ) = (v.toList ++ rest).map (ax_v σ1) := by
              rw [List.map_append, ax_vs_ext hσ1 hf2]
              cases v <;> rfl
            rw [hst]
            exact hgo
          · subst hv
            simp only at h2
            split at h2
            · next hh =>
              subst h2
              refine vx_out (fun z hz => by rw [htab, hh] at hz; cases hz) hlocks hce hcv hcl (fun t ht hW => ⟨⟨σ1, x9, fun k9 h9 => (hσ1 k9 (by omega)).trans (hσ k9 h9), rfl, hx6, rfl, by rw [ht]; exact h1, h3⟩, h4.F ht⟩) h4.2.2 (by simp only at hm1; omega) (by simp only at hm2; omega)
            · next q0 r0 hh =>
              obtain ⟨h9, k9, hhd, h2⟩ := h2
              have hII : ax_isI ins = true := by
                cases ins <;> first | rfl | (simp only [ax_kind, Bool.cond_eq_ite] at hk; first | cases hk | (split at hk <;> cases hk))
              have hlσ : lv_has lsA (axLo i) (ax_l σ1 ls) := by rw [ax_l_ext hσ1 hf1]; exact hl
              refine ax_caughtHere hat hII (by rw [hh]; exact fun h => nomatch h) hx6 hhd C hlσ hc hce hcv hcl (fun lsB hB => ?_)
              have hgo := ih d i _ _ h2 hd p e R s m args below meth c A D τ bS a0 b0 n0 σ0 mc ms C hdf hdl hq1 hq2 hm1 hm2 H1 locs1 (cells + (a1 - a)) (slots + (b1 - b)) σ1 lsB
                ⟨h1, h3, h4, hB, fun z hz => hc z (ax_del_mem ls k9 hz).1, fun k8 h8 => (hσ1 k8 (by omega)).trans (hσ k8 h8), by simp only; omega, by simp only; omega, by simp only; omega, (hσ1 0 (Nat.zero_le _)).trans hs0⟩
              exact hgo
      · next hk =>
        split at h
        · next z =>
          obtain ⟨hz, rfl⟩ := h
          exact ax_iret hat hz C I hm1 hm2
        · obtain ⟨hz, rfl⟩ := h
          exact ax_vret hat hz C I hm1 hm2
        · exact h.elim
      · next hk0 hk1 hk2 =>
        obtain ⟨h7, hwt, rfl⟩ := h
        simp only at hq1 hq2 hm1 hm2
        cases ins
        case new j =>
          refine ax_thrown (j := j) ?_ hat hwt (by omega) (by omega) C I hq1 hq2 hm1 hm2
          cases h9 : Nat.blt x 100 with
          | true => exact absurd (by simp [ax_kind, h9]) hk0
          | false => simp [ax_kind, h9]
        all_goals first
          | exact absurd rfl hk0
          | exact absurd rfl hk1
          | exact absurd rfl hk2
          | (exfalso
             simp only [ax_kind, Bool.cond_eq_ite] at hk0 hk1
             split at hk0
             · next h9 => rw [if_pos h9] at hk1; exact hk1 rfl
             · exact hk0 rfl)
end
section
/-! The law's own start: the claim out of what our machine comes to on every script. -/
def R_law : String := "PickPathsLaw"
def lw_P (b : Addr) (xs : List Int32) (args : Array Value) (s : State) : Prop := args = #[.ref b] ∧ s.IntsAt b xs ∧ xs.length ≤ 2050 ∧ (Jvm.Cond.and given_1 narrow_1).before args s = true
def lw_Q (_ : Array Value) (s : State) (o : Outcome) (t : State) : Prop := o = .returned (some (.int 1)) ∧ Framed s o t [] 1068 12728
def lw_Z (below : List Frame) (a : Array Value) (s : State) : State → Prop := fun t => ∃ o, t.status = .running ∧ Ended t below o ∧ lw_Q a s o t
def lw_At (p : Program) (s : State) (m : MethodId) (meth : Method) (c : Code) (b L : Nat) (xs : Nat → Int32) : Prop :=
  p.tables.exec = Jvm.exec ∧ c.code = code ∧ meth.sig.returnType = ret ∧ c.maxLocals = 7 ∧ s.vm.findClass R_law = some m.cls ∧ (∀ w ∈ lw_tbl, w.before #[Value.ref b] s = true) ∧ va_X b L xs s s.heap ∧ b < s.heap.size ∧ meth.locks = false ∧ (Jvm.Cond.and given_1 narrow_1).before #[Value.ref b] s = true
/-- ON EVERY SCRIPT OUR MACHINE ANSWERS 1, in the claim's room -/
def ax_Pure : Prop := ∀ (L : Nat) (xs : Nat → Int32), L ≤ 2050 → ∃ (n : Nat) (w : AxW) (a b : Nat), ax_ev L xs n 10 ML_law (0, [(0, .ref 0)], [], [], 0, 0) (w, .inl (some (.int 1)), a, b) ∧ a ≤ 1068 ∧ b ≤ 12728
theorem ax_n1 : ∀ e1, e1 < 6 → ∀ e2, e2 < 6 → e1 ≠ e2 → Cond.not (.castable (axEx e1) (axEx e2)) ∈ flatC (Jvm.Cond.and given_1 narrow_1) := by decide +kernel
theorem ax_n2 : Cond.isRef (.static Bundle.tN "UNASSIGNED_STACK" Bundle.steD) ∈ flatC (Jvm.Cond.and given_1 narrow_1) ∧ Cond.isRef (.static Bundle.tN "SUPPRESSED_SENTINEL" Bundle.listD) ∈ flatC (Jvm.Cond.and given_1 narrow_1) := by decide +kernel
theorem ax_n3 : Cond.laysStatic Bundle.tN "UNASSIGNED_STACK" Bundle.steD ∈ lw_tbl ∧ Cond.laysStatic Bundle.tN "SUPPRESSED_SENTINEL" Bundle.listD ∈ lw_tbl ∧ Cond.initialized Bundle.tN ∈ lw_tbl ∧ Cond.initialized "PickPaths" ∈ lw_tbl := by decide +kernel
theorem ax_n4 : ∀ y, y < 14 → Cond.stringRef "PickPaths" (axTh y).2.2.1 (axTh y).2.2.2.2 ∈ lw_tbl := by decide +kernel
theorem ax_n5 : Cond.methodLinkNest "PickPaths" 11 (axY MX3_init) "PickPaths" ∈ lw_tbl := by decide +kernel
theorem ax_n6 : ∀ ci, ci < 7 → Cond.instantiable (axRN ci) (axNF ci) ∈ lw_tbl := by decide +kernel
theorem ax_n7 : Cond.arrayClass .int ∈ lw_tbl ∧ Cond.arrayClass .boolean ∈ lw_tbl ∧ Cond.arrayClass .long ∈ lw_tbl := by decide +kernel
theorem ax_arr {args : Array Value} {s : State} {ty : FieldType} (h : (Cond.arrayClass ty).before args s = true) (hp : ∀ C, ty ≠ .object C) : ∃ cA : ClassId, ArrOfT s cA ty ∧ va_RA s cA ty := by
  obtain ⟨c, k, comp, h1, h2, h3⟩ := Cond.arrayClass_spec h
  refine ⟨c, fun n z => ⟨fun k h => (by cases h), k, h2, comp, h3⟩, ?_⟩
  cases ty with
  | object C => exact absurd rfl (hp C)
  | _ => exact h1
set_option maxHeartbeats 1000000 in
theorem whole_start (hpure : ax_Pure) {p : Program} {e : Env} {s : State} {m : MethodId} {below : List Frame} {meth : Method} {c : Code} (l : Launch) (hl : l.stackTraces = false) {b L : Nat} {xs : Nat → Int32} (hL : L ≤ 2050) (hnm : meth.name = "law") (htab : c.exceptionTable.toList = []) (C0 : lw_At p s m meth c b L xs) :
    W p l e room_1 s m #[Value.ref b] below meth c s.heap [] 0 0 (lw_Z below #[Value.ref b] s) (entryFrame m ([Value.ref b] : List Value).toArray 7) := by
  obtain ⟨hx, hb, hr, hml, hown, hts, hX, hbl, hlocks, hgv⟩ := C0
  have hs := flat_of_before _ hgv
  have hTB : ∀ w ∈ axTB, w.before #[Value.ref b] s = true := fun w hw => hts w (ax_TB_ok w hw).1
  have hKn : ∀ ci, ∃ (cC : ClassId) (iS : Nat → Nat), ci < 7 → u_Kn s (axRN ci) (axTT ci) (axNF ci) cC iS := fun ci => by
    by_cases h7 : ci < 7
    · obtain ⟨h1, h2, h3, h4⟩ := ax_class ci h7
      obtain ⟨cC, iS, h⟩ := u_known (C := axRN ci) (T := axTT ci) (N := axNF ci) (n := axNF ci) hTB (fun w h => ax_in_cls (h2 w h)) (hts _ (ax_n6 ci h7))
      exact ⟨cC, iS, fun _ => h⟩
    · exact ⟨0, fun _ => 0, fun h => absurd h h7⟩
  obtain ⟨dC, hdC⟩ := Classical.axiomOfChoice hKn
  obtain ⟨dI, hdI⟩ := Classical.axiomOfChoice hdC
  obtain ⟨t0, ht0⟩ := ax_arr (hts _ ax_n7.1) (fun C h => by cases h)
  obtain ⟨t1, ht1⟩ := ax_arr (hts _ ax_n7.2.1) (fun C h => by cases h)
  obtain ⟨t2, ht2⟩ := ax_arr (hts _ ax_n7.2.2) (fun C h => by cases h)
  obtain ⟨τ, hτ0, hτ1, hτ2⟩ : ∃ τ : Nat → ClassId, τ 0 = t0 ∧ τ 1 = t1 ∧ τ 2 = t2 := ⟨fun k => if k = 0 then t0 else if k = 1 then t1 else t2, rfl, rfl, rfl⟩
  have hK : va_K (dC, dI) axCl (axTys τ) s := by
    refine ⟨fun ci q hq => ?_, fun k q hq => ?_⟩
    · have h7 : ci < 7 := (List.getElem?_eq_some_iff.mp hq).1
      rw [(ax_class ci h7).1] at hq
      cases hq
      exact hdI ci h7
    · have hk : k < 3 := (List.getElem?_eq_some_iff.mp hq).1
      match k, hk, hq with
      | 0, _, hq => cases hq; rw [hτ0]; exact ht0
      | 1, _, hq => cases hq; rw [hτ1]; exact ht1
      | 2, _, hq => cases hq; rw [hτ2]; exact ht2
      | n + 3, h, _ => exact absurd h (by omega)
  have hAn : ∀ a : Nat, a < s.heap.size → ¬ (fun q : Nat => s.heap.size ≤ q) a := fun a h => Nat.not_le.mpr h
  obtain ⟨n31, n32, n33, n34⟩ := ax_n3
  have hZU := vx_Zqof (A := fun q : Nat => s.heap.size ≤ q) (hts _ n31) (hts _ n33) (hs _ ax_n2.1) hAn
  have hZS := vx_Zqof (A := fun q : Nat => s.heap.size ≤ q) (hts _ n32) (hts _ n33) (hs _ ax_n2.2) hAn
  have hstr : ∀ y, y < 14 → ∃ sa, vk_R "PickPaths" (axTh y).2.2.1 (axTh y).2.2.2.2 sa s := fun y hy => by
    have h1 := hts _ (ax_n4 y hy)
    have hcur : ∃ cur, s.vm.findClass "PickPaths" = some cur := by
      obtain ⟨q1, q2⟩ := hdI 5 (by decide)
      exact ⟨_, q2.1⟩
    obtain ⟨cur, hcur⟩ := hcur
    obtain ⟨k, cf, i, a, -, -, -, -, -, h2⟩ := Cond.stringRef_spec hcur h1
    exact ⟨a, vk_R.of h1 h2⟩
  have hG : ax_G (dC, dI) τ b L xs (fun q : Nat => s.heap.size ≤ q) s s.heap := ⟨hK, hX, hbl, hAn b hbl, hZU, hZS, hstr, fun e1 e2 h1 h2 h3 => va_Nc.of (hs _ (ax_n1 e1 h1 e2 h2 h3)), va_Nw.of rfl (hts _ ax_n5)⟩
  obtain ⟨n, w, a, b1, hev, ha, hb1⟩ := hpure L xs hL
  have C : ax_Cx ML_law p l s m #[Value.ref b] meth c (fun q : Nat => s.heap.size ≤ q) (dC, dI) τ b L xs :=
    ⟨by decide, hx, hb, hr, hml, hown, hTB, hlocks, hnm, htab, hG, fun _ h => h, hl⟩
  have hgo := ax_sound n 10 ML_law _ _ hev (by decide) p e room_1 s m #[Value.ref b] below meth c (fun q : Nat => s.heap.size ≤ q) (dC, dI) τ b 0 0 0 (fun _ => b) 1068 12728 C (by decide) (by decide) (by show a ≤ 0 + 1068; omega) (by show b1 ≤ 0 + 12728; omega) (by show a ≤ 0 + 1068; omega) (by show b1 ≤ 0 + 12728; omega)
  have hle := lv_entry ([.ref b]) (n := 7) (Nat.le_of_ble_eq_true rfl)
  rw [lg_entry_eq]
  generalize (lg_sl ([.ref b]) ++ List.replicate (7 - (lg_sl ([.ref b])).length) Slot.unset).toArray = lsA at hle ⊢
  have hW := hgo s.heap [] 0 0 (fun _ => b) lsA ⟨fun k q h => by simp [ax_W, ax_Wd] at h, ⟨fun i j p q h => by simp [ax_W, ax_Wd] at h, fun k q h => by simp [ax_W, ax_Wd] at h⟩, va_S.rf, hle, fun q hq => by
    simp only [List.mem_cons, List.not_mem_nil, or_false] at hq
    subst hq
    rfl, fun _ _ => rfl, Nat.le_refl _, rfl, rfl, rfl⟩
  intro T hT X
  obtain ⟨t, a9, o, b1', b2, b3⟩ := hW T hT X
  refine ⟨t, a9, o, b1', b2, ?_⟩
  rcases b3 with ⟨⟨⟨σ', v, -, hv, ho, -, -⟩, -⟩, L9, ⟨h1, h2, h3⟩, h4⟩ | ⟨q, -, E, ce, L9, ⟨⟨σ', x, -, hx9, -⟩, -⟩, -⟩
  · cases hv
    refine ⟨ho, h1, h2, h3.weaken (fun y hy hlt => ?_) (Nat.le_refl _) (Nat.le_refl _)⟩
    exact absurd (h4 y hy) (Nat.not_le.mpr hlt)
  · cases hx9
end
section
/-! Rules of our machine, for paths, calls and ends. -/
theorem ax_ev_succ {L : Nat} {xs : Nat → Int32} : ∀ (n d i : Nat) (k : AxC) (res : AxR), ax_ev L xs n d i k res → ax_ev L xs (n + 1) d i k res := by
  intro n
  induction n with
  | zero => intro d i k res h; exact h.elim
  | succ n ih =>
    intro d i k res h
    obtain ⟨pc, ls, st, w, a, b⟩ := k
    rw [ax_ev] at h ⊢
    revert h
    split
    · exact fun h => h
    · split
      · split
        · exact fun h => h
        · exact fun h => ih _ _ _ _ h
        · rintro ⟨q, h1, h2, h3⟩
          exact ⟨q, h1, h2, ih _ _ _ _ h3⟩
      · split
        · exact fun h => h
        · rintro ⟨h1, h2, h3, h4, h5, w1, r1, a1, b1, h6, h7, h8⟩
          refine ⟨h1, h2, h3, h4, h5, w1, r1, a1, b1, ih _ _ _ _ h6, h7, ?_⟩
          revert h8
          split
          · exact fun h => ih _ _ _ _ h
          · split
            · exact fun h => h
            · rintro ⟨g1, g2, g3, g4⟩
              exact ⟨g1, g2, g3, ih _ _ _ _ g4⟩
      · exact fun h => h
      · exact fun h => h
theorem ax_ev_le {L : Nat} {xs : Nat → Int32} {n m d i : Nat} {k : AxC} {res : AxR} (h : ax_ev L xs n d i k res) (hm : n ≤ m) : ax_ev L xs m d i k res := by
  obtain ⟨j, rfl⟩ := Nat.le.dest hm
  clear hm
  induction j with
  | zero => exact h
  | succ j ih => exact ax_ev_succ _ _ _ _ _ ih
/-- along simple instructions: k of them, with the ways that are taken where there are several; what must hold, and where it ends -/
def ax_path (L : Nat) (xs : Nat → Int32) (i : Nat) : Nat → List Nat → AxC → Option (Prop × AxC)
  | 0, _, c => some (True, c)
  | k + 1, bs, c => match ax_at (axT i) c.1 with
    | none => none
    | some (ins, x, y) => cond (Nat.beq (ax_kind ins x) 0) (match ax_alts L xs ins x y c with
      | none => none
      | some (.inl c1) => ax_path L xs i k bs c1
      | some (.inr alts) => match alts with
        | [] => none
        | [(P, c1)] => (match ax_path L xs i k bs c1 with
          | some (P2, c2) => some (P ∧ P2, c2)
          | none => none)
        | q1 :: q2 :: r => (match bs with
          | [] => none
          | j :: bs => (match ax_nth (q1 :: q2 :: r) j with
            | none => none
            | some (P, c1) => (match ax_path L xs i k bs c1 with
              | some (P2, c2) => some (P ∧ P2, c2)
              | none => none)))) none
theorem ev_alt {L : Nat} {xs : Nat → Int32} {d i pc x y a b : Nat} {ls : AxL} {st : List Value} {w : AxW} {ins : Instr} {c : AxC} {res : AxR} (hat : ax_at (axT i) pc = some (ins, x, y)) (hk : ax_kind ins x = 0) (hn : ax_next (ax_alts L xs ins x y (pc, ls, st, w, a, b)) c) (h : ax_Ev L xs d i c res) :
    ax_Ev L xs d i (pc, ls, st, w, a, b) res := by
  obtain ⟨n, h⟩ := h
  refine ⟨n + 1, ?_⟩
  rw [ax_ev, hat]
  simp only [hk]
  unfold ax_next at hn
  split at hn
  · exact hn.elim
  · next h9 => rw [h9]; subst hn; exact h
  · next h9 => rw [h9]; obtain ⟨P, h1, h2⟩ := hn; exact ⟨(P, c), h1, h2, h⟩
theorem ev_go {L : Nat} {xs : Nat → Int32} {d i : Nat} {res : AxR} : ∀ (k : Nat) (bs : List Nat) {c c1 : AxC} {P : Prop}, ax_path L xs i k bs c = some (P, c1) → P → ax_Ev L xs d i c1 res → ax_Ev L xs d i c res
  | 0, bs, c, c1, P, h, hp, hE => by
    simp only [ax_path, Option.some.injEq, Prod.mk.injEq] at h
    rw [h.2]
    exact hE
  | k + 1, bs, c, c1, P, h, hp, hE => by
    obtain ⟨pc, ls, st, w, a, b⟩ := c
    simp only [ax_path] at h
    split at h
    · cases h
    · next ins x y hat =>
      cases hk : Nat.beq (ax_kind ins x) 0 with
      | false => rw [hk] at h; cases h
      | true =>
        rw [hk] at h
        have hk := Nat.eq_of_beq_eq_true hk
        simp only [cond_true] at h
        split at h
        · cases h
        · next c2 h2 => exact ev_alt hat hk (c := c2) (by rw [h2]; rfl) (ev_go k bs h hp hE)
        · next alts h2 =>
          split at h
          · cases h
          · next P1 c2 =>
            split at h
            · next P2 c3 h3 =>
              simp only [Option.some.injEq, Prod.mk.injEq] at h
              obtain ⟨e1, e2⟩ := h
              subst e1; subst e2
              exact ev_alt hat hk (c := c2) (by rw [h2]; exact ⟨P1, List.mem_cons_self, hp.1⟩) (ev_go k bs h3 hp.2 hE)
            · cases h
          · next q1 q2 r =>
            split at h
            · cases h
            · next j bs1 =>
              split at h
              · cases h
              · next P1 c2 h4 =>
                split at h
                · next P2 c3 h3 =>
                  simp only [Option.some.injEq, Prod.mk.injEq] at h
                  obtain ⟨e1, e2⟩ := h
                  subst e1; subst e2
                  rw [ax_nth_eq] at h4
                  exact ev_alt hat hk (c := c2) (by rw [h2]; exact ⟨P1, List.mem_of_getElem? h4, hp.1⟩) (ev_go k bs1 h3 hp.2 hE)
                · cases h
/-- the receiver, as a program decides it -/
def ax_rb (w : AxW) (j : Nat) : List Value → Bool
  | .ref (c + 1) :: _ => (match ax_nth w c with
    | some (.inr (ci, _)) => Nat.beq ci (axCi j)
    | _ => false)
  | _ => false
theorem ax_rb_ok {w : AxW} {j : Nat} {as : List Value} (h : ax_rb w j as = true) : ax_rc w j as := by
  unfold ax_rb at h
  split at h
  · split at h
    · next ci fs hw =>
      rw [Nat.eq_of_beq_eq_true h] at hw
      exact ⟨_, hw⟩
    · cases h
  · cases h
/-- a call's data: the callee, its arguments, what stays; whether it is a constructor's -/
def ax_cd (i : Nat) : AxC → Option (Nat × List Value × List Value × Bool)
  | (pc, ls, st, w, _, _) => match ax_at (axT i) pc with
    | none => none
    | some (ins, x, y) => cond (Nat.beq (ax_kind ins x) 1) (match ax_split (axNa y) [] st with
      | none => none
      | some (as, rest) => cond (ax_fr w.length ls rest && ax_wt rest && ax_c1 as && ((Nat.beq x 2 || Nat.beq x 3) || ax_rb w y as)) (some (y, as, rest, Nat.beq x 1 || Nat.beq x 4)) none) none
section AXV
variable {L : Nat} {xs : Nat → Int32} {d i pc y a b a1 b1 : Nat} {ls : AxL} {st as rest : List Value} {w w1 : AxW} {res : AxR} {sp : Bool}
theorem ax_cd_ok (h : ax_cd i (pc, ls, st, w, a, b) = some (y, as, rest, sp)) : ∃ ins x, ax_at (axT i) pc = some (ins, x, y) ∧ ax_kind ins x = 1 ∧ ax_split (axNa y) [] st = some (as, rest) ∧ ax_fr w.length ls rest = true ∧ ax_wt rest = true ∧ ax_c1 as = true ∧ ((Nat.beq x 2 || Nat.beq x 3) = false → ax_rc w y as) ∧ (Nat.beq x 1 || Nat.beq x 4) = sp := by
  simp only [ax_cd] at h
  split at h
  · cases h
  · next ins x y1 hat =>
    cases hk : Nat.beq (ax_kind ins x) 1 with
    | false => rw [hk] at h; cases h
    | true =>
      rw [hk] at h
      simp only [cond_true] at h
      split at h
      · cases h
      · next as1 rest1 hsp =>
        cases hq : (ax_fr w.length ls rest1 && ax_wt rest1 && ax_c1 as1 && ((Nat.beq x 2 || Nat.beq x 3) || ax_rb w y1 as1)) with
        | false => rw [hq] at h; cases h
        | true =>
          rw [hq] at h
          simp only [cond_true, Option.some.injEq, Prod.mk.injEq] at h
          obtain ⟨rfl, rfl, rfl, rfl⟩ := h
          simp only [Bool.and_eq_true] at hq
          obtain ⟨⟨⟨q1, q2⟩, q3⟩, q4⟩ := hq
          refine ⟨ins, x, hat, Nat.eq_of_beq_eq_true hk, hsp, q1, q2, q3, fun h9 => ?_, rfl⟩
          rw [h9, Bool.false_or] at q4
          exact ax_rb_ok q4
/-- a call that returns -/
theorem ev_call {v : Option Value} (h : ax_cd i (pc, ls, st, w, a, b) = some (y, as, rest, sp)) (hd : 2 ≤ d) (hc : ax_Ev L xs (d - 1) y (0, ax_ent 0 as, [], w, a, b) (w1, .inl v, a1, b1)) (hsp : sp = true → v = none)
    (ht : ax_Ev L xs d i (pc + 3, ls, v.toList ++ rest, w1, a1, b1) res) : ax_Ev L xs d i (pc, ls, st, w, a, b) res := by
  obtain ⟨ins, x, h1, h2, h3, h4, h5, h6, h7, h8⟩ := ax_cd_ok h
  obtain ⟨n1, hc⟩ := hc
  obtain ⟨n2, ht⟩ := ht
  refine ⟨max n1 n2 + 1, ?_⟩
  rw [ax_ev, h1]
  simp only [h2]
  rw [h3]
  exact ⟨h4, h5, h6, h7, hd, w1, .inl v, a1, b1, ax_ev_le hc (Nat.le_max_left _ _), fun h9 => by rw [hsp (h8 ▸ h9)], ax_ev_le ht (Nat.le_max_right _ _)⟩
/-- a call that throws, and nothing catches it here -/
theorem ev_callX {x9 : Nat} (h : ax_cd i (pc, ls, st, w, a, b) = some (y, as, rest, false)) (hd : 2 ≤ d) (hh : axHh i = []) (hc : ax_Ev L xs (d - 1) y (0, ax_ent 0 as, [], w, a, b) (w1, .inr x9, a1, b1)) : ax_Ev L xs d i (pc, ls, st, w, a, b) (w1, .inr x9, a1, b1) := by
  obtain ⟨ins, x, h1, h2, h3, h4, h5, h6, h7, h8⟩ := ax_cd_ok h
  obtain ⟨n1, hc⟩ := hc
  refine ⟨n1 + 1, ?_⟩
  rw [ax_ev, h1]
  simp only [h2]
  rw [h3]
  refine ⟨h4, h5, h6, h7, hd, w1, .inr x9, a1, b1, hc, (fun h9 => by rw [h8] at h9; cases h9), ?_⟩
  simp only [hh]
/-- a call that throws, and it is caught here -/
theorem ev_callC {x9 h9 k9 : Nat} (h : ax_cd i (pc, ls, st, w, a, b) = some (y, as, rest, false)) (hd : 2 ≤ d) (hh : axHh i ≠ []) (hc : ax_Ev L xs (d - 1) y (0, ax_ent 0 as, [], w, a, b) (w1, .inr x9, a1, b1)) (hx : ax_hd i x9 = some (h9, k9))
    (ht : ax_Ev L xs d i (h9, ax_del ls k9, [], w1, a1, b1) res) : ax_Ev L xs d i (pc, ls, st, w, a, b) res := by
  obtain ⟨ins, x, h1, h2, h3, h4, h5, h6, h7, h8⟩ := ax_cd_ok h
  obtain ⟨n1, hc⟩ := hc
  obtain ⟨n2, ht⟩ := ht
  refine ⟨max n1 n2 + 1, ?_⟩
  rw [ax_ev, h1]
  simp only [h2]
  rw [h3]
  refine ⟨h4, h5, h6, h7, hd, w1, .inr x9, a1, b1, ax_ev_le hc (Nat.le_max_left _ _), (fun h9 => by rw [h8] at h9; cases h9), ?_⟩
  simp only
  split
  · next h0 => exact absurd h0 hh
  · exact ⟨h9, k9, hx, ax_ev_le ht (Nat.le_max_right _ _)⟩
/-- ends -/
theorem ev_ret {z : Int32} {x : Nat} (hat : ax_at (axT i) pc = some (.ireturn, x, y)) (hr : axRe i = some .int) : ax_Ev L xs d i (pc, ls, [.int z], w, a, b) (w, .inl (some (.int z)), a, b) := by
  refine ⟨1, ?_⟩
  rw [ax_ev, hat]
  refine ⟨?_, rfl⟩
  unfold ax_rv
  rw [hr]
  trivial
theorem ev_retb {z : Int32} {x : Nat} (hat : ax_at (axT i) pc = some (.ireturn, x, y)) (hr : axRe i = some .boolean) (hz : z = 0 ∨ z = 1) : ax_Ev L xs d i (pc, ls, [.int z], w, a, b) (w, .inl (some (.int z)), a, b) := by
  refine ⟨1, ?_⟩
  rw [ax_ev, hat]
  refine ⟨?_, rfl⟩
  unfold ax_rv
  rw [hr]
  exact hz
theorem ev_retv {x : Nat} (hat : ax_at (axT i) pc = some (.return_, x, y)) (hr : axRe i = none) : ax_Ev L xs d i (pc, ls, [], w, a, b) (w, .inl none, a, b) := by
  refine ⟨1, ?_⟩
  rw [ax_ev, hat]
  exact ⟨hr, rfl⟩
theorem ev_thr {j x : Nat} (hat : ax_at (axT i) pc = some (.new j, x, y)) (hk : ax_kind (.new j) x = 3) (hd : 7 ≤ d) (hw : ax_wt st = true) : ax_Ev L xs d i (pc, ls, st, w, a, b) (w, .inr (x - 100), a + 1, b + 6) := by
  refine ⟨1, ?_⟩
  rw [ax_ev, hat]
  simp only [hk]
  exact ⟨hd, hw, by first | rfl | trivial⟩
end AXV
end
section
/-! The same with a picture of the end. -/
def EvP (L : Nat) (xs : Nat → Int32) (d i : Nat) (c : AxC) (Q : AxR → Prop) : Prop := ∃ r, ax_Ev L xs d i c r ∧ Q r
def ax_halt (i : Nat) (stops : List Nat) (pc : Nat) : Bool := stops.any (Nat.beq pc) || (match ax_at (axT i) pc with
  | none => true
  | some (ins, x, _) => !Nat.beq (ax_kind ins x) 0)
/-- along simple instructions up to one of the places 'stops', or up to a call or an end -/
def ax_pu (L : Nat) (xs : Nat → Int32) (i : Nat) (stops : List Nat) : Nat → List Nat → AxC → Option (Prop × AxC)
  | 0, _, _ => none
  | k + 1, bs, c => match ax_at (axT i) c.1 with
    | none => none
    | some (ins, x, y) => cond (Nat.beq (ax_kind ins x) 0) (match ax_alts L xs ins x y c with
      | none => none
      | some (.inl c1) => cond (ax_halt i stops c1.1) (some (True, c1)) (ax_pu L xs i stops k bs c1)
      | some (.inr alts) => match alts with
        | [] => none
        | [(P, c1)] => cond (ax_halt i stops c1.1) (some (P ∧ True, c1)) (match ax_pu L xs i stops k bs c1 with
          | some (P2, c2) => some (P ∧ P2, c2)
          | none => none)
        | q1 :: q2 :: r => (match bs with
          | [] => none
          | j :: bs => (match ax_nth (q1 :: q2 :: r) j with
            | none => none
            | some (P, c1) => cond (ax_halt i stops c1.1) (some (P ∧ True, c1)) (match ax_pu L xs i stops k bs c1 with
              | some (P2, c2) => some (P ∧ P2, c2)
              | none => none)))) none
section AXP
variable {L : Nat} {xs : Nat → Int32} {d i pc y a b a1 b1 : Nat} {ls : AxL} {st as rest : List Value} {w w1 : AxW} {res : AxR} {sp : Bool} {Q : AxR → Prop}
theorem ev_pu (stops : List Nat) : ∀ (k : Nat) (bs : List Nat) {c c1 : AxC} {P : Prop}, ax_pu L xs i stops k bs c = some (P, c1) → P → ax_Ev L xs d i c1 res → ax_Ev L xs d i c res
  | 0, bs, c, c1, P, h, hp, hE => by cases h
  | k + 1, bs, c, c1, P, h, hp, hE => by
    obtain ⟨pc, ls, st, w, a, b⟩ := c
    simp only [ax_pu] at h
    split at h
    · cases h
    · next ins x y hat =>
      cases hk : Nat.beq (ax_kind ins x) 0 with
      | false => rw [hk] at h; cases h
      | true =>
        rw [hk] at h
        have hk := Nat.eq_of_beq_eq_true hk
        simp only [cond_true] at h
        split at h
        · cases h
        · next c2 h2 =>
          refine ev_alt hat hk (c := c2) (by rw [h2]; rfl) ?_
          cases hs : ax_halt i stops c2.1 with
          | true =>
            rw [hs] at h
            simp only [cond_true, Option.some.injEq, Prod.mk.injEq] at h
            rw [h.2]; exact hE
          | false => rw [hs] at h; exact ev_pu stops k bs h hp hE
        · next alts h2 =>
          split at h
          · cases h
          · next P1 c2 =>
            cases hs : ax_halt i stops c2.1 with
            | true =>
              rw [hs] at h
              simp only [cond_true, Option.some.injEq, Prod.mk.injEq] at h
              rw [← h.1] at hp
              exact ev_alt hat hk (c := c2) (by rw [h2]; exact ⟨P1, List.mem_cons_self, hp.1⟩) (by rw [h.2]; exact hE)
            | false =>
              rw [hs] at h
              simp only [cond_false] at h
              split at h
              · next P2 c3 h3 =>
                simp only [Option.some.injEq, Prod.mk.injEq] at h
                obtain ⟨e1, e2⟩ := h
                subst e1; subst e2
                exact ev_alt hat hk (c := c2) (by rw [h2]; exact ⟨P1, List.mem_cons_self, hp.1⟩) (ev_pu stops k bs h3 hp.2 hE)
              · cases h
          · next q1 q2 r =>
            split at h
            · cases h
            · next j bs1 =>
              split at h
              · cases h
              · next P1 c2 h4 =>
                rw [ax_nth_eq] at h4
                cases hs : ax_halt i stops c2.1 with
                | true =>
                  rw [hs] at h
                  simp only [cond_true, Option.some.injEq, Prod.mk.injEq] at h
                  rw [← h.1] at hp
                  exact ev_alt hat hk (c := c2) (by rw [h2]; exact ⟨P1, List.mem_of_getElem? h4, hp.1⟩) (by rw [h.2]; exact hE)
                | false =>
                  rw [hs] at h
                  simp only [cond_false] at h
                  split at h
                  · next P2 c3 h3 =>
                    simp only [Option.some.injEq, Prod.mk.injEq] at h
                    obtain ⟨e1, e2⟩ := h
                    subst e1; subst e2
                    exact ev_alt hat hk (c := c2) (by rw [h2]; exact ⟨P1, List.mem_of_getElem? h4, hp.1⟩) (ev_pu stops k bs1 h3 hp.2 hE)
                  · cases h
theorem gu (stops bs : List Nat) {c c1 : AxC} {P : Prop} (h : ax_pu L xs i stops 200 bs c = some (P, c1)) (hp : P) (hE : EvP L xs d i c1 Q) : EvP L xs d i c Q := by
  obtain ⟨r, h1, h2⟩ := hE
  exact ⟨r, ev_pu stops 200 bs h hp h1, h2⟩
theorem gu' (stops bs : List Nat) {c c1 : AxC} {P : Prop} (h : ax_pu L xs i stops 200 bs c = some (P, c1)) (hp : P) (hE : ax_Ev L xs d i c1 res) : ax_Ev L xs d i c res := ev_pu stops 200 bs h hp hE
/-- a call whose end is known exactly -/
theorem gc {v : Option Value} (h : ax_cd i (pc, ls, st, w, a, b) = some (y, as, rest, sp)) (hd : 2 ≤ d) (hc : ax_Ev L xs (d - 1) y (0, ax_ent 0 as, [], w, a, b) (w1, .inl v, a1, b1)) (hsp : sp = true → v = none)
    (ht : EvP L xs d i (pc + 3, ls, v.toList ++ rest, w1, a1, b1) Q) : EvP L xs d i (pc, ls, st, w, a, b) Q := by
  obtain ⟨r, h1, h2⟩ := ht
  exact ⟨r, ev_call h hd hc hsp h1, h2⟩
/-- a call with a picture of its end -/
theorem gq {Q1 : AxR → Prop} (h : ax_cd i (pc, ls, st, w, a, b) = some (y, as, rest, false)) (hd : 2 ≤ d) (hc : EvP L xs (d - 1) y (0, ax_ent 0 as, [], w, a, b) Q1)
    (ht : ∀ r, Q1 r → ∃ w1 v a1 b1, r = (w1, .inl v, a1, b1) ∧ EvP L xs d i (pc + 3, ls, v.toList ++ rest, w1, a1, b1) Q) : EvP L xs d i (pc, ls, st, w, a, b) Q := by
  obtain ⟨r, h1, h2⟩ := hc
  obtain ⟨w1, v, a1, b1, rfl, r2, h3, h4⟩ := ht r h2
  exact ⟨r2, ev_call h hd h1 (fun h => by cases h) h3, h4⟩
theorem ge {c : AxC} (h : ax_Ev L xs d i c res) (hq : Q res) : EvP L xs d i c Q := ⟨res, h, hq⟩
theorem EvP.imp {c : AxC} {Q2 : AxR → Prop} (h : EvP L xs d i c Q) (hq : ∀ r, Q r → Q2 r) : EvP L xs d i c Q2 := by
  obtain ⟨r, h1, h2⟩ := h
  exact ⟨r, h1, hq r h2⟩
end AXP
/-! Numbers -/
theorem nI_inj {a b : Nat} (ha : a < 2 ^ 31) (hb : b < 2 ^ 31) (h : nI a = nI b) : a = b := (nI_eq ha hb).mp h
theorem vp_nI {k n : Nat} (h : k < n) (hn : n < 2 ^ 31) : vp_in (nI k) n := vp_in_nI h hn
theorem nI_cl {k : Nat} (h : k < 2 ^ 31) : (nI k).toNatClampNeg = k := nI_clamp h
/-- up to here it holds, counted -/
def cnt (P : Nat → Bool) : Nat → Nat
  | 0 => 0
  | k + 1 => cnt P k + (cond (P k) 1 0)
theorem cnt_le (P : Nat → Bool) : ∀ k, cnt P k ≤ k
  | 0 => Nat.le_refl _
  | k + 1 => by
    have := cnt_le P k
    simp only [cnt]
    cases P k <;> simp <;> omega
end
section
/-! The same machine over whole numbers: what a path asks is said of numbers without bound, sums with the bound that they keep. -/
abbrev BV : Type := Int ⊕ (Nat ⊕ (Int ⊕ Unit))
abbrev bI (z : Int) : BV := .inl z
abbrev bR (k : Nat) : BV := .inr (.inl k)
abbrev bJ (z : Int) : BV := .inr (.inr (.inl z))
abbrev bN : BV := .inr (.inr (.inr ()))
abbrev BE : Type := (Nat × Nat × (Int → Int)) ⊕ (Nat × List BV)
abbrev BW : Type := List BE
abbrev BL : Type := List (Nat × BV)
abbrev BC : Type := Nat × BL × List BV × BW × Nat × Nat
abbrev BR : Type := BW × (Option BV ⊕ Nat) × Nat × Nat
def b_v : BV → Value
  | .inl z => .int (Int32.ofInt z)
  | .inr (.inl k) => .ref k
  | .inr (.inr (.inl z)) => .long (Int64.ofInt z)
  | .inr (.inr (.inr _)) => .null
def b_e : BE → va_E
  | .inl (0, n, f) => .inl (0, n, .inl (fun j => Int32.ofInt (f (j : Int))))
  | .inl (1, n, f) => .inl (1, n, .inl (fun j => Int32.ofInt (f (j : Int))))
  | .inl (_, n, f) => .inl (2, n, .inr (.inl (fun j => Int64.ofInt (f (j : Int)))))
  | .inr (ci, fs) => .inr (ci, fs.map b_v)
def b_l (ls : BL) : AxL := ls.map (fun q => (q.1, b_v q.2))
def b_c : BC → AxC
  | (pc, ls, st, w, a, b) => (pc, b_l ls, st.map b_v, w.map b_e, a, b)
def b_o : Option BV ⊕ Nat → Option Value ⊕ Nat
  | .inl v => .inl (v.map b_v)
  | .inr e => .inr e
def b_r : BR → AxR
  | (w, r, a, b) => (w.map b_e, b_o r, a, b)
def b_in (z : Int) : Prop := -2147483648 ≤ z ∧ z ≤ 2147483647
def b_okv : BV → Prop
  | .inl z => b_in z
  | .inr (.inl _) => True
  | .inr (.inr (.inl z)) => b_in z
  | .inr (.inr (.inr _)) => True
def b_oke : BE → Prop
  | .inl (_, _, f) => ∀ j, b_in (f j)
  | .inr (_, fs) => ∀ v ∈ fs, b_okv v
def b_ok : BC → Prop
  | (_, ls, st, w, _, _) => (∀ q ∈ ls, b_okv q.2) ∧ (∀ v ∈ st, b_okv v) ∧ (∀ e ∈ w, b_oke e)
def b_oko : Option BV ⊕ Nat → Prop
  | .inl (some v) => b_okv v
  | _ => True
def b_okr : BR → Prop
  | (w, r, _, _) => (∀ e ∈ w, b_oke e) ∧ b_oko r
/-- a row, changed at one place -/
def up (f : Int → Int) (k v : Int) : Int → Int := fun j => if j = k then v else f j
def bx_get : BL → Nat → Option BV
  | [], _ => none
  | (i, v) :: r, k => cond (Nat.beq i k) (some v) (bx_get r k)
def bx_del : BL → Nat → BL
  | [], _ => []
  | (i, v) :: r, k => cond (Nat.beq i k) (bx_del r k) ((i, v) :: bx_del r k)
def bx_set : BL → Nat → BV → BL
  | [], k, v => [(k, v)]
  | (i, u) :: r, k, v => cond (Nat.beq i k) ((k, v) :: bx_del r k) ((i, u) :: bx_set r k v)
def bx_wv (n : Nat) : BV → Bool
  | .inr (.inl k) => Nat.ble k n
  | _ => true
def bx_we (n : Nat) : BE → Bool
  | .inl _ => true
  | .inr (_, fs) => fs.all (bx_wv n)
def bx_fr (n : Nat) (ls : BL) (st : List BV) : Bool := ls.all (fun q => bx_wv n q.2) && st.all (bx_wv n)
def bx_cat : BV → Nat
  | .inr (.inr (.inl _)) => 2
  | _ => 1
def bx_wt (r : List BV) : Bool := Nat.ble (r.map bx_cat).sum 8
def bx_sm (n : Nat) : Int → Bool
  | .ofNat k => Nat.blt k n
  | .negSucc k => Nat.blt k n
def bx_dfl (ci : Nat) : List BV := (List.range (axNF ci)).map (fun k => match axTy ci k with | .int => bI 0 | .boolean => bI 0 | _ => bN)
def bAnd (x y : Int) : Int := (Int32.ofInt x &&& Int32.ofInt y).toInt
def bXor (x y : Int) : Int := (Int32.ofInt x ^^^ Int32.ofInt y).toInt
def bShl (x y : Int) : Int := (Int32.ofInt x <<< (Int32.ofInt y &&& 31)).toInt
def bShr (x y : Int) : Int := (Int32.ofInt x >>> (Int32.ofInt y &&& 31)).toInt
def bx_sw (pc : Nat) (x : Int) (lo : Int) : Nat → List Int → List (Prop × Nat)
  | _, [] => []
  | j, off :: r => (x = lo + (j : Int), ax_tg pc off) :: bx_sw pc x lo (j + 1) r
def bx_lk (pc : Nat) (x : Int) (ps : List (Int × Int)) (dflt : Int) : List Int → List (Prop × Nat)
  | [] => []
  | off :: r => (Op.lookupswitch.offset ps dflt x = off, ax_tg pc off) :: bx_lk pc x ps dflt r
def bx_cmp (c : ClassFile.Cond) (x y : Int) (c1 c2 : BC) : Option (BC ⊕ List (Prop × BC)) := match c with
  | .eq => some (.inr [(x = y, c1), (¬ x = y, c2)])
  | .ne => some (.inr [(¬ x = y, c1), (x = y, c2)])
  | .lt => some (.inr [(x < y, c1), (y ≤ x, c2)])
  | .ge => some (.inr [(y ≤ x, c1), (x < y, c2)])
  | .gt => some (.inr [(y < x, c1), (x ≤ y, c2)])
  | .le => some (.inr [(x ≤ y, c1), (y < x, c2)])
def bx_alts (L : Nat) (xs : Nat → Int32) (ins : Instr) (x y : Nat) : BC → Option (BC ⊕ List (Prop × BC))
  | (pc, ls, st, w, a, b) => match ins with
    | .iload k => (match bx_get ls k with | some (.inl z) => some (.inl (pc + 2, ls, .inl z :: st, w, a, b)) | _ => none)
    | .iload_n k => (match bx_get ls k.val with | some (.inl z) => some (.inl (pc + 1, ls, .inl z :: st, w, a, b)) | _ => none)
    | .aload k => (match bx_get ls k with | some (.inr (.inl z)) => some (.inl (pc + 2, ls, .inr (.inl z) :: st, w, a, b)) | _ => none)
    | .aload_n k => (match bx_get ls k.val with | some (.inr (.inl z)) => some (.inl (pc + 1, ls, .inr (.inl z) :: st, w, a, b)) | _ => none)
    | .istore k => (match st with | .inl z :: r => some (.inl (pc + 2, bx_set ls k (.inl z), r, w, a, b)) | _ => none)
    | .istore_n k => (match st with | .inl z :: r => some (.inl (pc + 1, bx_set ls k.val (.inl z), r, w, a, b)) | _ => none)
    | .astore k => (match st with | .inr (.inl z) :: r => some (.inl (pc + 2, bx_set ls k (.inr (.inl z)), r, w, a, b)) | _ => none)
    | .astore_n k => (match st with | .inr (.inl z) :: r => some (.inl (pc + 1, bx_set ls k.val (.inr (.inl z)), r, w, a, b)) | _ => none)
    | .iconst v => cond (bx_sm 6 v) (some (.inl (pc + 1, ls, .inl v :: st, w, a, b))) none
    | .bipush v => cond (bx_sm 128 v) (some (.inl (pc + 2, ls, .inl v :: st, w, a, b))) none
    | .sipush v => cond (bx_sm 32768 v) (some (.inl (pc + 3, ls, .inl v :: st, w, a, b))) none
    | .ldc _ => cond (Nat.blt x 2147483648) (cond (Nat.beq x 0) none (some (.inl (pc + 2, ls, .inl (x : Int) :: st, w, a, b)))) none
    | .iinc k v => (match bx_get ls k with | some (.inl z) => some (.inr [(-2147483648 ≤ z + v ∧ z + v ≤ 2147483647, (pc + 3, bx_set ls k (.inl (z + v)), st, w, a, b))]) | _ => none)
    | .iadd => (match st with | .inl q :: .inl p :: r => some (.inr [(-2147483648 ≤ p + q ∧ p + q ≤ 2147483647, (pc + 1, ls, .inl (p + q) :: r, w, a, b))]) | _ => none)
    | .isub => (match st with | .inl q :: .inl p :: r => some (.inr [(-2147483648 ≤ p - q ∧ p - q ≤ 2147483647, (pc + 1, ls, .inl (p - q) :: r, w, a, b))]) | _ => none)
    | .imul => (match st with | .inl q :: .inl p :: r => some (.inr [(-2147483648 ≤ p * q ∧ p * q ≤ 2147483647, (pc + 1, ls, .inl (p * q) :: r, w, a, b))]) | _ => none)
    | .iand => (match st with | .inl q :: .inl p :: r => some (.inl (pc + 1, ls, .inl (bAnd p q) :: r, w, a, b)) | _ => none)
    | .ixor => (match st with | .inl q :: .inl p :: r => some (.inl (pc + 1, ls, .inl (bXor p q) :: r, w, a, b)) | _ => none)
    | .ishl => (match st with | .inl q :: .inl p :: r => some (.inl (pc + 1, ls, .inl (bShl p q) :: r, w, a, b)) | _ => none)
    | .ishr => (match st with | .inl q :: .inl p :: r => some (.inl (pc + 1, ls, .inl (bShr p q) :: r, w, a, b)) | _ => none)
    | .idiv => (match st with | .inl q :: .inl p :: r => some (.inr [(0 ≤ p ∧ 0 < q, (pc + 1, ls, .inl (p / q) :: r, w, a, b))]) | _ => none)
    | .irem => (match st with | .inl q :: .inl p :: r => some (.inr [(0 ≤ p ∧ 0 < q, (pc + 1, ls, .inl (p % q) :: r, w, a, b))]) | _ => none)
    | .i2l => (match st with | .inl p :: r => some (.inl (pc + 1, ls, .inr (.inr (.inl p)) :: r, w, a, b)) | _ => none)
    | .lcmp => (match st with | .inr (.inr (.inl q)) :: .inr (.inr (.inl p)) :: r => some (.inl (pc + 1, ls, .inl (if q < p then 1 else if p = q then 0 else -1) :: r, w, a, b)) | _ => none)
    | .dup => (match st with | .inr (.inl z) :: r => some (.inl (pc + 1, ls, .inr (.inl z) :: .inr (.inl z) :: r, w, a, b)) | .inl z :: r => some (.inl (pc + 1, ls, .inl z :: .inl z :: r, w, a, b)) | _ => none)
    | .goto _ => some (.inl (x, ls, st, w, a, b))
    | .if_icmp c _ => (match st with | .inl q :: .inl p :: r => bx_cmp c p q (x, ls, r, w, a, b) (pc + 3, ls, r, w, a, b) | _ => none)
    | .ifCond c _ => (match st with | .inl p :: r => bx_cmp c p 0 (x, ls, r, w, a, b) (pc + 3, ls, r, w, a, b) | _ => none)
    | .tableswitch dflt lo hi offs => (match st with | .inl p :: r => some (.inr (((p < lo ∨ hi < p, ax_tg pc dflt) :: bx_sw pc p lo 0 offs.toList).map (fun q => (q.1, (q.2, ls, r, w, a, b))))) | _ => none)
    | .lookupswitch dflt ps => (match st with | .inl p :: r => some (.inr ((bx_lk pc p ps.toList dflt (dflt :: ps.toList.map (fun q => q.2))).map (fun q => (q.1, (q.2, ls, r, w, a, b))))) | _ => none)
    | .getfield _ => (match st with
      | .inr (.inl (c + 1)) :: r => (match ax_nth w c with
        | some (.inr (ci, fs)) => cond (Nat.beq ci x) (match ax_nth fs y with | some v => some (.inl (pc + 3, ls, v :: r, w, a, b)) | none => none) none
        | _ => none)
      | _ => none)
    | .putfield _ => (match st with
      | v :: .inr (.inl (c + 1)) :: r => (match ax_nth w c with
        | some (.inr (ci, fs)) => cond (Nat.beq ci x && Nat.blt y fs.length && ax_fit (axTy x y) (b_v v)) (some (.inl (pc + 3, ls, r, ax_upd w c (.inr (x, ax_upd fs y v)), a, b))) none
        | _ => none)
      | _ => none)
    | .iaload => (match st with
      | .inl j :: .inr (.inl 0) :: r => some (.inr [(0 ≤ j ∧ j < (L : Int), (pc + 1, ls, .inl (xs j.toNat).toInt :: r, w, a, b))])
      | .inl j :: .inr (.inl (c + 1)) :: r => (match ax_nth w c with
        | some (.inl (0, n, f)) => cond (Nat.blt n 2147483648) (some (.inr [(0 ≤ j ∧ j < (n : Int), (pc + 1, ls, .inl (f j) :: r, w, a, b))])) none
        | _ => none)
      | _ => none)
    | .baload => (match st with
      | .inl j :: .inr (.inl (c + 1)) :: r => (match ax_nth w c with
        | some (.inl (1, n, f)) => cond (Nat.blt n 2147483648) (some (.inr [(0 ≤ j ∧ j < (n : Int), (pc + 1, ls, .inl (f j) :: r, w, a, b))])) none
        | _ => none)
      | _ => none)
    | .laload => (match st with
      | .inl j :: .inr (.inl (c + 1)) :: r => (match ax_nth w c with
        | some (.inl (2, n, f)) => cond (Nat.blt n 2147483648) (some (.inr [(0 ≤ j ∧ j < (n : Int), (pc + 1, ls, .inr (.inr (.inl (f j))) :: r, w, a, b))])) none
        | _ => none)
      | _ => none)
    | .iastore => (match st with
      | .inl v :: .inl j :: .inr (.inl (c + 1)) :: r => (match ax_nth w c with
        | some (.inl (0, n, f)) => cond (Nat.blt n 2147483648) (some (.inr [(0 ≤ j ∧ j < (n : Int), (pc + 1, ls, r, ax_upd w c (.inl (0, n, up f j v)), a, b))])) none
        | _ => none)
      | _ => none)
    | .bastore => (match st with
      | .inl v :: .inl j :: .inr (.inl (c + 1)) :: r => (match ax_nth w c with
        | some (.inl (1, n, f)) => cond (Nat.blt n 2147483648) (some (.inr [(0 ≤ j ∧ j < (n : Int) ∧ 0 ≤ v ∧ v ≤ 1, (pc + 1, ls, r, ax_upd w c (.inl (1, n, up f j v)), a, b))])) none
        | _ => none)
      | _ => none)
    | .lastore => (match st with
      | .inr (.inr (.inl v)) :: .inl j :: .inr (.inl (c + 1)) :: r => (match ax_nth w c with
        | some (.inl (2, n, f)) => cond (Nat.blt n 2147483648) (some (.inr [(0 ≤ j ∧ j < (n : Int), (pc + 1, ls, r, ax_upd w c (.inl (2, n, up f j v)), a, b))])) none
        | _ => none)
      | _ => none)
    | .arraylength => (match st with
      | .inr (.inl 0) :: r => some (.inl (pc + 1, ls, .inl (L : Int) :: r, w, a, b))
      | .inr (.inl (c + 1)) :: r => (match ax_nth w c with
        | some (.inl (0, n, _)) => cond (Nat.blt n 2147483648) (some (.inl (pc + 1, ls, .inl (n : Int) :: r, w, a, b))) none
        | _ => none)
      | _ => none)
    | .newarray _ => (match st with
      | .inl j :: r => cond (bx_fr w.length ls r && w.all (bx_we w.length) && Nat.blt x 2147483648 && Nat.blt y 3) (some (.inr [(j = (x : Int), (pc + 2, ls, .inr (.inl (w.length + 1)) :: r, w ++ [.inl (y, x, fun _ => 0)], a + 1, b + x))])) none
      | _ => none)
    | .new _ => cond (bx_fr w.length ls st && w.all (bx_we w.length) && Nat.blt x 7) (some (.inl (pc + 3, ls, .inr (.inl (w.length + 1)) :: st, w ++ [.inr (x, bx_dfl x)], a + 1, b + axNF x))) none
    | .invokespecial _ => (match x, st with | 5, .inr (.inl _) :: r => cond (bx_wt r) (some (.inl (pc + 3, ls, r, w, a, b))) none | _, _ => none)
    | .invokestatic _ => (match x, st with
      | 6, .inl q :: .inl p :: r => cond (bx_wt r) (some (.inl (pc + 3, ls, .inl (max p q) :: r, w, a, b))) none
      | 7, .inl q :: .inl p :: r => cond (bx_wt r) (some (.inl (pc + 3, ls, .inl (min p q) :: r, w, a, b))) none
      | 8, .inl p :: r => cond (bx_wt r) (some (.inr [(-2147483648 < p, (pc + 3, ls, .inl (max p (-p)) :: r, w, a, b))])) none
      | _, _ => none)
    | _ => none
end
section
/-! .. and it is the machine before. -/
theorem b_toInt {z : Int} (h : b_in z) : (Int32.ofInt z).toInt = z := Int32.toInt_ofInt_of_le (by have := h.1; omega) (by have := h.2; omega)
theorem b_ofInt (z : Int32) : Int32.ofInt z.toInt = z := Int32.ofInt_toInt z
theorem b_in32 (z : Int32) : b_in z.toInt := ⟨by have := Int32.le_toInt z; omega, by have := Int32.toInt_lt z; omega⟩
theorem b_lt {x y : Int} (hx : b_in x) (hy : b_in y) : Int32.ofInt x < Int32.ofInt y ↔ x < y := by
  rw [Int32.lt_iff_toInt_lt, b_toInt hx, b_toInt hy]
theorem b_le {x y : Int} (hx : b_in x) (hy : b_in y) : Int32.ofInt x ≤ Int32.ofInt y ↔ x ≤ y := by
  rw [Int32.le_iff_toInt_le, b_toInt hx, b_toInt hy]
theorem b_eq {x y : Int} (hx : b_in x) (hy : b_in y) : Int32.ofInt x = Int32.ofInt y ↔ x = y := by
  rw [← Int32.toInt_inj, b_toInt hx, b_toInt hy]
theorem b_idx {j : Int} {n : Nat} (h0 : 0 ≤ j) (h1 : j < (n : Int)) (hn : n ≤ 2147483648) : vp_in (Int32.ofInt j) n ∧ (((Int32.ofInt j).toNatClampNeg : Nat) : Int) = j ∧ (Int32.ofInt j).toNatClampNeg = j.toNat := by
  have hj : b_in j := ⟨by omega, by omega⟩
  have e : (Int32.ofInt j).toNatClampNeg = j.toNat := by
    show (Int32.ofInt j).toInt.toNat = j.toNat
    rw [b_toInt hj]
  refine ⟨?_, by rw [e]; omega, e⟩
  unfold vp_in
  rw [e, show (0 : Int32) = Int32.ofInt 0 from rfl, b_lt hj ⟨by omega, by omega⟩]
  omega
theorem b_get : ∀ (ls : BL) (k : Nat), ax_get (b_l ls) k = (bx_get ls k).map b_v
  | [], k => rfl
  | (i, v) :: r, k => by
    show cond (Nat.beq i k) _ (ax_get (b_l r) k) = Option.map b_v (cond (Nat.beq i k) _ (bx_get r k))
    cases Nat.beq i k with
    | true => rfl
    | false => exact b_get r k
theorem b_del : ∀ (ls : BL) (k : Nat), ax_del (b_l ls) k = b_l (bx_del ls k)
  | [], k => rfl
  | (i, v) :: r, k => by
    show cond (Nat.beq i k) (ax_del (b_l r) k) _ = b_l (cond (Nat.beq i k) (bx_del r k) _)
    cases Nat.beq i k with
    | true => exact b_del r k
    | false => exact congrArg (fun q => (i, b_v v) :: q) (b_del r k)
theorem b_set : ∀ (ls : BL) (k : Nat) (v : BV), ax_set (b_l ls) k (b_v v) = b_l (bx_set ls k v)
  | [], k, v => rfl
  | (i, u) :: r, k, v => by
    show cond (Nat.beq i k) _ _ = b_l (cond (Nat.beq i k) _ _)
    cases Nat.beq i k with
    | true => exact congrArg (fun q => (k, b_v v) :: q) (b_del r k)
    | false => exact congrArg (fun q => (i, b_v u) :: q) (b_set r k v)
theorem b_get_ok : ∀ {ls : BL} {k : Nat} {v : BV}, (∀ q ∈ ls, b_okv q.2) → bx_get ls k = some v → b_okv v
  | [], _, _, _, h => by cases h
  | (i, u) :: r, k, v, h0, h => by
    simp only [bx_get] at h
    cases hb : Nat.beq i k with
    | true =>
      rw [hb] at h
      cases h
      exact h0 _ List.mem_cons_self
    | false =>
      rw [hb] at h
      exact b_get_ok (fun q hq => h0 q (List.mem_cons_of_mem _ hq)) h
theorem b_del_ok : ∀ {ls : BL} {k : Nat}, (∀ q ∈ ls, b_okv q.2) → ∀ q ∈ bx_del ls k, b_okv q.2
  | [], _, _ => fun q h => by cases h
  | (i, u) :: r, k, h0 => by
    have ih := b_del_ok (k := k) (fun q hq => h0 q (List.mem_cons_of_mem _ hq))
    simp only [bx_del]
    cases Nat.beq i k with
    | true => exact ih
    | false =>
      intro q hq
      rcases List.mem_cons.mp hq with h | h
      · rw [h]; exact h0 _ List.mem_cons_self
      · exact ih q h
theorem b_set_ok : ∀ {ls : BL} {k : Nat} {v : BV}, (∀ q ∈ ls, b_okv q.2) → b_okv v → ∀ q ∈ bx_set ls k v, b_okv q.2
  | [], _, _, _, hv => fun q h => by
    rcases List.mem_cons.mp h with h | h
    · rw [h]; exact hv
    · cases h
  | (i, u) :: r, k, v, h0, hv => by
    have h1 := fun q hq => h0 q (List.mem_cons_of_mem _ hq)
    simp only [bx_set]
    cases Nat.beq i k with
    | true =>
      intro q hq
      rcases List.mem_cons.mp hq with h | h
      · rw [h]; exact hv
      · exact b_del_ok h1 q h
    | false =>
      intro q hq
      rcases List.mem_cons.mp hq with h | h
      · rw [h]; exact h0 _ List.mem_cons_self
      · exact b_set_ok h1 hv q h
theorem b_nth {α β : Type} (g : α → β) : ∀ (l : List α) (k : Nat), ax_nth (l.map g) k = (ax_nth l k).map g
  | [], _ => rfl
  | _ :: _, 0 => rfl
  | _ :: r, n + 1 => b_nth g r n
theorem b_upd {α β : Type} (g : α → β) : ∀ (l : List α) (k : Nat) (v : α), ax_upd (l.map g) k (g v) = (ax_upd l k v).map g
  | [], _, _ => rfl
  | _ :: _, 0, _ => rfl
  | a :: r, n + 1, v => congrArg (fun q => g a :: q) (b_upd g r n v)
theorem b_nth_mem {α : Type} : ∀ {l : List α} {k : Nat} {v : α}, ax_nth l k = some v → v ∈ l
  | [], _, _, h => by cases h
  | a :: r, 0, v, h => by cases h; exact List.mem_cons_self
  | a :: r, n + 1, v, h => List.mem_cons_of_mem _ (b_nth_mem (l := r) h)
theorem b_upd_mem {α : Type} : ∀ {l : List α} {k : Nat} {v u : α}, u ∈ ax_upd l k v → u = v ∨ u ∈ l
  | [], _, _, _, h => by cases h
  | a :: r, 0, v, u, h => by
    rcases List.mem_cons.mp h with h | h
    · exact Or.inl h
    · exact Or.inr (List.mem_cons_of_mem _ h)
  | a :: r, n + 1, v, u, h => by
    rcases List.mem_cons.mp h with h | h
    · exact Or.inr (by rw [h]; exact List.mem_cons_self)
    · rcases b_upd_mem (l := r) h with h | h
      · exact Or.inl h
      · exact Or.inr (List.mem_cons_of_mem _ h)
theorem b_wv (n : Nat) (v : BV) : ax_wv n (b_v v) = bx_wv n v := by
  rcases v with z | k | z | u <;> rfl
theorem b_we {n : Nat} {e : BE} (h : bx_we n e = true) : ax_we n (b_e e) = true := by
  rcases e with ⟨k, m, f⟩ | ⟨ci, fs⟩
  · match k with
    | 0 => rfl
    | 1 => rfl
    | _ + 2 => rfl
  · show (fs.map b_v).all (ax_wv n) = true
    rw [List.all_map]
    have e : ax_wv n ∘ b_v = bx_wv n := funext (b_wv n)
    rw [e]; exact h
theorem b_fr (n : Nat) (ls : BL) (st : List BV) : ax_fr n (b_l ls) (st.map b_v) = bx_fr n ls st := by
  have e : ax_wv n ∘ b_v = bx_wv n := funext (b_wv n)
  have e2 : ((fun q => ax_wv n q.2) ∘ fun q : Nat × BV => (q.1, b_v q.2)) = (fun q => bx_wv n q.2) := funext (fun q => b_wv n q.2)
  unfold ax_fr bx_fr b_l
  rw [List.all_map, List.all_map, e, e2]
theorem b_cat (v : BV) : (b_v v).category = bx_cat v := by
  rcases v with z | k | z | u <;> rfl
theorem b_wt (r : List BV) : ax_wt (r.map b_v) = bx_wt r := by
  have e : (fun v => Value.category v) ∘ b_v = bx_cat := funext b_cat
  unfold ax_wt bx_wt
  rw [List.map_map, e]
theorem b_wall {n : Nat} {w : BW} (h : w.all (bx_we n) = true) : (w.map b_e).all (ax_we n) = true := by
  rw [List.all_map, List.all_eq_true]
  intro e he
  exact b_we (List.all_eq_true.mp h e he)
theorem b_sm {n : Nat} {v : Int} (h : bx_sm n v = true) : -(n : Int) ≤ v ∧ v < n := by
  unfold bx_sm at h
  split at h
  · have := ax_blt h
    simp only [Int.ofNat_eq_natCast]; omega
  · have := ax_blt h
    omega
theorem b_cons {v : BV} {st : List BV} (hv : b_okv v) (h : ∀ u ∈ st, b_okv u) : ∀ u ∈ v :: st, b_okv u := by
  intro u hu
  rcases List.mem_cons.mp hu with h1 | h1
  · rw [h1]; exact hv
  · exact h u h1
theorem b_tl {v : BV} {st : List BV} (h : ∀ u ∈ v :: st, b_okv u) : ∀ u ∈ st, b_okv u := fun u hu => h u (List.mem_cons_of_mem _ hu)
theorem b_hd {v : BV} {st : List BV} (h : ∀ u ∈ v :: st, b_okv u) : b_okv v := h v List.mem_cons_self
theorem b_dfl : ∀ ci, ci < 7 → (bx_dfl ci).map b_v = ax_dfl ci := by
  intro ci h
  match ci, h with
  | 0, _ => rfl
  | 1, _ => rfl
  | 2, _ => rfl
  | 3, _ => rfl
  | 4, _ => rfl
  | 5, _ => rfl
  | 6, _ => rfl
  | n + 7, h => exact absurd h (by omega)
theorem b_dfl_ok (ci : Nat) : ∀ v ∈ bx_dfl ci, b_okv v := by
  intro v hv
  obtain ⟨k, _, rfl⟩ := List.mem_map.mp hv
  split
  · exact ⟨by omega, by omega⟩
  · exact ⟨by omega, by omega⟩
  · trivial
theorem b_upok {f : Int → Int} {k v : Int} (h : ∀ j, b_in (f j)) (hv : b_in v) : ∀ j, b_in (up f k v j) := by
  intro j
  unfold up
  split
  · exact hv
  · exact h j
theorem b_updw {w : BW} {c : Nat} {e : BE} (h : ∀ u ∈ w, b_oke u) (he : b_oke e) : ∀ u ∈ ax_upd w c e, b_oke u := by
  intro u hu
  rcases b_upd_mem hu with h1 | h1
  · rw [h1]; exact he
  · exact h u h1
end
section
/-! Every step over whole numbers is a step of the machine before. -/
def bx_next (o : Option (BC ⊕ List (Prop × BC))) (k : BC) : Prop := match o with
  | none => False
  | some (.inl c) => c = k
  | some (.inr q) => ∃ P : Prop, (P, k) ∈ q ∧ P
theorem b_one {P : Prop} {c k : BC} (h : bx_next (some (.inr [(P, c)])) k) : P ∧ c = k := by
  obtain ⟨Q, h1, h2⟩ := h
  rcases List.mem_cons.mp h1 with h1 | h1
  · cases h1; exact ⟨h2, rfl⟩
  · cases h1
theorem a_one {P : Prop} {c : AxC} (h : P) : ax_next (some (.inr [(P, c)])) c := ⟨P, List.mem_cons_self, h⟩
theorem b_cmp {c : ClassFile.Cond} {x y : Int} {c1 c2 k : BC} (hx : b_in x) (hy : b_in y) (h : bx_next (bx_cmp c x y c1 c2) k) : ax_next (some (.inr [(ax_cmp c (Int32.ofInt x) (Int32.ofInt y), b_c c1), (¬ ax_cmp c (Int32.ofInt x) (Int32.ofInt y), b_c c2)])) (b_c k) ∧ (k = c1 ∨ k = c2) := by
  have key : ∀ {P1 P2 : Prop}, (P1 → ax_cmp c (Int32.ofInt x) (Int32.ofInt y)) → (P2 → ¬ ax_cmp c (Int32.ofInt x) (Int32.ofInt y)) → bx_next (some (.inr [(P1, c1), (P2, c2)])) k → ax_next (some (.inr [(ax_cmp c (Int32.ofInt x) (Int32.ofInt y), b_c c1), (¬ ax_cmp c (Int32.ofInt x) (Int32.ofInt y), b_c c2)])) (b_c k) ∧ (k = c1 ∨ k = c2) := by
    intro P1 P2 g1 g2 h
    obtain ⟨Q, h1, h2⟩ := h
    rcases List.mem_cons.mp h1 with h1 | h1
    · cases h1; exact ⟨⟨_, List.mem_cons_self, g1 h2⟩, Or.inl rfl⟩
    · rcases List.mem_cons.mp h1 with h1 | h1
      · cases h1; exact ⟨⟨_, List.mem_cons_of_mem _ List.mem_cons_self, g2 h2⟩, Or.inr rfl⟩
      · cases h1
  have e1 := b_eq hx hy
  have e2 := b_lt hx hy
  have e3 := b_lt hy hx
  have e4 := b_le hx hy
  have e5 := b_le hy hx
  cases c
  · exact key (fun q => e1.mpr q) (fun q r => q (e1.mp r)) h
  · exact key (fun q r => q (e1.mp r)) (fun q r => r (e1.mpr q)) h
  · exact key (fun q => e2.mpr q) (fun q r => by have r : Int32.ofInt x < Int32.ofInt y := r; have := e2.mp r; omega) h
  · exact key (fun q => e5.mpr q) (fun q r => by have r : Int32.ofInt y ≤ Int32.ofInt x := r; have := e5.mp r; omega) h
  · exact key (fun q => e3.mpr q) (fun q r => by have r : Int32.ofInt y < Int32.ofInt x := r; have := e3.mp r; omega) h
  · exact key (fun q => e4.mpr q) (fun q r => by have r : Int32.ofInt x ≤ Int32.ofInt y := r; have := e4.mp r; omega) h
theorem b_sw {pc : Nat} {x lo : Int} (hx : b_in x) {ls : BL} {r : List BV} {w : BW} {a b : Nat} : ∀ (offs : List Int) (j : Nat) (P : Prop) (k : BC), (P, k) ∈ (bx_sw pc x lo j offs).map (fun q => (q.1, ((q.2, ls, r, w, a, b) : BC))) → P →
    (∃ P', (P', b_c k) ∈ (ax_sw pc (Int32.ofInt x) lo j offs).map (fun q => (q.1, ((q.2, b_l ls, r.map b_v, w.map b_e, a, b) : AxC))) ∧ P') ∧ ∃ pc', k = (pc', ls, r, w, a, b)
  | [], _, _, _, h, _ => by cases h
  | off :: q, j, P, k, h, hp => by
    rcases List.mem_cons.mp h with h | h
    · cases h
      exact ⟨⟨_, List.mem_cons_self, by rw [b_toInt hx]; exact hp⟩, _, rfl⟩
    · obtain ⟨⟨P', h1, h2⟩, h3⟩ := b_sw hx q (j + 1) P k h hp
      exact ⟨⟨P', List.mem_cons_of_mem _ h1, h2⟩, h3⟩
theorem b_lk {pc : Nat} {x dflt : Int} {ps : List (Int × Int)} (hx : b_in x) {ls : BL} {r : List BV} {w : BW} {a b : Nat} : ∀ (offs : List Int) (P : Prop) (k : BC), (P, k) ∈ (bx_lk pc x ps dflt offs).map (fun q => (q.1, ((q.2, ls, r, w, a, b) : BC))) → P →
    (∃ P', (P', b_c k) ∈ (ax_lk pc (Int32.ofInt x) ps dflt offs).map (fun q => (q.1, ((q.2, b_l ls, r.map b_v, w.map b_e, a, b) : AxC))) ∧ P') ∧ ∃ pc', k = (pc', ls, r, w, a, b)
  | [], _, _, h, _ => by cases h
  | off :: q, P, k, h, hp => by
    rcases List.mem_cons.mp h with h | h
    · cases h
      exact ⟨⟨_, List.mem_cons_self, by rw [b_toInt hx]; exact hp⟩, _, rfl⟩
    · obtain ⟨⟨P', h1, h2⟩, h3⟩ := b_lk hx q P k h hp
      exact ⟨⟨P', List.mem_cons_of_mem _ h1, h2⟩, h3⟩
theorem b_div {p q : Int} (h0 : 0 ≤ p) (h1 : 0 < q) (hp : b_in p) (hq : b_in q) : Int32.ofInt p / Int32.ofInt q = Int32.ofInt (p / q) ∧ b_in (p / q) := by
  have hin : b_in (p / q) := ⟨by have := Int.ediv_nonneg h0 (Int.le_of_lt h1); omega, by have := Int.ediv_le_self q h0; have := hp.2; omega⟩
  refine ⟨?_, hin⟩
  rw [← Int32.toInt_inj, Int32.toInt_div, b_toInt hp, b_toInt hq, b_toInt hin, Int.tdiv_eq_ediv_of_nonneg h0]
  exact Int.bmod_eq_of_le (by have := hin.1; omega) (by have := hin.2; omega)
theorem b_rem {p q : Int} (h0 : 0 ≤ p) (h1 : 0 < q) (hp : b_in p) (hq : b_in q) : Int32.ofInt p - Int32.ofInt p / Int32.ofInt q * Int32.ofInt q = Int32.ofInt (p % q) ∧ b_in (p % q) := by
  have hin : b_in (p % q) := ⟨by have := Int.emod_nonneg p (b := q) (by omega); omega, by have := Int.emod_lt_of_pos p h1; have := hq.2; omega⟩
  refine ⟨?_, hin⟩
  rw [(b_div h0 h1 hp hq).1, ← Int32.ofInt_mul, ← Int32.ofInt_sub, Int.emod_def, Int.mul_comm q]
theorem b_nz {q : Int} (hq : b_in q) (h : 0 < q) : ¬ Int32.ofInt q = 0 := by
  intro e
  have := (b_eq hq (y := 0) ⟨by omega, by omega⟩).mp e
  omega
theorem b_up32 {f : Int → Int} {j v : Int} (h0 : 0 ≤ j) : upd (fun i : Nat => Int32.ofInt (f (i : Int))) j.toNat (Int32.ofInt v) = fun i : Nat => Int32.ofInt (up f j v (i : Int)) := by
  funext i
  unfold upd up
  by_cases h : i = j.toNat
  · rw [if_pos h, if_pos (by omega)]
  · rw [if_neg h, if_neg (by omega)]
theorem b_up64 {f : Int → Int} {j v : Int} (h0 : 0 ≤ j) : vp_updL (fun i : Nat => Int64.ofInt (f (i : Int))) j.toNat (Int64.ofInt v) = fun i : Nat => Int64.ofInt (up f j v (i : Int)) := by
  funext i
  unfold vp_updL up
  by_cases h : i = j.toNat
  · rw [if_pos h, if_pos (by omega)]
  · rw [if_neg h, if_neg (by omega)]
theorem b_nar {v : Int} (h0 : 0 ≤ v) (h1 : v ≤ 1) : vp_nar .boolean (Int32.ofInt v) = Int32.ofInt v := by
  have : v = 0 ∨ v = 1 := by omega
  rcases this with rfl | rfl
  · decide +kernel
  · decide +kernel
theorem b_64 {z : Int} (h : b_in z) : (Int64.ofInt z).toInt = z := Int64.toInt_ofInt_of_le (by have := h.1; omega) (by have := h.2; omega)
theorem b_i2l {z : Int} (h : b_in z) : (Int32.ofInt z).toInt64 = Int64.ofInt z := by
  rw [← Int64.toInt_inj, b_64 h, Int32.toInt_toInt64, b_toInt h]
theorem b_lcmp {p q : Int} (hp : b_in p) (hq : b_in q) : lg_cmp (Int64.ofInt p) (Int64.ofInt q) = Int32.ofInt (if q < p then 1 else if p = q then 0 else -1) ∧ b_in (if q < p then 1 else if p = q then 0 else -1) := by
  have e1 : (Int64.ofInt p > Int64.ofInt q) ↔ q < p := by
    show Int64.ofInt q < Int64.ofInt p ↔ _
    rw [Int64.lt_iff_toInt_lt, b_64 hp, b_64 hq]
  have e2 : Int64.ofInt p = Int64.ofInt q ↔ p = q := by rw [← Int64.toInt_inj, b_64 hp, b_64 hq]
  unfold lg_cmp
  by_cases h1 : q < p
  · rw [if_pos h1, if_pos (e1.mpr h1)]; exact ⟨rfl, by omega, by omega⟩
  · rw [if_neg h1, if_neg (fun h => h1 (e1.mp h))]
    by_cases h2 : p = q
    · rw [if_pos h2, if_pos (e2.mpr h2)]; exact ⟨rfl, by omega, by omega⟩
    · rw [if_neg h2, if_neg (fun h => h2 (e2.mp h))]; exact ⟨rfl, by omega, by omega⟩
theorem b_b8 {v : Int} (h : bx_sm 128 v = true) : (Int8.ofInt v).toInt32 = Int32.ofInt v ∧ b_in v := by
  have := b_sm h
  have hin : b_in v := ⟨by omega, by omega⟩
  refine ⟨?_, hin⟩
  rw [← Int32.toInt_inj, b_toInt hin, Int8.toInt_toInt32]
  exact Int8.toInt_ofInt_of_le (by omega) (by omega)
theorem b_b16 {v : Int} (h : bx_sm 32768 v = true) : (Int16.ofInt v).toInt32 = Int32.ofInt v ∧ b_in v := by
  have := b_sm h
  have hin : b_in v := ⟨by omega, by omega⟩
  refine ⟨?_, hin⟩
  rw [← Int32.toInt_inj, b_toInt hin, Int16.toInt_toInt32]
  exact Int16.toInt_ofInt_of_le (by omega) (by omega)
theorem b_nat {n : Nat} (h : n < 2147483648) : Int32.ofNat n = Int32.ofInt (n : Int) ∧ b_in (n : Int) := ⟨rfl, by omega, by omega⟩
end
section
/-! .. instruction by instruction. -/
section BSN
variable {L : Nat} {xs : Nat → Int32} {x y pc a b : Nat} {ls : BL} {st : List BV} {w : BW} {k : BC}
theorem bs_iload {j : Nat} (hL : L ≤ 2050) (h1 : ∀ q ∈ ls, b_okv q.2) (h2 : ∀ v ∈ st, b_okv v) (h3 : ∀ e ∈ w, b_oke e) (hn : bx_next (bx_alts L xs (.iload j) x y (pc, ls, st, w, a, b)) k) : ax_next (ax_alts L xs (.iload j) x y (b_c (pc, ls, st, w, a, b))) (b_c k) ∧ b_ok k := by
  simp only [bx_alts] at hn
  split at hn
  · next z hz =>
    cases hn
    refine ⟨?_, h1, b_cons (b_get_ok h1 hz) h2, h3⟩
    simp only [ax_alts, b_c]
    rw [b_get, hz]
    exact rfl
  · exact hn.elim
theorem bs_iload_n {j : Fin 4} (hL : L ≤ 2050) (h1 : ∀ q ∈ ls, b_okv q.2) (h2 : ∀ v ∈ st, b_okv v) (h3 : ∀ e ∈ w, b_oke e) (hn : bx_next (bx_alts L xs (.iload_n j) x y (pc, ls, st, w, a, b)) k) : ax_next (ax_alts L xs (.iload_n j) x y (b_c (pc, ls, st, w, a, b))) (b_c k) ∧ b_ok k := by
  simp only [bx_alts] at hn
  split at hn
  · next z hz =>
    cases hn
    refine ⟨?_, h1, b_cons (b_get_ok h1 hz) h2, h3⟩
    simp only [ax_alts, b_c]
    rw [b_get, hz]
    exact rfl
  · exact hn.elim
theorem bs_aload {j : Nat} (hL : L ≤ 2050) (h1 : ∀ q ∈ ls, b_okv q.2) (h2 : ∀ v ∈ st, b_okv v) (h3 : ∀ e ∈ w, b_oke e) (hn : bx_next (bx_alts L xs (.aload j) x y (pc, ls, st, w, a, b)) k) : ax_next (ax_alts L xs (.aload j) x y (b_c (pc, ls, st, w, a, b))) (b_c k) ∧ b_ok k := by
  simp only [bx_alts] at hn
  split at hn
  · next z hz =>
    cases hn
    refine ⟨?_, h1, b_cons (b_get_ok h1 hz) h2, h3⟩
    simp only [ax_alts, b_c]
    rw [b_get, hz]
    exact rfl
  · exact hn.elim
theorem bs_aload_n {j : Fin 4} (hL : L ≤ 2050) (h1 : ∀ q ∈ ls, b_okv q.2) (h2 : ∀ v ∈ st, b_okv v) (h3 : ∀ e ∈ w, b_oke e) (hn : bx_next (bx_alts L xs (.aload_n j) x y (pc, ls, st, w, a, b)) k) : ax_next (ax_alts L xs (.aload_n j) x y (b_c (pc, ls, st, w, a, b))) (b_c k) ∧ b_ok k := by
  simp only [bx_alts] at hn
  split at hn
  · next z hz =>
    cases hn
    refine ⟨?_, h1, b_cons (b_get_ok h1 hz) h2, h3⟩
    simp only [ax_alts, b_c]
    rw [b_get, hz]
    exact rfl
  · exact hn.elim
theorem bs_istore {j : Nat} (hL : L ≤ 2050) (h1 : ∀ q ∈ ls, b_okv q.2) (h2 : ∀ v ∈ st, b_okv v) (h3 : ∀ e ∈ w, b_oke e) (hn : bx_next (bx_alts L xs (.istore j) x y (pc, ls, st, w, a, b)) k) : ax_next (ax_alts L xs (.istore j) x y (b_c (pc, ls, st, w, a, b))) (b_c k) ∧ b_ok k := by
  simp only [bx_alts] at hn
  split at hn
  · next z r =>
    cases hn
    exact ⟨congrArg (fun q => ((pc + 2, q, r.map b_v, w.map b_e, a, b) : AxC)) (b_set ls j (.inl z)), b_set_ok h1 (b_hd h2), b_tl h2, h3⟩
  · exact hn.elim
theorem bs_istore_n {j : Fin 4} (hL : L ≤ 2050) (h1 : ∀ q ∈ ls, b_okv q.2) (h2 : ∀ v ∈ st, b_okv v) (h3 : ∀ e ∈ w, b_oke e) (hn : bx_next (bx_alts L xs (.istore_n j) x y (pc, ls, st, w, a, b)) k) : ax_next (ax_alts L xs (.istore_n j) x y (b_c (pc, ls, st, w, a, b))) (b_c k) ∧ b_ok k := by
  simp only [bx_alts] at hn
  split at hn
  · next z r =>
    cases hn
    exact ⟨congrArg (fun q => ((pc + 1, q, r.map b_v, w.map b_e, a, b) : AxC)) (b_set ls j.val (.inl z)), b_set_ok h1 (b_hd h2), b_tl h2, h3⟩
  · exact hn.elim
theorem bs_astore {j : Nat} (hL : L ≤ 2050) (h1 : ∀ q ∈ ls, b_okv q.2) (h2 : ∀ v ∈ st, b_okv v) (h3 : ∀ e ∈ w, b_oke e) (hn : bx_next (bx_alts L xs (.astore j) x y (pc, ls, st, w, a, b)) k) : ax_next (ax_alts L xs (.astore j) x y (b_c (pc, ls, st, w, a, b))) (b_c k) ∧ b_ok k := by
  simp only [bx_alts] at hn
  split at hn
  · next z r =>
    cases hn
    exact ⟨congrArg (fun q => ((pc + 2, q, r.map b_v, w.map b_e, a, b) : AxC)) (b_set ls j (.inr (.inl z))), b_set_ok h1 (b_hd h2), b_tl h2, h3⟩
  · exact hn.elim
theorem bs_astore_n {j : Fin 4} (hL : L ≤ 2050) (h1 : ∀ q ∈ ls, b_okv q.2) (h2 : ∀ v ∈ st, b_okv v) (h3 : ∀ e ∈ w, b_oke e) (hn : bx_next (bx_alts L xs (.astore_n j) x y (pc, ls, st, w, a, b)) k) : ax_next (ax_alts L xs (.astore_n j) x y (b_c (pc, ls, st, w, a, b))) (b_c k) ∧ b_ok k := by
  simp only [bx_alts] at hn
  split at hn
  · next z r =>
    cases hn
    exact ⟨congrArg (fun q => ((pc + 1, q, r.map b_v, w.map b_e, a, b) : AxC)) (b_set ls j.val (.inr (.inl z))), b_set_ok h1 (b_hd h2), b_tl h2, h3⟩
  · exact hn.elim
theorem bs_iconst {v : Int} (hL : L ≤ 2050) (h1 : ∀ q ∈ ls, b_okv q.2) (h2 : ∀ v ∈ st, b_okv v) (h3 : ∀ e ∈ w, b_oke e) (hn : bx_next (bx_alts L xs (.iconst v) x y (pc, ls, st, w, a, b)) k) : ax_next (ax_alts L xs (.iconst v) x y (b_c (pc, ls, st, w, a, b))) (b_c k) ∧ b_ok k := by
  simp only [bx_alts] at hn
  cases hv : bx_sm 6 v with
  | false => rw [hv] at hn; exact hn.elim
  | true =>
    rw [hv] at hn
    cases hn
    have := b_sm hv
    exact ⟨rfl, h1, b_cons ⟨by omega, by omega⟩ h2, h3⟩
theorem bs_bipush {v : Int} (hL : L ≤ 2050) (h1 : ∀ q ∈ ls, b_okv q.2) (h2 : ∀ v ∈ st, b_okv v) (h3 : ∀ e ∈ w, b_oke e) (hn : bx_next (bx_alts L xs (.bipush v) x y (pc, ls, st, w, a, b)) k) : ax_next (ax_alts L xs (.bipush v) x y (b_c (pc, ls, st, w, a, b))) (b_c k) ∧ b_ok k := by
  simp only [bx_alts] at hn
  cases hv : bx_sm 128 v with
  | false => rw [hv] at hn; exact hn.elim
  | true =>
    rw [hv] at hn
    cases hn
    have q := b_b8 hv
    exact ⟨congrArg (fun z => ((pc + 2, b_l ls, Value.int z :: st.map b_v, w.map b_e, a, b) : AxC)) q.1, h1, b_cons q.2 h2, h3⟩
theorem bs_sipush {v : Int} (hL : L ≤ 2050) (h1 : ∀ q ∈ ls, b_okv q.2) (h2 : ∀ v ∈ st, b_okv v) (h3 : ∀ e ∈ w, b_oke e) (hn : bx_next (bx_alts L xs (.sipush v) x y (pc, ls, st, w, a, b)) k) : ax_next (ax_alts L xs (.sipush v) x y (b_c (pc, ls, st, w, a, b))) (b_c k) ∧ b_ok k := by
  simp only [bx_alts] at hn
  cases hv : bx_sm 32768 v with
  | false => rw [hv] at hn; exact hn.elim
  | true =>
    rw [hv] at hn
    cases hn
    have q := b_b16 hv
    exact ⟨congrArg (fun z => ((pc + 3, b_l ls, Value.int z :: st.map b_v, w.map b_e, a, b) : AxC)) q.1, h1, b_cons q.2 h2, h3⟩
theorem bs_ldc {j : Nat} (hL : L ≤ 2050) (h1 : ∀ q ∈ ls, b_okv q.2) (h2 : ∀ v ∈ st, b_okv v) (h3 : ∀ e ∈ w, b_oke e) (hn : bx_next (bx_alts L xs (.ldc j) x y (pc, ls, st, w, a, b)) k) : ax_next (ax_alts L xs (.ldc j) x y (b_c (pc, ls, st, w, a, b))) (b_c k) ∧ b_ok k := by
  simp only [bx_alts] at hn
  cases hv : Nat.blt x 2147483648 with
  | false => rw [hv] at hn; exact hn.elim
  | true =>
    rw [hv] at hn
    cases hz : Nat.beq x 0 with
    | true => rw [hz] at hn; exact hn.elim
    | false =>
      rw [hz] at hn
      cases hn
      refine ⟨?_, h1, b_cons (b_nat (ax_blt hv)).2 h2, h3⟩
      simp only [ax_alts, b_c, hz]
      exact rfl
theorem bs_iinc {j : Nat} {v : Int} (hL : L ≤ 2050) (h1 : ∀ q ∈ ls, b_okv q.2) (h2 : ∀ v ∈ st, b_okv v) (h3 : ∀ e ∈ w, b_oke e) (hn : bx_next (bx_alts L xs (.iinc j v) x y (pc, ls, st, w, a, b)) k) : ax_next (ax_alts L xs (.iinc j v) x y (b_c (pc, ls, st, w, a, b))) (b_c k) ∧ b_ok k := by
  simp only [bx_alts] at hn
  split at hn
  · next z hz =>
    obtain ⟨hp, rfl⟩ := b_one hn
    refine ⟨?_, b_set_ok h1 hp, h2, h3⟩
    simp only [ax_alts, b_c]
    rw [b_get, hz]
    show _ = _
    rw [← b_set]
    simp only [b_v, Int32.ofInt_add]
  · exact hn.elim
theorem bs_iadd (hL : L ≤ 2050) (h1 : ∀ q ∈ ls, b_okv q.2) (h2 : ∀ v ∈ st, b_okv v) (h3 : ∀ e ∈ w, b_oke e) (hn : bx_next (bx_alts L xs (.iadd) x y (pc, ls, st, w, a, b)) k) : ax_next (ax_alts L xs (.iadd) x y (b_c (pc, ls, st, w, a, b))) (b_c k) ∧ b_ok k := by
  simp only [bx_alts] at hn
  split at hn
  · next q p r =>
    obtain ⟨hp, rfl⟩ := b_one hn
    refine ⟨?_, h1, b_cons hp (b_tl (b_tl h2)), h3⟩
    show _ = _
    simp only [b_c, b_v, List.map_cons, Int32.ofInt_add]
  · exact hn.elim
theorem bs_isub (hL : L ≤ 2050) (h1 : ∀ q ∈ ls, b_okv q.2) (h2 : ∀ v ∈ st, b_okv v) (h3 : ∀ e ∈ w, b_oke e) (hn : bx_next (bx_alts L xs (.isub) x y (pc, ls, st, w, a, b)) k) : ax_next (ax_alts L xs (.isub) x y (b_c (pc, ls, st, w, a, b))) (b_c k) ∧ b_ok k := by
  simp only [bx_alts] at hn
  split at hn
  · next q p r =>
    obtain ⟨hp, rfl⟩ := b_one hn
    refine ⟨?_, h1, b_cons hp (b_tl (b_tl h2)), h3⟩
    show _ = _
    simp only [b_c, b_v, List.map_cons, Int32.ofInt_sub]
  · exact hn.elim
theorem bs_imul (hL : L ≤ 2050) (h1 : ∀ q ∈ ls, b_okv q.2) (h2 : ∀ v ∈ st, b_okv v) (h3 : ∀ e ∈ w, b_oke e) (hn : bx_next (bx_alts L xs (.imul) x y (pc, ls, st, w, a, b)) k) : ax_next (ax_alts L xs (.imul) x y (b_c (pc, ls, st, w, a, b))) (b_c k) ∧ b_ok k := by
  simp only [bx_alts] at hn
  split at hn
  · next q p r =>
    obtain ⟨hp, rfl⟩ := b_one hn
    refine ⟨?_, h1, b_cons hp (b_tl (b_tl h2)), h3⟩
    show _ = _
    simp only [b_c, b_v, List.map_cons, Int32.ofInt_mul]
  · exact hn.elim
theorem bs_iand (hL : L ≤ 2050) (h1 : ∀ q ∈ ls, b_okv q.2) (h2 : ∀ v ∈ st, b_okv v) (h3 : ∀ e ∈ w, b_oke e) (hn : bx_next (bx_alts L xs (.iand) x y (pc, ls, st, w, a, b)) k) : ax_next (ax_alts L xs (.iand) x y (b_c (pc, ls, st, w, a, b))) (b_c k) ∧ b_ok k := by
  simp only [bx_alts] at hn
  split at hn
  · next q p r =>
    cases hn
    refine ⟨?_, h1, b_cons (b_in32 _) (b_tl (b_tl h2)), h3⟩
    show _ = _
    simp only [b_c, b_v, List.map_cons, bAnd, b_ofInt]
  · exact hn.elim
theorem bs_ixor (hL : L ≤ 2050) (h1 : ∀ q ∈ ls, b_okv q.2) (h2 : ∀ v ∈ st, b_okv v) (h3 : ∀ e ∈ w, b_oke e) (hn : bx_next (bx_alts L xs (.ixor) x y (pc, ls, st, w, a, b)) k) : ax_next (ax_alts L xs (.ixor) x y (b_c (pc, ls, st, w, a, b))) (b_c k) ∧ b_ok k := by
  simp only [bx_alts] at hn
  split at hn
  · next q p r =>
    cases hn
    refine ⟨?_, h1, b_cons (b_in32 _) (b_tl (b_tl h2)), h3⟩
    show _ = _
    simp only [b_c, b_v, List.map_cons, bXor, b_ofInt]
  · exact hn.elim
theorem bs_ishl (hL : L ≤ 2050) (h1 : ∀ q ∈ ls, b_okv q.2) (h2 : ∀ v ∈ st, b_okv v) (h3 : ∀ e ∈ w, b_oke e) (hn : bx_next (bx_alts L xs (.ishl) x y (pc, ls, st, w, a, b)) k) : ax_next (ax_alts L xs (.ishl) x y (b_c (pc, ls, st, w, a, b))) (b_c k) ∧ b_ok k := by
  simp only [bx_alts] at hn
  split at hn
  · next q p r =>
    cases hn
    refine ⟨?_, h1, b_cons (b_in32 _) (b_tl (b_tl h2)), h3⟩
    show _ = _
    simp only [b_c, b_v, List.map_cons, bShl, b_ofInt]
  · exact hn.elim
theorem bs_ishr (hL : L ≤ 2050) (h1 : ∀ q ∈ ls, b_okv q.2) (h2 : ∀ v ∈ st, b_okv v) (h3 : ∀ e ∈ w, b_oke e) (hn : bx_next (bx_alts L xs (.ishr) x y (pc, ls, st, w, a, b)) k) : ax_next (ax_alts L xs (.ishr) x y (b_c (pc, ls, st, w, a, b))) (b_c k) ∧ b_ok k := by
  simp only [bx_alts] at hn
  split at hn
  · next q p r =>
    cases hn
    refine ⟨?_, h1, b_cons (b_in32 _) (b_tl (b_tl h2)), h3⟩
    show _ = _
    simp only [b_c, b_v, List.map_cons, bShr, b_ofInt]
  · exact hn.elim
theorem bs_idiv (hL : L ≤ 2050) (h1 : ∀ q ∈ ls, b_okv q.2) (h2 : ∀ v ∈ st, b_okv v) (h3 : ∀ e ∈ w, b_oke e) (hn : bx_next (bx_alts L xs (.idiv) x y (pc, ls, st, w, a, b)) k) : ax_next (ax_alts L xs (.idiv) x y (b_c (pc, ls, st, w, a, b))) (b_c k) ∧ b_ok k := by
  simp only [bx_alts] at hn
  split at hn
  · next q p r =>
    obtain ⟨hp, rfl⟩ := b_one hn
    have g := b_div hp.1 hp.2 (b_hd (b_tl h2)) (b_hd h2)
    refine ⟨?_, h1, b_cons g.2 (b_tl (b_tl h2)), h3⟩
    have e : b_c (pc + 1, ls, Sum.inl (p / q) :: r, w, a, b) = (pc + 1, b_l ls, Value.int (Int32.ofInt p / Int32.ofInt q) :: r.map b_v, w.map b_e, a, b) := by
      rw [g.1]; rfl
    rw [e]
    exact a_one (b_nz (b_hd h2) hp.2)
  · exact hn.elim
theorem bs_irem (hL : L ≤ 2050) (h1 : ∀ q ∈ ls, b_okv q.2) (h2 : ∀ v ∈ st, b_okv v) (h3 : ∀ e ∈ w, b_oke e) (hn : bx_next (bx_alts L xs (.irem) x y (pc, ls, st, w, a, b)) k) : ax_next (ax_alts L xs (.irem) x y (b_c (pc, ls, st, w, a, b))) (b_c k) ∧ b_ok k := by
  simp only [bx_alts] at hn
  split at hn
  · next q p r =>
    obtain ⟨hp, rfl⟩ := b_one hn
    have g := b_rem hp.1 hp.2 (b_hd (b_tl h2)) (b_hd h2)
    refine ⟨?_, h1, b_cons g.2 (b_tl (b_tl h2)), h3⟩
    have e : b_c (pc + 1, ls, Sum.inl (p % q) :: r, w, a, b) = (pc + 1, b_l ls, Value.int (Int32.ofInt p - Int32.ofInt p / Int32.ofInt q * Int32.ofInt q) :: r.map b_v, w.map b_e, a, b) := by
      rw [g.1]; rfl
    rw [e]
    exact a_one (b_nz (b_hd h2) hp.2)
  · exact hn.elim
theorem bs_i2l (hL : L ≤ 2050) (h1 : ∀ q ∈ ls, b_okv q.2) (h2 : ∀ v ∈ st, b_okv v) (h3 : ∀ e ∈ w, b_oke e) (hn : bx_next (bx_alts L xs (.i2l) x y (pc, ls, st, w, a, b)) k) : ax_next (ax_alts L xs (.i2l) x y (b_c (pc, ls, st, w, a, b))) (b_c k) ∧ b_ok k := by
  simp only [bx_alts] at hn
  split at hn
  · next p r =>
    cases hn
    exact ⟨congrArg (fun z => ((pc + 1, b_l ls, Value.long z :: r.map b_v, w.map b_e, a, b) : AxC)) (b_i2l (b_hd h2)), h1, b_cons (b_hd h2 : b_in p) (b_tl h2), h3⟩
  · exact hn.elim
theorem bs_lcmp (hL : L ≤ 2050) (h1 : ∀ q ∈ ls, b_okv q.2) (h2 : ∀ v ∈ st, b_okv v) (h3 : ∀ e ∈ w, b_oke e) (hn : bx_next (bx_alts L xs (.lcmp) x y (pc, ls, st, w, a, b)) k) : ax_next (ax_alts L xs (.lcmp) x y (b_c (pc, ls, st, w, a, b))) (b_c k) ∧ b_ok k := by
  simp only [bx_alts] at hn
  split at hn
  · next q p r =>
    cases hn
    have g := b_lcmp (p := p) (q := q) (b_hd (b_tl h2)) (b_hd h2)
    exact ⟨congrArg (fun z => ((pc + 1, b_l ls, Value.int z :: r.map b_v, w.map b_e, a, b) : AxC)) g.1, h1, b_cons g.2 (b_tl (b_tl h2)), h3⟩
  · exact hn.elim
theorem bs_dup (hL : L ≤ 2050) (h1 : ∀ q ∈ ls, b_okv q.2) (h2 : ∀ v ∈ st, b_okv v) (h3 : ∀ e ∈ w, b_oke e) (hn : bx_next (bx_alts L xs (.dup) x y (pc, ls, st, w, a, b)) k) : ax_next (ax_alts L xs (.dup) x y (b_c (pc, ls, st, w, a, b))) (b_c k) ∧ b_ok k := by
  simp only [bx_alts] at hn
  split at hn
  · cases hn
    exact ⟨rfl, h1, b_cons (b_hd h2) h2, h3⟩
  · cases hn
    exact ⟨rfl, h1, b_cons (b_hd h2) h2, h3⟩
  · exact hn.elim
theorem bs_goto {o : Int} (hL : L ≤ 2050) (h1 : ∀ q ∈ ls, b_okv q.2) (h2 : ∀ v ∈ st, b_okv v) (h3 : ∀ e ∈ w, b_oke e) (hn : bx_next (bx_alts L xs (.goto o) x y (pc, ls, st, w, a, b)) k) : ax_next (ax_alts L xs (.goto o) x y (b_c (pc, ls, st, w, a, b))) (b_c k) ∧ b_ok k := by
  cases hn
  exact ⟨rfl, h1, h2, h3⟩
theorem bs_if_icmp {c : ClassFile.Cond} {o : Int} (hL : L ≤ 2050) (h1 : ∀ q ∈ ls, b_okv q.2) (h2 : ∀ v ∈ st, b_okv v) (h3 : ∀ e ∈ w, b_oke e) (hn : bx_next (bx_alts L xs (.if_icmp c o) x y (pc, ls, st, w, a, b)) k) : ax_next (ax_alts L xs (.if_icmp c o) x y (b_c (pc, ls, st, w, a, b))) (b_c k) ∧ b_ok k := by
  simp only [bx_alts] at hn
  split at hn
  · next q p r =>
    obtain ⟨g1, g2⟩ := b_cmp (b_hd (b_tl h2)) (b_hd h2) hn
    refine ⟨g1, ?_⟩
    rcases g2 with rfl | rfl
    · exact ⟨h1, b_tl (b_tl h2), h3⟩
    · exact ⟨h1, b_tl (b_tl h2), h3⟩
  · exact hn.elim
theorem bs_ifCond {c : ClassFile.Cond} {o : Int} (hL : L ≤ 2050) (h1 : ∀ q ∈ ls, b_okv q.2) (h2 : ∀ v ∈ st, b_okv v) (h3 : ∀ e ∈ w, b_oke e) (hn : bx_next (bx_alts L xs (.ifCond c o) x y (pc, ls, st, w, a, b)) k) : ax_next (ax_alts L xs (.ifCond c o) x y (b_c (pc, ls, st, w, a, b))) (b_c k) ∧ b_ok k := by
  simp only [bx_alts] at hn
  split at hn
  · next p r =>
    obtain ⟨g1, g2⟩ := b_cmp (b_hd h2) (y := 0) ⟨by omega, by omega⟩ hn
    refine ⟨g1, ?_⟩
    rcases g2 with rfl | rfl
    · exact ⟨h1, b_tl h2, h3⟩
    · exact ⟨h1, b_tl h2, h3⟩
  · exact hn.elim
theorem bs_tableswitch {dflt lo hi : Int} {offs : Array Int} (hL : L ≤ 2050) (h1 : ∀ q ∈ ls, b_okv q.2) (h2 : ∀ v ∈ st, b_okv v) (h3 : ∀ e ∈ w, b_oke e) (hn : bx_next (bx_alts L xs (.tableswitch dflt lo hi offs) x y (pc, ls, st, w, a, b)) k) : ax_next (ax_alts L xs (.tableswitch dflt lo hi offs) x y (b_c (pc, ls, st, w, a, b))) (b_c k) ∧ b_ok k := by
  simp only [bx_alts] at hn
  split at hn
  · next p r =>
    obtain ⟨P, g1, g2⟩ := hn
    rcases List.mem_cons.mp g1 with g1 | g1
    · cases g1
      refine ⟨⟨_, List.mem_cons_self, ?_⟩, h1, b_tl h2, h3⟩
      rw [b_toInt (b_hd h2)]
      exact g2
    · obtain ⟨⟨P', q1, q2⟩, pc', rfl⟩ := b_sw (b_hd h2) offs.toList 0 P k g1 g2
      exact ⟨⟨P', List.mem_cons_of_mem _ q1, q2⟩, h1, b_tl h2, h3⟩
  · exact hn.elim
theorem bs_lookupswitch {dflt : Int} {ps : Array (Int × Int)} (hL : L ≤ 2050) (h1 : ∀ q ∈ ls, b_okv q.2) (h2 : ∀ v ∈ st, b_okv v) (h3 : ∀ e ∈ w, b_oke e) (hn : bx_next (bx_alts L xs (.lookupswitch dflt ps) x y (pc, ls, st, w, a, b)) k) : ax_next (ax_alts L xs (.lookupswitch dflt ps) x y (b_c (pc, ls, st, w, a, b))) (b_c k) ∧ b_ok k := by
  simp only [bx_alts] at hn
  split at hn
  · next p r =>
    obtain ⟨P, g1, g2⟩ := hn
    obtain ⟨⟨P', q1, q2⟩, pc', rfl⟩ := b_lk (b_hd h2) _ P k g1 g2
    exact ⟨⟨P', q1, q2⟩, h1, b_tl h2, h3⟩
  · exact hn.elim
theorem bs_getfield {j : Nat} (hL : L ≤ 2050) (h1 : ∀ q ∈ ls, b_okv q.2) (h2 : ∀ v ∈ st, b_okv v) (h3 : ∀ e ∈ w, b_oke e) (hn : bx_next (bx_alts L xs (.getfield j) x y (pc, ls, st, w, a, b)) k) : ax_next (ax_alts L xs (.getfield j) x y (b_c (pc, ls, st, w, a, b))) (b_c k) ∧ b_ok k := by
  simp only [bx_alts] at hn
  split at hn
  · next c r =>
    split at hn
    · next ci fs hw =>
      cases hb : Nat.beq ci x with
      | false => rw [hb] at hn; exact hn.elim
      | true =>
        rw [hb] at hn
        simp only [cond_true] at hn
        split at hn
        · next v hv =>
          cases hn
          refine ⟨?_, h1, b_cons ((h3 _ (b_nth_mem hw) : ∀ v ∈ fs, b_okv v) _ (b_nth_mem hv)) (b_tl h2), h3⟩
          simp only [ax_alts, b_c, List.map_cons, b_v]
          rw [b_nth, hw]
          simp only [Option.map, b_e, hb, cond_true]
          rw [b_nth, hv]
          exact rfl
        · exact hn.elim
    · exact hn.elim
  · exact hn.elim
theorem bs_putfield {j : Nat} (hL : L ≤ 2050) (h1 : ∀ q ∈ ls, b_okv q.2) (h2 : ∀ v ∈ st, b_okv v) (h3 : ∀ e ∈ w, b_oke e) (hn : bx_next (bx_alts L xs (.putfield j) x y (pc, ls, st, w, a, b)) k) : ax_next (ax_alts L xs (.putfield j) x y (b_c (pc, ls, st, w, a, b))) (b_c k) ∧ b_ok k := by
  simp only [bx_alts] at hn
  split at hn
  · next v c r =>
    split at hn
    · next ci fs hw =>
      cases hb : (Nat.beq ci x && Nat.blt y fs.length && ax_fit (axTy x y) (b_v v)) with
      | false => rw [hb] at hn; exact hn.elim
      | true =>
        rw [hb] at hn
        cases hn
        have hfs : ∀ v ∈ fs, b_okv v := h3 _ (b_nth_mem hw)
        refine ⟨?_, h1, b_tl (b_tl h2), b_updw h3 ?_⟩
        · show ax_next (ax_alts L xs (.putfield j) x y (pc, b_l ls, b_v v :: Value.ref (c + 1) :: r.map b_v, w.map b_e, a, b)) _
          simp only [ax_alts]
          rw [b_nth, hw]
          simp only [Option.map, b_e, List.length_map, hb, cond_true]
          show _ = _
          rw [b_upd b_v]
          simp only [b_c, ← b_upd b_e]
          rfl
        · intro u hu
          rcases b_upd_mem hu with g | g
          · rw [g]; exact b_hd h2
          · exact hfs u g
    · exact hn.elim
  · exact hn.elim
theorem bs_iaload (hL : L ≤ 2050) (h1 : ∀ q ∈ ls, b_okv q.2) (h2 : ∀ v ∈ st, b_okv v) (h3 : ∀ e ∈ w, b_oke e) (hn : bx_next (bx_alts L xs (.iaload) x y (pc, ls, st, w, a, b)) k) : ax_next (ax_alts L xs (.iaload) x y (b_c (pc, ls, st, w, a, b))) (b_c k) ∧ b_ok k := by
  simp only [bx_alts] at hn
  split at hn
  · next j r =>
    obtain ⟨hp, rfl⟩ := b_one hn
    have g := b_idx hp.1 hp.2 (by omega)
    refine ⟨?_, h1, b_cons (b_in32 _) (b_tl (b_tl h2)), h3⟩
    have e : b_c (pc + 1, ls, Sum.inl (xs j.toNat).toInt :: r, w, a, b) = (pc + 1, b_l ls, Value.int (xs (Int32.ofInt j).toNatClampNeg) :: r.map b_v, w.map b_e, a, b) := by
      rw [g.2.2]
      simp only [b_c, List.map_cons, b_v, b_ofInt]
    rw [e]
    exact a_one g.1
  · next j c r =>
    split at hn
    · next n f hw =>
      cases hb : Nat.blt n 2147483648 with
      | false => rw [hb] at hn; exact hn.elim
      | true =>
        rw [hb] at hn
        obtain ⟨hp, rfl⟩ := b_one hn
        have g := b_idx hp.1 hp.2 (Nat.le_of_lt (ax_blt hb))
        have hf : ∀ j, b_in (f j) := h3 _ (b_nth_mem hw)
        refine ⟨?_, h1, b_cons (hf j) (b_tl (b_tl h2)), h3⟩
        simp only [ax_alts, b_c, List.map_cons, b_v]
        rw [b_nth, hw]
        refine ⟨_, List.mem_cons.mpr (Or.inl ?_), g.1⟩
        simp only [g.2.1]
    · exact hn.elim
  · exact hn.elim
theorem bs_baload (hL : L ≤ 2050) (h1 : ∀ q ∈ ls, b_okv q.2) (h2 : ∀ v ∈ st, b_okv v) (h3 : ∀ e ∈ w, b_oke e) (hn : bx_next (bx_alts L xs (.baload) x y (pc, ls, st, w, a, b)) k) : ax_next (ax_alts L xs (.baload) x y (b_c (pc, ls, st, w, a, b))) (b_c k) ∧ b_ok k := by
  simp only [bx_alts] at hn
  split at hn
  · next j c r =>
    split at hn
    · next n f hw =>
      cases hb : Nat.blt n 2147483648 with
      | false => rw [hb] at hn; exact hn.elim
      | true =>
        rw [hb] at hn
        obtain ⟨hp, rfl⟩ := b_one hn
        have g := b_idx hp.1 hp.2 (Nat.le_of_lt (ax_blt hb))
        have hf : ∀ j, b_in (f j) := h3 _ (b_nth_mem hw)
        refine ⟨?_, h1, b_cons (hf j) (b_tl (b_tl h2)), h3⟩
        simp only [ax_alts, b_c, List.map_cons, b_v]
        rw [b_nth, hw]
        refine ⟨_, List.mem_cons.mpr (Or.inl ?_), g.1⟩
        simp only [g.2.1]
    · exact hn.elim
  · exact hn.elim
theorem bs_laload (hL : L ≤ 2050) (h1 : ∀ q ∈ ls, b_okv q.2) (h2 : ∀ v ∈ st, b_okv v) (h3 : ∀ e ∈ w, b_oke e) (hn : bx_next (bx_alts L xs (.laload) x y (pc, ls, st, w, a, b)) k) : ax_next (ax_alts L xs (.laload) x y (b_c (pc, ls, st, w, a, b))) (b_c k) ∧ b_ok k := by
  simp only [bx_alts] at hn
  split at hn
  · next j c r =>
    split at hn
    · next n f hw =>
      cases hb : Nat.blt n 2147483648 with
      | false => rw [hb] at hn; exact hn.elim
      | true =>
        rw [hb] at hn
        obtain ⟨hp, rfl⟩ := b_one hn
        have g := b_idx hp.1 hp.2 (Nat.le_of_lt (ax_blt hb))
        have hf : ∀ j, b_in (f j) := h3 _ (b_nth_mem hw)
        refine ⟨?_, h1, b_cons (hf j) (b_tl (b_tl h2)), h3⟩
        simp only [ax_alts, b_c, List.map_cons, b_v]
        rw [b_nth, hw]
        refine ⟨_, List.mem_cons.mpr (Or.inl ?_), g.1⟩
        simp only [g.2.1]
    · exact hn.elim
  · exact hn.elim
theorem bs_iastore (hL : L ≤ 2050) (h1 : ∀ q ∈ ls, b_okv q.2) (h2 : ∀ v ∈ st, b_okv v) (h3 : ∀ e ∈ w, b_oke e) (hn : bx_next (bx_alts L xs (.iastore) x y (pc, ls, st, w, a, b)) k) : ax_next (ax_alts L xs (.iastore) x y (b_c (pc, ls, st, w, a, b))) (b_c k) ∧ b_ok k := by
  simp only [bx_alts] at hn
  split at hn
  · next v j c r =>
    split at hn
    · next n f hw =>
      cases hb : Nat.blt n 2147483648 with
      | false => rw [hb] at hn; exact hn.elim
      | true =>
        rw [hb] at hn
        obtain ⟨hp, rfl⟩ := b_one hn
        have g := b_idx hp.1 hp.2 (Nat.le_of_lt (ax_blt hb))
        have hf : ∀ j, b_in (f j) := h3 _ (b_nth_mem hw)
        refine ⟨?_, h1, b_tl (b_tl (b_tl h2)), b_updw h3 (b_upok hf (b_hd h2 : b_in v))⟩
        simp only [ax_alts, b_c, List.map_cons, b_v]
        rw [b_nth, hw]
        refine ⟨_, List.mem_cons.mpr (Or.inl ?_), g.1⟩
        rw [g.2.2, b_up32 hp.1]
        rw [← b_upd b_e]
        rfl
    · exact hn.elim
  · exact hn.elim
theorem bs_bastore (hL : L ≤ 2050) (h1 : ∀ q ∈ ls, b_okv q.2) (h2 : ∀ v ∈ st, b_okv v) (h3 : ∀ e ∈ w, b_oke e) (hn : bx_next (bx_alts L xs (.bastore) x y (pc, ls, st, w, a, b)) k) : ax_next (ax_alts L xs (.bastore) x y (b_c (pc, ls, st, w, a, b))) (b_c k) ∧ b_ok k := by
  simp only [bx_alts] at hn
  split at hn
  · next v j c r =>
    split at hn
    · next n f hw =>
      cases hb : Nat.blt n 2147483648 with
      | false => rw [hb] at hn; exact hn.elim
      | true =>
        rw [hb] at hn
        obtain ⟨hp, rfl⟩ := b_one hn
        have g := b_idx hp.1 hp.2.1 (Nat.le_of_lt (ax_blt hb))
        have hf : ∀ j, b_in (f j) := h3 _ (b_nth_mem hw)
        refine ⟨?_, h1, b_tl (b_tl (b_tl h2)), b_updw h3 (b_upok hf (b_hd h2 : b_in v))⟩
        simp only [ax_alts, b_c, List.map_cons, b_v]
        rw [b_nth, hw]
        refine ⟨_, List.mem_cons.mpr (Or.inl ?_), g.1⟩
        rw [g.2.2, b_nar hp.2.2.1 hp.2.2.2, b_up32 hp.1]
        rw [← b_upd b_e]
        rfl
    · exact hn.elim
  · exact hn.elim
theorem bs_lastore (hL : L ≤ 2050) (h1 : ∀ q ∈ ls, b_okv q.2) (h2 : ∀ v ∈ st, b_okv v) (h3 : ∀ e ∈ w, b_oke e) (hn : bx_next (bx_alts L xs (.lastore) x y (pc, ls, st, w, a, b)) k) : ax_next (ax_alts L xs (.lastore) x y (b_c (pc, ls, st, w, a, b))) (b_c k) ∧ b_ok k := by
  simp only [bx_alts] at hn
  split at hn
  · next v j c r =>
    split at hn
    · next n f hw =>
      cases hb : Nat.blt n 2147483648 with
      | false => rw [hb] at hn; exact hn.elim
      | true =>
        rw [hb] at hn
        obtain ⟨hp, rfl⟩ := b_one hn
        have g := b_idx hp.1 hp.2 (Nat.le_of_lt (ax_blt hb))
        have hf : ∀ j, b_in (f j) := h3 _ (b_nth_mem hw)
        refine ⟨?_, h1, b_tl (b_tl (b_tl h2)), b_updw h3 (b_upok hf (b_hd h2 : b_in v))⟩
        simp only [ax_alts, b_c, List.map_cons, b_v]
        rw [b_nth, hw]
        refine ⟨_, List.mem_cons.mpr (Or.inl ?_), g.1⟩
        rw [g.2.2, b_up64 hp.1]
        rw [← b_upd b_e]
        rfl
    · exact hn.elim
  · exact hn.elim
theorem bs_arraylength (hL : L ≤ 2050) (h1 : ∀ q ∈ ls, b_okv q.2) (h2 : ∀ v ∈ st, b_okv v) (h3 : ∀ e ∈ w, b_oke e) (hn : bx_next (bx_alts L xs (.arraylength) x y (pc, ls, st, w, a, b)) k) : ax_next (ax_alts L xs (.arraylength) x y (b_c (pc, ls, st, w, a, b))) (b_c k) ∧ b_ok k := by
  simp only [bx_alts] at hn
  split at hn
  · next r =>
    cases hn
    exact ⟨rfl, h1, b_cons (b_nat (n := L) (by omega)).2 (b_tl h2), h3⟩
  · next c r =>
    split at hn
    · next n f hw =>
      cases hb : Nat.blt n 2147483648 with
      | false => rw [hb] at hn; exact hn.elim
      | true =>
        rw [hb] at hn
        cases hn
        refine ⟨?_, h1, b_cons (b_nat (ax_blt hb)).2 (b_tl h2), h3⟩
        simp only [ax_alts, b_c, List.map_cons, b_v]
        rw [b_nth, hw]
        exact rfl
    · exact hn.elim
  · exact hn.elim
theorem bs_newarray {t : ArrayType} (hL : L ≤ 2050) (h1 : ∀ q ∈ ls, b_okv q.2) (h2 : ∀ v ∈ st, b_okv v) (h3 : ∀ e ∈ w, b_oke e) (hn : bx_next (bx_alts L xs (.newarray t) x y (pc, ls, st, w, a, b)) k) : ax_next (ax_alts L xs (.newarray t) x y (b_c (pc, ls, st, w, a, b))) (b_c k) ∧ b_ok k := by
  simp only [bx_alts] at hn
  split at hn
  · next j r =>
    cases hb : (bx_fr w.length ls r && w.all (bx_we w.length) && Nat.blt x 2147483648 && Nat.blt y 3) with
    | false => rw [hb] at hn; exact hn.elim
    | true =>
      rw [hb] at hn
      obtain ⟨hp, rfl⟩ := b_one hn
      simp only [Bool.and_eq_true] at hb
      obtain ⟨⟨⟨q1, q2⟩, q3⟩, q4⟩ := hb
      refine ⟨?_, h1, b_cons trivial (b_tl h2), ?_⟩
      · simp only [ax_alts, b_c, List.map_cons, b_v]
        rw [List.length_map, b_fr, q1, b_wall q2]
        refine ⟨_, List.mem_cons.mpr (Or.inl ?_), (?_ : Int32.ofInt j = nI x)⟩
        · have hy := ax_blt q4
          have e : (w ++ [Sum.inl (y, x, fun _ => (0 : Int))]).map b_e = w.map b_e ++ [ax_anew x y] := by
            rw [List.map_append]
            match y, hy with
            | 0, _ => rfl
            | 1, _ => rfl
            | 2, _ => rfl
            | n + 3, h => exact absurd h (by omega)
          rw [e]
        · rw [hp]; rfl
      · intro e he
        rcases List.mem_append.mp he with g | g
        · exact h3 e g
        · rcases List.mem_cons.mp g with g | g
          · rw [g]; exact fun _ => (⟨by omega, by omega⟩ : b_in 0)
          · cases g
  · exact hn.elim
theorem bs_new {j : Nat} (hL : L ≤ 2050) (h1 : ∀ q ∈ ls, b_okv q.2) (h2 : ∀ v ∈ st, b_okv v) (h3 : ∀ e ∈ w, b_oke e) (hn : bx_next (bx_alts L xs (.new j) x y (pc, ls, st, w, a, b)) k) : ax_next (ax_alts L xs (.new j) x y (b_c (pc, ls, st, w, a, b))) (b_c k) ∧ b_ok k := by
  simp only [bx_alts] at hn
  cases hb : (bx_fr w.length ls st && w.all (bx_we w.length) && Nat.blt x 7) with
  | false => rw [hb] at hn; exact hn.elim
  | true =>
    rw [hb] at hn
    cases hn
    simp only [Bool.and_eq_true] at hb
    obtain ⟨⟨q1, q2⟩, q3⟩ := hb
    refine ⟨?_, h1, b_cons trivial h2, ?_⟩
    · simp only [ax_alts, b_c, List.map_cons, b_v]
      rw [List.length_map, b_fr, q1, b_wall q2]
      show _ = _
      rw [List.map_append]
      simp only [List.map_cons, List.map_nil, b_e, b_dfl x (ax_blt q3)]
    · intro e he
      rcases List.mem_append.mp he with g | g
      · exact h3 e g
      · rcases List.mem_cons.mp g with g | g
        · rw [g]; exact b_dfl_ok x
        · cases g
theorem bs_invokespecial {j : Nat} (hL : L ≤ 2050) (h1 : ∀ q ∈ ls, b_okv q.2) (h2 : ∀ v ∈ st, b_okv v) (h3 : ∀ e ∈ w, b_oke e) (hn : bx_next (bx_alts L xs (.invokespecial j) x y (pc, ls, st, w, a, b)) k) : ax_next (ax_alts L xs (.invokespecial j) x y (b_c (pc, ls, st, w, a, b))) (b_c k) ∧ b_ok k := by
  simp only [bx_alts] at hn
  split at hn
  · next z r =>
    cases hb : bx_wt r with
    | false => rw [hb] at hn; exact hn.elim
    | true =>
      rw [hb] at hn
      cases hn
      refine ⟨?_, h1, b_tl h2, h3⟩
      simp only [ax_alts, b_c, List.map_cons, b_v]
      rw [b_wt, hb]
      exact rfl
  · exact hn.elim
theorem bs_invokestatic {j : Nat} (hL : L ≤ 2050) (h1 : ∀ q ∈ ls, b_okv q.2) (h2 : ∀ v ∈ st, b_okv v) (h3 : ∀ e ∈ w, b_oke e) (hn : bx_next (bx_alts L xs (.invokestatic j) x y (pc, ls, st, w, a, b)) k) : ax_next (ax_alts L xs (.invokestatic j) x y (b_c (pc, ls, st, w, a, b))) (b_c k) ∧ b_ok k := by
  simp only [bx_alts] at hn
  split at hn
  · next q p r =>
    cases hb : bx_wt r with
    | false => rw [hb] at hn; exact hn.elim
    | true =>
      rw [hb] at hn
      cases hn
      have hq : b_in q := b_hd h2
      have hp : b_in p := b_hd (b_tl h2)
      have e := b_lt hp hq
      by_cases h : p < q
      · have e2 : max p q = q := by omega
        rw [e2]
        refine ⟨?_, h1, b_cons hq (b_tl (b_tl h2)), h3⟩
        simp only [ax_alts, b_c, List.map_cons, b_v]
        rw [b_wt, hb, if_pos (e.mpr h)]
        exact rfl
      · have e2 : max p q = p := by omega
        rw [e2]
        refine ⟨?_, h1, b_cons hp (b_tl (b_tl h2)), h3⟩
        simp only [ax_alts, b_c, List.map_cons, b_v]
        rw [b_wt, hb, if_neg (fun g => h (e.mp g))]
        exact rfl
  · next q p r =>
    cases hb : bx_wt r with
    | false => rw [hb] at hn; exact hn.elim
    | true =>
      rw [hb] at hn
      cases hn
      have hq : b_in q := b_hd h2
      have hp : b_in p := b_hd (b_tl h2)
      have e := b_lt hq hp
      by_cases h : q < p
      · have e2 : min p q = q := by omega
        rw [e2]
        refine ⟨?_, h1, b_cons hq (b_tl (b_tl h2)), h3⟩
        simp only [ax_alts, b_c, List.map_cons, b_v]
        rw [b_wt, hb, if_pos (e.mpr h)]
        exact rfl
      · have e2 : min p q = p := by omega
        rw [e2]
        refine ⟨?_, h1, b_cons hp (b_tl (b_tl h2)), h3⟩
        simp only [ax_alts, b_c, List.map_cons, b_v]
        rw [b_wt, hb, if_neg (fun g => h (e.mp g))]
        exact rfl
  · next p r =>
    cases hb : bx_wt r with
    | false => rw [hb] at hn; exact hn.elim
    | true =>
      rw [hb] at hn
      obtain ⟨hq, rfl⟩ := b_one hn
      have hp : b_in p := b_hd h2
      have e : (0 : Int32) ≤ Int32.ofInt p ↔ 0 ≤ p := b_le (x := 0) ⟨by omega, by omega⟩ hp
      by_cases h : 0 ≤ p
      · have e2 : max p (-p) = p := by omega
        rw [e2]
        refine ⟨?_, h1, b_cons hp (b_tl h2), h3⟩
        simp only [ax_alts, b_c, List.map_cons, b_v]
        rw [b_wt, hb, if_pos (e.mpr h)]
        exact rfl
      · have e2 : max p (-p) = 0 - p := by omega
        rw [e2]
        refine ⟨?_, h1, b_cons (⟨by have := hp.2; omega, by have := hp.2; omega⟩ : b_in (0 - p)) (b_tl h2), h3⟩
        simp only [ax_alts, b_c, List.map_cons, b_v]
        rw [b_wt, hb, if_neg (fun g => h (e.mp g)), Int32.ofInt_sub]
        exact rfl
  · exact hn.elim
theorem bx_sound {ins : Instr} {c : BC} (hL : L ≤ 2050) (hok : b_ok c) (hn : bx_next (bx_alts L xs ins x y c) k) : ax_next (ax_alts L xs ins x y (b_c c)) (b_c k) ∧ b_ok k := by
  obtain ⟨pc, ls, st, w, a, b⟩ := c
  obtain ⟨h1, h2, h3⟩ := hok
  cases ins with
  | iload _ => exact bs_iload hL h1 h2 h3 hn
  | iload_n _ => exact bs_iload_n hL h1 h2 h3 hn
  | aload _ => exact bs_aload hL h1 h2 h3 hn
  | aload_n _ => exact bs_aload_n hL h1 h2 h3 hn
  | istore _ => exact bs_istore hL h1 h2 h3 hn
  | istore_n _ => exact bs_istore_n hL h1 h2 h3 hn
  | astore _ => exact bs_astore hL h1 h2 h3 hn
  | astore_n _ => exact bs_astore_n hL h1 h2 h3 hn
  | iconst _ => exact bs_iconst hL h1 h2 h3 hn
  | bipush _ => exact bs_bipush hL h1 h2 h3 hn
  | sipush _ => exact bs_sipush hL h1 h2 h3 hn
  | ldc _ => exact bs_ldc hL h1 h2 h3 hn
  | iinc _ _ => exact bs_iinc hL h1 h2 h3 hn
  | iadd => exact bs_iadd hL h1 h2 h3 hn
  | isub => exact bs_isub hL h1 h2 h3 hn
  | imul => exact bs_imul hL h1 h2 h3 hn
  | iand => exact bs_iand hL h1 h2 h3 hn
  | ixor => exact bs_ixor hL h1 h2 h3 hn
  | ishl => exact bs_ishl hL h1 h2 h3 hn
  | ishr => exact bs_ishr hL h1 h2 h3 hn
  | idiv => exact bs_idiv hL h1 h2 h3 hn
  | irem => exact bs_irem hL h1 h2 h3 hn
  | i2l => exact bs_i2l hL h1 h2 h3 hn
  | lcmp => exact bs_lcmp hL h1 h2 h3 hn
  | dup => exact bs_dup hL h1 h2 h3 hn
  | goto _ => exact bs_goto hL h1 h2 h3 hn
  | if_icmp _ _ => exact bs_if_icmp hL h1 h2 h3 hn
  | ifCond _ _ => exact bs_ifCond hL h1 h2 h3 hn
  | tableswitch _ _ _ _ => exact bs_tableswitch hL h1 h2 h3 hn
  | lookupswitch _ _ => exact bs_lookupswitch hL h1 h2 h3 hn
  | getfield _ => exact bs_getfield hL h1 h2 h3 hn
  | putfield _ => exact bs_putfield hL h1 h2 h3 hn
  | iaload => exact bs_iaload hL h1 h2 h3 hn
  | baload => exact bs_baload hL h1 h2 h3 hn
  | laload => exact bs_laload hL h1 h2 h3 hn
  | iastore => exact bs_iastore hL h1 h2 h3 hn
  | bastore => exact bs_bastore hL h1 h2 h3 hn
  | lastore => exact bs_lastore hL h1 h2 h3 hn
  | arraylength => exact bs_arraylength hL h1 h2 h3 hn
  | newarray _ => exact bs_newarray hL h1 h2 h3 hn
  | new _ => exact bs_new hL h1 h2 h3 hn
  | invokespecial _ => exact bs_invokespecial hL h1 h2 h3 hn
  | invokestatic _ => exact bs_invokestatic hL h1 h2 h3 hn
  | _ => exact hn.elim
end BSN
end
section
/-! Rules over whole numbers. -/
/-- along simple instructions up to one of the places 'stops', or up to a call or an end; what the path asks -/
def bx_pu (L : Nat) (xs : Nat → Int32) (i : Nat) (stops : List Nat) : Nat → List Nat → BC → Option (Prop × BC)
  | 0, _, _ => none
  | k + 1, bs, c => match ax_at (axT i) c.1 with
    | none => none
    | some (ins, x, y) => cond (Nat.beq (ax_kind ins x) 0) (match bx_alts L xs ins x y c with
      | none => none
      | some (.inl c1) => cond (ax_halt i stops c1.1) (some ((0 : Int) = 0, c1)) (bx_pu L xs i stops k bs c1)
      | some (.inr alts) => match alts with
        | [] => none
        | [(P, c1)] => cond (ax_halt i stops c1.1) (some (P, c1)) (match bx_pu L xs i stops k bs c1 with
          | some (P2, c2) => some (P ∧ P2, c2)
          | none => none)
        | q1 :: q2 :: r => (match bs with
          | [] => none
          | j :: bs => (match ax_nth (q1 :: q2 :: r) j with
            | none => none
            | some (P, c1) => cond (ax_halt i stops c1.1) (some (P, c1)) (match bx_pu L xs i stops k bs c1 with
              | some (P2, c2) => some (P ∧ P2, c2)
              | none => none)))) none
/-- from here method i comes to an end of which Q holds -/
def bE (L : Nat) (xs : Nat → Int32) (d i : Nat) (c : BC) (Q : BR → Prop) : Prop := L ≤ 2050 → b_ok c → ∃ r, ax_Ev L xs d i (b_c c) (b_r r) ∧ b_okr r ∧ Q r
section BRU
variable {L : Nat} {xs : Nat → Int32} {d i pc y a b a1 b1 : Nat} {ls : BL} {st as rest : List BV} {w w1 : BW} {sp : Bool} {Q : BR → Prop}
theorem bE_step {ins : Instr} {x : Nat} {c c1 : BC} (hat : ax_at (axT i) c.1 = some (ins, x, y)) (hk : ax_kind ins x = 0) (hn : bx_next (bx_alts L xs ins x y c) c1) (h : bE L xs d i c1 Q) : bE L xs d i c Q := by
  intro hL hok
  obtain ⟨g1, g2⟩ := bx_sound hL hok hn
  obtain ⟨r, r1, r2, r3⟩ := h hL g2
  obtain ⟨pc, ls, st, w, a, b⟩ := c
  exact ⟨r, ev_alt hat hk g1 r1, r2, r3⟩
theorem bE_pu (stops : List Nat) : ∀ (k : Nat) (bs : List Nat) {c c1 : BC} {P : Prop}, bx_pu L xs i stops k bs c = some (P, c1) → P → bE L xs d i c1 Q → bE L xs d i c Q
  | 0, bs, c, c1, P, h, hp, hE => by cases h
  | k + 1, bs, c, c1, P, h, hp, hE => by
    simp only [bx_pu] at h
    split at h
    · cases h
    · next ins x y hat =>
      cases hk : Nat.beq (ax_kind ins x) 0 with
      | false => rw [hk] at h; cases h
      | true =>
        rw [hk] at h
        have hk := Nat.eq_of_beq_eq_true hk
        simp only [cond_true] at h
        split at h
        · cases h
        · next c2 h2 =>
          refine bE_step hat hk (c1 := c2) (by rw [h2]; rfl) ?_
          cases hs : ax_halt i stops c2.1 with
          | true =>
            rw [hs] at h
            simp only [cond_true, Option.some.injEq, Prod.mk.injEq] at h
            rw [h.2]; exact hE
          | false => rw [hs] at h; exact bE_pu stops k bs h hp hE
        · next alts h2 =>
          split at h
          · cases h
          · next P1 c2 =>
            cases hs : ax_halt i stops c2.1 with
            | true =>
              rw [hs] at h
              simp only [cond_true, Option.some.injEq, Prod.mk.injEq] at h
              rw [← h.1] at hp
              exact bE_step hat hk (c1 := c2) (by rw [h2]; exact ⟨P1, List.mem_cons_self, hp⟩) (by rw [h.2]; exact hE)
            | false =>
              rw [hs] at h
              simp only [cond_false] at h
              split at h
              · next P2 c3 h3 =>
                simp only [Option.some.injEq, Prod.mk.injEq] at h
                obtain ⟨e1, e2⟩ := h
                subst e1; subst e2
                exact bE_step hat hk (c1 := c2) (by rw [h2]; exact ⟨P1, List.mem_cons_self, hp.1⟩) (bE_pu stops k bs h3 hp.2 hE)
              · cases h
          · next q1 q2 r =>
            split at h
            · cases h
            · next j bs1 =>
              split at h
              · cases h
              · next P1 c2 h4 =>
                rw [ax_nth_eq] at h4
                cases hs : ax_halt i stops c2.1 with
                | true =>
                  rw [hs] at h
                  simp only [cond_true, Option.some.injEq, Prod.mk.injEq] at h
                  rw [← h.1] at hp
                  exact bE_step hat hk (c1 := c2) (by rw [h2]; exact ⟨P1, List.mem_of_getElem? h4, hp⟩) (by rw [h.2]; exact hE)
                | false =>
                  rw [hs] at h
                  simp only [cond_false] at h
                  split at h
                  · next P2 c3 h3 =>
                    simp only [Option.some.injEq, Prod.mk.injEq] at h
                    obtain ⟨e1, e2⟩ := h
                    subst e1; subst e2
                    exact bE_step hat hk (c1 := c2) (by rw [h2]; exact ⟨P1, List.mem_of_getElem? h4, hp.1⟩) (bE_pu stops k bs1 h3 hp.2 hE)
                  · cases h
/-- go along a path -/
theorem go (stops bs : List Nat) {c c1 : BC} {P : Prop} (h : bx_pu L xs i stops 200 bs c = some (P, c1)) (hp : P) (hE : bE L xs d i c1 Q) : bE L xs d i c Q := bE_pu stops 200 bs h hp hE
def bx_split : Nat → List BV → List BV → Option (List BV × List BV)
  | 0, acc, r => some (acc, r)
  | n + 1, acc, v :: r => bx_split n (v :: acc) r
  | _ + 1, _, [] => none
def bx_ent : Nat → List BV → BL
  | _, [] => []
  | k, v :: r => (k, v) :: bx_ent (k + 1) r
def bx_c1 (as : List BV) : Bool := as.all (fun v => Nat.beq (bx_cat v) 1)
def bx_rb (w : BW) (j : Nat) : List BV → Bool
  | .inr (.inl (c + 1)) :: _ => (match ax_nth w c with
    | some (.inr (ci, _)) => Nat.beq ci (axCi j)
    | _ => false)
  | _ => false
def bx_cd (i : Nat) : BC → Option (Nat × List BV × List BV × Bool)
  | (pc, ls, st, w, _, _) => match ax_at (axT i) pc with
    | none => none
    | some (ins, x, y) => cond (Nat.beq (ax_kind ins x) 1) (match bx_split (axNa y) [] st with
      | none => none
      | some (as, rest) => cond (bx_fr w.length ls rest && bx_wt rest && bx_c1 as && ((Nat.beq x 2 || Nat.beq x 3) || bx_rb w y as)) (some (y, as, rest, Nat.beq x 1 || Nat.beq x 4)) none) none
theorem b_split : ∀ (n : Nat) (acc st : List BV), ax_split n (acc.map b_v) (st.map b_v) = (bx_split n acc st).map (fun q => (q.1.map b_v, q.2.map b_v))
  | 0, acc, st => rfl
  | n + 1, acc, [] => rfl
  | n + 1, acc, v :: r => b_split n (v :: acc) r
theorem b_split_ok : ∀ (n : Nat) (acc st : List BV) {as rest : List BV}, bx_split n acc st = some (as, rest) → (∀ v ∈ acc, b_okv v) → (∀ v ∈ st, b_okv v) → (∀ v ∈ as, b_okv v) ∧ (∀ v ∈ rest, b_okv v)
  | 0, acc, st, as, rest, h, h1, h2 => by cases h; exact ⟨h1, h2⟩
  | n + 1, acc, [], as, rest, h, h1, h2 => by cases h
  | n + 1, acc, v :: r, as, rest, h, h1, h2 => b_split_ok n (v :: acc) r h (b_cons (b_hd h2) h1) (b_tl h2)
theorem b_ent : ∀ (k : Nat) (as : List BV), ax_ent k (as.map b_v) = b_l (bx_ent k as)
  | _, [] => rfl
  | k, v :: r => congrArg (fun q => (k, b_v v) :: q) (b_ent (k + 1) r)
theorem b_ent_ok : ∀ (k : Nat) (as : List BV), (∀ v ∈ as, b_okv v) → ∀ q ∈ bx_ent k as, b_okv q.2
  | _, [], _ => fun q h => by cases h
  | k, v :: r, h => fun q hq => by
    rcases List.mem_cons.mp hq with g | g
    · rw [g]; exact b_hd h
    · exact b_ent_ok (k + 1) r (b_tl h) q g
theorem b_c1 (as : List BV) : ax_c1 (as.map b_v) = bx_c1 as := by
  unfold ax_c1 bx_c1
  rw [List.all_map]
  congr 1
  funext v
  exact congrArg (fun n => Nat.beq n 1) (b_cat v)
theorem b_rb {w : BW} {j : Nat} {as : List BV} (h : bx_rb w j as = true) : ax_rb (w.map b_e) j (as.map b_v) = true := by
  unfold bx_rb at h
  split at h
  · split at h
    · next ci fs hw =>
      simp only [ax_rb, List.map_cons, b_v]
      rw [b_nth, hw]
      exact h
    · cases h
  · cases h
theorem b_cd (h : bx_cd i (pc, ls, st, w, a, b) = some (y, as, rest, sp)) : ax_cd i (b_c (pc, ls, st, w, a, b)) = some (y, as.map b_v, rest.map b_v, sp) ∧ ((∀ v ∈ st, b_okv v) → (∀ v ∈ as, b_okv v) ∧ (∀ v ∈ rest, b_okv v)) := by
  simp only [bx_cd] at h
  split at h
  · cases h
  · next ins x y1 hat =>
    cases hk : Nat.beq (ax_kind ins x) 1 with
    | false => rw [hk] at h; cases h
    | true =>
      rw [hk] at h
      simp only [cond_true] at h
      split at h
      · cases h
      · next as1 rest1 hs =>
        cases hc : (bx_fr w.length ls rest1 && bx_wt rest1 && bx_c1 as1 && ((Nat.beq x 2 || Nat.beq x 3) || bx_rb w y1 as1)) with
        | false => rw [hc] at h; cases h
        | true =>
          rw [hc] at h
          simp only [cond_true, Option.some.injEq, Prod.mk.injEq] at h
          obtain ⟨e1, e2, e3, e4⟩ := h
          subst e1; subst e2; subst e3; subst e4
          refine ⟨?_, fun h2 => b_split_ok _ _ _ hs (fun v hv => by cases hv) h2⟩
          simp only [Bool.and_eq_true, Bool.or_eq_true] at hc
          obtain ⟨⟨⟨q1, q2⟩, q3⟩, q4⟩ := hc
          simp only [ax_cd, b_c]
          rw [hat]
          simp only [hk, cond_true]
          have hs2 := b_split (axNa y1) [] st
          rw [hs] at hs2
          simp only [List.map_nil, Option.map] at hs2
          rw [hs2]
          simp only [List.length_map, b_fr, b_wt, b_c1, q1, q2, q3, Bool.true_and]
          rcases q4 with q4 | q4
          · rcases q4 with q4 | q4
            · simp only [q4, Bool.true_or, cond_true]
            · simp only [q4, Bool.true_or, Bool.or_true, cond_true]
          · simp only [b_rb q4, Bool.or_true, cond_true]
/-- a call, with a picture of its end -/
theorem bcall {Q1 : BR → Prop} (h : bx_cd i (pc, ls, st, w, a, b) = some (y, as, rest, sp)) (hd : 2 ≤ d) (hc : bE L xs (d - 1) y (0, bx_ent 0 as, [], w, a, b) Q1)
    (ht : ∀ r, Q1 r → ∃ w1 v a1 b1, r = (w1, .inl v, a1, b1) ∧ (sp = true → v = none) ∧ bE L xs d i (pc + 3, ls, v.toList ++ rest, w1, a1, b1) Q) : bE L xs d i (pc, ls, st, w, a, b) Q := by
  intro hL hok
  obtain ⟨g1, g2⟩ := b_cd h
  obtain ⟨k1, k2⟩ := g2 hok.2.1
  obtain ⟨r, r1, r2, r3⟩ := hc hL ⟨b_ent_ok 0 as k1, (fun v hv => by cases hv), hok.2.2⟩
  obtain ⟨w1, v, a1, b1, rfl, hsp, hE⟩ := ht r r3
  obtain ⟨r9, s1, s2, s3⟩ := hE hL ⟨hok.1, by
    cases v with
    | none => exact k2
    | some v => exact b_cons r2.2 k2, r2.1⟩
  refine ⟨r9, ?_, s2, s3⟩
  simp only [b_c, ← b_ent] at r1
  refine ev_call (v := v.map b_v) g1 hd r1 (fun q => by rw [hsp q]; rfl) ?_
  have e : (v.map b_v).toList ++ rest.map b_v = (v.toList ++ rest).map b_v := by
    cases v <;> rfl
  rw [e]
  exact s1
/-- a call whose end is known exactly -/
theorem bc {v : Option BV} (h : bx_cd i (pc, ls, st, w, a, b) = some (y, as, rest, sp)) (hd : 2 ≤ d) (hc : bE L xs (d - 1) y (0, bx_ent 0 as, [], w, a, b) (fun r => r = (w1, .inl v, a1, b1))) (hsp : sp = true → v = none)
    (ht : bE L xs d i (pc + 3, ls, v.toList ++ rest, w1, a1, b1) Q) : bE L xs d i (pc, ls, st, w, a, b) Q :=
  bcall h hd hc (fun r hr => ⟨w1, v, a1, b1, hr, hsp, ht⟩)
/-- a call that throws, through -/
theorem bcX {x9 : Nat} (h : bx_cd i (pc, ls, st, w, a, b) = some (y, as, rest, false)) (hd : 2 ≤ d) (hh : axHh i = []) (hc : bE L xs (d - 1) y (0, bx_ent 0 as, [], w, a, b) (fun r => r = (w1, .inr x9, a1, b1))) (hq : Q (w1, .inr x9, a1, b1)) : bE L xs d i (pc, ls, st, w, a, b) Q := by
  intro hL hok
  obtain ⟨g1, g2⟩ := b_cd h
  obtain ⟨k1, k2⟩ := g2 hok.2.1
  obtain ⟨r, r1, r2, r3⟩ := hc hL ⟨b_ent_ok 0 as k1, (fun v hv => by cases hv), hok.2.2⟩
  subst r3
  simp only [b_c, ← b_ent] at r1
  exact ⟨(w1, .inr x9, a1, b1), ev_callX g1 hd hh r1, r2, hq⟩
/-- a call that throws, caught -/
theorem bcC {x9 h9 k9 : Nat} (h : bx_cd i (pc, ls, st, w, a, b) = some (y, as, rest, false)) (hd : 2 ≤ d) (hh : axHh i ≠ []) (hx : ax_hd i x9 = some (h9, k9)) (hc : bE L xs (d - 1) y (0, bx_ent 0 as, [], w, a, b) (fun r => r = (w1, .inr x9, a1, b1)))
    (ht : bE L xs d i (h9, bx_del ls k9, [], w1, a1, b1) Q) : bE L xs d i (pc, ls, st, w, a, b) Q := by
  intro hL hok
  obtain ⟨g1, g2⟩ := b_cd h
  obtain ⟨k1, k2⟩ := g2 hok.2.1
  obtain ⟨r, r1, r2, r3⟩ := hc hL ⟨b_ent_ok 0 as k1, (fun v hv => by cases hv), hok.2.2⟩
  subst r3
  obtain ⟨r9, s1, s2, s3⟩ := ht hL ⟨b_del_ok hok.1, (fun v hv => by cases hv), r2.1⟩
  simp only [b_c, ← b_ent] at r1
  simp only [b_c, ← b_del] at s1
  exact ⟨r9, ev_callC g1 hd hh r1 hx s1, s2, s3⟩
theorem rti {z : Int} {x : Nat} (hat : ax_at (axT i) pc = some (.ireturn, x, y)) (hr : axRe i = some .int) (hq : Q (w, .inl (some (bI z)), a, b)) : bE L xs d i (pc, ls, [bI z], w, a, b) Q :=
  fun _ hok => ⟨(w, .inl (some (bI z)), a, b), ev_ret hat hr, ⟨hok.2.2, hok.2.1 _ List.mem_cons_self⟩, hq⟩
theorem rtb {z : Int} {x : Nat} (hat : ax_at (axT i) pc = some (.ireturn, x, y)) (hr : axRe i = some .boolean) (hz : z = 0 ∨ z = 1) (hq : Q (w, .inl (some (bI z)), a, b)) : bE L xs d i (pc, ls, [bI z], w, a, b) Q :=
  fun _ hok => ⟨(w, .inl (some (bI z)), a, b), ev_retb hat hr (by rcases hz with rfl | rfl; exact Or.inl rfl; exact Or.inr rfl), ⟨hok.2.2, hok.2.1 _ List.mem_cons_self⟩, hq⟩
theorem rtv {x : Nat} (hat : ax_at (axT i) pc = some (.return_, x, y)) (hr : axRe i = none) (hq : Q (w, .inl none, a, b)) : bE L xs d i (pc, ls, [], w, a, b) Q :=
  fun _ hok => ⟨(w, .inl none, a, b), ev_retv hat hr, ⟨hok.2.2, trivial⟩, hq⟩
theorem thr {j x : Nat} (hat : ax_at (axT i) pc = some (.new j, x, y)) (hk : ax_kind (.new j) x = 3) (hd : 7 ≤ d) (hw : bx_wt st = true) (hq : Q (w, .inr (x - 100), a + 1, b + 6)) : bE L xs d i (pc, ls, st, w, a, b) Q :=
  fun _ hok => ⟨(w, .inr (x - 100), a + 1, b + 6), ev_thr hat hk hd (by rw [b_wt]; exact hw), ⟨hok.2.2, trivial⟩, hq⟩
theorem bE.imp {c : BC} {Q2 : BR → Prop} (h : bE L xs d i c Q) (hq : ∀ r, Q r → Q2 r) : bE L xs d i c Q2 := fun hL hok => by
  obtain ⟨r, h1, h2, h3⟩ := h hL hok
  exact ⟨r, h1, h2, hq r h3⟩
end BRU
/-- a loop that counts up -/
theorem for_up {P : Int → Prop} (n : Int) (hend : P n) (hstep : ∀ i, 0 ≤ i → i < n → P (i + 1) → P i) : ∀ i, 0 ≤ i → i ≤ n → P i := by
  intro i h0 h1
  obtain ⟨k, hk⟩ : ∃ k : Nat, n - i = k := ⟨(n - i).toNat, by omega⟩
  induction k generalizing i with
  | zero => have : i = n := by omega
            subst this; exact hend
  | succ k ih => exact hstep i h0 (by omega) (ih (i + 1) (by omega) (by omega) (by omega))
/-- what a loop makes -/
def itN {α : Type} (g : Int → α → α) (a0 : α) : Nat → α
  | 0 => a0
  | k + 1 => g (k : Int) (itN g a0 k)
def itr {α : Type} (g : Int → α → α) (a0 : α) (i : Int) : α := itN g a0 i.toNat
theorem itr_0 {α : Type} (g : Int → α → α) (a0 : α) : itr g a0 0 = a0 := rfl
theorem itr_s {α : Type} (g : Int → α → α) (a0 : α) {i : Int} (h : 0 ≤ i) : itr g a0 (i + 1) = g i (itr g a0 i) := by
  unfold itr
  have e : (i + 1).toNat = i.toNat + 1 := by omega
  rw [e, itN]
  have e2 : ((i.toNat : Nat) : Int) = i := by omega
  rw [e2]
theorem itr_ind {α : Type} {g : Int → α → α} {a0 : α} (P : Int → α → Prop) {n : Int} (h0 : P 0 a0) (hs : ∀ i x, 0 ≤ i → i < n → P i x → P (i + 1) (g i x)) : ∀ i, 0 ≤ i → i ≤ n → P i (itr g a0 i) := by
  intro i h1 h2
  obtain ⟨k, rfl⟩ : ∃ k : Nat, i = k := ⟨i.toNat, by omega⟩
  induction k with
  | zero => exact h0
  | succ k ih =>
    have e : ((k + 1 : Nat) : Int) = (k : Int) + 1 := by omega
    rw [e, itr_s _ _ (by omega)]
    exact hs k _ (by omega) (by omega) (ih (by omega) (by omega))
theorem itr_congr {α : Type} {g g' : Int → α → α} {a0 : α} {n : Int} (hs : ∀ i x, 0 ≤ i → i < n → g i x = g' i x) : ∀ i, 0 ≤ i → i ≤ n → itr g a0 i = itr g' a0 i := by
  intro i h1 h2
  obtain ⟨k, rfl⟩ : ∃ k : Nat, i = k := ⟨i.toNat, by omega⟩
  induction k with
  | zero => rfl
  | succ k ih =>
    have e : ((k + 1 : Nat) : Int) = (k : Int) + 1 := by omega
    rw [e, itr_s _ _ (by omega), itr_s _ _ (by omega), ih (by omega) (by omega)]
    exact hs k _ (by omega) (by omega)
end
section
/-! The cells of the class, of the reference, and the law's row. -/
/-- changed at one place -/
def un {α : Type} (f : Nat → α) (k : Nat) (v : α) : Nat → α := fun j => cond (Nat.beq j k) v (f j)
/-- X: here, metres, cartRoom, route size, aisles, blocks, stops size, least size; F: row, shut, aisle, place, depth, pieces, state, ways, keys, waiting, members, rests;
M: code, aisles, blocks, cart, metres, here, stops, size; G: shut, aisle, place, pieces, state, walk, left, isFront, few, costs; O: the law's row -/
def WD (X : Nat → Int) (F : Nat → Int → Int) (M : Nat → Int) (G : Nat → Int → Int) (O : Int → Int) : BW := [
  .inr (5, [bR 4, bR 6, bR 13, bR 2, bI (X 0), bI (X 1), bI (X 2)]),
  .inr (3, [bR 3, bI (X 3)]),
  .inl (0, 10, F 0),
  .inr (0, [bI (X 4), bI (X 5), bR 5]),
  .inl (1, 8, F 1),
  .inr (4, [bR 7, bR 8, bR 9, bR 10, bR 11, bI (X 6), bR 4, bR 12]),
  .inl (0, 11, F 2),
  .inl (0, 11, F 3),
  .inl (0, 11, F 4),
  .inl (0, 11, F 5),
  .inl (0, 11, F 6),
  .inl (0, 121, F 7),
  .inr (2, [bR 4, bR 6, bR 16, bR 14, bR 15]),
  .inl (0, 10, F 8),
  .inl (1, 10, F 9),
  .inr (1, [bR 6, bR 17, bI (X 7), bR 18]),
  .inl (0, 8, F 10),
  .inl (0, 2048, F 11),
  .inr (6, [bI (M 0), bI (M 1), bI (M 2), bI (M 3), bI (M 4), bI (M 5), bR 20, bI (M 6), bR 21, bR 22, bR 23, bR 24, bI (M 7), bR 25, bR 26, bR 27, bR 28, bR 29]),
  .inl (1, 8, G 0),
  .inl (0, 10, G 1),
  .inl (0, 10, G 2),
  .inl (0, 10, G 3),
  .inl (0, 10, G 4),
  .inl (0, 10, G 5),
  .inl (1, 10, G 6),
  .inl (1, 10, G 7),
  .inl (0, 8, G 8),
  .inl (0, 2048, G 9),
  .inl (2, 1, O)]
/-! Ends -/
abbrev rI (w : BW) (z : Int) (a b : Nat) : BR → Prop := fun r => r = (w, .inl (some (bI z)), a, b)
abbrev rV (w : BW) (a b : Nat) : BR → Prop := fun r => r = (w, .inl none, a, b)
abbrev rT (w : BW) (e a b : Nat) : BR → Prop := fun r => r = (w, .inr e, a, b)
/-! Mathematics: ways, counts, walks -/
def cd (x y c : Int) : Int := max (x - 11 * c) (-(x - 11 * c)) + max (y - 11 * c) (-(y - 11 * c))
def crs (x y n : Int) : Int := itr (fun c acc => min acc (cd x y c)) 1000000 n
def wy (B p x q y : Int) : Int := if p = q then max (x - y) (-(x - y)) else crs x y (B + 1) + 3 * max (p - q) (-(p - q))
theorem crs_b {x y : Int} (hx : 0 ≤ x ∧ x ≤ 40) (hy : 0 ≤ y ∧ y ≤ 40) : ∀ i, 0 ≤ i → i ≤ 4 → 0 ≤ crs x y i ∧ crs x y i ≤ 1000000 ∧ (0 < i → crs x y i ≤ 80) := by
  refine itr_ind (P := fun i z => 0 ≤ z ∧ z ≤ 1000000 ∧ (0 < i → z ≤ 80)) ⟨by omega, by omega, by omega⟩ ?_
  intro i z h0 h1 ⟨h2, h3, h4⟩
  unfold cd
  refine ⟨by omega, by omega, ?_⟩
  intro _
  by_cases h : 0 < i
  · have := h4 h; omega
  · have : i = 0 := by omega
    subst this
    omega
theorem crs_c (x y n : Int) : crs x y n = crs y x n := by
  unfold crs
  have : (fun c acc => min acc (cd x y c)) = (fun c acc => min acc (cd y x c)) := by
    funext c acc
    unfold cd
    omega
  rw [this]
theorem wy_c (B p x q y : Int) : wy B p x q y = wy B q y p x := by
  unfold wy
  rw [crs_c x y]
  by_cases h : p = q
  · rw [if_pos h, if_pos h.symm]; omega
  · rw [if_neg h, if_neg (fun g => h g.symm)]; omega
theorem wy_b {B p x q y : Int} (hB : 1 ≤ B ∧ B ≤ 3) (hp : 0 ≤ p ∧ p ≤ 8) (hq : 0 ≤ q ∧ q ≤ 8) (hx : 0 ≤ x ∧ x ≤ 40) (hy : 0 ≤ y ∧ y ≤ 40) : 0 ≤ wy B p x q y ∧ wy B p x q y ≤ 200 := by
  unfold wy
  have := crs_b hx hy (B + 1) (by omega) (by omega)
  split <;> omega
def wk (F : Nat → Int → Int) (s : Int) : Int := if F 6 s = 0 ∧ 0 < F 5 s ∧ F 1 (F 2 s) = 0 then 1 else 0
theorem wk_01 (F : Nat → Int → Int) (s : Int) : wk F s = 0 ∨ wk F s = 1 := by unfold wk; split <;> omega
def nW (F : Nat → Int → Int) (n : Int) : Int := itr (fun s acc => acc + wk F s) 0 n
def nD (F : Nat → Int → Int) (n : Int) : Int := itr (fun s acc => acc + (if F 6 s = 1 then 1 else 0)) 0 n
def nO (F : Nat → Int → Int) (A n : Int) : Int := itr (fun s acc => acc + (if F 2 s = A ∧ F 6 s = 0 then 1 else 0)) 0 n
theorem cnt_b {g : Int → Int} (hg : ∀ i, g i = 0 ∨ g i = 1) (n : Int) : ∀ i, 0 ≤ i → i ≤ n → 0 ≤ itr (fun s acc => acc + g s) 0 i ∧ itr (fun s acc => acc + g s) 0 i ≤ i := by
  refine itr_ind (P := fun i z => 0 ≤ z ∧ z ≤ i) ⟨by omega, by omega⟩ ?_
  intro i z _ _ h
  rcases hg i with e | e <;> rw [e] <;> omega
theorem nW_b (F : Nat → Int → Int) (i : Int) (h : 0 ≤ i) : 0 ≤ nW F i ∧ nW F i ≤ i := cnt_b (wk_01 F) i i h (by omega)
theorem nD_b (F : Nat → Int → Int) (i : Int) (h : 0 ≤ i) : 0 ≤ nD F i ∧ nD F i ≤ i := cnt_b (g := fun s => if F 6 s = 1 then 1 else 0) (fun s => by split <;> simp) i i h (by omega)
theorem nO_b (F : Nat → Int → Int) (A i : Int) (h : 0 ≤ i) : 0 ≤ nO F A i ∧ nO F A i ≤ i := cnt_b (g := fun s => if F 2 s = A ∧ F 6 s = 0 then 1 else 0) (fun s => by split <;> simp) i i h (by omega)
/-- a point: a stop or the depot -/
def pnt (X : Nat → Int) (p : Int) : Prop := 0 ≤ p ∧ (p < X 6 ∨ p = 10)
/-- what holds of the class's cells, but for the route -/
def SB (X : Nat → Int) (F : Nat → Int → Int) : Prop :=
  (1 ≤ X 4 ∧ X 4 ≤ 8 ∧ 1 ≤ X 5 ∧ X 5 ≤ 3 ∧ 0 ≤ X 6 ∧ X 6 ≤ 10 ∧ 0 ≤ X 0 ∧ (X 0 < X 6 ∨ X 0 = 10) ∧ 1 ≤ X 2 ∧ X 2 ≤ 1000) ∧
  (∀ j, 0 ≤ j → j < X 6 → 0 ≤ F 2 j ∧ F 2 j < X 4 ∧ 0 ≤ F 3 j ∧ F 3 j < 10 * X 5 ∧ F 4 j = 11 * (F 3 j / 10) + 1 + F 3 j % 10 ∧ 0 ≤ F 5 j ∧ F 5 j ≤ 100 ∧ 0 ≤ F 6 j ∧ F 6 j ≤ 2) ∧
  (∀ j, 0 ≤ F 1 j ∧ F 1 j ≤ 1) ∧
  (F 2 10 = 0 ∧ F 4 10 = 0) ∧
  (∀ p q, pnt X p → pnt X q → F 7 (p * 11 + q) = wy (X 5) (F 2 p) (F 4 p) (F 2 q) (F 4 q)) ∧
  (∀ p, 0 ≤ p → p ≤ 10 → F 7 (p * 11 + p) = 0)
/-- .. of the route -/
def SR (X : Nat → Int) (F : Nat → Int → Int) : Prop :=
  (0 ≤ X 3 ∧ X 3 ≤ 10) ∧ (∀ i, 0 ≤ i → i < X 3 → 0 ≤ F 0 i ∧ F 0 i < X 6 ∧ 0 < F 5 (F 0 i)) ∧ (∀ i j, 0 ≤ i → i < j → j < X 3 → F 0 i ≠ F 0 j)
theorem SB_pt {X : Nat → Int} {F : Nat → Int → Int} (h : SB X F) {p : Int} (hp : pnt X p) : 0 ≤ p ∧ p ≤ 10 ∧ 0 ≤ F 2 p ∧ F 2 p < 8 ∧ 0 ≤ F 4 p ∧ F 4 p ≤ 33 := by
  obtain ⟨h1, h2, h3, h4, h5, h6⟩ := h
  obtain ⟨g0, g | g⟩ := hp
  · have := h2 p g0 g
    omega
  · subst g
    omega
theorem SB_way {X : Nat → Int} {F : Nat → Int → Int} (h : SB X F) {p q : Int} (hp : pnt X p) (hq : pnt X q) : 0 ≤ F 7 (p * 11 + q) ∧ F 7 (p * 11 + q) ≤ 200 := by
  have a1 := SB_pt h hp
  have a2 := SB_pt h hq
  obtain ⟨h1, h2, h3, h4, h5, h6⟩ := h
  rw [h5 p q hp hq]
  exact wy_b (by omega) (by omega) (by omega) (by omega) (by omega)
theorem SB_here {X : Nat → Int} {F : Nat → Int → Int} (h : SB X F) : pnt X (X 0) := ⟨h.1.2.2.2.2.2.2.1, h.1.2.2.2.2.2.2.2.1⟩
theorem pnt_d {X : Nat → Int} : pnt X 10 := ⟨by omega, Or.inr rfl⟩
theorem pnt_s {X : Nat → Int} {s : Int} (h0 : 0 ≤ s) (h1 : s < X 6) : pnt X s := ⟨h0, Or.inl h1⟩
/-- where the walk stands ahead of its step i -/
def rat (X : Nat → Int) (F : Nat → Int → Int) (i : Int) : Int := if i = 0 then X 0 else F 0 (i - 1)
theorem SR_at {X : Nat → Int} {F : Nat → Int → Int} (h : SB X F) (hr : SR X F) {i : Int} (h0 : 0 ≤ i) (h1 : i ≤ X 3) : pnt X (rat X F i) := by
  unfold rat
  split
  · exact SB_here h
  · obtain ⟨q1, q2, q3⟩ := hr
    have := q2 (i - 1) (by omega) (by omega)
    exact pnt_s this.1 this.2.1
def rlN (X : Nat → Int) (F : Nat → Int → Int) (i : Int) : Int := itr (fun i acc => acc + F 7 (rat X F i * 11 + F 0 i)) 0 i
def rl (X : Nat → Int) (F : Nat → Int → Int) : Int := rlN X F (X 3) + F 7 (rat X F (X 3) * 11 + 10)
theorem rlN_b {X : Nat → Int} {F : Nat → Int → Int} (h : SB X F) (hr : SR X F) : ∀ i, 0 ≤ i → i ≤ X 3 → 0 ≤ rlN X F i ∧ rlN X F i ≤ 200 * i := by
  refine itr_ind (P := fun i z => 0 ≤ z ∧ z ≤ 200 * i) ⟨by omega, by omega⟩ ?_
  intro i z h0 h1 hz
  have hq := hr.2.1 i h0 h1
  have := SB_way h (SR_at h hr h0 (by omega)) (pnt_s hq.1 hq.2.1)
  omega
end
section
/-! The class's small methods -/
section T2
variable {L : Nat} {xs : Nat → Int32} {X M : Nat → Int} {F G : Nat → Int → Int} {O : Int → Int} {d a b : Nat} {Q : BR → Prop}
theorem t_hasAisle (x : Int) : bE L xs d MX0_hasAisle (0, [(0, bR 4), (1, bI x)], [], WD X F M G O, a, b) (rI (WD X F M G O) (if 0 ≤ x ∧ x < X 4 then 1 else 0) a b) := by
  by_cases h1 : x < 0
  · rw [if_neg (by omega)]
    exact go [] [0] rfl (by omega) (rtb rfl rfl (Or.inl rfl) rfl)
  · by_cases h2 : X 4 ≤ x
    · rw [if_neg (by omega)]
      exact go [] [1, 0] rfl (by omega) (rtb rfl rfl (Or.inl rfl) rfl)
    · rw [if_pos (by omega)]
      exact go [] [1, 1] rfl (by omega) (rtb rfl rfl (Or.inr rfl) rfl)
theorem t_hasPlace (hI : SB X F) (x : Int) : bE L xs d MX0_hasPlace (0, [(0, bR 4), (1, bI x)], [], WD X F M G O, a, b) (rI (WD X F M G O) (if 0 ≤ x ∧ x < 10 * X 5 then 1 else 0) a b) := by
  have := hI.1
  by_cases h1 : x < 0
  · rw [if_neg (by omega)]
    exact go [] [0] rfl (by omega) (rtb rfl rfl (Or.inl rfl) rfl)
  · by_cases h2 : 10 * X 5 ≤ x
    · rw [if_neg (by omega)]
      exact go [] [1, 0] rfl (by omega) (rtb rfl rfl (Or.inl rfl) rfl)
    · rw [if_pos (by omega)]
      exact go [] [1, 1] rfl (by omega) (rtb rfl rfl (Or.inr rfl) rfl)
theorem t_backDepth (hI : SB X F) : bE L xs d MX0_backDepth (0, [(0, bR 4)], [], WD X F M G O, a, b) (rI (WD X F M G O) (11 * X 5) a b) := by
  have := hI.1
  exact go [] [] rfl (by omega) (rti rfl rfl rfl)
theorem t_placeDepth (p : Int) (h : 0 ≤ p ∧ p < 30) : bE L xs d MX0_placeDepth (0, [(0, bR 4), (1, bI p)], [], WD X F M G O, a, b) (rI (WD X F M G O) (11 * (p / 10) + 1 + p % 10) a b) :=
  go [] [] rfl (by omega) (rti rfl rfl rfl)
theorem t_between (hI : 1 ≤ X 5 ∧ X 5 ≤ 3) (p x q y : Int) (hp : 0 ≤ p ∧ p ≤ 8) (hq : 0 ≤ q ∧ q ≤ 8) (hx : 0 ≤ x ∧ x ≤ 40) (hy : 0 ≤ y ∧ y ≤ 40) :
    bE L xs d MX0_between (0, [(0, bR 4), (1, bI p), (2, bI x), (3, bI q), (4, bI y)], [], WD X F M G O, a, b) (rI (WD X F M G O) (wy (X 5) p x q y) a b) := by
  unfold wy
  by_cases h : p = q
  · rw [if_pos h]
    exact go [] [1] rfl (by omega) (rti rfl rfl rfl)
  · rw [if_neg h]
    refine go [20] [0] rfl (by omega) ?_
    refine go [26] [] rfl (by omega) ?_
    have key := for_up (P := fun c => ∀ z, bE L xs d MX0_between (20, [(0, bR 4), (1, bI p), (2, bI x), (3, bI q), (4, bI y), (5, bI (crs x y c)), (6, bI c), (7, bI z)], [], WD X F M G O, a, b) (rI (WD X F M G O) (crs x y (X 5 + 1) + 3 * max (p - q) (-(p - q))) a b)) (X 5 + 1) ?_ ?_
    · exact go [20] [1] rfl (by omega) (key 1 (by omega) (by omega) 0)
    · intro z
      have := crs_b hx hy (X 5 + 1) (by omega) (by omega)
      exact go [] [0] rfl (by omega) (rti rfl rfl rfl)
    · intro c h0 h1 ih z
      have hc := crs_b hx hy c h0 (by omega)
      have e : crs x y (c + 1) = min (crs x y c) (cd x y c) := itr_s _ _ h0
      rw [e] at ih
      exact go [20] [1] rfl (by omega) (ih (11 * c))
theorem t_way (p q : Int) (h : 0 ≤ p ∧ p ≤ 10 ∧ 0 ≤ q ∧ q ≤ 10) : bE L xs d MX4_way (0, [(0, bR 6), (1, bI p), (2, bI q)], [], WD X F M G O, a, b) (rI (WD X F M G O) (F 7 (p * 11 + q)) a b) :=
  go [] [] rfl (by omega) (rti rfl rfl rfl)
theorem t_isWalked (hI : SB X F) (s : Int) (h0 : 0 ≤ s) (h1 : s < X 6) : bE L xs d MX4_isWalked (0, [(0, bR 6), (1, bI s)], [], WD X F M G O, a, b) (rI (WD X F M G O) (wk F s) a b) := by
  have hs := hI.2.1 s h0 h1
  have hX := hI.1
  unfold wk
  by_cases c1 : F 6 s = 0
  · by_cases c2 : 0 < F 5 s
    · by_cases c3 : F 1 (F 2 s) = 0
      · rw [if_pos ⟨c1, c2, c3⟩]
        exact go [] [1, 1, 1] rfl (by omega) (rtb rfl rfl (Or.inr rfl) rfl)
      · rw [if_neg (fun h => c3 h.2.2)]
        exact go [] [1, 1, 0] rfl (by omega) (rtb rfl rfl (Or.inl rfl) rfl)
    · rw [if_neg (fun h => c2 h.2.1)]
      exact go [] [1, 0] rfl (by omega) (rtb rfl rfl (Or.inl rfl) rfl)
  · rw [if_neg (fun h => c1 h.1)]
    exact go [] [0] rfl (by omega) (rtb rfl rfl (Or.inl rfl) rfl)
theorem t_walkedOnes (hI : SB X F) (hd : 2 ≤ d) : bE L xs d MX4_walkedOnes (0, [(0, bR 6)], [], WD X F M G O, a, b) (rI (WD X F M G O) (nW F (X 6)) a b) := by
  have hX := hI.1
  refine go [4] [] rfl (by omega) (for_up (P := fun s => bE L xs d MX4_walkedOnes (4, [(0, bR 6), (1, bI (nW F s)), (2, bI s)], [], WD X F M G O, a, b) (rI (WD X F M G O) (nW F (X 6)) a b)) (X 6) ?_ ?_ 0 (by omega) (by omega))
  · exact go [] [0] rfl (by omega) (rti rfl rfl rfl)
  · intro s h0 h1 ih
    have e : nW F (s + 1) = nW F s + wk F s := itr_s _ _ h0
    have hb := nW_b F s h0
    refine go [] [1] rfl (by omega) (bc rfl hd (t_isWalked hI s h0 h1) (fun h => by cases h) ?_)
    rcases wk_01 F s with hw | hw
    · rw [e, hw, Int.add_zero] at ih
      rw [hw]
      exact go [4] [0] rfl (by omega) ih
    · rw [e, hw] at ih
      rw [hw]
      exact go [4] [1] rfl (by omega) ih
theorem t_doneOnes (hI : SB X F) : bE L xs d MX4_doneOnes (0, [(0, bR 6)], [], WD X F M G O, a, b) (rI (WD X F M G O) (nD F (X 6)) a b) := by
  have hX := hI.1
  refine go [4] [] rfl (by omega) (for_up (P := fun s => bE L xs d MX4_doneOnes (4, [(0, bR 6), (1, bI (nD F s)), (2, bI s)], [], WD X F M G O, a, b) (rI (WD X F M G O) (nD F (X 6)) a b)) (X 6) ?_ ?_ 0 (by omega) (by omega))
  · exact go [] [0] rfl (by omega) (rti rfl rfl rfl)
  · intro s h0 h1 ih
    have e : nD F (s + 1) = nD F s + (if F 6 s = 1 then 1 else 0) := itr_s _ _ h0
    have hb := nD_b F s h0
    by_cases hw : F 6 s = 1
    · rw [e, if_pos hw] at ih
      exact go [4] [1, 1] rfl (by omega) ih
    · rw [e, if_neg hw, Int.add_zero] at ih
      exact go [4] [1, 0] rfl (by omega) ih
theorem t_openIn (hI : SB X F) (A : Int) : bE L xs d MX4_openIn (0, [(0, bR 6), (1, bI A)], [], WD X F M G O, a, b) (rI (WD X F M G O) (nO F A (X 6)) a b) := by
  have hX := hI.1
  refine go [4] [] rfl (by omega) (for_up (P := fun s => bE L xs d MX4_openIn (4, [(0, bR 6), (1, bI A), (2, bI (nO F A s)), (3, bI s)], [], WD X F M G O, a, b) (rI (WD X F M G O) (nO F A (X 6)) a b)) (X 6) ?_ ?_ 0 (by omega) (by omega))
  · exact go [] [0] rfl (by omega) (rti rfl rfl rfl)
  · intro s h0 h1 ih
    have e : nO F A (s + 1) = nO F A s + (if F 2 s = A ∧ F 6 s = 0 then 1 else 0) := itr_s _ _ h0
    have hb := nO_b F A s h0
    by_cases hw : F 2 s = A
    · by_cases hv : F 6 s = 0
      · rw [e, if_pos ⟨hw, hv⟩] at ih
        exact go [4] [1, 1, 1] rfl (by omega) ih
      · rw [e, if_neg (fun h => hv h.2), Int.add_zero] at ih
        exact go [4] [1, 1, 0] rfl (by omega) ih
    · rw [e, if_neg (fun h => hw h.1), Int.add_zero] at ih
      exact go [4] [1, 0] rfl (by omega) ih
theorem t_requireAisle (x : Int) (hd : 7 ≤ d) : bE L xs d MX5_requireAisle (0, [(0, bR 1), (1, bI x)], [], WD X F M G O, a, b) (fun r => (0 ≤ x ∧ x < X 4 ∧ r = (WD X F M G O, .inl none, a, b)) ∨ (¬ (0 ≤ x ∧ x < X 4) ∧ r = (WD X F M G O, .inr 0, a + 1, b + 6))) := by
  refine go [] [] rfl (by omega) (bc rfl (by omega) (t_hasAisle x) (fun h => by cases h) ?_)
  by_cases h : 0 ≤ x ∧ x < X 4
  · rw [if_pos h]
    exact go [] [0] rfl (by omega) (rtv rfl rfl (Or.inl ⟨h.1, h.2, rfl⟩))
  · rw [if_neg h]
    exact go [] [1] rfl (by omega) (thr rfl rfl hd rfl (Or.inr ⟨h, rfl⟩))
theorem t_requireStop (x : Int) (hd : 7 ≤ d) : bE L xs d MX5_requireStop (0, [(0, bR 1), (1, bI x)], [], WD X F M G O, a, b) (fun r => (0 ≤ x ∧ x < X 6 ∧ r = (WD X F M G O, .inl none, a, b)) ∨ (¬ (0 ≤ x ∧ x < X 6) ∧ r = (WD X F M G O, .inr 0, a + 1, b + 6))) := by
  by_cases h1 : x < 0
  · exact go [] [0] rfl (by omega) (thr rfl rfl hd rfl (Or.inr ⟨by omega, rfl⟩))
  · by_cases h2 : x < X 6
    · exact go [] [1, 0] rfl (by omega) (rtv rfl rfl (Or.inl ⟨by omega, by omega, rfl⟩))
    · exact go [] [1, 1] rfl (by omega) (thr rfl rfl hd rfl (Or.inr ⟨by omega, rfl⟩))
theorem t_routeLength (hI : SB X F) (hr : SR X F) (hd : 2 ≤ d) : bE L xs d MX5_routeLength (0, [(0, bR 1)], [], WD X F M G O, a, b) (rI (WD X F M G O) (rl X F) a b) := by
  have hX := hI.1
  have hR := hr.1
  have e0 : rat X F 0 = X 0 := rfl
  have key := for_up (P := fun i => bE L xs d MX5_routeLength (9, [(0, bR 1), (1, bI (rlN X F i)), (2, bI (rat X F i)), (3, bI i)], [], WD X F M G O, a, b) (rI (WD X F M G O) (rl X F) a b)) (X 3) ?_ ?_ 0 (by omega) (by omega)
  · exact go [9] [] rfl (by omega) key
  · have p1 := SR_at hI hr hR.1 (Int.le_refl _)
    have p2 := SB_way hI p1 pnt_d
    have p3 := rlN_b hI hr (X 3) (by omega) (by omega)
    have p4 := SB_pt hI p1
    refine go [] [0] rfl (by omega) (bc rfl hd (t_way _ 10 (by omega)) (fun h => by cases h) ?_)
    exact go [] [] rfl (by omega) (rti rfl rfl rfl)
  · intro i h0 h1 ih
    have p1 := SR_at hI hr h0 (by omega)
    have hq := hr.2.1 i h0 h1
    have p2 := SB_way hI p1 (pnt_s hq.1 hq.2.1)
    have p3 := rlN_b hI hr i (by omega) (by omega)
    have p4 := SB_pt hI p1
    have e : rlN X F (i + 1) = rlN X F i + F 7 (rat X F i * 11 + F 0 i) := itr_s _ _ h0
    have e2 : rat X F (i + 1) = F 0 i := by
      unfold rat
      rw [if_neg (by omega)]
      congr 1; omega
    rw [e, e2] at ih
    refine go [] [1] rfl (by omega) (bc rfl hd (t_way _ _ (by omega)) (fun h => by cases h) ?_)
    exact go [9] [] rfl (by omega) ih
end T2
end
section
/-! The class: stops come in, the route's row -/
section T3
variable {L : Nat} {xs : Nat → Int32} {X M : Nat → Int} {F G : Nat → Int → Int} {O : Int → Int} {d a b : Nat} {Q : BR → Prop}
theorem t_rA (x : Int) (hd : 7 ≤ d) (h : 0 ≤ x ∧ x < X 4) : bE L xs d MX5_requireAisle (0, [(0, bR 1), (1, bI x)], [], WD X F M G O, a, b) (rV (WD X F M G O) a b) := by
  refine go [] [] rfl (by omega) (bc rfl (by omega) (t_hasAisle x) (fun h => by cases h) ?_)
  rw [if_pos h]
  exact go [] [0] rfl (by omega) (rtv rfl rfl rfl)
theorem t_rA' (x : Int) (hd : 7 ≤ d) (h : ¬ (0 ≤ x ∧ x < X 4)) : bE L xs d MX5_requireAisle (0, [(0, bR 1), (1, bI x)], [], WD X F M G O, a, b) (rT (WD X F M G O) 0 (a + 1) (b + 6)) := by
  refine go [] [] rfl (by omega) (bc rfl (by omega) (t_hasAisle x) (fun h => by cases h) ?_)
  rw [if_neg h]
  exact go [] [1] rfl (by omega) (thr rfl rfl hd rfl rfl)
theorem t_rS (x : Int) (hd : 7 ≤ d) (h : 0 ≤ x ∧ x < X 6) : bE L xs d MX5_requireStop (0, [(0, bR 1), (1, bI x)], [], WD X F M G O, a, b) (rV (WD X F M G O) a b) :=
  go [] [1, 0] rfl (by omega) (rtv rfl rfl rfl)
theorem t_rS' (x : Int) (hd : 7 ≤ d) (h : ¬ (0 ≤ x ∧ x < X 6)) : bE L xs d MX5_requireStop (0, [(0, bR 1), (1, bI x)], [], WD X F M G O, a, b) (rT (WD X F M G O) 0 (a + 1) (b + 6)) := by
  by_cases h1 : x < 0
  · exact go [] [0] rfl (by omega) (thr rfl rfl hd rfl rfl)
  · exact go [] [1, 1] rfl (by omega) (thr rfl rfl hd rfl rfl)
/-- two places of the ways, changed -/
def up2 (V : Int → Int) (s o w : Int) : Int → Int := up (up V (s * 11 + o) w) (o * 11 + s) w
theorem t_measure (hI : 1 ≤ X 5 ∧ X 5 ≤ 3) (s o : Int) (hs : 0 ≤ s ∧ s ≤ 10) (ho : 0 ≤ o ∧ o ≤ 10) (h1 : 0 ≤ F 2 s ∧ F 2 s ≤ 8 ∧ 0 ≤ F 4 s ∧ F 4 s ≤ 40) (h2 : 0 ≤ F 2 o ∧ F 2 o ≤ 8 ∧ 0 ≤ F 4 o ∧ F 4 o ≤ 40) (hd : 2 ≤ d) :
    bE L xs d MX4_measure (0, [(0, bR 6), (1, bI s), (2, bI o)], [], WD X F M G O, a, b) (rV (WD X (un F 7 (up2 (F 7) s o (wy (X 5) (F 2 s) (F 4 s) (F 2 o) (F 4 o)))) M G O) a b) := by
  refine go [] [] rfl (by omega) (bc rfl hd (t_between hI _ _ _ _ (by omega) (by omega) (by omega) (by omega)) (fun h => by cases h) ?_)
  exact go [] [] rfl (by omega) (rtv rfl rfl rfl)
theorem up_eq (f : Int → Int) (k v : Int) : up f k v k = v := if_pos rfl
theorem up_ne (f : Int → Int) {k v j : Int} (h : j ≠ k) : up f k v j = f j := if_neg h
theorem up2_o (V : Int → Int) {s o w p q : Int} (hq : 0 ≤ q ∧ q ≤ 10) (hs : 0 ≤ s ∧ s ≤ 10) (ho : 0 ≤ o ∧ o ≤ 10) (h1 : ¬ (p = s ∧ q = o)) (h2 : ¬ (p = o ∧ q = s)) : up2 V s o w (p * 11 + q) = V (p * 11 + q) := by
  unfold up2
  rw [up_ne _ (by omega), up_ne _ (by omega)]
theorem up2_1 (V : Int → Int) {s o w : Int} : up2 V s o w (o * 11 + s) = w := up_eq _ _ _
theorem up2_2 (V : Int → Int) {s o w : Int} (hs : 0 ≤ s ∧ s ≤ 10) (ho : 0 ≤ o ∧ o ≤ 10) : up2 V s o w (s * 11 + o) = w := by
  unfold up2
  by_cases h : s * 11 + o = o * 11 + s
  · rw [h]; exact up_eq _ _ _
  · rw [up_ne _ h]; exact up_eq _ _ _
/-- the rows behind a new stop, but for the ways -/
def F1 (F : Nat → Int → Int) (n A P N : Int) : Nat → Int → Int := un (un (un (un (un F 2 (up (F 2) n A)) 3 (up (F 3) n P)) 4 (up (F 4) n (11 * (P / 10) + 1 + P % 10))) 5 (up (F 5) n N)) 6 (up (F 6) n 0)
theorem t_add (hI : SB X F) (A P N : Int) (hA : 0 ≤ A ∧ A < X 4) (hP : 0 ≤ P ∧ P < 10 * X 5) (hN : 0 ≤ N ∧ N ≤ 100) (hn : X 6 < 10) (hd : 3 ≤ d) :
    bE L xs d MX4_add (0, [(0, bR 6), (1, bI A), (2, bI P), (3, bI N)], [], WD X F M G O, a, b)
      (fun r => ∃ V : Int → Int, r = (WD (un X 6 (X 6 + 1)) (un (F1 F (X 6) A P N) 7 V) M G O, .inl (some (bI (X 6))), a, b) ∧ SB (un X 6 (X 6 + 1)) (un (F1 F (X 6) A P N) 7 V)) := by
  obtain ⟨hX, hS, hsh, hdep, hwy, hdg⟩ := hI
  have a2 : ∀ p, p ≠ X 6 → up (F 2) (X 6) A p = F 2 p := fun p h => up_ne _ h
  have a3 : ∀ p, p ≠ X 6 → up (F 3) (X 6) P p = F 3 p := fun p h => up_ne _ h
  have a4 : ∀ p, p ≠ X 6 → up (F 4) (X 6) (11 * (P / 10) + 1 + P % 10) p = F 4 p := fun p h => up_ne _ h
  have b2 : up (F 2) (X 6) A (X 6) = A := up_eq _ _ _
  have b4 : up (F 4) (X 6) (11 * (P / 10) + 1 + P % 10) (X 6) = 11 * (P / 10) + 1 + P % 10 := up_eq _ _ _
  have bnd : ∀ p, (0 ≤ p ∧ p < X 6) ∨ p = 10 ∨ p = X 6 → 0 ≤ up (F 2) (X 6) A p ∧ up (F 2) (X 6) A p ≤ 8 ∧ 0 ≤ up (F 4) (X 6) (11 * (P / 10) + 1 + P % 10) p ∧ up (F 4) (X 6) (11 * (P / 10) + 1 + P % 10) p ≤ 40 := by
    intro p hp
    rcases hp with hp | hp | hp
    · have := hS p hp.1 hp.2
      rw [a2 p (by omega), a4 p (by omega)]
      omega
    · subst hp
      rw [a2 10 (by omega), a4 10 (by omega)]
      omega
    · subst hp
      rw [b2, b4]
      omega
  have key := for_up (P := fun o => ∀ V : Int → Int, ((∀ p q, pnt X p → pnt X q → V (p * 11 + q) = F 7 (p * 11 + q)) ∧ (∀ p, 0 ≤ p → p ≤ 10 → V (p * 11 + p) = 0) ∧ (∀ q, 0 ≤ q → q < o → V (X 6 * 11 + q) = wy (X 5) (up (F 2) (X 6) A (X 6)) (up (F 4) (X 6) (11 * (P / 10) + 1 + P % 10) (X 6)) (up (F 2) (X 6) A q) (up (F 4) (X 6) (11 * (P / 10) + 1 + P % 10) q) ∧ V (q * 11 + X 6) = wy (X 5) (up (F 2) (X 6) A (X 6)) (up (F 4) (X 6) (11 * (P / 10) + 1 + P % 10) (X 6)) (up (F 2) (X 6) A q) (up (F 4) (X 6) (11 * (P / 10) + 1 + P % 10) q))) →
      bE L xs d MX4_add (56, [(0, bR 6), (1, bI A), (2, bI P), (3, bI N), (4, bI (X 6)), (5, bI o)], [], WD X (un (F1 F (X 6) A P N) 7 V) M G O, a, b)
      (fun r => ∃ V : Int → Int, r = (WD (un X 6 (X 6 + 1)) (un (F1 F (X 6) A P N) 7 V) M G O, .inl (some (bI (X 6))), a, b) ∧ SB (un X 6 (X 6 + 1)) (un (F1 F (X 6) A P N) 7 V))) (X 6) ?_ ?_ 0 (by omega) (by omega)
  · refine go [] [] rfl (by omega) (bc rfl (by omega) (t_placeDepth (X := X) (F := un (un F 2 (up (F 2) (X 6) A)) 3 (up (F 3) (X 6) P)) P (by omega)) (fun h => by cases h) ?_)
    exact go [56] [] rfl (by omega) (key (F 7) ⟨fun p q _ _ => rfl, hdg, fun q h0 h1 => by omega⟩)
  · intro V hV
    obtain ⟨v1, v2, v3⟩ := hV
    refine go [] [0] rfl (by omega) (bc rfl (by omega) (t_measure (X := X) (F := un (F1 F (X 6) A P N) 7 V) (by omega) (X 6) 10 (by omega) (by omega) (bnd (X 6) (by omega)) (bnd 10 (by omega)) (by omega)) (fun h => by cases h) ?_)
    refine go [] [] rfl ?_ (rti rfl rfl ⟨_, rfl, ?_⟩)
    · show (-2147483648 ≤ X 6 + 1 ∧ X 6 + 1 ≤ 2147483647) ∧ (0 : Int) = 0
      omega
    · refine ⟨?_, ?_, hsh, ⟨?_, ?_⟩, ?_, ?_⟩
      · show 1 ≤ X 4 ∧ X 4 ≤ 8 ∧ 1 ≤ X 5 ∧ X 5 ≤ 3 ∧ 0 ≤ X 6 + 1 ∧ X 6 + 1 ≤ 10 ∧ 0 ≤ X 0 ∧ (X 0 < X 6 + 1 ∨ X 0 = 10) ∧ 1 ≤ X 2 ∧ X 2 ≤ 1000
        omega
      · intro j h0 h1
        have h1 : j < X 6 + 1 := h1
        show 0 ≤ up (F 2) (X 6) A j ∧ up (F 2) (X 6) A j < X 4 ∧ 0 ≤ up (F 3) (X 6) P j ∧ up (F 3) (X 6) P j < 10 * X 5 ∧ up (F 4) (X 6) (11 * (P / 10) + 1 + P % 10) j = 11 * (up (F 3) (X 6) P j / 10) + 1 + up (F 3) (X 6) P j % 10 ∧ 0 ≤ up (F 5) (X 6) N j ∧ up (F 5) (X 6) N j ≤ 100 ∧ 0 ≤ up (F 6) (X 6) 0 j ∧ up (F 6) (X 6) 0 j ≤ 2
        by_cases hj : j = X 6
        · subst hj
          simp only [up_eq]
          exact ⟨by omega, by omega, by omega, by omega, trivial, by omega, by omega, by omega, by omega⟩
        · simp only [up_ne _ hj]
          exact hS j h0 (by omega)
      · show up (F 2) (X 6) A 10 = 0
        rw [a2 10 (by omega)]; exact hdep.1
      · show up (F 4) (X 6) (11 * (P / 10) + 1 + P % 10) 10 = 0
        rw [a4 10 (by omega)]; exact hdep.2
      · intro p q hp hq
        have hp : 0 ≤ p ∧ (p < X 6 + 1 ∨ p = 10) := hp
        have hq : 0 ≤ q ∧ (q < X 6 + 1 ∨ q = 10) := hq
        show up2 V (X 6) 10 (wy (X 5) (up (F 2) (X 6) A (X 6)) (up (F 4) (X 6) (11 * (P / 10) + 1 + P % 10) (X 6)) (up (F 2) (X 6) A 10) (up (F 4) (X 6) (11 * (P / 10) + 1 + P % 10) 10)) (p * 11 + q) = wy (X 5) (up (F 2) (X 6) A p) (up (F 4) (X 6) (11 * (P / 10) + 1 + P % 10) p) (up (F 2) (X 6) A q) (up (F 4) (X 6) (11 * (P / 10) + 1 + P % 10) q)
        by_cases e1 : p = X 6 ∧ q = 10
        · rw [e1.1, e1.2, up2_2 V (by omega) (by omega)]
        · by_cases e2 : p = 10 ∧ q = X 6
          · rw [e2.1, e2.2, up2_1 V]; exact wy_c _ _ _ _ _
          · rw [up2_o V (by omega) (by omega) (by omega) e1 e2]
            by_cases e3 : p = X 6
            · by_cases e4 : q = X 6
              · rw [e3, e4, v2 (X 6) (by omega) (by omega)]
                unfold wy
                rw [if_pos rfl]
                omega
              · rw [e3]
                exact (v3 q (by omega) (by omega)).1
            · by_cases e4 : q = X 6
              · rw [e4, wy_c]
                exact (v3 p (by omega) (by omega)).2
              · rw [v1 p q ⟨hp.1, by omega⟩ ⟨hq.1, by omega⟩, a2 p e3, a2 q e4, a4 p e3, a4 q e4]
                exact hwy p q ⟨hp.1, by omega⟩ ⟨hq.1, by omega⟩
      · intro p h0 h1
        show up2 V (X 6) 10 _ (p * 11 + p) = 0
        rw [up2_o V (by omega) (by omega) (by omega) (by omega) (by omega)]
        exact v2 p h0 h1
  · intro o h0 h1 ih V hV
    obtain ⟨v1, v2, v3⟩ := hV
    refine go [] [1] rfl (by omega) (bc rfl (by omega) (t_measure (X := X) (F := un (F1 F (X 6) A P N) 7 V) (by omega) (X 6) o (by omega) (by omega) (bnd (X 6) (by omega)) (bnd o (by omega)) (by omega)) (fun h => by cases h) ?_)
    refine go [56] [] rfl (by omega) (ih (up2 V (X 6) o (wy (X 5) (up (F 2) (X 6) A (X 6)) (up (F 4) (X 6) (11 * (P / 10) + 1 + P % 10) (X 6)) (up (F 2) (X 6) A o) (up (F 4) (X 6) (11 * (P / 10) + 1 + P % 10) o))) ⟨?_, ?_, ?_⟩)
    · intro p q hp hq
      obtain ⟨p0, p1⟩ := hp
      obtain ⟨q0, q1⟩ := hq
      rw [up2_o V (by omega) (by omega) (by omega) (by omega) (by omega)]
      exact v1 p q ⟨p0, p1⟩ ⟨q0, q1⟩
    · intro p h0 h1
      rw [up2_o V (by omega) (by omega) (by omega) (by omega) (by omega)]
      exact v2 p h0 h1
    · intro q g0 g1
      by_cases hq : q = o
      · subst hq
        exact ⟨up2_2 V (by omega) (by omega), up2_1 V⟩
      · rw [up2_o V (by omega) (by omega) (by omega) (by omega) (by omega), up2_o V (by omega) (by omega) (by omega) (by omega) (by omega)]
        exact v3 q g0 (by omega)
end T3
end
section
/-! The class's calls, but for walk -/
theorem un_s {α : Type} (f : Nat → α) (k : Nat) (v : α) : un f k v k = v := by
  unfold un
  rw [Nat.beq_refl]
  rfl
/-- a row without its place k -/
def dr (row : Int → Int) (k : Int) : Int → Int := fun j => if j < k then row j else row (j + 1)
def bndN (X : Nat → Int) (F : Nat → Int → Int) (i : Int) : Int := itr (fun s acc => if wk F s = 1 then max acc (F 7 (X 0 * 11 + s) + F 7 (s * 11 + 10)) else acc) 0 i
/-- the cart's walk: length, load, place -/
def fuN (X : Nat → Int) (F : Nat → Int → Int) (i : Int) : Int × Int × Int := itr (fun i q => if 0 < q.2.1 ∧ X 2 < q.2.1 + F 5 (F 0 i) then (q.1 + F 7 (q.2.2 * 11 + 10) + F 7 (10 * 11 + F 0 i), 0 + F 5 (F 0 i), F 0 i) else (q.1 + F 7 (q.2.2 * 11 + F 0 i), q.2.1 + F 5 (F 0 i), F 0 i)) (0, 0, X 0) i
theorem fuN_b {X : Nat → Int} {F : Nat → Int → Int} (h : SB X F) (hr : SR X F) : ∀ i, 0 ≤ i → i ≤ X 3 → 0 ≤ (fuN X F i).1 ∧ (fuN X F i).1 ≤ 400 * i ∧ 0 ≤ (fuN X F i).2.1 ∧ (fuN X F i).2.1 ≤ 100 * i ∧ pnt X (fuN X F i).2.2 ∧ (0 < i → 0 < (fuN X F i).2.1) := by
  refine itr_ind (P := fun i (z : Int × Int × Int) => 0 ≤ z.1 ∧ z.1 ≤ 400 * i ∧ 0 ≤ z.2.1 ∧ z.2.1 ≤ 100 * i ∧ pnt X z.2.2 ∧ (0 < i → 0 < z.2.1)) ⟨by simp, by simp, by simp, by simp, SB_here h, by omega⟩ ?_
  intro i z h0 h1 ⟨z1, z2, z3, z4, z5, z6⟩
  have hq := hr.2.1 i h0 h1
  have hp := h.2.1 (F 0 i) hq.1 hq.2.1
  have w1 := SB_way h z5 (pnt_s hq.1 hq.2.1)
  have w2 := SB_way h z5 pnt_d
  have w3 := SB_way h pnt_d (pnt_s hq.1 hq.2.1)
  split
  · exact ⟨by simp only; omega, by simp only; omega, by simp only; omega, by simp only; omega, pnt_s hq.1 hq.2.1, by simp only; omega⟩
  · exact ⟨by simp only; omega, by simp only; omega, by simp only; omega, by simp only; omega, pnt_s hq.1 hq.2.1, by simp only; omega⟩
def fu (X : Nat → Int) (F : Nat → Int → Int) : Int := (fuN X F (X 3)).1 + F 7 ((fuN X F (X 3)).2.2 * 11 + 10)
theorem bndN_b {X : Nat → Int} {F : Nat → Int → Int} (h : SB X F) : ∀ i, 0 ≤ i → i ≤ X 6 → 0 ≤ bndN X F i ∧ bndN X F i ≤ 400 := by
  refine itr_ind (P := fun i z => 0 ≤ z ∧ z ≤ 400) ⟨by omega, by omega⟩ ?_
  intro i z h0 h1 hz
  have w1 := SB_way h (SB_here h) (pnt_s h0 h1)
  have w2 := SB_way h (pnt_s h0 h1) pnt_d
  split <;> omega
section T4
variable {L : Nat} {xs : Nat → Int32} {X M : Nat → Int} {F G : Nat → Int → Int} {O : Int → Int} {d a b : Nat} {Q : BR → Prop}
theorem t_drop (x k : Int) (hX : 0 ≤ X 3 ∧ X 3 ≤ 10) (hk : 0 ≤ k ∧ k ≤ X 3) (hx : ∀ i, 0 ≤ i → i < X 3 → (F 0 i = x ↔ i = k)) :
    bE L xs d MX3_drop (0, [(0, bR 2), (1, bI x)], [], WD X F M G O, a, b) (fun r => ∃ row : Int → Int, r = (WD (un X 3 (if k < X 3 then X 3 - 1 else X 3)) (un F 0 row) M G O, .inl none, a, b) ∧ ∀ j, 0 ≤ j → j < (if k < X 3 then X 3 - 1 else X 3) → row j = dr (F 0) k j) := by
  have key := for_up (P := fun i => ∀ V : Int → Int, (∀ j, 0 ≤ j → j < (if k < i then i - 1 else i) → V j = dr (F 0) k j) → (∀ j, i ≤ j → V j = F 0 j) →
      bE L xs d MX3_drop (4, [(0, bR 2), (1, bI x), (2, bI (if k < i then i - 1 else i)), (3, bI i)], [], WD X (un F 0 V) M G O, a, b) (fun r => ∃ row : Int → Int, r = (WD (un X 3 (if k < X 3 then X 3 - 1 else X 3)) (un F 0 row) M G O, .inl none, a, b) ∧ ∀ j, 0 ≤ j → j < (if k < X 3 then X 3 - 1 else X 3) → row j = dr (F 0) k j)) (X 3) ?_ ?_ 0 (by omega) (by omega)
  · refine go [4] [] rfl (by omega) ?_
    have := key (F 0) (fun j h0 h1 => by rw [if_neg (by omega)] at h1; omega) (fun j _ => rfl)
    rw [if_neg (by omega)] at this
    exact this
  · intro V h1 h2
    exact go [] [0] rfl (by omega) (rtv rfl rfl ⟨V, rfl, h1⟩)
  · intro i h0 h1 ih V g1 g2
    have gi := g2 i (Int.le_refl _)
    have hxi := hx i h0 h1
    by_cases he : F 0 i = x
    · have hk1 : i = k := hxi.mp he
      subst hk1
      refine go [4] [1, 0] rfl (by simp only [un_s, and_true]; omega) ?_
      rw [if_neg (by omega)] at g1 ⊢
      have := ih V (fun j q0 q1 => g1 j q0 (by rw [if_pos (by omega)] at q1; omega)) (fun j q => g2 j (by omega))
      rw [if_pos (by omega)] at this
      have e : i + 1 - 1 = i := by omega
      rw [e] at this
      exact this
    · have hk1 : i ≠ k := fun h => he (hxi.mpr h)
      by_cases hki : k < i
      · rw [if_pos hki] at g1 ⊢
        refine go [4] [1, 1] rfl (by simp only [un_s, and_true]; omega) ?_
        have := ih (up V (i - 1) (V i)) ?_ ?_
        · rw [if_pos (by omega)] at this
          have e : i - 1 + 1 = i + 1 - 1 := by omega
          rw [← e] at this
          exact this
        · intro j q0 q1
          rw [if_pos (by omega)] at q1
          by_cases hj : j = i - 1
          · subst hj
            rw [up_eq, gi]
            unfold dr
            rw [if_neg (by omega)]
            congr 1; omega
          · rw [up_ne _ hj]; exact g1 j q0 (by omega)
        · intro j q
          rw [up_ne _ (by omega)]; exact g2 j (by omega)
      · rw [if_neg hki] at g1 ⊢
        refine go [4] [1, 1] rfl (by simp only [un_s, and_true]; omega) ?_
        have := ih (up V i (V i)) ?_ ?_
        · rw [if_neg (by omega)] at this
          exact this
        · intro j q0 q1
          rw [if_neg (by omega)] at q1
          by_cases hj : j = i
          · subst hj
            rw [up_eq, gi]
            unfold dr
            rw [if_pos (by omega)]
          · rw [up_ne _ hj]; exact g1 j q0 (by omega)
        · intro j q
          rw [up_ne _ (by omega)]; exact g2 j (by omega)
theorem t_stop1 (A P N : Int) (hd : 8 ≤ d) (h : ¬ (0 ≤ A ∧ A < X 4)) : bE L xs d MX5_stop (0, [(0, bR 1), (1, bI A), (2, bI P), (3, bI N)], [], WD X F M G O, a, b) (rT (WD X F M G O) 0 (a + 1) (b + 6)) :=
  go [] [] rfl (by omega) (bcX rfl (by omega) rfl (t_rA' A (by omega) h) rfl)
theorem t_stop2 (hI : SB X F) (A P N : Int) (hd : 8 ≤ d) (h : 0 ≤ A ∧ A < X 4) (h2 : ¬ (0 ≤ P ∧ P < 10 * X 5) ∨ ¬ (0 ≤ N ∧ N ≤ 100)) : bE L xs d MX5_stop (0, [(0, bR 1), (1, bI A), (2, bI P), (3, bI N)], [], WD X F M G O, a, b) (rT (WD X F M G O) 1 (a + 1) (b + 6)) := by
  refine go [] [] rfl (by omega) (bc rfl (by omega) (t_rA A (by omega) h) (fun h => by cases h) ?_)
  refine go [] [] rfl (by omega) (bc rfl (by omega) (t_hasPlace hI P) (fun h => by cases h) ?_)
  by_cases hp : 0 ≤ P ∧ P < 10 * X 5
  · rw [if_pos hp]
    by_cases hn : N < 0
    · exact go [] [0, 0] rfl (by omega) (thr rfl rfl (by omega) rfl rfl)
    · exact go [] [0, 1, 1] rfl (by omega) (thr rfl rfl (by omega) rfl rfl)
  · rw [if_neg hp]
    exact go [] [1] rfl (by omega) (thr rfl rfl (by omega) rfl rfl)
theorem t_stop3 (hI : SB X F) (A P N : Int) (hd : 8 ≤ d) (h : 0 ≤ A ∧ A < X 4) (h2 : 0 ≤ P ∧ P < 10 * X 5) (h3 : 0 ≤ N ∧ N ≤ 100) (h4 : 10 ≤ X 6) : bE L xs d MX5_stop (0, [(0, bR 1), (1, bI A), (2, bI P), (3, bI N)], [], WD X F M G O, a, b) (rT (WD X F M G O) 2 (a + 1) (b + 6)) := by
  refine go [] [] rfl (by omega) (bc rfl (by omega) (t_rA A (by omega) h) (fun h => by cases h) ?_)
  refine go [] [] rfl (by omega) (bc rfl (by omega) (t_hasPlace hI P) (fun h => by cases h) ?_)
  rw [if_pos h2]
  exact go [] [0, 1, 0, 1] rfl (by omega) (thr rfl rfl (by omega) rfl rfl)
theorem t_stop4 (hI : SB X F) (A P N : Int) (hd : 8 ≤ d) (h : 0 ≤ A ∧ A < X 4) (h2 : 0 ≤ P ∧ P < 10 * X 5) (h3 : 0 ≤ N ∧ N ≤ 100) (h4 : X 6 < 10) : bE L xs d MX5_stop (0, [(0, bR 1), (1, bI A), (2, bI P), (3, bI N)], [], WD X F M G O, a, b)
      (fun r => ∃ V : Int → Int, r = (WD (un X 6 (X 6 + 1)) (un (F1 F (X 6) A P N) 7 V) M G O, .inl (some (bI (X 6))), a, b) ∧ SB (un X 6 (X 6 + 1)) (un (F1 F (X 6) A P N) 7 V)) := by
  refine go [] [] rfl (by omega) (bc rfl (by omega) (t_rA A (by omega) h) (fun h => by cases h) ?_)
  refine go [] [] rfl (by omega) (bc rfl (by omega) (t_hasPlace hI P) (fun h => by cases h) ?_)
  rw [if_pos h2]
  refine go [] [0, 1, 0, 0] rfl (by omega) (bcall rfl (by omega) (t_add hI A P N h h2 h3 h4 (by omega)) ?_)
  rintro r ⟨V, rfl, hV⟩
  exact ⟨_, _, _, _, rfl, (fun h => by cases h), rti rfl rfl ⟨V, rfl, hV⟩⟩
theorem SB_shut (hI : SB X F) {f : Int → Int} (h : ∀ j, 0 ≤ f j ∧ f j ≤ 1) : SB X (un F 1 f) := ⟨hI.1, hI.2.1, h, hI.2.2.2⟩
theorem t_closed1 (A on : Int) (hd : 8 ≤ d) (h : ¬ (0 ≤ A ∧ A < X 4)) : bE L xs d MX5_closed (0, [(0, bR 1), (1, bI A), (2, bI on)], [], WD X F M G O, a, b) (rT (WD X F M G O) 0 (a + 1) (b + 6)) :=
  go [] [] rfl (by omega) (bcX rfl (by omega) rfl (t_rA' A (by omega) h) rfl)
theorem t_closed2 (hI : SB X F) (A on : Int) (hd : 8 ≤ d) (h : 0 ≤ A ∧ A < X 4) (ho : 0 ≤ on ∧ on ≤ 1) : bE L xs d MX5_closed (0, [(0, bR 1), (1, bI A), (2, bI on)], [], WD X F M G O, a, b) (rI (WD X (un F 1 (up (F 1) A on)) M G O) (nO F A (X 6)) a b) := by
  have hX := hI.1
  refine go [] [] rfl (by omega) (bc rfl (by omega) (t_rA A (by omega) h) (fun h => by cases h) ?_)
  have hJ : SB X (un F 1 (up (F 1) A on)) := SB_shut hI (fun j => by unfold up; split; exact ho; exact hI.2.2.1 j)
  refine go [] [] rfl (by omega) (bc rfl (by omega) (t_openIn hJ A) (fun h => by cases h) ?_)
  exact rti rfl rfl rfl
theorem t_step1 (i : Int) (hd : 7 ≤ d) (h : ¬ (0 ≤ i ∧ i < X 3)) : bE L xs d MX5_step (0, [(0, bR 1), (1, bI i)], [], WD X F M G O, a, b) (rT (WD X F M G O) 4 (a + 1) (b + 6)) := by
  by_cases h1 : i < 0
  · exact go [] [0] rfl (by omega) (thr rfl rfl hd rfl rfl)
  · exact go [] [1, 1] rfl (by omega) (thr rfl rfl hd rfl rfl)
theorem t_step2 (hr : SR X F) (i : Int) (h : 0 ≤ i ∧ i < X 3) : bE L xs d MX5_step (0, [(0, bR 1), (1, bI i)], [], WD X F M G O, a, b) (rI (WD X F M G O) (F 0 i) a b) := by
  have := hr.1
  exact go [] [1, 0] rfl (by omega) (rti rfl rfl rfl)
theorem t_go1 (hd : 7 ≤ d) (h : X 3 = 0) : bE L xs d MX5_go (0, [(0, bR 1)], [], WD X F M G O, a, b) (rT (WD X F M G O) 3 (a + 1) (b + 6)) :=
  go [] [1] rfl (by omega) (thr rfl rfl hd rfl rfl)
theorem t_go2 (hI : SB X F) (hr : SR X F) (hd : 7 ≤ d) (h : X 3 ≠ 0) (h2 : F 1 (F 2 (F 0 0)) ≠ 0) : bE L xs d MX5_go (0, [(0, bR 1)], [], WD X F M G O, a, b) (rT (WD X F M G O) 3 (a + 1) (b + 6)) := by
  have hX := hI.1
  have h3 := hr.1
  have hq := hr.2.1 0 (by omega) (by omega)
  have hp := hI.2.1 (F 0 0) hq.1 hq.2.1
  exact go [] [0, 1] rfl (by omega) (thr rfl rfl hd rfl rfl)
theorem t_go3 (hI : SB X F) (hr : SR X F) (hd : 7 ≤ d) (hm : 0 ≤ X 1 ∧ X 1 ≤ 1000000) (h : X 3 ≠ 0) (h2 : F 1 (F 2 (F 0 0)) = 0) : bE L xs d MX5_go (0, [(0, bR 1)], [], WD X F M G O, a, b)
      (fun r => ∃ row : Int → Int, r = (WD (un (un (un X 1 (X 1 + F 7 (X 0 * 11 + F 0 0))) 0 (F 0 0)) 3 (X 3 - 1)) (un (un F 6 (up (F 6) (F 0 0) 1)) 0 row) M G O, .inl (some (bI (F 0 0))), a, b) ∧ ∀ j, 0 ≤ j → j < X 3 - 1 → row j = dr (F 0) 0 j) := by
  have hX := hI.1
  have h3 := hr.1
  have hq := hr.2.1 0 (by omega) (by omega)
  have hp := hI.2.1 (F 0 0) hq.1 hq.2.1
  have hw := SB_way hI (SB_here hI) (pnt_s hq.1 hq.2.1)
  refine go [] [0, 0] rfl (by omega) (bc rfl (by omega) (t_way _ _ (by omega)) (fun h => by cases h) ?_)
  have hdr := t_drop (L := L) (xs := xs) (X := un (un X 1 (X 1 + F 7 (X 0 * 11 + F 0 0))) 0 (F 0 0)) (F := un F 6 (up (F 6) (F 0 0) 1)) (M := M) (G := G) (O := O) (d := d - 1) (a := a) (b := b) (F 0 0) 0 h3 ⟨by omega, h3.1⟩ (fun i i0 i1 => ⟨fun e => by
    by_cases hi : i = 0
    · exact hi
    · exact absurd e.symm (hr.2.2 0 i (by omega) (by omega) i1), fun e => by rw [e]; rfl⟩)
  refine go [] [] rfl (by omega) (bcall rfl (by omega) hdr ?_)
  rintro r ⟨row, rfl, hrow⟩
  refine ⟨_, _, _, _, rfl, (fun h => by cases h), ?_⟩
  have e : (if (0 : Int) < un (un X 1 (X 1 + F 7 (X 0 * 11 + F 0 0))) 0 (F 0 0) 3 then un (un X 1 (X 1 + F 7 (X 0 * 11 + F 0 0))) 0 (F 0 0) 3 - 1 else un (un X 1 (X 1 + F 7 (X 0 * 11 + F 0 0))) 0 (F 0 0) 3) = X 3 - 1 := if_pos (show 0 < X 3 by omega)
  rw [e] at hrow ⊢
  exact go [] [] rfl (by omega) (rti rfl rfl ⟨row, rfl, hrow⟩)
end T4
end
section
/-! The class's calls, the rest but for walk -/
section T5
variable {L : Nat} {xs : Nat → Int32} {X M : Nat → Int} {F G : Nat → Int → Int} {O : Int → Int} {d a b : Nat} {Q : BR → Prop}
theorem t_missing1 (s : Int) (hd : 8 ≤ d) (h : ¬ (0 ≤ s ∧ s < X 6)) : bE L xs d MX5_missing (0, [(0, bR 1), (1, bI s)], [], WD X F M G O, a, b) (rT (WD X F M G O) 0 (a + 1) (b + 6)) :=
  go [] [] rfl (by omega) (bcX rfl (by omega) rfl (t_rS' s (by omega) h) rfl)
theorem t_missing2 (hI : SB X F) (s : Int) (hd : 8 ≤ d) (h : 0 ≤ s ∧ s < X 6) (h2 : F 6 s ≠ 0) : bE L xs d MX5_missing (0, [(0, bR 1), (1, bI s)], [], WD X F M G O, a, b) (rT (WD X F M G O) 3 (a + 1) (b + 6)) := by
  have hX := hI.1
  refine go [] [] rfl (by omega) (bc rfl (by omega) (t_rS s (by omega) h) (fun h => by cases h) ?_)
  exact go [] [1] rfl (by omega) (thr rfl rfl (by omega) rfl rfl)
theorem SB_state (hI : SB X F) {s v : Int} (hv : 0 ≤ v ∧ v ≤ 2) : SB X (un F 6 (up (F 6) s v)) := by
  refine ⟨hI.1, fun j h0 h1 => ?_, hI.2.2⟩
  obtain ⟨q1, q2, q3, q4, q5, q6, q7, q8, q9⟩ := hI.2.1 j h0 h1
  refine ⟨q1, q2, q3, q4, q5, q6, q7, ?_⟩
  show 0 ≤ up (F 6) s v j ∧ up (F 6) s v j ≤ 2
  unfold up
  split
  · exact hv
  · exact ⟨q8, q9⟩
theorem SB_row (hI : SB X F) {n : Int} {row : Int → Int} : SB (un X 3 n) (un F 0 row) := hI
/-- the route without its place k -/
theorem SR_drop {X : Nat → Int} {F : Nat → Int → Int} (hr : SR X F) {k : Int} (hk : 0 ≤ k ∧ k ≤ X 3) {n : Int} (hn : n = if k < X 3 then X 3 - 1 else X 3) {row : Int → Int} (hrow : ∀ j, 0 ≤ j → j < n → row j = dr (F 0) k j)
    {X' : Nat → Int} {F' : Nat → Int → Int} (e3 : X' 3 = n) (e6 : X' 6 = X 6) (f0 : F' 0 = row) (f5 : F' 5 = F 5) : SR X' F' := by
  obtain ⟨q1, q2, q3⟩ := hr
  have hn2 : n ≤ X 3 ∧ 0 ≤ n ∧ (k < n → n = X 3 - 1) ∧ (n = X 3 → k = X 3) := by
    rw [hn]; split <;> omega
  refine ⟨by rw [e3]; omega, ?_, ?_⟩
  · rw [e3, e6, f0, f5]
    intro i h0 h1
    rw [hrow i h0 h1]
    unfold dr
    split
    · exact q2 i h0 (by omega)
    · exact q2 (i + 1) (by omega) (by omega)
  · rw [e3, f0]
    intro i j h0 h1 h2
    rw [hrow i h0 (by omega), hrow j (by omega) h2]
    unfold dr
    split
    · split
      · exact q3 i j h0 h1 (by omega)
      · exact q3 i (j + 1) h0 (by omega) (by omega)
    · split
      · omega
      · exact q3 (i + 1) (j + 1) (by omega) (by omega) (by omega)
theorem t_missing3 (hI : SB X F) (hr : SR X F) (s k : Int) (hd : 8 ≤ d) (h : 0 ≤ s ∧ s < X 6) (h2 : F 6 s = 0) (hk : 0 ≤ k ∧ k ≤ X 3) (hx : ∀ i, 0 ≤ i → i < X 3 → (F 0 i = s ↔ i = k)) : bE L xs d MX5_missing (0, [(0, bR 1), (1, bI s)], [], WD X F M G O, a, b)
      (fun r => ∃ row : Int → Int, r = (WD (un X 3 (if k < X 3 then X 3 - 1 else X 3)) (un (un F 6 (up (F 6) s 2)) 0 row) M G O, .inl (some (bI (rl (un X 3 (if k < X 3 then X 3 - 1 else X 3)) (un (un F 6 (up (F 6) s 2)) 0 row)))), a, b) ∧ ∀ j, 0 ≤ j → j < (if k < X 3 then X 3 - 1 else X 3) → row j = dr (F 0) k j) := by
  have hX := hI.1
  refine go [] [] rfl (by omega) (bc rfl (by omega) (t_rS s (by omega) h) (fun h => by cases h) ?_)
  refine go [] [0] rfl (by omega) (bcall rfl (by omega) (t_drop (X := X) (F := un F 6 (up (F 6) s 2)) s k hr.1 hk hx) ?_)
  rintro r ⟨row, rfl, hrow⟩
  refine ⟨_, _, _, _, rfl, (fun h => by cases h), ?_⟩
  refine go [] [] rfl (by omega) (bc rfl (by omega) (t_routeLength (SB_row (SB_state hI (s := s) (v := 2) (by omega))) (SR_drop hr hk rfl hrow rfl rfl rfl rfl) (by omega)) (fun h => by cases h) ?_)
  exact rti rfl rfl ⟨row, rfl, hrow⟩
theorem t_left (hI : SB X F) (hr : SR X F) (hd : 3 ≤ d) : bE L xs d MX5_left (0, [(0, bR 1)], [], WD X F M G O, a, b) (rI (WD X F M G O) (rl X F) a b) :=
  go [] [] rfl (by omega) (bc rfl (by omega) (t_routeLength hI hr (by omega)) (fun h => by cases h) (rti rfl rfl rfl))
theorem t_bound (hI : SB X F) (hd : 2 ≤ d) : bE L xs d MX5_bound (0, [(0, bR 1)], [], WD X F M G O, a, b) (rI (WD X F M G O) (bndN X F (X 6)) a b) := by
  have hX := hI.1
  refine go [4] [] rfl (by omega) (for_up (P := fun s => bE L xs d MX5_bound (4, [(0, bR 1), (1, bI (bndN X F s)), (2, bI s)], [], WD X F M G O, a, b) (rI (WD X F M G O) (bndN X F (X 6)) a b)) (X 6) ?_ ?_ 0 (by omega) (by omega))
  · exact go [] [0] rfl (by omega) (rti rfl rfl rfl)
  · intro s h0 h1 ih
    have e : bndN X F (s + 1) = if wk F s = 1 then max (bndN X F s) (F 7 (X 0 * 11 + s) + F 7 (s * 11 + 10)) else bndN X F s := itr_s _ _ h0
    have w1 := SB_way hI (SB_here hI) (pnt_s h0 h1)
    have w2 := SB_way hI (pnt_s h0 h1) pnt_d
    refine go [] [1] rfl (by omega) (bc rfl hd (t_isWalked hI s h0 h1) (fun h => by cases h) ?_)
    rcases wk_01 F s with hw | hw
    · rw [e, if_neg (by omega)] at ih
      rw [hw]
      exact go [4] [0] rfl (by omega) ih
    · rw [e, if_pos hw] at ih
      rw [hw]
      refine go [] [1] rfl (by omega) (bc rfl hd (t_way _ _ (by omega)) (fun h => by cases h) ?_)
      refine go [] [] rfl (by omega) (bc rfl hd (t_way _ _ (by omega)) (fun h => by cases h) ?_)
      exact go [4] [] rfl (by omega) ih
theorem t_cart1 (c : Int) (hd : 7 ≤ d) (h : ¬ (1 ≤ c ∧ c ≤ 1000)) : bE L xs d MX5_cart (0, [(0, bR 1), (1, bI c)], [], WD X F M G O, a, b) (rT (WD X F M G O) 1 (a + 1) (b + 6)) := by
  by_cases h1 : c < 1
  · exact go [] [0] rfl (by omega) (thr rfl rfl hd rfl rfl)
  · exact go [] [1, 1] rfl (by omega) (thr rfl rfl hd rfl rfl)
theorem t_cart2 (c : Int) (h : 1 ≤ c ∧ c ≤ 1000) : bE L xs d MX5_cart (0, [(0, bR 1), (1, bI c)], [], WD X F M G O, a, b) (rV (WD (un X 2 c) F M G O) a b) :=
  go [] [1, 0] rfl (by omega) (rtv rfl rfl rfl)
theorem t_full (hI : SB X F) (hr : SR X F) (hd : 2 ≤ d) : bE L xs d MX5_full (0, [(0, bR 1)], [], WD X F M G O, a, b) (rI (WD X F M G O) (fu X F) a b) := by
  have hX := hI.1
  have hR := hr.1
  have key := for_up (P := fun i => ∀ t1 t2 : Int, bE L xs d MX5_full (12, [(0, bR 1), (1, bI (fuN X F i).1), (2, bI (fuN X F i).2.1), (3, bI (fuN X F i).2.2), (4, bI i), (5, bI t1), (6, bI t2)], [], WD X F M G O, a, b) (rI (WD X F M G O) (fu X F) a b)) (X 3) ?_ ?_
  · by_cases h3 : X 3 = 0
    · refine go [12] [] rfl (by omega) ?_
      have p1 := SB_way hI (SB_here hI) pnt_d
      refine go [] [0] rfl (by omega) (bc rfl hd (t_way _ 10 (by omega)) (fun h => by cases h) ?_)
      refine go [] [] rfl (by omega) (rti rfl rfl ?_)
      unfold fu
      rw [h3]
      rfl
    · have hq := hr.2.1 0 (by omega) (by omega)
      have hp := hI.2.1 (F 0 0) hq.1 hq.2.1
      have k1 := key 1 (by omega) (by omega) (F 0 0) (F 5 (F 0 0))
      have e : fuN X F 1 = (0 + F 7 (X 0 * 11 + F 0 0), 0 + F 5 (F 0 0), F 0 0) := by
        have : fuN X F (0 + 1) = _ := itr_s _ _ (by omega)
        rw [show (1 : Int) = 0 + 1 by omega, this]
        exact if_neg (fun h => absurd h.1 (by show ¬ (0 : Int) < 0; omega))
      rw [e] at k1
      have p1 := SB_way hI (SB_here hI) (pnt_s hq.1 hq.2.1)
      refine go [] [1, 0] rfl (by omega) (bc rfl hd (t_way _ _ (by omega)) (fun h => by cases h) ?_)
      exact go [12] [] rfl (by omega) k1
  · intro t1 t2
    obtain ⟨z1, z2, z3, z4, z5, z6⟩ := fuN_b hI hr (X 3) (by omega) (by omega)
    have p1 := SB_way hI z5 pnt_d
    have p4 := SB_pt hI z5
    refine go [] [0] rfl (by omega) (bc rfl hd (t_way _ 10 (by omega)) (fun h => by cases h) ?_)
    exact go [] [] rfl (by omega) (rti rfl rfl rfl)
  · intro i h0 h1 ih t1 t2
    obtain ⟨z1, z2, z3, z4, z5, z6⟩ := fuN_b hI hr i (by omega) (by omega)
    have hq := hr.2.1 i h0 h1
    have hp := hI.2.1 (F 0 i) hq.1 hq.2.1
    have w1 := SB_way hI z5 (pnt_s hq.1 hq.2.1)
    have w2 := SB_way hI z5 pnt_d
    have w3 := SB_way hI pnt_d (pnt_s hq.1 hq.2.1)
    have p4 := SB_pt hI z5
    have e : fuN X F (i + 1) = if 0 < (fuN X F i).2.1 ∧ X 2 < (fuN X F i).2.1 + F 5 (F 0 i) then ((fuN X F i).1 + F 7 ((fuN X F i).2.2 * 11 + 10) + F 7 (10 * 11 + F 0 i), 0 + F 5 (F 0 i), F 0 i) else ((fuN X F i).1 + F 7 ((fuN X F i).2.2 * 11 + F 0 i), (fuN X F i).2.1 + F 5 (F 0 i), F 0 i) := itr_s _ _ h0
    by_cases c1 : 0 < (fuN X F i).2.1
    · by_cases c2 : X 2 < (fuN X F i).2.1 + F 5 (F 0 i)
      · rw [e, if_pos ⟨c1, c2⟩] at ih
        refine go [] [1, 1, 1] rfl (by omega) (bc rfl hd (t_way _ _ (by omega)) (fun h => by cases h) ?_)
        refine go [] [] rfl (by omega) (bc rfl hd (t_way _ _ (by omega)) (fun h => by cases h) ?_)
        exact go [12] [] rfl (by omega) (ih _ _)
      · rw [e, if_neg (fun h => c2 h.2)] at ih
        refine go [] [1, 1, 0] rfl (by omega) (bc rfl hd (t_way _ _ (by omega)) (fun h => by cases h) ?_)
        exact go [12] [] rfl (by omega) (ih _ _)
    · rw [e, if_neg (fun h => c1 h.1)] at ih
      refine go [] [1, 0] rfl (by omega) (bc rfl hd (t_way _ _ (by omega)) (fun h => by cases h) ?_)
      exact go [12] [] rfl (by omega) (ih _ _)
theorem t_share1 (s : Int) (hd : 8 ≤ d) (h : ¬ (0 ≤ s ∧ s < X 6)) : bE L xs d MX5_share (0, [(0, bR 1), (1, bI s)], [], WD X F M G O, a, b) (rT (WD X F M G O) 0 (a + 1) (b + 6)) :=
  go [] [] rfl (by omega) (bcX rfl (by omega) rfl (t_rS' s (by omega) h) rfl)
theorem t_share2 (s : Int) (hd : 8 ≤ d) (h : 0 ≤ s ∧ s < X 6) (h2 : X 1 = 0) : bE L xs d MX5_share (0, [(0, bR 1), (1, bI s)], [], WD X F M G O, a, b) (rT (WD X F M G O) 5 (a + 1) (b + 6)) := by
  refine go [] [] rfl (by omega) (bc rfl (by omega) (t_rS s (by omega) h) (fun h => by cases h) ?_)
  exact go [] [1] rfl (by omega) (thr rfl rfl (by omega) rfl rfl)
theorem t_share3 (hI : SB X F) (s : Int) (hd : 8 ≤ d) (h : 0 ≤ s ∧ s < X 6) (h2 : 0 < X 1) : bE L xs d MX5_share (0, [(0, bR 1), (1, bI s)], [], WD X F M G O, a, b) (rI (WD X F M G O) (100 * F 7 (X 0 * 11 + s) / X 1) a b) := by
  have hX := hI.1
  have w1 := SB_way hI (SB_here hI) (pnt_s h.1 h.2)
  refine go [] [] rfl (by omega) (bc rfl (by omega) (t_rS s (by omega) h) (fun h => by cases h) ?_)
  refine go [] [0] rfl (by omega) (bc rfl (by omega) (t_way _ _ (by omega)) (fun h => by cases h) ?_)
  exact go [] [] rfl (by omega) (rti rfl rfl rfl)
theorem t_far1 (s o : Int) (hd : 8 ≤ d) (h : ¬ (0 ≤ s ∧ s < X 6)) : bE L xs d MX5_far (0, [(0, bR 1), (1, bI s), (2, bI o)], [], WD X F M G O, a, b) (rT (WD X F M G O) 0 (a + 1) (b + 6)) :=
  go [] [] rfl (by omega) (bcX rfl (by omega) rfl (t_rS' s (by omega) h) rfl)
theorem t_far2 (s o : Int) (hd : 8 ≤ d) (h : 0 ≤ s ∧ s < X 6) (h2 : ¬ (0 ≤ o ∧ o < X 6)) : bE L xs d MX5_far (0, [(0, bR 1), (1, bI s), (2, bI o)], [], WD X F M G O, a, b) (rT (WD X F M G O) 0 (a + 1) (b + 6)) := by
  refine go [] [] rfl (by omega) (bc rfl (by omega) (t_rS s (by omega) h) (fun h => by cases h) ?_)
  exact go [] [] rfl (by omega) (bcX rfl (by omega) rfl (t_rS' o (by omega) h2) rfl)
theorem t_far3 (hI : SB X F) (s o : Int) (hd : 8 ≤ d) (h : 0 ≤ s ∧ s < X 6) (h2 : 0 ≤ o ∧ o < X 6) : bE L xs d MX5_far (0, [(0, bR 1), (1, bI s), (2, bI o)], [], WD X F M G O, a, b) (rI (WD X F M G O) (F 7 (s * 11 + o)) a b) := by
  have hX := hI.1
  refine go [] [] rfl (by omega) (bc rfl (by omega) (t_rS s (by omega) h) (fun h => by cases h) ?_)
  refine go [] [] rfl (by omega) (bc rfl (by omega) (t_rS o (by omega) h2) (fun h => by cases h) ?_)
  exact go [] [] rfl (by omega) (bc rfl (by omega) (t_way _ _ (by omega)) (fun h => by cases h) (rti rfl rfl rfl))
theorem t_told1 (s q : Int) (hd : 8 ≤ d) (h : ¬ (0 ≤ s ∧ s < X 6)) : bE L xs d MX5_told (0, [(0, bR 1), (1, bI s), (2, bI q)], [], WD X F M G O, a, b) (rT (WD X F M G O) 0 (a + 1) (b + 6)) :=
  go [] [] rfl (by omega) (bcX rfl (by omega) rfl (t_rS' s (by omega) h) rfl)
theorem t_told2 (s q : Int) (hd : 8 ≤ d) (h : 0 ≤ s ∧ s < X 6) (h2 : ¬ (0 ≤ q ∧ q ≤ 4)) : bE L xs d MX5_told (0, [(0, bR 1), (1, bI s), (2, bI q)], [], WD X F M G O, a, b) (rT (WD X F M G O) 1 (a + 1) (b + 6)) := by
  refine go [] [] rfl (by omega) (bc rfl (by omega) (t_rS s (by omega) h) (fun h => by cases h) ?_)
  exact go [] [0] rfl (by omega) (thr rfl rfl (by omega) rfl rfl)
def told (F : Nat → Int → Int) (s q : Int) : Int := if q = 0 then F 2 s else if q = 1 then F 3 s else if q = 2 then F 5 s else if q = 3 then F 6 s else wk F s
theorem t_told3 (hI : SB X F) (s q : Int) (hd : 8 ≤ d) (h : 0 ≤ s ∧ s < X 6) (h2 : 0 ≤ q ∧ q ≤ 4) : bE L xs d MX5_told (0, [(0, bR 1), (1, bI s), (2, bI q)], [], WD X F M G O, a, b) (rI (WD X F M G O) (told F s q) a b) := by
  have hX := hI.1
  refine go [] [] rfl (by omega) (bc rfl (by omega) (t_rS s (by omega) h) (fun h => by cases h) ?_)
  have hq : q = 0 ∨ q = 1 ∨ q = 2 ∨ q = 3 ∨ q = 4 := by omega
  rcases hq with rfl | rfl | rfl | rfl | rfl
  · exact go [] [1] rfl (by omega) (rti rfl rfl rfl)
  · exact go [] [2] rfl (by omega) (rti rfl rfl rfl)
  · exact go [] [3] rfl (by omega) (rti rfl rfl rfl)
  · exact go [] [4] rfl (by omega) (rti rfl rfl rfl)
  · refine go [] [5] rfl (by omega) (bc rfl (by omega) (t_isWalked hI s h.1 h.2) (fun h => by cases h) ?_)
    have e : told F s 4 = wk F s := rfl
    rw [e]
    rcases wk_01 F s with hw | hw
    · rw [hw]; exact go [] [0] rfl (by omega) (rti rfl rfl rfl)
    · rw [hw]; exact go [] [1] rfl (by omega) (rti rfl rfl rfl)
def countOf (X : Nat → Int) (F : Nat → Int → Int) (q : Int) : Int :=
  if q = 0 then X 6 else if q = 1 then nW F (X 6) else if q = 2 then X 3 else if q = 3 then X 4 else if q = 4 then X 5 else if q = 5 then X 1 else if q = 6 then nD F (X 6) else if q = 7 then (if X 0 = 10 then -1 else X 0) else -1
theorem t_count (hI : SB X F) (q : Int) (hd : 8 ≤ d) : bE L xs d MX5_count (0, [(0, bR 1), (1, bI q)], [], WD X F M G O, a, b) (rI (WD X F M G O) (countOf X F q) a b) := by
  by_cases h : 0 ≤ q ∧ q ≤ 7
  · have hq : q = 0 ∨ q = 1 ∨ q = 2 ∨ q = 3 ∨ q = 4 ∨ q = 5 ∨ q = 6 ∨ q = 7 := by omega
    rcases hq with rfl | rfl | rfl | rfl | rfl | rfl | rfl | rfl
    · exact go [] [1] rfl (by omega) (rti rfl rfl rfl)
    · exact go [] [2] rfl (by omega) (bc rfl (by omega) (t_walkedOnes hI (by omega)) (fun h => by cases h) (rti rfl rfl rfl))
    · exact go [] [3] rfl (by omega) (rti rfl rfl rfl)
    · exact go [] [4] rfl (by omega) (rti rfl rfl rfl)
    · exact go [] [5] rfl (by omega) (rti rfl rfl rfl)
    · exact go [] [6] rfl (by omega) (rti rfl rfl rfl)
    · exact go [] [7] rfl (by omega) (bc rfl (by omega) (t_doneOnes hI) (fun h => by cases h) (rti rfl rfl rfl))
    · have e : countOf X F 7 = if X 0 = 10 then -1 else X 0 := rfl
      rw [e]
      by_cases h0 : X 0 = 10
      · rw [if_pos h0]; exact go [] [8, 1] rfl (by omega) (rti rfl rfl rfl)
      · rw [if_neg h0]; exact go [] [8, 0] rfl (by omega) (rti rfl rfl rfl)
  · have e : countOf X F q = -1 := by
      unfold countOf
      simp only [show ¬ q = 0 by omega, show ¬ q = 1 by omega, show ¬ q = 2 by omega, show ¬ q = 3 by omega, show ¬ q = 4 by omega, show ¬ q = 5 by omega, show ¬ q = 6 by omega, show ¬ q = 7 by omega, if_false]
    rw [e]
    exact go [] [0] rfl (by omega) (rti rfl rfl rfl)
end T5
end
section
/-! The reference's small methods, over the class's picture -/
/-- a point's number in the reference -/
def mp (p : Int) : Int := if p = 10 then -1 else p
/-- the reference's cells hold what the class's hold, but for the route -/
def RB (X : Nat → Int) (F : Nat → Int → Int) (M : Nat → Int) (G : Nat → Int → Int) : Prop :=
  (M 1 = X 4 ∧ M 2 = X 5 ∧ M 3 = X 2 ∧ M 4 = X 1 ∧ M 5 = mp (X 0) ∧ M 6 = X 6) ∧ (∀ j, 0 ≤ j → j < 8 → G 0 j = F 1 j) ∧
  (∀ j, 0 ≤ j → j < X 6 → G 1 j = F 2 j ∧ G 2 j = F 3 j ∧ G 3 j = F 5 j ∧ G 4 j = F 6 j) ∧ (∀ j, X 6 ≤ j → j < 10 → G 4 j = 0)
def RR (X : Nat → Int) (F : Nat → Int → Int) (M : Nat → Int) (G : Nat → Int → Int) : Prop := M 7 = X 3 ∧ ∀ i, 0 ≤ i → i < X 3 → G 5 i = F 0 i
section N1
variable {L : Nat} {xs : Nat → Int32} {X M : Nat → Int} {F G : Nat → Int → Int} {Y : Nat → Int} {E : Nat → Int → Int} {O : Int → Int} {d a b : Nat} {Q : BR → Prop}
theorem m_in (v l h : Int) : bE L xs d MX6_in (0, [(0, bI v), (1, bI l), (2, bI h)], [], WD Y E M G O, a, b) (rI (WD Y E M G O) (if l ≤ v ∧ v ≤ h then 1 else 0) a b) := by
  by_cases h1 : v < l
  · rw [if_neg (by omega)]
    exact go [] [0] rfl (by omega) (rtb rfl rfl (Or.inl rfl) rfl)
  · by_cases h2 : h < v
    · rw [if_neg (by omega)]
      exact go [] [1, 0] rfl (by omega) (rtb rfl rfl (Or.inl rfl) rfl)
    · rw [if_pos (by omega)]
      exact go [] [1, 1] rfl (by omega) (rtb rfl rfl (Or.inr rfl) rfl)
theorem m_isStop (hI : SB X F) (hm : RB X F M G) (hd : 2 ≤ d) (s : Int) : bE L xs d MX6_isStop (0, [(0, bR 19), (1, bI s)], [], WD Y E M G O, a, b) (rI (WD Y E M G O) (if 0 ≤ s ∧ s < X 6 then 1 else 0) a b) := by
  have hX := hI.1
  have h6 := hm.1
  refine go [] [] rfl (by omega) (bc rfl hd (m_in _ _ _) (fun h => by cases h) ?_)
  by_cases h : 0 ≤ s ∧ s < X 6
  · rw [if_pos h, if_pos (by omega)]
    exact rtb rfl rfl (Or.inr rfl) rfl
  · rw [if_neg h, if_neg (by omega)]
    exact rtb rfl rfl (Or.inl rfl) rfl
theorem m_isAisle (hI : SB X F) (hm : RB X F M G) (hd : 2 ≤ d) (s : Int) : bE L xs d MX6_isAisle (0, [(0, bR 19), (1, bI s)], [], WD Y E M G O, a, b) (rI (WD Y E M G O) (if 0 ≤ s ∧ s < X 4 then 1 else 0) a b) := by
  have hX := hI.1
  have h6 := hm.1
  refine go [] [] rfl (by omega) (bc rfl hd (m_in _ _ _) (fun h => by cases h) ?_)
  by_cases h : 0 ≤ s ∧ s < X 4
  · rw [if_pos h, if_pos (by omega)]
    exact rtb rfl rfl (Or.inr rfl) rfl
  · rw [if_neg h, if_neg (by omega)]
    exact rtb rfl rfl (Or.inl rfl) rfl
theorem m_isWalked (hI : SB X F) (hm : RB X F M G) (s : Int) (h0 : 0 ≤ s) (h1 : s < X 6) : bE L xs d MX6_isWalked (0, [(0, bR 19), (1, bI s)], [], WD Y E M G O, a, b) (rI (WD Y E M G O) (wk F s) a b) := by
  have hs := hI.2.1 s h0 h1
  have hX := hI.1
  obtain ⟨g1, g2, g3, g4⟩ := hm.2.2.1 s h0 h1
  have g5 := hm.2.1 (F 2 s) (by omega) (by omega)
  rw [← g1] at g5
  rw [← g1] at hs
  unfold wk
  rw [← g1, ← g3, ← g4, ← g5]
  by_cases c1 : G 4 s = 0
  · by_cases c2 : 0 < G 3 s
    · by_cases c3 : G 0 (G 1 s) = 0
      · rw [if_pos ⟨c1, c2, c3⟩]
        exact go [] [1, 1, 1] rfl (by omega) (rtb rfl rfl (Or.inr rfl) rfl)
      · rw [if_neg (fun h => c3 h.2.2)]
        exact go [] [1, 1, 0] rfl (by omega) (rtb rfl rfl (Or.inl rfl) rfl)
    · rw [if_neg (fun h => c2 h.2.1)]
      exact go [] [1, 0] rfl (by omega) (rtb rfl rfl (Or.inl rfl) rfl)
  · rw [if_neg (fun h => c1 h.1)]
    exact go [] [0] rfl (by omega) (rtb rfl rfl (Or.inl rfl) rfl)
theorem m_walked (hI : SB X F) (hm : RB X F M G) (hd : 2 ≤ d) : bE L xs d MX6_walked (0, [(0, bR 19)], [], WD Y E M G O, a, b) (rI (WD Y E M G O) (nW F (X 6)) a b) := by
  have hX := hI.1
  have h6 := hm.1
  refine go [4] [] rfl (by omega) (for_up (P := fun s => bE L xs d MX6_walked (4, [(0, bR 19), (1, bI (nW F s)), (2, bI s)], [], WD Y E M G O, a, b) (rI (WD Y E M G O) (nW F (X 6)) a b)) (X 6) ?_ ?_ 0 (by omega) (by omega))
  · exact go [] [0] rfl (by omega) (rti rfl rfl rfl)
  · intro s h0 h1 ih
    have e : nW F (s + 1) = nW F s + wk F s := itr_s _ _ h0
    have hb := nW_b F s h0
    refine go [] [1] rfl (by omega) (bc rfl hd (m_isWalked hI hm s h0 h1) (fun h => by cases h) ?_)
    rcases wk_01 F s with hw | hw
    · rw [e, hw] at ih
      rw [hw]
      exact go [4] [0] rfl (by omega) ih
    · rw [e, hw] at ih
      rw [hw]
      exact go [4] [1] rfl (by omega) ih
theorem m_apart (x y : Int) (hx : -1000 ≤ x ∧ x ≤ 1000) (hy : -1000 ≤ y ∧ y ≤ 1000) : bE L xs d MX6_apart (0, [(0, bI x), (1, bI y)], [], WD Y E M G O, a, b) (rI (WD Y E M G O) (max (x - y) (-(x - y))) a b) := by
  by_cases h : y < x
  · have e : max (x - y) (-(x - y)) = x - y := by omega
    rw [e]
    exact go [] [1] rfl (by omega) (rti rfl rfl rfl)
  · have e : max (x - y) (-(x - y)) = y - x := by omega
    rw [e]
    exact go [] [0] rfl (by omega) (rti rfl rfl rfl)
theorem m_aisleOf (hI : SB X F) (hm : RB X F M G) (p : Int) (hp : pnt X p) : bE L xs d MX6_aisleOf (0, [(0, bR 19), (1, bI (mp p))], [], WD Y E M G O, a, b) (rI (WD Y E M G O) (F 2 p) a b) := by
  have hX := hI.1
  obtain ⟨p0, p1⟩ := hp
  unfold mp
  by_cases h : p = 10
  · subst h
    rw [if_pos rfl, hI.2.2.2.1.1]
    exact go [] [1] rfl (by omega) (rti rfl rfl rfl)
  · rw [if_neg h]
    obtain ⟨g1, g2, g3, g4⟩ := hm.2.2.1 p p0 (by omega)
    rw [← g1]
    exact go [] [0] rfl (by omega) (rti rfl rfl rfl)
theorem m_depthOf (hI : SB X F) (hm : RB X F M G) (p : Int) (hp : pnt X p) : bE L xs d MX6_depthOf (0, [(0, bR 19), (1, bI (mp p))], [], WD Y E M G O, a, b) (rI (WD Y E M G O) (F 4 p) a b) := by
  have hX := hI.1
  obtain ⟨p0, p1⟩ := hp
  unfold mp
  by_cases h : p = 10
  · subst h
    rw [if_pos rfl, hI.2.2.2.1.2]
    exact go [] [1] rfl (by omega) (rti rfl rfl rfl)
  · rw [if_neg h]
    obtain ⟨g1, g2, g3, g4⟩ := hm.2.2.1 p p0 (by omega)
    have hs := hI.2.1 p p0 (by omega)
    rw [hs.2.2.2.2.1, ← g2]
    exact go [] [0] rfl (by omega) (rti rfl rfl rfl)
theorem mp_b {p : Int} (hp : pnt X p) (h6 : X 6 ≤ 10) : -1 ≤ mp p ∧ mp p ≤ 9 := by
  obtain ⟨p0, p1⟩ := hp
  unfold mp
  split <;> omega
theorem m_way (hI : SB X F) (hm : RB X F M G) (p q : Int) (hp : pnt X p) (hq : pnt X q) (hd : 2 ≤ d) : bE L xs d MX6_way (0, [(0, bR 19), (1, bI (mp p)), (2, bI (mp q))], [], WD Y E M G O, a, b) (rI (WD Y E M G O) (F 7 (p * 11 + q)) a b) := by
  have hX := hI.1
  have h6 := hm.1
  have bp := SB_pt hI hp
  have bq := SB_pt hI hq
  rw [hI.2.2.2.2.1 p q hp hq]
  have A1 := fun (d : Nat) => m_aisleOf (L := L) (xs := xs) (Y := Y) (E := E) (O := O) (d := d) (a := a) (b := b) hI hm p hp
  have A2 := fun (d : Nat) => m_aisleOf (L := L) (xs := xs) (Y := Y) (E := E) (O := O) (d := d) (a := a) (b := b) hI hm q hq
  have D1 := fun (d : Nat) => m_depthOf (L := L) (xs := xs) (Y := Y) (E := E) (O := O) (d := d) (a := a) (b := b) hI hm p hp
  have D2 := fun (d : Nat) => m_depthOf (L := L) (xs := xs) (Y := Y) (E := E) (O := O) (d := d) (a := a) (b := b) hI hm q hq
  refine go [] [] rfl (by omega) (bc rfl hd (A1 _) (fun h => by cases h) ?_)
  refine go [] [] rfl (by omega) (bc rfl hd (A2 _) (fun h => by cases h) ?_)
  unfold wy
  by_cases h : F 2 p = F 2 q
  · rw [if_pos h]
    refine go [] [1] rfl (by omega) (bc rfl hd (D1 _) (fun h => by cases h) ?_)
    refine go [] [] rfl (by omega) (bc rfl hd (D2 _) (fun h => by cases h) ?_)
    refine bc rfl hd (m_apart (F 4 p) (F 4 q) (by omega) (by omega)) (fun h => by cases h) ?_
    exact rti rfl rfl rfl
  · rw [if_neg h]
    have key := for_up (P := fun c => ∀ ls : BL, (ls = [(0, bR 19), (1, bI (mp p)), (2, bI (mp q)), (3, bI (if c = 0 then 1000000 else crs (F 4 p) (F 4 q) c + 3 * max (F 2 p - F 2 q) (-(F 2 p - F 2 q)))), (4, bI c)] ∨ ∃ t, ls = [(0, bR 19), (1, bI (mp p)), (2, bI (mp q)), (3, bI (if c = 0 then 1000000 else crs (F 4 p) (F 4 q) c + 3 * max (F 2 p - F 2 q) (-(F 2 p - F 2 q)))), (4, bI c), (5, bI t)]) →
      bE L xs d MX6_way (33, ls, [], WD Y E M G O, a, b) (rI (WD Y E M G O) (crs (F 4 p) (F 4 q) (X 5 + 1) + 3 * max (F 2 p - F 2 q) (-(F 2 p - F 2 q))) a b)) (X 5 + 1) ?_ ?_ 0 (by omega) (by omega)
    · exact go [33] [0] rfl (by omega) (key _ (Or.inl rfl))
    · intro ls hls
      rw [if_neg (by omega)] at hls
      rcases hls with rfl | ⟨t, rfl⟩
      · exact go [] [0] rfl (by omega) (rti rfl rfl rfl)
      · exact go [] [0] rfl (by omega) (rti rfl rfl rfl)
    · intro c h0 h1 ih ls hls
      have hc := crs_b (x := F 4 p) (y := F 4 q) (by omega) (by omega) c h0 (by omega)
      have e : crs (F 4 p) (F 4 q) (c + 1) = min (crs (F 4 p) (F 4 q) c) (cd (F 4 p) (F 4 q) c) := itr_s _ _ h0
      have e0 : c = 0 → crs (F 4 p) (F 4 q) c = 1000000 := fun h => by rw [h]; rfl
      rw [if_neg (by omega), e] at ih
      obtain ⟨z, hz⟩ : ∃ z, z = (if c = 0 then 1000000 else crs (F 4 p) (F 4 q) c + 3 * max (F 2 p - F 2 q) (-(F 2 p - F 2 q))) := ⟨_, rfl⟩
      rw [← hz] at hls
      have hz2 : (c = 0 → z = 1000000) ∧ (c ≠ 0 → z = crs (F 4 p) (F 4 q) c + 3 * max (F 2 p - F 2 q) (-(F 2 p - F 2 q))) := ⟨fun h => by rw [hz, if_pos h], fun h => by rw [hz, if_neg h]⟩
      clear hz
      rcases hls with rfl | ⟨t, rfl⟩
      all_goals
        refine go [] [1] rfl (by omega) (bc rfl hd (D1 _) (fun h => by cases h) ?_)
        refine go [] [] rfl (by omega) (bc rfl hd (m_apart (F 4 p) (11 * c) (by omega) (by omega)) (fun h => by cases h) ?_)
        refine go [] [] rfl (by omega) (bc rfl hd (A1 _) (fun h => by cases h) ?_)
        refine go [] [] rfl (by omega) (bc rfl hd (A2 _) (fun h => by cases h) ?_)
        refine bc rfl hd (m_apart (F 2 p) (F 2 q) (by omega) (by omega)) (fun h => by cases h) ?_
        refine go [] [] rfl (by omega) (bc rfl hd (D2 _) (fun h => by cases h) ?_)
        refine bc rfl hd (m_apart (11 * c) (F 4 q) (by omega) (by omega)) (fun h => by cases h) ?_
        have ec : cd (F 4 p) (F 4 q) c = max (F 4 p - 11 * c) (-(F 4 p - 11 * c)) + max (F 4 q - 11 * c) (-(F 4 q - 11 * c)) := rfl
        by_cases hlt : max (F 4 p - 11 * c) (-(F 4 p - 11 * c)) + 3 * max (F 2 p - F 2 q) (-(F 2 p - F 2 q)) + max (11 * c - F 4 q) (-(11 * c - F 4 q)) < z
        · have e2 : min (crs (F 4 p) (F 4 q) c) (cd (F 4 p) (F 4 q) c) + 3 * max (F 2 p - F 2 q) (-(F 2 p - F 2 q)) = max (F 4 p - 11 * c) (-(F 4 p - 11 * c)) + 3 * max (F 2 p - F 2 q) (-(F 2 p - F 2 q)) + max (11 * c - F 4 q) (-(11 * c - F 4 q)) := by
            by_cases hc0 : c = 0
            · have := e0 hc0; omega
            · have := hz2.2 hc0; omega
          rw [e2] at ih
          exact go [33] [1] rfl (by omega) (ih _ (Or.inr ⟨_, rfl⟩))
        · have e2 : min (crs (F 4 p) (F 4 q) c) (cd (F 4 p) (F 4 q) c) + 3 * max (F 2 p - F 2 q) (-(F 2 p - F 2 q)) = z := by
            by_cases hc0 : c = 0
            · have := hz2.1 hc0; omega
            · have := hz2.2 hc0; omega
          rw [e2] at ih
          exact go [33] [0] rfl (by omega) (ih _ (Or.inr ⟨_, rfl⟩))
theorem mp_s {s : Int} (h : s < 10) : mp s = s := if_neg (by omega)
theorem mp_d : mp 10 = -1 := if_pos rfl
theorem m_length (hI : SB X F) (hr : SR X F) (hm : RB X F M G) (hmr : RR X F M G) (hd : 3 ≤ d) : bE L xs d MX6_length (0, [(0, bR 19)], [], WD Y E M G O, a, b) (rI (WD Y E M G O) (rl X F) a b) := by
  have hX := hI.1
  have hR := hr.1
  have h6 := hm.1
  have h7 := hmr.1
  have e0 : rat X F 0 = X 0 := rfl
  have key := for_up (P := fun i => bE L xs d MX6_length (9, [(0, bR 19), (1, bI (rlN X F i)), (2, bI (mp (rat X F i))), (3, bI i)], [], WD Y E M G O, a, b) (rI (WD Y E M G O) (rl X F) a b)) (X 3) ?_ ?_ 0 (by omega) (by omega)
  · rw [e0, ← h6.2.2.2.2.1] at key
    exact go [9] [] rfl (by omega) key
  · have p1 := SR_at hI hr hR.1 (Int.le_refl _)
    have p2 := SB_way hI p1 pnt_d
    have p3 := rlN_b hI hr (X 3) (by omega) (by omega)
    have w := m_way (L := L) (xs := xs) (Y := Y) (E := E) (O := O) (d := d - 1) (a := a) (b := b) hI hm _ 10 p1 pnt_d (by omega)
    rw [mp_d] at w
    refine go [] [0] rfl (by omega) (bc rfl (by omega) w (fun h => by cases h) ?_)
    exact go [] [] rfl (by omega) (rti rfl rfl rfl)
  · intro i h0 h1 ih
    have p1 := SR_at hI hr h0 (by omega)
    have hq := hr.2.1 i h0 h1
    have p2 := SB_way hI p1 (pnt_s hq.1 hq.2.1)
    have p3 := rlN_b hI hr i (by omega) (by omega)
    have g5 := hmr.2 i h0 h1
    have e : rlN X F (i + 1) = rlN X F i + F 7 (rat X F i * 11 + F 0 i) := itr_s _ _ h0
    have e2 : rat X F (i + 1) = F 0 i := by
      unfold rat
      rw [if_neg (by omega)]
      congr 1; omega
    have w := m_way (L := L) (xs := xs) (Y := Y) (E := E) (O := O) (d := d - 1) (a := a) (b := b) hI hm _ (F 0 i) p1 (pnt_s hq.1 hq.2.1) (by omega)
    rw [e, e2, mp_s (by omega), ← g5] at ih
    rw [mp_s (s := F 0 i) (by omega), ← g5] at w
    rw [← g5] at p2
    refine go [] [1] rfl (by omega) (bc rfl (by omega) w (fun h => by cases h) ?_)
    exact go [9] [] rfl (by omega) ih
end N1
end
section
/-! The reference's calls, but for walk -/
theorem for_down {P : Int → Prop} (hend : P (-1)) (hstep : ∀ i, 0 ≤ i → P (i - 1) → P i) : ∀ i, -1 ≤ i → P i := by
  intro i h
  obtain ⟨k, hk⟩ : ∃ k : Nat, i + 1 = k := ⟨(i + 1).toNat, by omega⟩
  induction k generalizing i with
  | zero => have : i = -1 := by omega
            subst this; exact hend
  | succ k ih => exact hstep i (by omega) (ih (i - 1) (by omega) (by omega))
section N2
variable {L : Nat} {xs : Nat → Int32} {X M : Nat → Int} {F G : Nat → Int → Int} {Y : Nat → Int} {E : Nat → Int → Int} {O : Int → Int} {d a b : Nat} {Q : BR → Prop}
theorem m_thrown : bE L xs d MX6_thrown (0, [(0, bR 19)], [], WD Y E M G O, a, b) (rI (WD Y E M G O) (M 0) a b) := go [] [] rfl (by omega) (rti rfl rfl rfl)
theorem RB_code (hm : RB X F M G) {c : Int} : RB X F (un M 0 c) G := hm
theorem m_stop1 (hI : SB X F) (hm : RB X F M G) (A P N : Int) (hd : 3 ≤ d) (h : ¬ (0 ≤ A ∧ A < X 4)) : bE L xs d MX6_stop (0, [(0, bR 19), (1, bI A), (2, bI P), (3, bI N)], [], WD Y E M G O, a, b) (rI (WD Y E (un M 0 1) G O) 0 a b) := by
  refine go [] [] rfl (by omega) (bc rfl (by omega) (m_isAisle hI hm (by omega) A) (fun h => by cases h) ?_)
  rw [if_neg h]
  refine go [] [1, 1] rfl ?_ (rti rfl rfl rfl)
  show (0 : Int) = 0 ∧ (0 : Int) < 1 ∧ (0 : Int) = 0
  omega
theorem m_stop2 (hI : SB X F) (hm : RB X F M G) (A P N : Int) (hd : 3 ≤ d) (h : 0 ≤ A ∧ A < X 4) (h2 : ¬ (0 ≤ P ∧ P < 10 * X 5) ∨ ¬ (0 ≤ N ∧ N ≤ 100)) : bE L xs d MX6_stop (0, [(0, bR 19), (1, bI A), (2, bI P), (3, bI N)], [], WD Y E M G O, a, b) (rI (WD Y E (un M 0 2) G O) 0 a b) := by
  have hX := hI.1
  have h6 := hm.1
  refine go [] [] rfl (by omega) (bc rfl (by omega) (m_isAisle hI hm (by omega) A) (fun h => by cases h) ?_)
  rw [if_pos h]
  refine go [] [0] rfl (by omega) (bc rfl (by omega) (m_in _ _ _) (fun h => by cases h) ?_)
  by_cases hp : 0 ≤ P ∧ P ≤ 10 * M 2 - 1
  · rw [if_pos hp]
    refine go [] [1] rfl (by omega) (bc rfl (by omega) (m_in _ _ _) (fun h => by cases h) ?_)
    rw [if_neg (by omega)]
    refine go [] [1, 1] rfl ?_ (rti rfl rfl rfl)
    show (0 : Int) = 0 ∧ (0 : Int) < 2 ∧ (0 : Int) = 0
    omega
  · rw [if_neg hp]
    refine go [] [0, 1] rfl ?_ (rti rfl rfl rfl)
    show (0 : Int) = 0 ∧ (0 : Int) < 2 ∧ (0 : Int) = 0
    omega
theorem m_stop3 (hI : SB X F) (hm : RB X F M G) (A P N : Int) (hd : 3 ≤ d) (h : 0 ≤ A ∧ A < X 4) (h2 : 0 ≤ P ∧ P < 10 * X 5) (h3 : 0 ≤ N ∧ N ≤ 100) (h4 : 10 ≤ X 6) : bE L xs d MX6_stop (0, [(0, bR 19), (1, bI A), (2, bI P), (3, bI N)], [], WD Y E M G O, a, b) (rI (WD Y E (un M 0 3) G O) 0 a b) := by
  have hX := hI.1
  have h6 := hm.1
  refine go [] [] rfl (by omega) (bc rfl (by omega) (m_isAisle hI hm (by omega) A) (fun h => by cases h) ?_)
  rw [if_pos h]
  refine go [] [0] rfl (by omega) (bc rfl (by omega) (m_in _ _ _) (fun h => by cases h) ?_)
  rw [if_pos (by omega)]
  refine go [] [1] rfl (by omega) (bc rfl (by omega) (m_in _ _ _) (fun h => by cases h) ?_)
  rw [if_pos (by omega)]
  refine go [] [0, 1, 1] rfl ?_ (rti rfl rfl rfl)
  show (¬ (1 : Int) = 0) ∧ M 6 = 10 ∧ (0 : Int) < 3 ∧ (0 : Int) = 0
  omega
theorem m_stop4 (hI : SB X F) (hm : RB X F M G) (A P N : Int) (hd : 3 ≤ d) (h : 0 ≤ A ∧ A < X 4) (h2 : 0 ≤ P ∧ P < 10 * X 5) (h3 : 0 ≤ N ∧ N ≤ 100) (h4 : X 6 < 10) : bE L xs d MX6_stop (0, [(0, bR 19), (1, bI A), (2, bI P), (3, bI N)], [], WD Y E M G O, a, b)
      (rI (WD Y E (un (un M 0 0) 6 (M 6 + 1)) (un (un (un G 1 (up (G 1) (M 6) A)) 2 (up (G 2) (M 6) P)) 3 (up (G 3) (M 6) N)) O) (M 6 + 1 - 1) a b) := by
  have hX := hI.1
  have h6 := hm.1
  refine go [] [] rfl (by omega) (bc rfl (by omega) (m_isAisle hI hm (by omega) A) (fun h => by cases h) ?_)
  rw [if_pos h]
  refine go [] [0] rfl (by omega) (bc rfl (by omega) (m_in _ _ _) (fun h => by cases h) ?_)
  rw [if_pos (by omega)]
  refine go [] [1] rfl (by omega) (bc rfl (by omega) (m_in _ _ _) (fun h => by cases h) ?_)
  rw [if_pos (by omega)]
  refine go [70] [0, 0, 0] rfl ?_ ?_
  · show (¬ (1 : Int) = 0) ∧ (¬ M 6 = 10) ∧ (0 : Int) ≤ 0
    omega
  · refine go [] [] rfl ?_ (rti rfl rfl rfl)
    show (0 ≤ M 6 ∧ M 6 < ((10 : Nat) : Int)) ∧ (0 ≤ M 6 ∧ M 6 < ((10 : Nat) : Int)) ∧ (0 ≤ M 6 ∧ M 6 < ((10 : Nat) : Int)) ∧ (-2147483648 ≤ M 6 + 1 ∧ M 6 + 1 ≤ 2147483647) ∧ (-2147483648 ≤ M 6 + 1 - 1 ∧ M 6 + 1 - 1 ≤ 2147483647)
    omega
theorem m_closed1 (hI : SB X F) (hm : RB X F M G) (A on : Int) (hd : 3 ≤ d) (h : ¬ (0 ≤ A ∧ A < X 4)) : bE L xs d MX6_closed (0, [(0, bR 19), (1, bI A), (2, bI on)], [], WD Y E M G O, a, b) (rI (WD Y E (un M 0 1) G O) 0 a b) := by
  refine go [] [] rfl (by omega) (bc rfl (by omega) (m_isAisle hI hm (by omega) A) (fun h => by cases h) ?_)
  rw [if_neg h]
  refine go [] [0, 1] rfl ?_ (rti rfl rfl rfl)
  show (0 : Int) = 0 ∧ (0 : Int) < 1 ∧ (0 : Int) = 0
  omega
theorem m_closed2 (hI : SB X F) (hm : RB X F M G) (A on : Int) (hd : 3 ≤ d) (h : 0 ≤ A ∧ A < X 4) (ho : 0 ≤ on ∧ on ≤ 1) : bE L xs d MX6_closed (0, [(0, bR 19), (1, bI A), (2, bI on)], [], WD Y E M G O, a, b) (rI (WD Y E (un M 0 0) (un G 0 (up (G 0) A on)) O) (nO F A (X 6)) a b) := by
  have hX := hI.1
  have h6 := hm.1
  refine go [] [] rfl (by omega) (bc rfl (by omega) (m_isAisle hI hm (by omega) A) (fun h => by cases h) ?_)
  rw [if_pos h]
  refine go [26] [1, 0] rfl ?_ ?_
  · show (¬ (1 : Int) = 0) ∧ (0 : Int) ≤ 0
    omega
  refine go [38] [] rfl (by omega) (for_up (P := fun s => bE L xs d MX6_closed (38, [(0, bR 19), (1, bI A), (2, bI on), (3, bI (nO F A s)), (4, bI s)], [], WD Y E (un M 0 0) (un G 0 (up (G 0) A on)) O, a, b) (rI (WD Y E (un M 0 0) (un G 0 (up (G 0) A on)) O) (nO F A (X 6)) a b)) (X 6) ?_ ?_ 0 (by omega) (by omega))
  · refine go [] [0] rfl ?_ (rti rfl rfl rfl)
    show M 6 ≤ X 6 ∧ (0 : Int) = 0
    omega
  · intro s h0 h1 ih
    obtain ⟨g1, g2, g3, g4⟩ := hm.2.2.1 s h0 h1
    have e : nO F A (s + 1) = nO F A s + (if F 2 s = A ∧ F 6 s = 0 then 1 else 0) := itr_s _ _ h0
    have hb := nO_b F A s h0
    by_cases hw : F 2 s = A
    · by_cases hv : F 6 s = 0
      · rw [e, if_pos ⟨hw, hv⟩] at ih
        refine go [38] [1, 1, 1] rfl ?_ ih
        show s < M 6 ∧ (0 ≤ s ∧ s < ((10 : Nat) : Int)) ∧ G 1 s = A ∧ (0 ≤ s ∧ s < ((10 : Nat) : Int)) ∧ G 4 s = 0 ∧ (-2147483648 ≤ nO F A s + 1 ∧ nO F A s + 1 ≤ 2147483647) ∧ (-2147483648 ≤ s + 1 ∧ s + 1 ≤ 2147483647) ∧ (0 : Int) = 0
        omega
      · rw [e, if_neg (fun h => hv h.2)] at ih
        refine go [38] [1, 1, 0] rfl ?_ ih
        show s < M 6 ∧ (0 ≤ s ∧ s < ((10 : Nat) : Int)) ∧ G 1 s = A ∧ (0 ≤ s ∧ s < ((10 : Nat) : Int)) ∧ (¬ G 4 s = 0) ∧ (-2147483648 ≤ nO F A s + 0 ∧ nO F A s + 0 ≤ 2147483647) ∧ (-2147483648 ≤ s + 1 ∧ s + 1 ≤ 2147483647) ∧ (0 : Int) = 0
        omega
    · rw [e, if_neg (fun h => hw h.1)] at ih
      refine go [38] [1, 0] rfl ?_ ih
      show s < M 6 ∧ (0 ≤ s ∧ s < ((10 : Nat) : Int)) ∧ (¬ G 1 s = A) ∧ (-2147483648 ≤ nO F A s + 0 ∧ nO F A s + 0 ≤ 2147483647) ∧ (-2147483648 ≤ s + 1 ∧ s + 1 ≤ 2147483647) ∧ (0 : Int) = 0
      omega
theorem m_step1 (hr : SR X F) (hmr : RR X F M G) (i : Int) (hd : 3 ≤ d) (h : ¬ (0 ≤ i ∧ i < X 3)) : bE L xs d MX6_step (0, [(0, bR 19), (1, bI i)], [], WD Y E M G O, a, b) (rI (WD Y E (un M 0 1) G O) 0 a b) := by
  have h3 := hr.1
  have h7 := hmr.1
  refine go [] [] rfl (by omega) (bc rfl (by omega) (m_in _ _ _) (fun h => by cases h) ?_)
  rw [if_neg (by omega)]
  refine go [] [0, 1] rfl ?_ (rti rfl rfl rfl)
  show (0 : Int) = 0 ∧ (0 : Int) < 1 ∧ (0 : Int) = 0
  omega
theorem m_step2 (hr : SR X F) (hmr : RR X F M G) (i : Int) (hd : 3 ≤ d) (h : 0 ≤ i ∧ i < X 3) : bE L xs d MX6_step (0, [(0, bR 19), (1, bI i)], [], WD Y E M G O, a, b) (rI (WD Y E (un M 0 0) G O) (F 0 i) a b) := by
  have h3 := hr.1
  have h7 := hmr.1
  rw [← hmr.2 i h.1 h.2]
  refine go [] [] rfl (by omega) (bc rfl (by omega) (m_in _ _ _) (fun h => by cases h) ?_)
  rw [if_pos (by omega)]
  refine go [] [1, 0] rfl ?_ (rti rfl rfl rfl)
  show (¬ (1 : Int) = 0) ∧ (0 : Int) ≤ 0 ∧ (0 ≤ i ∧ i < ((10 : Nat) : Int))
  omega
theorem m_remove (k : Int) (h7 : M 7 ≤ 10) (hk : 0 ≤ k ∧ k < M 7) : bE L xs d MX6_remove (0, [(0, bR 19), (1, bI k)], [], WD Y E M G O, a, b)
    (fun r => ∃ row : Int → Int, r = (WD Y E (un M 7 (M 7 - 1)) (un G 5 row) O, .inl none, a, b) ∧ ∀ j, 0 ≤ j → j < M 7 - 1 → row j = dr (G 5) k j) := by
  have key := for_up (P := fun i => k ≤ i → ∀ V : Int → Int, (∀ j, 0 ≤ j → j < i → V j = dr (G 5) k j) → (∀ j, i ≤ j → V j = G 5 j) →
      bE L xs d MX6_remove (12, [(0, bR 19), (1, bI k), (2, bI i)], [], WD Y E (un M 7 (M 7 - 1)) (un G 5 V) O, a, b) (fun r => ∃ row : Int → Int, r = (WD Y E (un M 7 (M 7 - 1)) (un G 5 row) O, .inl none, a, b) ∧ ∀ j, 0 ≤ j → j < M 7 - 1 → row j = dr (G 5) k j)) (M 7 - 1) ?_ ?_ k (by omega) (by omega) (by omega)
  · refine go [12] [] rfl (by omega) (key (G 5) ?_ (fun j _ => rfl))
    intro j h0 h1
    unfold dr
    rw [if_pos h1]
  · intro _ V h1 h2
    refine go [] [0] rfl ?_ (rtv rfl rfl ⟨V, rfl, h1⟩)
    show M 7 - 1 ≤ M 7 - 1
    omega
  · intro i h0 h1 ih hki V g1 g2
    refine go [12] [1] rfl ?_ (ih (by omega) (up V i (V (i + 1))) ?_ ?_)
    · show i < M 7 - 1 ∧ (-2147483648 ≤ i + 1 ∧ i + 1 ≤ 2147483647) ∧ (0 ≤ i + 1 ∧ i + 1 < ((10 : Nat) : Int)) ∧ (0 ≤ i ∧ i < ((10 : Nat) : Int)) ∧ (-2147483648 ≤ i + 1 ∧ i + 1 ≤ 2147483647) ∧ (0 : Int) = 0
      omega
    · intro j q0 q1
      by_cases hj : j = i
      · subst hj
        rw [up_eq, g2 (j + 1) (by omega)]
        unfold dr
        rw [if_neg (by omega)]
      · rw [up_ne _ hj]; exact g1 j q0 (by omega)
    · intro j q
      rw [up_ne _ (by omega)]; exact g2 j (by omega)
theorem m_go1 (h7 : M 7 = 0) : bE L xs d MX6_go (0, [(0, bR 19)], [], WD Y E M G O, a, b) (rI (WD Y E (un M 0 1) G O) 0 a b) := by
  refine go [] [1, 0, 1] rfl ?_ (rti rfl rfl rfl)
  show M 7 = 0 ∧ (¬ (1 : Int) = 0) ∧ (0 : Int) < 1 ∧ (0 : Int) = 0
  omega
theorem m_go2 (hI : SB X F) (hr : SR X F) (hm : RB X F M G) (hmr : RR X F M G) (h : X 3 ≠ 0) (h2 : F 1 (F 2 (F 0 0)) ≠ 0) : bE L xs d MX6_go (0, [(0, bR 19)], [], WD Y E M G O, a, b) (rI (WD Y E (un (un M 0 0) 0 1) G O) 0 a b) := by
  have hX := hI.1
  have h3 := hr.1
  have h7 := hmr.1
  have hq := hr.2.1 0 (by omega) (by omega)
  have hp := hI.2.1 (F 0 0) hq.1 hq.2.1
  have g5 := hmr.2 0 (by omega) (by omega)
  obtain ⟨g1, g2, g3, g4⟩ := hm.2.2.1 (F 0 0) hq.1 hq.2.1
  have g0 := hm.2.1 (F 2 (F 0 0)) (by omega) (by omega)
  rw [← g5] at g1 hp hq g0 h2
  rw [← g1] at g0 hp h2
  refine go [] [0, 1, 1, 1] rfl ?_ (rti rfl rfl rfl)
  show (¬ M 7 = 0) ∧ (0 : Int) = 0 ∧ ((0 : Int) ≤ 0 ∧ (0 : Int) < ((10 : Nat) : Int)) ∧ (0 ≤ G 5 0 ∧ G 5 0 < ((10 : Nat) : Int)) ∧ (0 ≤ G 1 (G 5 0) ∧ G 1 (G 5 0) < ((8 : Nat) : Int)) ∧ (¬ G 0 (G 1 (G 5 0)) = 0) ∧ (0 : Int) < 1 ∧ (0 : Int) = 0
  omega
theorem m_go3 (hI : SB X F) (hr : SR X F) (hm : RB X F M G) (hmr : RR X F M G) (hd : 3 ≤ d) (hmt : 0 ≤ X 1 ∧ X 1 ≤ 1000000) (h : X 3 ≠ 0) (h2 : F 1 (F 2 (F 0 0)) = 0) : bE L xs d MX6_go (0, [(0, bR 19)], [], WD Y E M G O, a, b)
    (fun r => ∃ row : Int → Int, r = (WD Y E (un (un (un (un (un M 0 0) 0 0) 4 (M 4 + F 7 (X 0 * 11 + F 0 0))) 5 (F 0 0)) 7 (M 7 - 1)) (un (un G 4 (up (G 4) (F 0 0) 1)) 5 row) O, .inl (some (bI (F 0 0))), a, b) ∧ ∀ j, 0 ≤ j → j < M 7 - 1 → row j = dr (G 5) 0 j) := by
  have hX := hI.1
  have h3 := hr.1
  have h7 := hmr.1
  have h6 := hm.1
  have hq := hr.2.1 0 (by omega) (by omega)
  have hp := hI.2.1 (F 0 0) hq.1 hq.2.1
  have hw := SB_way hI (SB_here hI) (pnt_s hq.1 hq.2.1)
  have w := m_way (L := L) (xs := xs) (Y := Y) (E := E) (O := O) (d := d - 1) (a := a) (b := b) hI (RB_code (RB_code hm (c := 0)) (c := 0)) (X 0) (F 0 0) (SB_here hI) (pnt_s hq.1 hq.2.1) (by omega)
  have g5 := hmr.2 0 (by omega) (by omega)
  obtain ⟨g1, g2, g3, g4⟩ := hm.2.2.1 (F 0 0) hq.1 hq.2.1
  have g0 := hm.2.1 (F 2 (F 0 0)) (by omega) (by omega)
  rw [mp_s (s := F 0 0) (by omega), ← h6.2.2.2.2.1] at w
  rw [← g5] at w g1 hp hq hw g0 h2 ⊢
  rw [← g1] at g0 hp h2
  refine go [60] [0, 1, 0, 0] rfl ?_ ?_
  · show (¬ M 7 = 0) ∧ (0 : Int) = 0 ∧ ((0 : Int) ≤ 0 ∧ (0 : Int) < ((10 : Nat) : Int)) ∧ (0 ≤ G 5 0 ∧ G 5 0 < ((10 : Nat) : Int)) ∧ (0 ≤ G 1 (G 5 0) ∧ G 1 (G 5 0) < ((8 : Nat) : Int)) ∧ (G 0 (G 1 (G 5 0)) = 0) ∧ (0 : Int) ≤ 0
    omega
  refine go [] [] rfl (by omega) (bc rfl (by omega) w (fun h => by cases h) ?_)
  refine go [] [] rfl ?_ (bcall rfl (by omega) (m_remove (M := un (un (un (un M 0 0) 0 0) 4 (M 4 + F 7 (X 0 * 11 + G 5 0))) 5 (G 5 0)) (G := un G 4 (up (G 4) (G 5 0) 1)) 0 (show M 7 ≤ 10 by omega) (show (0 : Int) ≤ 0 ∧ 0 < M 7 by omega)) ?_)
  · show (-2147483648 ≤ M 4 + F 7 (X 0 * 11 + G 5 0) ∧ M 4 + F 7 (X 0 * 11 + G 5 0) ≤ 2147483647) ∧ (0 ≤ G 5 0 ∧ G 5 0 < ((10 : Nat) : Int)) ∧ (0 : Int) = 0
    omega
  · rintro r ⟨row, rfl, hrow⟩
    refine ⟨_, _, _, _, rfl, (fun h => by cases h), ?_⟩
    exact go [] [] rfl (by omega) (rti rfl rfl ⟨row, rfl, hrow⟩)
end N2
end
section
/-! The reference's calls, the rest but for walk -/
section N3
variable {L : Nat} {xs : Nat → Int32} {X M : Nat → Int} {F G : Nat → Int → Int} {Y : Nat → Int} {E : Nat → Int → Int} {O : Int → Int} {d a b : Nat} {Q : BR → Prop}
theorem m_missing1 (hI : SB X F) (hm : RB X F M G) (s : Int) (hd : 3 ≤ d) (h : ¬ (0 ≤ s ∧ s < X 6)) : bE L xs d MX6_missing (0, [(0, bR 19), (1, bI s)], [], WD Y E M G O, a, b) (rI (WD Y E (un M 0 1) G O) 0 a b) := by
  refine go [] [] rfl (by omega) (bc rfl (by omega) (m_isStop hI hm (by omega) s) (fun h => by cases h) ?_)
  rw [if_neg h]
  refine go [] [1, 0, 1] rfl ?_ (rti rfl rfl rfl)
  show (0 : Int) = 0 ∧ (¬ (1 : Int) = 0) ∧ (0 : Int) < 1 ∧ (0 : Int) = 0
  omega
theorem m_missing2 (hI : SB X F) (hm : RB X F M G) (s : Int) (hd : 3 ≤ d) (h : 0 ≤ s ∧ s < X 6) (h2 : F 6 s ≠ 0) : bE L xs d MX6_missing (0, [(0, bR 19), (1, bI s)], [], WD Y E M G O, a, b) (rI (WD Y E (un (un M 0 0) 0 2) G O) 0 a b) := by
  have hX := hI.1
  obtain ⟨g1, g2, g3, g4⟩ := hm.2.2.1 s h.1 h.2
  refine go [] [] rfl (by omega) (bc rfl (by omega) (m_isStop hI hm (by omega) s) (fun h => by cases h) ?_)
  rw [if_pos h]
  refine go [] [0, 1, 1, 1] rfl ?_ (rti rfl rfl rfl)
  show (¬ (1 : Int) = 0) ∧ (0 : Int) = 0 ∧ (0 ≤ s ∧ s < ((10 : Nat) : Int)) ∧ (¬ G 4 s = 0) ∧ (0 : Int) < 2 ∧ (0 : Int) = 0
  omega
/-- the reference's cells behind 'missing' or 'go' -/
theorem RB_state (hI : SB X F) (hm : RB X F M G) {s v : Int} (h : 0 ≤ s ∧ s < X 6) : RB X (un F 6 (up (F 6) s v)) M (un G 4 (up (G 4) s v)) := by
  obtain ⟨m1, m2, m3, m4⟩ := hm
  refine ⟨m1, m2, ?_, ?_⟩
  · intro j h0 h1
    obtain ⟨g1, g2, g3, g4⟩ := m3 j h0 h1
    refine ⟨g1, g2, g3, ?_⟩
    show up (G 4) s v j = up (F 6) s v j
    unfold up
    rw [g4]
  · intro j h0 h1
    show up (G 4) s v j = 0
    rw [up_ne _ (by omega)]
    exact m4 j h0 h1
theorem RB_row (hm : RB X F M G) {n n' : Int} {r r' : Int → Int} : RB (un X 3 n) (un F 0 r) (un M 7 n') (un G 5 r') := hm
theorem RR_drop (hmr : RR X F M G) {k n : Int} (hk : 0 ≤ k ∧ k < X 3) (hn : n = X 3 - 1) {r r' : Int → Int} (hr : ∀ j, 0 ≤ j → j < n → r j = dr (F 0) k j) (hr' : ∀ j, 0 ≤ j → j < n → r' j = dr (G 5) k j)
    {X' M' : Nat → Int} {F' G' : Nat → Int → Int} (e3 : X' 3 = n) (e7 : M' 7 = n) (f0 : F' 0 = r) (g5 : G' 5 = r') : RR X' F' M' G' := by
  refine ⟨by rw [e3, e7], ?_⟩
  rw [e3, f0, g5]
  intro i h0 h1
  rw [hr i h0 h1, hr' i h0 h1]
  unfold dr
  split
  · exact hmr.2 i h0 (by omega)
  · exact hmr.2 (i + 1) (by omega) (by omega)
theorem m_missing3 (hI : SB X F) (hr : SR X F) (hm : RB X F M G) (hmr : RR X F M G) (s k : Int) (hd : 4 ≤ d) (h : 0 ≤ s ∧ s < X 6) (h2 : F 6 s = 0) (hk : 0 ≤ k ∧ k ≤ X 3) (hx : ∀ i, 0 ≤ i → i < X 3 → (F 0 i = s ↔ i = k))
    {rw : Int → Int} (hrow : ∀ j, 0 ≤ j → j < (if k < X 3 then X 3 - 1 else X 3) → rw j = dr (F 0) k j) : bE L xs d MX6_missing (0, [(0, bR 19), (1, bI s)], [], WD Y E M G O, a, b)
      (fun r => ∃ M' G', r = (WD Y E M' G' O, .inl (some (bI (rl (un X 3 (if k < X 3 then X 3 - 1 else X 3)) (un (un F 6 (up (F 6) s 2)) 0 rw)))), a, b) ∧ M' 0 = 0 ∧
        RB (un X 3 (if k < X 3 then X 3 - 1 else X 3)) (un (un F 6 (up (F 6) s 2)) 0 rw) M' G' ∧ RR (un X 3 (if k < X 3 then X 3 - 1 else X 3)) (un (un F 6 (up (F 6) s 2)) 0 rw) M' G') := by
  have hX := hI.1
  have h3 := hr.1
  have h7 := hmr.1
  obtain ⟨g1, g2, g3, g4⟩ := hm.2.2.1 s h.1 h.2
  have hI2 : SB (un X 3 (if k < X 3 then X 3 - 1 else X 3)) (un (un F 6 (up (F 6) s 2)) 0 rw) := SB_row (SB_state hI (s := s) (v := 2) (by omega))
  have hr2 : SR (un X 3 (if k < X 3 then X 3 - 1 else X 3)) (un (un F 6 (up (F 6) s 2)) 0 rw) := SR_drop hr hk rfl hrow rfl rfl rfl rfl
  -- behind the removal, or where there is none
  have fin : ∀ (M' : Nat → Int) (G' : Nat → Int → Int), M' 0 = 0 → RB (un X 3 (if k < X 3 then X 3 - 1 else X 3)) (un (un F 6 (up (F 6) s 2)) 0 rw) M' G' → RR (un X 3 (if k < X 3 then X 3 - 1 else X 3)) (un (un F 6 (up (F 6) s 2)) 0 rw) M' G' →
      ∀ i, -1 ≤ i → (i < 10 ∧ ∀ j, 0 ≤ j → j ≤ i → G' 5 j ≠ s) → bE L xs d MX6_missing (65, [(0, bR 19), (1, bI s), (2, bI i)], [], WD Y E M' G' O, a, b) (fun r => ∃ M' G', r = (WD Y E M' G' O, .inl (some (bI (rl (un X 3 (if k < X 3 then X 3 - 1 else X 3)) (un (un F 6 (up (F 6) s 2)) 0 rw)))), a, b) ∧ M' 0 = 0 ∧
        RB (un X 3 (if k < X 3 then X 3 - 1 else X 3)) (un (un F 6 (up (F 6) s 2)) 0 rw) M' G' ∧ RR (un X 3 (if k < X 3 then X 3 - 1 else X 3)) (un (un F 6 (up (F 6) s 2)) 0 rw) M' G') := by
    intro M' G' q1 q2 q3
    refine for_down ?_ ?_
    · intro _
      refine go [] [0] rfl (by omega) (bc rfl (by omega) (m_length hI2 hr2 q2 q3 (by omega)) (fun h => by cases h) ?_)
      exact rti rfl rfl ⟨M', G', rfl, q1, q2, q3⟩
    · intro i h0 ih hne
      have := hne.2 i h0 (Int.le_refl _)
      exact go [65] [1, 0] rfl (by omega) (ih ⟨by omega, fun j j0 j1 => hne.2 j j0 (by omega)⟩)
  refine go [] [] rfl (by omega) (bc rfl (by omega) (m_isStop hI hm (by omega) s) (fun h => by cases h) ?_)
  rw [if_pos h]
  refine go [51] [0, 1, 0, 0] rfl ?_ ?_
  · show (¬ (1 : Int) = 0) ∧ (0 : Int) = 0 ∧ (0 ≤ s ∧ s < ((10 : Nat) : Int)) ∧ (G 4 s = 0) ∧ (0 : Int) ≤ 0
    omega
  refine go [65] [] rfl ?_ ?_
  · show (0 ≤ s ∧ s < ((10 : Nat) : Int)) ∧ (-2147483648 ≤ M 7 - 1 ∧ M 7 - 1 ≤ 2147483647) ∧ (0 : Int) = 0
    omega
  show bE L xs d MX6_missing (65, [(0, bR 19), (1, bI s), (2, bI (M 7 - 1))], [], WD Y E (un (un M 0 0) 0 0) (un G 4 (up (G 4) s 2)) O, a, b) _
  have hm2 : RB X (un F 6 (up (F 6) s 2)) (un (un M 0 0) 0 0) (un G 4 (up (G 4) s 2)) := RB_state hI (RB_code (RB_code hm (c := 0)) (c := 0)) h
  by_cases hkn : k < X 3
  · -- it is in the walk
    refine for_down (P := fun i => i < X 3 → k ≤ i → bE L xs d MX6_missing (65, [(0, bR 19), (1, bI s), (2, bI i)], [], WD Y E (un (un M 0 0) 0 0) (un G 4 (up (G 4) s 2)) O, a, b) _) (fun _ h => by omega) ?_ (M 7 - 1) (by omega) (by omega) (by omega)
    intro i h0 ih i1 i2
    have g5 := hmr.2 i h0 i1
    have hxi := hx i h0 i1
    by_cases hik : i = k
    · have hs : F 0 i = s := hxi.mpr hik
      refine go [] [1, 1] rfl ?_ (bcall rfl (by omega) (m_remove (M := un (un M 0 0) 0 0) (G := un G 4 (up (G 4) s 2)) i (show M 7 ≤ 10 by omega) (show 0 ≤ i ∧ i < M 7 by omega)) ?_)
      · show 0 ≤ i ∧ (0 ≤ i ∧ i < ((10 : Nat) : Int)) ∧ G 5 i = s ∧ (0 : Int) = 0
        omega
      · rintro r ⟨row, rfl, hrw⟩
        refine ⟨_, _, _, _, rfl, (fun h => by cases h), ?_⟩
        have hrw : ∀ j, 0 ≤ j → j < M 7 - 1 → row j = dr (G 5) i j := hrw
        have hrr : RR (un X 3 (if k < X 3 then X 3 - 1 else X 3)) (un (un F 6 (up (F 6) s 2)) 0 rw) (un (un (un M 0 0) 0 0) 7 (M 7 - 1)) (un (un G 4 (up (G 4) s 2)) 5 row) := by
          refine RR_drop hmr (k := k) (n := X 3 - 1) ⟨hk.1, hkn⟩ rfl (r := rw) (r' := row) (fun j j0 j1 => hrow j j0 (by rw [if_pos hkn]; exact j1)) (fun j j0 j1 => by rw [← hik]; exact hrw j j0 (by omega)) (show (if k < X 3 then X 3 - 1 else X 3) = X 3 - 1 from if_pos hkn) (show M 7 - 1 = X 3 - 1 by omega) rfl rfl
        refine go [65] [] rfl (by omega) (fin (un (un (un M 0 0) 0 0) 7 (M 7 - 1)) (un (un G 4 (up (G 4) s 2)) 5 row) rfl (RB_row hm2) hrr (i - 1) (by omega) ⟨by omega, ?_⟩)
        intro j j0 j1
        show row j ≠ s
        rw [hrw j j0 (by omega)]
        unfold dr
        rw [if_pos (by omega), hmr.2 j j0 (by omega)]
        intro e
        have := (hx j j0 (by omega)).mp e
        omega
    · have hs : F 0 i ≠ s := fun e => hik (hxi.mp e)
      refine go [65] [1, 0] rfl ?_ (ih (by omega) (by omega))
      show 0 ≤ i ∧ (0 ≤ i ∧ i < ((10 : Nat) : Int)) ∧ (¬ G 5 i = s) ∧ (-2147483648 ≤ i + -1 ∧ i + -1 ≤ 2147483647) ∧ (0 : Int) = 0
      omega
  · have hrr : RR (un X 3 (if k < X 3 then X 3 - 1 else X 3)) (un (un F 6 (up (F 6) s 2)) 0 rw) (un (un M 0 0) 0 0) (un G 4 (up (G 4) s 2)) := by
      rw [if_neg hkn] at hrow ⊢
      refine ⟨h7, fun i h0 h1 => ?_⟩
      have h1 : i < X 3 := h1
      show G 5 i = rw i
      rw [hrow i h0 h1]
      unfold dr
      rw [if_pos (by omega)]
      exact hmr.2 i h0 h1
    refine fin (un (un M 0 0) 0 0) (un G 4 (up (G 4) s 2)) rfl hm2 hrr (M 7 - 1) (by omega) ⟨by omega, ?_⟩
    intro j j0 j1
    show G 5 j ≠ s
    rw [hmr.2 j j0 (by omega)]
    intro e
    have := (hx j j0 (by omega)).mp e
    omega
theorem m_left (hI : SB X F) (hr : SR X F) (hm : RB X F M G) (hmr : RR X F M G) (hd : 4 ≤ d) : bE L xs d MX6_left (0, [(0, bR 19)], [], WD Y E M G O, a, b) (rI (WD Y E (un M 0 0) G O) (rl X F) a b) := by
  refine go [] [] rfl (by omega) (bc rfl (by omega) (m_length (M := un M 0 0) hI hr hm hmr (by omega)) (fun h => by cases h) (rti rfl rfl rfl))
theorem m_bound (hI : SB X F) (hm0 : RB X F M G) (hd : 3 ≤ d) : bE L xs d MX6_bound (0, [(0, bR 19)], [], WD Y E M G O, a, b) (rI (WD Y E (un M 0 0) G O) (bndN X F (X 6)) a b) := by
  have hX := hI.1
  have h6 := hm0.1
  refine go [9] [] rfl (by omega) ?_
  show bE L xs d MX6_bound (9, [(0, bR 19), (1, bI 0), (2, bI 0)], [], WD Y E (un M 0 0) G O, a, b) _
  have hm : RB X F (un M 0 0) G := hm0
  clear hm0
  have h60 : (un M 0 0) 6 = X 6 := h6.2.2.2.2.2
  have h50 : (un M 0 0) 5 = mp (X 0) := h6.2.2.2.2.1
  revert h60 h50 hm
  generalize un M 0 0 = M
  intro hm h60 h50
  refine for_up (P := fun s => bE L xs d MX6_bound (9, [(0, bR 19), (1, bI (bndN X F s)), (2, bI s)], [], WD Y E M G O, a, b) (rI (WD Y E M G O) (bndN X F (X 6)) a b)) (X 6) ?_ ?_ 0 (by omega) (by omega)
  · exact go [] [0] rfl (by omega) (rti rfl rfl rfl)
  · intro s h0 h1 ih
    have e : bndN X F (s + 1) = if wk F s = 1 then max (bndN X F s) (F 7 (X 0 * 11 + s) + F 7 (s * 11 + 10)) else bndN X F s := itr_s _ _ h0
    have w1 := SB_way hI (SB_here hI) (pnt_s h0 h1)
    have w2 := SB_way hI (pnt_s h0 h1) pnt_d
    have v1 := fun (d : Nat) (hd : 2 ≤ d) => m_way (L := L) (xs := xs) (Y := Y) (E := E) (O := O) (d := d) (a := a) (b := b) hI hm (X 0) s (SB_here hI) (pnt_s h0 h1) hd
    have v2 := fun (d : Nat) (hd : 2 ≤ d) => m_way (L := L) (xs := xs) (Y := Y) (E := E) (O := O) (d := d) (a := a) (b := b) hI hm s 10 (pnt_s h0 h1) pnt_d hd
    rw [mp_s (s := s) (by omega), ← h50] at v1
    rw [mp_s (s := s) (by omega), mp_d] at v2
    refine go [] [1] rfl (by omega) (bc rfl (by omega) (m_isWalked hI hm s h0 h1) (fun h => by cases h) ?_)
    rcases wk_01 F s with hw | hw
    · rw [e, if_neg (by omega)] at ih
      rw [hw]
      exact go [9] [0] rfl (by omega) ih
    · rw [e, if_pos hw] at ih
      rw [hw]
      refine go [] [1] rfl (by omega) (bc rfl (by omega) (v1 _ (by omega)) (fun h => by cases h) ?_)
      refine go [] [] rfl (by omega) (bc rfl (by omega) (v2 _ (by omega)) (fun h => by cases h) ?_)
      by_cases hlt : bndN X F s < F 7 (X 0 * 11 + s) + F 7 (s * 11 + 10)
      · have e2 : max (bndN X F s) (F 7 (X 0 * 11 + s) + F 7 (s * 11 + 10)) = F 7 (X 0 * 11 + s) + F 7 (s * 11 + 10) := by omega
        rw [e2] at ih
        refine go [] [1] rfl (by omega) (bc rfl (by omega) (v1 _ (by omega)) (fun h => by cases h) ?_)
        refine go [] [] rfl (by omega) (bc rfl (by omega) (v2 _ (by omega)) (fun h => by cases h) ?_)
        exact go [9] [] rfl (by omega) ih
      · have e2 : max (bndN X F s) (F 7 (X 0 * 11 + s) + F 7 (s * 11 + 10)) = bndN X F s := by omega
        rw [e2] at ih
        exact go [9] [0] rfl (by omega) ih
theorem m_cart1 (c : Int) (hd : 3 ≤ d) (h : ¬ (1 ≤ c ∧ c ≤ 1000)) : bE L xs d MX6_cart (0, [(0, bR 19), (1, bI c)], [], WD Y E M G O, a, b) (rV (WD Y E (un M 0 1) G O) a b) := by
  refine go [] [] rfl (by omega) (bc rfl (by omega) (m_in _ _ _) (fun h => by cases h) ?_)
  rw [if_neg h]
  refine go [] [0, 0] rfl ?_ (rtv rfl rfl rfl)
  show (0 : Int) = 0 ∧ (¬ (1 : Int) = 0)
  omega
theorem m_cart2 (c : Int) (hd : 3 ≤ d) (h : 1 ≤ c ∧ c ≤ 1000) : bE L xs d MX6_cart (0, [(0, bR 19), (1, bI c)], [], WD Y E M G O, a, b) (rV (WD Y E (un (un M 0 0) 3 c) G O) a b) := by
  refine go [] [] rfl (by omega) (bc rfl (by omega) (m_in _ _ _) (fun h => by cases h) ?_)
  rw [if_pos h]
  refine go [] [1, 1] rfl ?_ (rtv rfl rfl rfl)
  show (¬ (1 : Int) = 0) ∧ (0 : Int) = 0 ∧ (0 : Int) = 0
  omega
theorem m_full (hI : SB X F) (hr : SR X F) (hm0 : RB X F M G) (hmr0 : RR X F M G) (hd : 3 ≤ d) : bE L xs d MX6_full (0, [(0, bR 19)], [], WD Y E M G O, a, b) (rI (WD Y E (un M 0 0) G O) (fu X F) a b) := by
  have hX := hI.1
  have hR := hr.1
  refine go [20] [] rfl (by omega) ?_
  show bE L xs d MX6_full (20, [(0, bR 19), (1, bI 0), (2, bI (un M 0 0 5)), (3, bI 0), (4, bI 1), (5, bI 0)], [], WD Y E (un M 0 0) G O, a, b) _
  have hm : RB X F (un M 0 0) G := hm0
  have hmr : RR X F (un M 0 0) G := hmr0
  clear hm0 hmr0
  revert hm hmr
  generalize un M 0 0 = M
  intro hm hmr
  have h6 := hm.1
  have h7 := hmr.1
  have key := for_up (P := fun i => bE L xs d MX6_full (20, [(0, bR 19), (1, bI (fuN X F i).1), (2, bI (mp (fuN X F i).2.2)), (3, bI (fuN X F i).2.1), (4, bI (if i = 0 then 1 else 0)), (5, bI i)], [], WD Y E M G O, a, b) (rI (WD Y E M G O) (fu X F) a b)) (X 3) ?_ ?_ 0 (by omega) (by omega)
  · have e0 : fuN X F 0 = (0, 0, X 0) := rfl
    rw [e0, if_pos rfl, ← h6.2.2.2.2.1] at key
    exact key
  · obtain ⟨z1, z2, z3, z4, z5, z6⟩ := fuN_b hI hr (X 3) (by omega) (by omega)
    have p1 := SB_way hI z5 pnt_d
    have w := m_way (L := L) (xs := xs) (Y := Y) (E := E) (O := O) (d := d - 1) (a := a) (b := b) hI hm _ 10 z5 pnt_d (by omega)
    rw [mp_d] at w
    refine go [] [0] rfl (by omega) (bc rfl (by omega) w (fun h => by cases h) ?_)
    exact go [] [] rfl (by omega) (rti rfl rfl rfl)
  · intro i h0 h1 ih
    obtain ⟨z1, z2, z3, z4, z5, z6⟩ := fuN_b hI hr i (by omega) (by omega)
    have hq := hr.2.1 i h0 h1
    have hp := hI.2.1 (F 0 i) hq.1 hq.2.1
    have w1 := SB_way hI z5 (pnt_s hq.1 hq.2.1)
    have w2 := SB_way hI z5 pnt_d
    have w3 := SB_way hI pnt_d (pnt_s hq.1 hq.2.1)
    have g5 := hmr.2 i h0 h1
    obtain ⟨g1, g2, g3, g4⟩ := hm.2.2.1 (F 0 i) hq.1 hq.2.1
    have v1 := m_way (L := L) (xs := xs) (Y := Y) (E := E) (O := O) (d := d - 1) (a := a) (b := b) hI hm _ (F 0 i) z5 (pnt_s hq.1 hq.2.1) (by omega)
    have v2 := m_way (L := L) (xs := xs) (Y := Y) (E := E) (O := O) (d := d - 1) (a := a) (b := b) hI hm _ 10 z5 pnt_d (by omega)
    have v3 := m_way (L := L) (xs := xs) (Y := Y) (E := E) (O := O) (d := d - 1) (a := a) (b := b) hI hm 10 (F 0 i) pnt_d (pnt_s hq.1 hq.2.1) (by omega)
    rw [mp_s (s := F 0 i) (by omega)] at v1 v3
    rw [mp_d] at v2 v3
    have e : fuN X F (i + 1) = if 0 < (fuN X F i).2.1 ∧ X 2 < (fuN X F i).2.1 + F 5 (F 0 i) then ((fuN X F i).1 + F 7 ((fuN X F i).2.2 * 11 + 10) + F 7 (10 * 11 + F 0 i), 0 + F 5 (F 0 i), F 0 i) else ((fuN X F i).1 + F 7 ((fuN X F i).2.2 * 11 + F 0 i), (fuN X F i).2.1 + F 5 (F 0 i), F 0 i) := itr_s _ _ h0
    rw [e] at ih
    rw [← g5] at hq hp w1 w3 g3 v1 v3 ih
    rw [← g3] at hp hq ih
    have hd2 : 2 ≤ d := by omega
    by_cases c1 : i = 0
    · have hf : (fuN X F i).2.1 = 0 := by rw [c1]; rfl
      rw [if_neg (by omega), mp_s (by show G 5 i < 10; omega), if_neg (by omega)] at ih
      rw [if_pos c1]
      refine go [] [1, 0] rfl (by omega) (bc rfl hd2 v1 (fun h => by cases h) ?_)
      exact go [20] [] rfl (by omega) ih
    · have hf := z6 (by omega)
      rw [if_neg (show ¬ i + 1 = 0 by omega)] at ih
      rw [if_neg c1]
      by_cases c2 : X 2 < (fuN X F i).2.1 + G 3 (G 5 i)
      · rw [if_pos ⟨hf, c2⟩, mp_s (by show G 5 i < 10; omega)] at ih
        refine go [] [1, 1, 1] rfl (by omega) (bc rfl hd2 v2 (fun h => by cases h) ?_)
        refine go [] [] rfl (by omega) (bc rfl hd2 v3 (fun h => by cases h) ?_)
        exact go [20] [] rfl (by omega) ih
      · rw [if_neg (fun h => c2 h.2), mp_s (by show G 5 i < 10; omega)] at ih
        refine go [] [1, 1, 0] rfl (by omega) (bc rfl hd2 v1 (fun h => by cases h) ?_)
        exact go [20] [] rfl (by omega) ih
end N3
end
section
/-! The reference: share, far, told, count -/
section N4
variable {L : Nat} {xs : Nat → Int32} {X M : Nat → Int} {F G : Nat → Int → Int} {Y : Nat → Int} {E : Nat → Int → Int} {O : Int → Int} {d a b : Nat} {Q : BR → Prop}
theorem m_share1 (hI : SB X F) (hm : RB X F M G) (s : Int) (hd : 3 ≤ d) (h : ¬ (0 ≤ s ∧ s < X 6)) : bE L xs d MX6_share (0, [(0, bR 19), (1, bI s)], [], WD Y E M G O, a, b) (rI (WD Y E (un M 0 1) G O) 0 a b) := by
  refine go [] [] rfl (by omega) (bc rfl (by omega) (m_isStop hI hm (by omega) s) (fun h => by cases h) ?_)
  rw [if_neg h]
  refine go [] [1, 1] rfl ?_ (rti rfl rfl rfl)
  show (0 : Int) = 0 ∧ (0 : Int) < 1 ∧ (0 : Int) = 0
  omega
theorem m_share2 (hI : SB X F) (hm : RB X F M G) (s : Int) (hd : 3 ≤ d) (h : 0 ≤ s ∧ s < X 6) (h2 : X 1 = 0) : bE L xs d MX6_share (0, [(0, bR 19), (1, bI s)], [], WD Y E M G O, a, b) (rI (WD Y E (un M 0 2) G O) 0 a b) := by
  have h6 := hm.1
  refine go [] [] rfl (by omega) (bc rfl (by omega) (m_isStop hI hm (by omega) s) (fun h => by cases h) ?_)
  rw [if_pos h]
  refine go [] [0, 1, 1] rfl ?_ (rti rfl rfl rfl)
  show (¬ (1 : Int) = 0) ∧ M 4 = 0 ∧ (0 : Int) < 2 ∧ (0 : Int) = 0
  omega
theorem m_share3 (hI : SB X F) (hm : RB X F M G) (s : Int) (hd : 3 ≤ d) (h : 0 ≤ s ∧ s < X 6) (h2 : 0 < X 1) : bE L xs d MX6_share (0, [(0, bR 19), (1, bI s)], [], WD Y E M G O, a, b) (rI (WD Y E (un M 0 0) G O) (100 * F 7 (X 0 * 11 + s) / X 1) a b) := by
  have hX := hI.1
  have h6 := hm.1
  have w1 := SB_way hI (SB_here hI) (pnt_s h.1 h.2)
  have w := m_way (L := L) (xs := xs) (Y := Y) (E := E) (O := O) (d := d - 1) (a := a) (b := b) hI (RB_code hm (c := 0)) (X 0) s (SB_here hI) (pnt_s h.1 h.2) (by omega)
  rw [mp_s (s := s) (by omega), ← h6.2.2.2.2.1] at w
  rw [← h6.2.2.2.1]
  refine go [] [] rfl (by omega) (bc rfl (by omega) (m_isStop hI hm (by omega) s) (fun h => by cases h) ?_)
  rw [if_pos h]
  refine go [39] [0, 0, 0] rfl ?_ ?_
  · show (¬ (1 : Int) = 0) ∧ (¬ M 4 = 0) ∧ (0 : Int) ≤ 0
    omega
  refine go [] [] rfl (by omega) (bc rfl (by omega) w (fun h => by cases h) ?_)
  refine go [] [] rfl ?_ (rti rfl rfl rfl)
  show (-2147483648 ≤ 100 * F 7 (X 0 * 11 + s) ∧ 100 * F 7 (X 0 * 11 + s) ≤ 2147483647) ∧ (0 ≤ 100 * F 7 (X 0 * 11 + s) ∧ 0 < M 4)
  omega
theorem m_far1 (hI : SB X F) (hm : RB X F M G) (s o : Int) (hd : 3 ≤ d) (h : ¬ (0 ≤ s ∧ s < X 6)) : bE L xs d MX6_far (0, [(0, bR 19), (1, bI s), (2, bI o)], [], WD Y E M G O, a, b) (rI (WD Y E (un M 0 1) G O) 0 a b) := by
  refine go [] [] rfl (by omega) (bc rfl (by omega) (m_isStop hI hm (by omega) s) (fun h => by cases h) ?_)
  rw [if_neg h]
  refine go [] [0, 1] rfl ?_ (rti rfl rfl rfl)
  show (0 : Int) = 0 ∧ (0 : Int) < 1 ∧ (0 : Int) = 0
  omega
theorem m_far2 (hI : SB X F) (hm : RB X F M G) (s o : Int) (hd : 3 ≤ d) (h : 0 ≤ s ∧ s < X 6) (h2 : ¬ (0 ≤ o ∧ o < X 6)) : bE L xs d MX6_far (0, [(0, bR 19), (1, bI s), (2, bI o)], [], WD Y E M G O, a, b) (rI (WD Y E (un M 0 1) G O) 0 a b) := by
  refine go [] [] rfl (by omega) (bc rfl (by omega) (m_isStop hI hm (by omega) s) (fun h => by cases h) ?_)
  rw [if_pos h]
  refine go [] [1] rfl (by omega) (bc rfl (by omega) (m_isStop hI hm (by omega) o) (fun h => by cases h) ?_)
  rw [if_neg h2]
  refine go [] [0, 1] rfl ?_ (rti rfl rfl rfl)
  show (0 : Int) = 0 ∧ (0 : Int) < 1 ∧ (0 : Int) = 0
  omega
theorem m_far3 (hI : SB X F) (hm : RB X F M G) (s o : Int) (hd : 3 ≤ d) (h : 0 ≤ s ∧ s < X 6) (h2 : 0 ≤ o ∧ o < X 6) : bE L xs d MX6_far (0, [(0, bR 19), (1, bI s), (2, bI o)], [], WD Y E M G O, a, b) (rI (WD Y E (un M 0 0) G O) (F 7 (s * 11 + o)) a b) := by
  have hX := hI.1
  have w := m_way (L := L) (xs := xs) (Y := Y) (E := E) (O := O) (d := d - 1) (a := a) (b := b) hI (RB_code hm (c := 0)) s o (pnt_s h.1 h.2) (pnt_s h2.1 h2.2) (by omega)
  rw [mp_s (s := s) (by omega), mp_s (s := o) (by omega)] at w
  refine go [] [] rfl (by omega) (bc rfl (by omega) (m_isStop hI hm (by omega) s) (fun h => by cases h) ?_)
  rw [if_pos h]
  refine go [] [1] rfl (by omega) (bc rfl (by omega) (m_isStop hI hm (by omega) o) (fun h => by cases h) ?_)
  rw [if_pos h2]
  refine go [36] [1, 0] rfl ?_ ?_
  · show (¬ (1 : Int) = 0) ∧ (0 : Int) ≤ 0
    omega
  exact go [] [] rfl (by omega) (bc rfl (by omega) w (fun h => by cases h) (rti rfl rfl rfl))
theorem m_told1 (hI : SB X F) (hm : RB X F M G) (s q : Int) (hd : 3 ≤ d) (h : ¬ (0 ≤ s ∧ s < X 6)) : bE L xs d MX6_told (0, [(0, bR 19), (1, bI s), (2, bI q)], [], WD Y E M G O, a, b) (rI (WD Y E (un M 0 1) G O) 0 a b) := by
  refine go [] [] rfl (by omega) (bc rfl (by omega) (m_isStop hI hm (by omega) s) (fun h => by cases h) ?_)
  rw [if_neg h]
  refine go [] [1, 1] rfl ?_ (rti rfl rfl rfl)
  show (0 : Int) = 0 ∧ (0 : Int) < 1 ∧ (0 : Int) = 0
  omega
theorem m_told2 (hI : SB X F) (hm : RB X F M G) (s q : Int) (hd : 3 ≤ d) (h : 0 ≤ s ∧ s < X 6) (h2 : ¬ (0 ≤ q ∧ q ≤ 4)) : bE L xs d MX6_told (0, [(0, bR 19), (1, bI s), (2, bI q)], [], WD Y E M G O, a, b) (rI (WD Y E (un M 0 2) G O) 0 a b) := by
  refine go [] [] rfl (by omega) (bc rfl (by omega) (m_isStop hI hm (by omega) s) (fun h => by cases h) ?_)
  rw [if_pos h]
  refine go [] [0] rfl (by omega) (bc rfl (by omega) (m_in _ _ _) (fun h => by cases h) ?_)
  rw [if_neg h2]
  refine go [] [1, 1] rfl ?_ (rti rfl rfl rfl)
  show (0 : Int) = 0 ∧ (0 : Int) < 2 ∧ (0 : Int) = 0
  omega
theorem m_told3 (hI : SB X F) (hm : RB X F M G) (s q : Int) (hd : 3 ≤ d) (h : 0 ≤ s ∧ s < X 6) (h2 : 0 ≤ q ∧ q ≤ 4) : bE L xs d MX6_told (0, [(0, bR 19), (1, bI s), (2, bI q)], [], WD Y E M G O, a, b) (rI (WD Y E (un M 0 0) G O) (told F s q) a b) := by
  have hX := hI.1
  obtain ⟨g1, g2, g3, g4⟩ := hm.2.2.1 s h.1 h.2
  refine go [] [] rfl (by omega) (bc rfl (by omega) (m_isStop hI hm (by omega) s) (fun h => by cases h) ?_)
  rw [if_pos h]
  refine go [] [0] rfl (by omega) (bc rfl (by omega) (m_in _ _ _) (fun h => by cases h) ?_)
  rw [if_pos h2]
  refine go [39] [0, 0] rfl ?_ ?_
  · show (¬ (1 : Int) = 0) ∧ (0 : Int) ≤ 0
    omega
  have hq : q = 0 ∨ q = 1 ∨ q = 2 ∨ q = 3 ∨ q = 4 := by omega
  rcases hq with rfl | rfl | rfl | rfl | rfl
  · rw [show told F s 0 = F 2 s from rfl, ← g1]
    exact go [] [1] rfl (by omega) (rti rfl rfl rfl)
  · rw [show told F s 1 = F 3 s from rfl, ← g2]
    exact go [] [0, 1] rfl (by omega) (rti rfl rfl rfl)
  · rw [show told F s 2 = F 5 s from rfl, ← g3]
    exact go [] [0, 0, 1] rfl (by omega) (rti rfl rfl rfl)
  · rw [show told F s 3 = F 6 s from rfl, ← g4]
    exact go [] [0, 0, 0, 1] rfl (by omega) (rti rfl rfl rfl)
  · rw [show told F s 4 = wk F s from rfl]
    refine go [] [0, 0, 0, 0] rfl (by omega) (bc rfl (by omega) (m_isWalked hI (RB_code hm (c := 0)) s h.1 h.2) (fun h => by cases h) ?_)
    rcases wk_01 F s with hw | hw
    · rw [hw]; exact go [] [0] rfl (by omega) (rti rfl rfl rfl)
    · rw [hw]; exact go [] [1] rfl (by omega) (rti rfl rfl rfl)
theorem m_count (hI : SB X F) (hm0 : RB X F M G) (hmr0 : RR X F M G) (q : Int) (hd : 3 ≤ d) : bE L xs d MX6_count (0, [(0, bR 19), (1, bI q)], [], WD Y E M G O, a, b) (rI (WD Y E (un M 0 0) G O) (countOf X F q) a b) := by
  have hX := hI.1
  refine go [5] [] rfl (by omega) ?_
  show bE L xs d MX6_count (5, [(0, bR 19), (1, bI q)], [], WD Y E (un M 0 0) G O, a, b) _
  have hm : RB X F (un M 0 0) G := hm0
  have hmr : RR X F (un M 0 0) G := hmr0
  clear hm0 hmr0
  revert hm hmr
  generalize un M 0 0 = M
  intro hm hmr
  have h6 := hm.1
  have h7 := hmr.1
  by_cases c0 : q = 0
  · subst c0
    rw [show countOf X F 0 = X 6 from rfl, ← h6.2.2.2.2.2]
    exact go [] [1] rfl (by omega) (rti rfl rfl rfl)
  by_cases c1 : q = 1
  · subst c1
    exact go [] [0, 1] rfl (by omega) (bc rfl (by omega) (m_walked hI hm (by omega)) (fun h => by cases h) (rti rfl rfl rfl))
  by_cases c2 : q = 2
  · subst c2
    rw [show countOf X F 2 = X 3 from rfl, ← h7]
    exact go [] [0, 0, 1] rfl (by omega) (rti rfl rfl rfl)
  by_cases c3 : q = 3
  · subst c3
    rw [show countOf X F 3 = X 4 from rfl, ← h6.1]
    exact go [] [0, 0, 0, 1] rfl (by omega) (rti rfl rfl rfl)
  by_cases c4 : q = 4
  · subst c4
    rw [show countOf X F 4 = X 5 from rfl, ← h6.2.1]
    exact go [] [0, 0, 0, 0, 1] rfl (by omega) (rti rfl rfl rfl)
  by_cases c5 : q = 5
  · subst c5
    rw [show countOf X F 5 = X 1 from rfl, ← h6.2.2.2.1]
    exact go [] [0, 0, 0, 0, 0, 1] rfl (by omega) (rti rfl rfl rfl)
  by_cases c7 : q = 7
  · subst c7
    rw [show countOf X F 7 = mp (X 0) from rfl, ← h6.2.2.2.2.1]
    exact go [] [0, 0, 0, 0, 0, 0, 1] rfl (by omega) (rti rfl rfl rfl)
  refine go [79] [0, 0, 0, 0, 0, 0, 0] rfl (by omega) (for_up (P := fun s => bE L xs d MX6_count (79, [(0, bR 19), (1, bI q), (2, bI (nD F s)), (3, bI s)], [], WD Y E M G O, a, b) (rI (WD Y E M G O) (countOf X F q) a b)) (X 6) ?_ ?_ 0 (by omega) (by omega))
  · by_cases c6 : q = 6
    · subst c6
      exact go [] [0, 1] rfl (by omega) (rti rfl rfl rfl)
    · have e : countOf X F q = -1 := by
        unfold countOf
        simp only [c0, c1, c2, c3, c4, c5, c6, c7, if_false]
      rw [e]
      exact go [] [0, 0] rfl (by omega) (rti rfl rfl rfl)
  · intro s h0 h1 ih
    obtain ⟨g1, g2, g3, g4⟩ := hm.2.2.1 s h0 h1
    have e : nD F (s + 1) = nD F s + (if F 6 s = 1 then 1 else 0) := itr_s _ _ h0
    have hb := nD_b F s h0
    by_cases hw : F 6 s = 1
    · rw [e, if_pos hw] at ih
      exact go [79] [1, 1] rfl (by omega) ih
    · rw [e, if_neg hw] at ih
      exact go [79] [1, 0] rfl (by omega) ih
end N4
end
section
/-! Walks by keys: rows in strict order, and that there is one only -/
/-- by key, then by number -/
def lx (K : Int → Int) (s t : Int) : Prop := K s < K t ∨ (K s = K t ∧ s < t)
/-- all stops that are walked, in the order of their keys -/
def WLs (K : Int → Int) (X : Nat → Int) (F : Nat → Int → Int) (n : Int) (row : Int → Int) : Prop :=
  n = nW F (X 6) ∧ (∀ i, 0 ≤ i → i < n → 0 ≤ row i ∧ row i < X 6 ∧ wk F (row i) = 1) ∧ (∀ s, 0 ≤ s → s < X 6 → wk F s = 1 → ∃ i, 0 ≤ i ∧ i < n ∧ row i = s) ∧ (∀ i j, 0 ≤ i → i < j → j < n → lx K (row i) (row j))
theorem lx_asym {K : Int → Int} {s t : Int} (h1 : lx K s t) (h2 : lx K t s) : False := by
  rcases h1 with h1 | h1 <;> rcases h2 with h2 | h2 <;> omega
theorem lx_ne {K : Int → Int} {s t : Int} (h : lx K s t) : s ≠ t := by
  rintro rfl
  exact lx_asym h h
theorem WLs_one {K : Int → Int} {X : Nat → Int} {F : Nat → Int → Int} {n n' : Int} {row row' : Int → Int} (h : WLs K X F n row) (h' : WLs K X F n' row') : n = n' ∧ ∀ i, 0 ≤ i → i < n → row i = row' i := by
  obtain ⟨a1, a2, a3, a4⟩ := h
  obtain ⟨b1, b2, b3, b4⟩ := h'
  have hn : n = n' := by rw [a1, b1]
  refine ⟨hn, ?_⟩
  subst hn
  have key : ∀ k : Nat, ∀ i, 0 ≤ i → i < n → i < k → row i = row' i := by
    intro k
    induction k with
    | zero => intro i h0 _ h2; omega
    | succ k ih =>
      intro i h0 h1 h2
      have p1 := a2 i h0 h1
      have p2 := b2 i h0 h1
      obtain ⟨j, j0, j1, j2⟩ := b3 (row i) p1.1 p1.2.1 p1.2.2
      obtain ⟨l, l0, l1, l2⟩ := a3 (row' i) p2.1 p2.2.1 p2.2.2
      by_cases hj : j < i
      · have := ih j j0 j1 (by omega)
        exact absurd (this.trans j2) (lx_ne (a4 j i j0 hj h1))
      · by_cases hl : l < i
        · have := ih l l0 l1 (by omega)
          exact absurd (this.symm.trans l2) (lx_ne (b4 l i l0 hl h1))
        · by_cases hj2 : j = i
          · rw [← j2, hj2]
          · by_cases hl2 : l = i
            · rw [← l2, hl2]
            · have q1 := b4 i j h0 (by omega) j1
              have q2 := a4 i l h0 (by omega) l1
              rw [j2] at q1
              rw [l2] at q2
              exact (lx_asym q1 q2).elim
  intro i h0 h1
  exact key (i.toNat + 1) i h0 h1 (by omega)
/-- the reference's walk as it grows: what is in it comes ahead of all that is left -/
def LI (K : Int → Int) (X : Nat → Int) (F : Nat → Int → Int) (n : Int) (row lf : Int → Int) : Prop :=
  (0 ≤ n ∧ n + itr (fun s acc => acc + lf s) 0 (X 6) = nW F (X 6)) ∧ (∀ s, 0 ≤ s → s < X 6 → lf s = 0 ∨ lf s = 1) ∧
  (∀ i, 0 ≤ i → i < n → 0 ≤ row i ∧ row i < X 6 ∧ wk F (row i) = 1 ∧ lf (row i) = 0) ∧
  (∀ s, 0 ≤ s → s < X 6 → lf s = 1 → wk F s = 1) ∧
  (∀ s, 0 ≤ s → s < X 6 → wk F s = 1 → lf s = 1 ∨ ∃ i, 0 ≤ i ∧ i < n ∧ row i = s) ∧
  (∀ i j, 0 ≤ i → i < j → j < n → lx K (row i) (row j)) ∧
  (∀ i s, 0 ≤ i → i < n → 0 ≤ s → s < X 6 → lf s = 1 → lx K (row i) s)
theorem cnt_up {lf : Int → Int} {s : Int} (hs : lf s = 1) : ∀ n, 0 ≤ n → itr (fun q acc => acc + up lf s 0 q) 0 n = itr (fun q acc => acc + lf q) 0 n - (if s < n ∧ 0 ≤ s then 1 else 0) := by
  intro n hn
  obtain ⟨k, rfl⟩ : ∃ k : Nat, n = k := ⟨n.toNat, by omega⟩
  clear hn
  induction k with
  | zero =>
    rw [if_neg (by omega)]
    rfl
  | succ k ih =>
    have e : ((k + 1 : Nat) : Int) = (k : Int) + 1 := by omega
    rw [e, itr_s _ _ (by omega), itr_s _ _ (by omega), ih]
    by_cases h : (k : Int) = s
    · subst h
      rw [up_eq, hs, if_neg (by omega), if_pos (by omega)]
      omega
    · rw [up_ne _ h]
      by_cases h2 : s < (k : Int) ∧ 0 ≤ s
      · rw [if_pos h2, if_pos (by omega)]; omega
      · rw [if_neg h2, if_neg (by omega)]; omega
theorem cnt_br {g : Int → Int} {n : Int} (hg : ∀ i, 0 ≤ i → i < n → g i = 0 ∨ g i = 1) : ∀ i, 0 ≤ i → i ≤ n → 0 ≤ itr (fun s acc => acc + g s) 0 i ∧ itr (fun s acc => acc + g s) 0 i ≤ i := by
  refine itr_ind (P := fun i z => 0 ≤ z ∧ z ≤ i) ⟨by omega, by omega⟩ ?_
  intro i z i0 i1 h
  rcases hg i i0 i1 with e | e <;> rw [e] <;> omega
theorem cnt_pos {lf : Int → Int} {s n : Int} (h01 : ∀ s, 0 ≤ s → s < n → lf s = 0 ∨ lf s = 1) (hs : lf s = 1) (h0 : 0 ≤ s) (h1 : s < n) : 1 ≤ itr (fun q acc => acc + lf q) 0 n := by
  have a1 := cnt_up hs n (by omega)
  rw [if_pos ⟨h1, h0⟩] at a1
  have a2 := cnt_br (g := up lf s 0) (n := n) (fun q q0 q1 => by unfold up; split; exact Or.inl rfl; exact h01 q q0 q1) n (by omega) (Int.le_refl _)
  omega
theorem LI_add {K : Int → Int} {X : Nat → Int} {F : Nat → Int → Int} {n : Int} {row lf : Int → Int} (h : LI K X F n row lf) {s : Int} (h0 : 0 ≤ s) (h1 : s < X 6) (hs : lf s = 1) (hmin : ∀ t, 0 ≤ t → t < X 6 → lf t = 1 → t ≠ s → lx K s t) :
    LI K X F (n + 1) (up row n s) (up lf s 0) := by
  obtain ⟨⟨a0, a1⟩, a2, a3, a4, a5, a6, a7⟩ := h
  have hc := cnt_up hs (X 6) (by omega)
  rw [if_pos ⟨h1, h0⟩] at hc
  refine ⟨⟨by omega, by omega⟩, ?_, ?_, ?_, ?_, ?_, ?_⟩
  · intro t t0 t1; unfold up; split; exact Or.inl rfl; exact a2 t t0 t1
  · intro i i0 i1
    by_cases hi : i = n
    · subst hi
      rw [up_eq, up_eq]
      exact ⟨h0, h1, a4 s h0 h1 hs, rfl⟩
    · rw [up_ne _ hi]
      obtain ⟨q1, q2, q3, q4⟩ := a3 i i0 (by omega)
      refine ⟨q1, q2, q3, ?_⟩
      rw [up_ne _ (by rintro e; rw [e] at q4; omega)]
      exact q4
  · intro t t0 t1 ht
    by_cases hts : t = s
    · subst hts; rw [up_eq] at ht; omega
    · rw [up_ne _ hts] at ht; exact a4 t t0 t1 ht
  · intro t t0 t1 ht
    by_cases hts : t = s
    · exact Or.inr ⟨n, a0, by omega, by rw [up_eq, hts]⟩
    · rw [up_ne _ hts]
      rcases a5 t t0 t1 ht with q | ⟨i, i0, i1, i2⟩
      · exact Or.inl q
      · exact Or.inr ⟨i, i0, by omega, by rw [up_ne _ (by omega)]; exact i2⟩
  · intro i j i0 ij j1
    rw [up_ne row (show i ≠ n by omega)]
    by_cases hj : j = n
    · subst hj
      rw [up_eq]
      exact a7 i s i0 ij h0 h1 hs
    · rw [up_ne _ hj]
      exact a6 i j i0 ij (by omega)
  · intro i t i0 i1 t0 t1 ht
    have hts : t ≠ s := by rintro rfl; rw [up_eq] at ht; omega
    rw [up_ne _ hts] at ht
    by_cases hi : i = n
    · subst hi
      rw [up_eq]
      exact hmin t t0 t1 ht hts
    · rw [up_ne _ hi]
      exact a7 i t i0 (by omega) t0 t1 ht
theorem LI_end {K : Int → Int} {X : Nat → Int} {F : Nat → Int → Int} {n : Int} {row lf : Int → Int} (hX : 0 ≤ X 6) (h : LI K X F n row lf) (hl : ∀ s, 0 ≤ s → s < X 6 → lf s = 0) : WLs K X F n row := by
  obtain ⟨⟨a0, a1⟩, a2, a3, a4, a5, a6, a7⟩ := h
  have e : itr (fun s acc => acc + lf s) 0 (X 6) = 0 := by
    refine itr_ind (P := fun _ z => z = 0) (n := X 6) rfl ?_ (X 6) hX (Int.le_refl _)
    intro i z i0 i1 hz
    rw [hz, hl i i0 i1]
    rfl
  refine ⟨by omega, ?_, ?_, a6⟩
  · intro i i0 i1
    obtain ⟨q1, q2, q3, q4⟩ := a3 i i0 i1
    exact ⟨q1, q2, q3⟩
  · intro s s0 s1 hs
    rcases a5 s s0 s1 hs with q | q
    · have := hl s s0 s1; omega
    · exact q
theorem LI_0 {K : Int → Int} {X : Nat → Int} {F : Nat → Int → Int} {row lf : Int → Int} (hX : 0 ≤ X 6) (hl : ∀ s, 0 ≤ s → s < X 6 → lf s = wk F s) : LI K X F 0 row lf := by
  refine ⟨⟨Int.le_refl _, ?_⟩, fun s s0 s1 => by rw [hl s s0 s1]; exact wk_01 F s, fun i i0 i1 => by omega, fun s s0 s1 hs => by rw [← hl s s0 s1]; exact hs, fun s s0 s1 hs => Or.inl (by rw [hl s s0 s1]; exact hs), fun i j i0 ij j1 => by omega, fun i s i0 i1 => by omega⟩
  rw [Int.zero_add]
  exact itr_congr (fun i x i0 i1 => by rw [hl i i0 i1]) (X 6) hX (Int.le_refl _)
theorem LI_room {K : Int → Int} {X : Nat → Int} {F : Nat → Int → Int} {n : Int} {row lf : Int → Int} (h : LI K X F n row lf) {s : Int} (h0 : 0 ≤ s) (h1 : s < X 6) (hs : lf s = 1) : n < X 6 := by
  obtain ⟨⟨a0, a1⟩, a2, _⟩ := h
  have p1 := cnt_pos a2 hs h0 h1
  have p2 := nW_b F (X 6) (by omega)
  omega
end
section
/-! The reference adds an aisle's stops -/
def PM (M : Nat → Int) (n : Int) : Nat → Int := un (un M 0 0) 7 n
def PG (G : Nat → Int → Int) (row lf fr few co : Int → Int) : Nat → Int → Int := un (un (un (un (un G 5 row) 6 lf) 7 fr) 8 few) 9 co
section A1
variable {L : Nat} {xs : Nat → Int32} {X M : Nat → Int} {F G : Nat → Int → Int} {Y : Nat → Int} {E : Nat → Int → Int} {O : Int → Int} {d a b : Nat} {Q : BR → Prop} {row lf fr few co : Int → Int} {n : Int}
theorem m_add (s : Int) (hn : 0 ≤ n ∧ n < 10) (hs : 0 ≤ s ∧ s < 10) : bE L xs d MX6_add (0, [(0, bR 19), (1, bI s)], [], WD Y E (PM M n) (PG G row lf fr few co) O, a, b) (rV (WD Y E (PM M (n + 1)) (PG G (up row n s) (up lf s 0) fr few co) O) a b) :=
  go [] [] rfl ⟨(show 0 ≤ n ∧ n < ((10 : Nat) : Int) by omega), (show -2147483648 ≤ n + 1 ∧ n + 1 ≤ 2147483647 by omega), (show 0 ≤ s ∧ s < ((10 : Nat) : Int) ∧ (0 : Int) ≤ 0 ∧ (0 : Int) ≤ 1 by omega)⟩ (rtv rfl rfl rfl)
/-- the part of an aisle that is added -/
def Cs (F : Nat → Int → Int) (fr : Int → Int) (A front back : Int) (s : Int) : Prop := F 2 s = A ∧ ((fr s = 1 ∧ front = 1) ∨ (fr s = 0 ∧ back = 1))
theorem m_addAisle (K : Int → Int) (c A upw front back : Int) (hI : SB X F) (hm : RB X F M G) (hu : upw = 0 ∨ upw = 1) (hfr : ∀ s, 0 ≤ s → s < X 6 → fr s = 0 ∨ fr s = 1) (hfb : (front = 0 ∨ front = 1) ∧ (back = 0 ∨ back = 1))
    (hK : ∀ s, 0 ≤ s → s < X 6 → lf s = 1 → Cs F fr A front back s → (upw = 1 → K s = c + F 3 s) ∧ (upw = 0 → K s = c - F 3 s)) (hLI : LI K X F n row lf)
    (h2 : ∀ s t, 0 ≤ s → s < X 6 → 0 ≤ t → t < X 6 → lf s = 1 → Cs F fr A front back s → lf t = 1 → ¬ Cs F fr A front back t → K s < K t) (hd : 2 ≤ d) :
    bE L xs d MX6_addAisle (0, [(0, bR 19), (1, bI A), (2, bI upw), (3, bI front), (4, bI back)], [], WD Y E (PM M n) (PG G row lf fr few co) O, a, b)
      (fun r => ∃ n' row' lf', r = (WD Y E (PM M n') (PG G row' lf' fr few co) O, .inl none, a, b) ∧ LI K X F n' row' lf' ∧ ∀ s, 0 ≤ s → s < X 6 → (lf' s = 1 ↔ lf s = 1 ∧ ¬ Cs F fr A front back s)) := by
  have hX := hI.1
  have hM := hm.1
  have main : ∀ (m : Nat) (n : Int) (row lf1 : Int → Int), LI K X F n row lf1 → itr (fun s acc => acc + lf1 s) 0 (X 6) = m → (∀ s, 0 ≤ s → s < X 6 → (lf1 s = 1 → lf s = 1) ∧ (lf s = 1 → ¬ Cs F fr A front back s → lf1 s = 1)) →
      bE L xs d MX6_addAisle (14, [(0, bR 19), (1, bI A), (2, bI upw), (3, bI front), (4, bI back), (5, bI 1), (6, bI (-1)), (7, bI 0)], [], WD Y E (PM M n) (PG G row lf1 fr few co) O, a, b)
      (fun r => ∃ n' row' lf', r = (WD Y E (PM M n') (PG G row' lf' fr few co) O, .inl none, a, b) ∧ LI K X F n' row' lf' ∧ ∀ s, 0 ≤ s → s < X 6 → (lf' s = 1 ↔ lf s = 1 ∧ ¬ Cs F fr A front back s)) := by
    intro m
    induction m with
    | zero | succ m ihm =>
      intro n row lf1 hLI hcnt hrel
      obtain ⟨⟨a0, a1⟩, a2, a3, a4, a5, a6, a7⟩ := hLI
      have hLI : LI K X F n row lf1 := ⟨⟨a0, a1⟩, a2, a3, a4, a5, a6, a7⟩
      refine for_up (P := fun s => ∀ nx, ((nx = -1 ∧ ∀ t, 0 ≤ t → t < s → ¬ (lf1 t = 1 ∧ Cs F fr A front back t)) ∨ (0 ≤ nx ∧ nx < s ∧ lf1 nx = 1 ∧ Cs F fr A front back nx ∧ ∀ t, 0 ≤ t → t < s → lf1 t = 1 → Cs F fr A front back t → t ≠ nx → lx K nx t)) →
        bE L xs d MX6_addAisle (14, [(0, bR 19), (1, bI A), (2, bI upw), (3, bI front), (4, bI back), (5, bI 1), (6, bI nx), (7, bI s)], [], WD Y E (PM M n) (PG G row lf1 fr few co) O, a, b)
        (fun r => ∃ n' row' lf', r = (WD Y E (PM M n') (PG G row' lf' fr few co) O, .inl none, a, b) ∧ LI K X F n' row' lf' ∧ ∀ s, 0 ≤ s → s < X 6 → (lf' s = 1 ↔ lf s = 1 ∧ ¬ Cs F fr A front back s))) (X 6) ?_ ?_ 0 (by omega) (by omega) (-1) (Or.inl ⟨rfl, fun t h0 h1 => by omega⟩)
      · intro nx hnx
        have hM6 : M 6 ≤ X 6 := by omega
        rcases hnx with ⟨e, hno⟩ | ⟨e0, e1, e2, e3, e4⟩
        · subst e
          refine go [] [0, 0, 0, 0] rfl ⟨hM6, rfl, rfl, rfl⟩ (rtv rfl rfl ⟨n, row, lf1, rfl, hLI, ?_⟩)
          intro s s0 s1
          exact ⟨fun h => ⟨(hrel s s0 s1).1 h, fun hc => hno s s0 s1 ⟨h, hc⟩⟩, fun h => (hrel s s0 s1).2 h.1 h.2⟩
        · have hroom := LI_room hLI e0 e1 e2
          have hne : ¬ nx = -1 := by omega
          first
          | (exfalso
             have := cnt_pos a2 e2 e0 e1
             omega)
          | (refine go [] [0, 1, 1] rfl ⟨hM6, hne, (by decide : ¬ (1 : Int) = 0), rfl⟩ (bc rfl hd (m_add nx (by omega) (by omega)) (fun h => by cases h) ?_)
             refine go [14] [1] rfl ⟨(by decide : ¬ (1 : Int) = 0), rfl⟩ (ihm (n + 1) (up row n nx) (up lf1 nx 0) (LI_add hLI e0 e1 e2 ?_) ?_ ?_)
             · intro t t0 t1 ht htn
               by_cases hc : Cs F fr A front back t
               · exact e4 t t0 t1 ht hc htn
               · exact Or.inl (h2 nx t e0 e1 t0 t1 ((hrel nx e0 e1).1 e2) e3 ((hrel t t0 t1).1 ht) hc)
             · rw [cnt_up e2 (X 6) (by omega), if_pos ⟨e1, e0⟩, hcnt]
               omega
             · intro t t0 t1
               by_cases htn : t = nx
               · subst htn
                 rw [up_eq]
                 exact ⟨fun h => by omega, fun _ h => absurd e3 h⟩
               · rw [up_ne _ htn]
                 exact hrel t t0 t1)
      · intro s s0 s1 ih nx hnx
        have hx : 0 ≤ s ∧ s < ((10 : Nat) : Int) := by omega
        have hs6 : s < M 6 := by omega
        have hr1 : -2147483648 ≤ s + 1 ∧ s + 1 ≤ 2147483647 := by omega
        obtain ⟨g1, g2, g3, g4⟩ := hm.2.2.1 s s0 s1
        have skip : ¬ (lf1 s = 1 ∧ Cs F fr A front back s) → bE L xs d MX6_addAisle (14, [(0, bR 19), (1, bI A), (2, bI upw), (3, bI front), (4, bI back), (5, bI 1), (6, bI nx), (7, bI (s + 1))], [], WD Y E (PM M n) (PG G row lf1 fr few co) O, a, b)
          (fun r => ∃ n' row' lf', r = (WD Y E (PM M n') (PG G row' lf' fr few co) O, .inl none, a, b) ∧ LI K X F n' row' lf' ∧ ∀ s, 0 ≤ s → s < X 6 → (lf' s = 1 ↔ lf s = 1 ∧ ¬ Cs F fr A front back s)) := by
          intro hns
          apply ih nx
          rcases hnx with ⟨e, hno⟩ | ⟨e0, e1, e2, e3, e4⟩
          · refine Or.inl ⟨e, fun t t0 t1 => ?_⟩
            by_cases hts : t = s
            · subst hts; exact hns
            · exact hno t t0 (by omega)
          · refine Or.inr ⟨e0, by omega, e2, e3, fun t t0 t1 ht hc htn => ?_⟩
            by_cases hts : t = s
            · subst hts; exact absurd ⟨ht, hc⟩ hns
            · exact e4 t t0 (by omega) ht hc htn
        by_cases c1 : lf1 s = 0
        · exact go [14] [1, 0] rfl ⟨hs6, hx, c1, hr1, rfl⟩ (skip (fun h => by omega))
        have c1' : lf1 s = 1 := by rcases a2 s s0 s1 with h | h; exact absurd h c1; exact h
        by_cases c2 : F 2 s = A
        · -- from 69 on it is one of the part
          have cont : Cs F fr A front back s → bE L xs d MX6_addAisle (69, [(0, bR 19), (1, bI A), (2, bI upw), (3, bI front), (4, bI back), (5, bI 1), (6, bI nx), (7, bI s)], [], WD Y E (PM M n) (PG G row lf1 fr few co) O, a, b)
            (fun r => ∃ n' row' lf', r = (WD Y E (PM M n') (PG G row' lf' fr few co) O, .inl none, a, b) ∧ LI K X F n' row' lf' ∧ ∀ s, 0 ≤ s → s < X 6 → (lf' s = 1 ↔ lf s = 1 ∧ ¬ Cs F fr A front back s)) := by
            intro hc
            have ks := hK s s0 s1 ((hrel s s0 s1).1 c1') hc
            rcases hnx with ⟨e, hno⟩ | ⟨e0, e1, e2, e3, e4⟩
            · subst e
              refine go [14] [0] rfl ⟨rfl, hr1, rfl⟩ (ih s (Or.inr ⟨s0, by omega, c1', hc, fun t t0 t1 ht hct htn => ?_⟩))
              exact absurd ⟨ht, hct⟩ (hno t t0 (by omega))
            · have hne : ¬ nx = -1 := by omega
              have kn := hK nx e0 (by omega) ((hrel nx e0 (by omega)).1 e2) e3
              have hxn : 0 ≤ nx ∧ nx < ((10 : Nat) : Int) := by omega
              obtain ⟨q1, q2, q3, q4⟩ := hm.2.2.1 nx e0 (by omega)
              by_cases hlt : K s < K nx
              · have set := ih s (Or.inr ⟨s0, by omega, c1', hc, fun t t0 t1 ht hct htn => by
                  by_cases htx : t = nx
                  · subst htx; exact Or.inl hlt
                  · rcases e4 t t0 (by omega) ht hct htx with h | h
                    · exact Or.inl (by omega)
                    · exact Or.inl (by omega)⟩)
                rcases hu with u | u
                · have k1 := ks.2 u
                  have k2 := kn.2 u
                  exact go [14] [1, 0, 1] rfl ⟨hne, u, hx, hxn, (show G 2 nx < G 2 s by omega), hr1, rfl⟩ set
                · have k1 := ks.1 u
                  have k2 := kn.1 u
                  exact go [14] [1, 1, 1] rfl ⟨hne, (show ¬ upw = 0 by omega), hx, hxn, (show G 2 s < G 2 nx by omega), hr1, rfl⟩ set
              · have keep := ih nx (Or.inr ⟨e0, by omega, e2, e3, fun t t0 t1 ht hct htn => by
                  by_cases hts : t = s
                  · subst hts
                    by_cases heq : K nx = K t
                    · exact Or.inr ⟨heq, e1⟩
                    · exact Or.inl (by omega)
                  · exact e4 t t0 (by omega) ht hct htn⟩)
                rcases hu with u | u
                · have k1 := ks.2 u
                  have k2 := kn.2 u
                  exact go [14] [1, 0, 0] rfl ⟨hne, u, hx, hxn, (show G 2 s ≤ G 2 nx by omega), hr1, rfl⟩ keep
                · have k1 := ks.1 u
                  have k2 := kn.1 u
                  exact go [14] [1, 1, 0] rfl ⟨hne, (show ¬ upw = 0 by omega), hx, hxn, (show G 2 nx ≤ G 2 s by omega), hr1, rfl⟩ keep
          have g1A : G 1 s = A := by omega
          rcases hfr s s0 s1 with f0 | f1
          · by_cases hb : back = 0
            · exact go [14] [1, 1, 1, 0, 1] rfl ⟨hs6, hx, c1, hx, g1A, hx, f0, hb, hr1, rfl⟩ (skip (fun h => by rcases h.2.2 with q | q <;> omega))
            · exact go [69] [1, 1, 1, 0, 0] rfl ⟨hs6, hx, c1, hx, g1A, hx, f0, hb⟩ (cont ⟨c2, Or.inr ⟨f0, by omega⟩⟩)
          · have f1' : ¬ fr s = 0 := by omega
            by_cases hb : front = 0
            · exact go [14] [1, 1, 1, 1, 0] rfl ⟨hs6, hx, c1, hx, g1A, hx, f1', hb, hr1, rfl⟩ (skip (fun h => by rcases h.2.2 with q | q <;> omega))
            · exact go [69] [1, 1, 1, 1, 1] rfl ⟨hs6, hx, c1, hx, g1A, hx, f1', hb, rfl⟩ (cont ⟨c2, Or.inl ⟨f1, by omega⟩⟩)
        · exact go [14] [1, 1, 0] rfl ⟨hs6, hx, c1, hx, (show ¬ G 1 s = A by omega), hr1, rfl⟩ (skip (fun h => c2 h.2.1))
  have hc := cnt_br (g := lf) hLI.2.1 (X 6) (by omega) (Int.le_refl _)
  exact go [14] [1] rfl ⟨(by decide : ¬ (1 : Int) = 0), rfl⟩ (main (itr (fun s acc => acc + lf s) 0 (X 6)).toNat n row lf hLI (by omega) (fun s _ _ => ⟨fun h => h, fun h _ => h⟩))
end A1
end
section
/-! The class's planner: keys -/
/-- is an aisle used by stops that are walked -/
def usN (F : Nat → Int → Int) (A n : Int) : Int := itr (fun s acc => if wk F s = 1 ∧ F 2 s = A then 1 else acc) 0 n
def us (X : Nat → Int) (F : Nat → Int → Int) (A : Int) : Int := usN F A (X 6)
theorem usN_0 {F : Nat → Int → Int} {A n : Int} (hn : 0 ≤ n) (h : ∀ s, 0 ≤ s → s < n → ¬ (wk F s = 1 ∧ F 2 s = A)) : usN F A n = 0 := by
  refine itr_ind (P := fun _ z => z = 0) (n := n) rfl ?_ n hn (Int.le_refl _)
  intro i z h0 h1 hz
  rw [if_neg (h i h0 h1)]
  exact hz
theorem usN_1 {F : Nat → Int → Int} {A n s : Int} (h0 : 0 ≤ s) (h1 : s < n) (h : wk F s = 1 ∧ F 2 s = A) : usN F A n = 1 := by
  have := itr_ind (g := fun s acc => if wk F s = 1 ∧ F 2 s = A then 1 else acc) (a0 := (0 : Int)) (P := fun i z => s < i → z = 1) (n := n) (fun q => by omega) ?_ n (by omega) (Int.le_refl _)
  · exact this h1
  · intro i z i0 i1 hz hs
    by_cases hi : i = s
    · subst hi
      rw [if_pos h]
    · by_cases hc : wk F i = 1 ∧ F 2 i = A
      · rw [if_pos hc]
      · rw [if_neg hc]; exact hz (by omega)
theorem us_01 {X : Nat → Int} {F : Nat → Int → Int} (A : Int) (hn : 0 ≤ X 6) : us X F A = 0 ∨ us X F A = 1 := by
  refine itr_ind (P := fun _ z => z = 0 ∨ z = 1) (n := X 6) (Or.inl rfl) ?_ (X 6) hn (Int.le_refl _)
  intro i z h0 h1 hz
  split
  · exact Or.inr rfl
  · exact hz
theorem us_ex {X : Nat → Int} {F : Nat → Int → Int} {A : Int} (hn : 0 ≤ X 6) (h : us X F A = 1) : ∃ s, 0 ≤ s ∧ s < X 6 ∧ wk F s = 1 ∧ F 2 s = A := by
  by_cases hx : ∃ s, 0 ≤ s ∧ s < X 6 ∧ wk F s = 1 ∧ F 2 s = A
  · exact hx
  · have : us X F A = 0 := usN_0 hn (fun s h0 h1 hs => hx ⟨s, h0, h1, hs.1, hs.2⟩)
    omega
def nU (X : Nat → Int) (F : Nat → Int → Int) (A : Int) : Int := itr (fun k acc => acc + us X F k) 0 A
theorem nU_b {X : Nat → Int} {F : Nat → Int → Int} (hn : 0 ≤ X 6) (A : Int) (h : 0 ≤ A) : 0 ≤ nU X F A ∧ nU X F A ≤ A := cnt_b (g := us X F) (fun k => us_01 k hn) A A h (Int.le_refl _)
/-- is an aisle above it used -/
def uab (X : Nat → Int) (F : Nat → Int → Int) (A : Int) : Int := itr (fun k acc => if A < k ∧ us X F k = 1 then 1 else acc) 0 (X 4)
theorem uab_0 {X : Nat → Int} {F : Nat → Int → Int} {A : Int} (hn : 0 ≤ X 4) (h : ∀ k, A < k → k < X 4 → ¬ us X F k = 1) : uab X F A = 0 := by
  refine itr_ind (P := fun _ z => z = 0) (n := X 4) rfl ?_ (X 4) hn (Int.le_refl _)
  intro i z h0 h1 hz
  rw [if_neg (fun q => h i q.1 h1 q.2)]
  exact hz
theorem uab_1 {X : Nat → Int} {F : Nat → Int → Int} {A k : Int} (hA : 0 ≤ A) (h0 : A < k) (h1 : k < X 4) (h : us X F k = 1) : uab X F A = 1 := by
  have := itr_ind (g := fun k acc => if A < k ∧ us X F k = 1 then 1 else acc) (a0 := (0 : Int)) (P := fun i z => k < i → z = 1) (n := X 4) (fun q => by omega) ?_ (X 4) (by omega) (Int.le_refl _)
  · exact this h1
  · intro i z i0 i1 hz hs
    by_cases hi : i = k
    · subst hi
      rw [if_pos ⟨h0, h⟩]
    · by_cases hc : A < i ∧ us X F i = 1
      · rw [if_pos hc]
      · rw [if_neg hc]; exact hz (by omega)
/-- the next depth of an aisle's stops, or the back -/
def nxN (X : Nat → Int) (F : Nat → Int → Int) (A D n : Int) : Int := itr (fun s acc => if wk F s = 1 ∧ F 2 s = A ∧ D < F 4 s then min acc (F 4 s) else acc) (11 * X 5) n
def nx (X : Nat → Int) (F : Nat → Int → Int) (A D : Int) : Int := nxN X F A D (X 6)
/-- gaps one by one: where the greatest began, how great, where we are -/
def gst (X : Nat → Int) (F : Nat → Int → Int) (A : Int) (q : Int × Int × Int) : Int × Int × Int := if q.2.1 < nx X F A q.2.2 - q.2.2 then (q.2.2, nx X F A q.2.2 - q.2.2, nx X F A q.2.2) else (q.1, q.2.1, nx X F A q.2.2)
def gsN (X : Nat → Int) (F : Nat → Int → Int) (A k : Int) : Int × Int × Int := itr (fun _ q => gst X F A q) (0, 0, 0) k
def gs (X : Nat → Int) (F : Nat → Int → Int) (A : Int) : Int := (gsN X F A (X 6 + 1)).1
def upk (F : Nat → Int → Int) (leg s : Int) : Int := leg * 30 + F 3 s
def dnk (F : Nat → Int → Int) (leg s : Int) : Int := leg * 30 + 30 - 1 - F 3 s
def K0 (X : Nat → Int) (F : Nat → Int → Int) (s : Int) : Int := if nU X F (F 2 s) % 2 = 0 then upk F (F 2 s) s else dnk F (F 2 s) s
def K1 (F : Nat → Int → Int) (s : Int) : Int := upk F (F 2 s) s
def K2 (X : Nat → Int) (F : Nat → Int → Int) (s : Int) : Int := if nU X F (F 2 s) = 0 then upk F 0 s else if uab X F (F 2 s) = 0 then dnk F 8 s else if gs X F (F 2 s) < F 4 s then dnk F (F 2 s) s else upk F (16 - F 2 s) s
def KK (kind : Int) (X : Nat → Int) (F : Nat → Int → Int) (s : Int) : Int := if kind = 2 then K2 X F s else if kind = 1 then K1 F s else K0 X F s
theorem nxN_b {X : Nat → Int} {F : Nat → Int → Int} (h : SB X F) (A D : Int) (hD : 0 ≤ D ∧ D ≤ 11 * X 5) : ∀ i, 0 ≤ i → i ≤ X 6 → D ≤ nxN X F A D i ∧ nxN X F A D i ≤ 11 * X 5 := by
  refine itr_ind (P := fun i z => D ≤ z ∧ z ≤ 11 * X 5) ⟨by omega, by omega⟩ ?_
  intro i z i0 i1 hz
  split
  · next hc => omega
  · exact hz
theorem gsN_b {X : Nat → Int} {F : Nat → Int → Int} (h : SB X F) (A : Int) : ∀ k, 0 ≤ k → k ≤ X 6 + 1 → 0 ≤ (gsN X F A k).1 ∧ (gsN X F A k).1 ≤ 33 ∧ 0 ≤ (gsN X F A k).2.1 ∧ (gsN X F A k).2.1 ≤ 33 ∧ 0 ≤ (gsN X F A k).2.2 ∧ (gsN X F A k).2.2 ≤ 11 * X 5 := by
  have hX := h.1
  refine itr_ind (P := fun i (z : Int × Int × Int) => 0 ≤ z.1 ∧ z.1 ≤ 33 ∧ 0 ≤ z.2.1 ∧ z.2.1 ≤ 33 ∧ 0 ≤ z.2.2 ∧ z.2.2 ≤ 11 * X 5) ⟨by simp, by simp, by simp, by simp, by simp, by simp only; omega⟩ ?_
  intro i z i0 i1 ⟨z1, z2, z3, z4, z5, z6⟩
  have hn := nxN_b h A z.2.2 ⟨z5, z6⟩ (X 6) (by omega) (Int.le_refl _)
  unfold gst nx
  split
  · exact ⟨by simp only; omega, by simp only; omega, by simp only; omega, by simp only; omega, by simp only; omega, by simp only; omega⟩
  · exact ⟨by simp only; omega, by simp only; omega, by simp only; omega, by simp only; omega, by simp only; omega, by simp only; omega⟩
section P1
variable {L : Nat} {xs : Nat → Int32} {X M : Nat → Int} {F G : Nat → Int → Int} {O : Int → Int} {d a b : Nat} {Q : BR → Prop}
theorem t_isUsed (hI : SB X F) (hw : ∀ s, 0 ≤ s → s < X 6 → F 9 s = wk F s) (A : Int) : bE L xs d MX2_isUsed (0, [(0, bR 13), (1, bI A)], [], WD X F M G O, a, b) (rI (WD X F M G O) (us X F A) a b) := by
  have hX := hI.1
  refine go [2] [] rfl rfl (for_up (P := fun s => (∀ t, 0 ≤ t → t < s → ¬ (wk F t = 1 ∧ F 2 t = A)) → bE L xs d MX2_isUsed (2, [(0, bR 13), (1, bI A), (2, bI s)], [], WD X F M G O, a, b) (rI (WD X F M G O) (us X F A) a b)) (X 6) ?_ ?_ 0 (by omega) (by omega) (fun t h0 h1 => by omega))
  · intro hno
    have e : us X F A = 0 := usN_0 (by omega) hno
    rw [e]
    exact go [] [0] rfl (by omega) (rtb rfl rfl (Or.inl rfl) rfl)
  · intro s s0 s1 ih hno
    have w := hw s s0 s1
    have nxt : ¬ (wk F s = 1 ∧ F 2 s = A) → bE L xs d MX2_isUsed (2, [(0, bR 13), (1, bI A), (2, bI (s + 1))], [], WD X F M G O, a, b) (rI (WD X F M G O) (us X F A) a b) := fun hn => ih (fun t t0 t1 => by
      by_cases ht : t = s
      · subst ht; exact hn
      · exact hno t t0 (by omega))
    rcases wk_01 F s with h | h
    · exact go [2] [1, 0] rfl (by omega) (nxt (fun q => by omega))
    · by_cases hA : F 2 s = A
      · have e : us X F A = 1 := usN_1 s0 s1 ⟨h, hA⟩
        rw [e]
        exact go [] [1, 1, 1] rfl (by omega) (rtb rfl rfl (Or.inr rfl) rfl)
      · exact go [2] [1, 1, 0] rfl (by omega) (nxt (fun q => hA q.2))
theorem t_usedAislesBelow (hI : SB X F) (hw : ∀ s, 0 ≤ s → s < X 6 → F 9 s = wk F s) (A : Int) (hA : 0 ≤ A ∧ A ≤ 8) (hd : 2 ≤ d) : bE L xs d MX2_usedAislesBelow (0, [(0, bR 13), (1, bI A)], [], WD X F M G O, a, b) (rI (WD X F M G O) (nU X F A) a b) := by
  have hX := hI.1
  refine go [4] [] rfl rfl (for_up (P := fun k => bE L xs d MX2_usedAislesBelow (4, [(0, bR 13), (1, bI A), (2, bI (nU X F k)), (3, bI k)], [], WD X F M G O, a, b) (rI (WD X F M G O) (nU X F A) a b)) A ?_ ?_ 0 (by omega) (by omega))
  · exact go [] [0] rfl (by omega) (rti rfl rfl rfl)
  · intro k k0 k1 ih
    have e : nU X F (k + 1) = nU X F k + us X F k := itr_s _ _ k0
    have hb := nU_b (X := X) (F := F) (by omega) k k0
    refine go [] [1] rfl (by omega) (bc rfl hd (t_isUsed hI hw k) (fun h => by cases h) ?_)
    rcases us_01 (X := X) (F := F) k (by omega) with h | h
    · rw [e, h, Int.add_zero] at ih
      rw [h]
      exact go [4] [0] rfl (by omega) ih
    · rw [e, h] at ih
      rw [h]
      exact go [4] [1] rfl (by omega) ih
theorem t_isUsedAbove (hI : SB X F) (hw : ∀ s, 0 ≤ s → s < X 6 → F 9 s = wk F s) (A : Int) (hA : 0 ≤ A ∧ A < X 4) (hd : 2 ≤ d) : bE L xs d MX2_isUsedAbove (0, [(0, bR 13), (1, bI A)], [], WD X F M G O, a, b) (rI (WD X F M G O) (uab X F A) a b) := by
  have hX := hI.1
  refine go [4] [] rfl (by omega) (for_up (P := fun k => A < k → (∀ j, A < j → j < k → ¬ us X F j = 1) → bE L xs d MX2_isUsedAbove (4, [(0, bR 13), (1, bI A), (2, bI k)], [], WD X F M G O, a, b) (rI (WD X F M G O) (uab X F A) a b)) (X 4) ?_ ?_ (A + 1) (by omega) (by omega) (by omega) (fun j h0 h1 => by omega))
  · intro _ hno
    have e : uab X F A = 0 := uab_0 (by omega) hno
    rw [e]
    exact go [] [0] rfl (by omega) (rtb rfl rfl (Or.inl rfl) rfl)
  · intro k k0 k1 ih hAk hno
    refine go [] [1] rfl (by omega) (bc rfl hd (t_isUsed hI hw k) (fun h => by cases h) ?_)
    rcases us_01 (X := X) (F := F) k (by omega) with h | h
    · rw [h]
      exact go [4] [0] rfl (by omega) (ih (by omega) (fun j j0 j1 => by
        by_cases hj : j = k
        · subst hj; omega
        · exact hno j j0 (by omega)))
    · have e : uab X F A = 1 := uab_1 hA.1 hAk k1 h
      rw [h, e]
      exact go [] [1] rfl (by omega) (rtb rfl rfl (Or.inr rfl) rfl)
theorem t_upward (hI : SB X F) (leg s : Int) (hl : 0 ≤ leg ∧ leg ≤ 16) (h0 : 0 ≤ s) (h1 : s < X 6) : bE L xs d MX2_upward (0, [(0, bR 13), (1, bI leg), (2, bI s)], [], WD X F M G O, a, b) (rI (WD X F M G O) (upk F leg s) a b) := by
  have hX := hI.1
  have hs := hI.2.1 s h0 h1
  exact go [] [] rfl (by omega) (rti rfl rfl rfl)
theorem t_downward (hI : SB X F) (leg s : Int) (hl : 0 ≤ leg ∧ leg ≤ 16) (h0 : 0 ≤ s) (h1 : s < X 6) : bE L xs d MX2_downward (0, [(0, bR 13), (1, bI leg), (2, bI s)], [], WD X F M G O, a, b) (rI (WD X F M G O) (dnk F leg s) a b) := by
  have hX := hI.1
  have hs := hI.2.1 s h0 h1
  exact go [] [] rfl (by omega) (rti rfl rfl rfl)
theorem t_throughKey (hI : SB X F) (hw : ∀ s, 0 ≤ s → s < X 6 → F 9 s = wk F s) (s : Int) (h0 : 0 ≤ s) (h1 : s < X 6) (hd : 3 ≤ d) : bE L xs d MX2_throughKey (0, [(0, bR 13), (1, bI s)], [], WD X F M G O, a, b) (rI (WD X F M G O) (K0 X F s) a b) := by
  have hX := hI.1
  have hs := hI.2.1 s h0 h1
  have hb := nU_b (X := X) (F := F) (by omega) (F 2 s) hs.1
  refine go [] [] rfl (by omega) (bc rfl (by omega) (t_usedAislesBelow hI hw (F 2 s) (by omega) (by omega)) (fun h => by cases h) ?_)
  unfold K0
  by_cases h : nU X F (F 2 s) % 2 = 0
  · rw [if_pos h]
    refine go [] [1, 1] rfl (by omega) (bc rfl (by omega) (t_upward hI (F 2 s) s (by omega) h0 h1) (fun h => by cases h) ?_)
    exact go [] [] rfl rfl (rti rfl rfl rfl)
  · rw [if_neg h]
    refine go [] [0, 0] rfl (by omega) (bc rfl (by omega) (t_downward hI (F 2 s) s (by omega) h0 h1) (fun h => by cases h) ?_)
    exact rti rfl rfl rfl
theorem t_nextDepth (hI : SB X F) (hw : ∀ s, 0 ≤ s → s < X 6 → F 9 s = wk F s) (A D : Int) (hD : 0 ≤ D ∧ D ≤ 11 * X 5) (hd : 2 ≤ d) : bE L xs d MX2_nextDepth (0, [(0, bR 13), (1, bI A), (2, bI D)], [], WD X F M G O, a, b) (rI (WD X F M G O) (nx X F A D) a b) := by
  have hX := hI.1
  refine go [] [] rfl rfl (bc rfl hd (t_backDepth hI) (fun h => by cases h) ?_)
  refine go [11] [] rfl rfl (for_up (P := fun s => bE L xs d MX2_nextDepth (11, [(0, bR 13), (1, bI A), (2, bI D), (3, bI (nxN X F A D s)), (4, bI s)], [], WD X F M G O, a, b) (rI (WD X F M G O) (nx X F A D) a b)) (X 6) ?_ ?_ 0 (by omega) (by omega))
  · exact go [] [0] rfl (by omega) (rti rfl rfl rfl)
  · intro s s0 s1 ih
    have w := hw s s0 s1
    have e : nxN X F A D (s + 1) = if wk F s = 1 ∧ F 2 s = A ∧ D < F 4 s then min (nxN X F A D s) (F 4 s) else nxN X F A D s := itr_s _ _ s0
    have hb := nxN_b hI A D hD s s0 (by omega)
    rcases wk_01 F s with h | h
    · rw [e, if_neg (by omega)] at ih
      exact go [11] [1, 0] rfl (by omega) ih
    · by_cases hA : F 2 s = A
      · by_cases hlt : D < F 4 s
        · rw [e, if_pos ⟨h, hA, hlt⟩] at ih
          exact go [11] [1, 1, 1, 1] rfl (by omega) ih
        · rw [e, if_neg (fun q => hlt q.2.2)] at ih
          exact go [11] [1, 1, 1, 0] rfl (by omega) ih
      · rw [e, if_neg (fun q => hA q.2.1)] at ih
        exact go [11] [1, 1, 0] rfl (by omega) ih
theorem t_gapStart (hI : SB X F) (hw : ∀ s, 0 ≤ s → s < X 6 → F 9 s = wk F s) (A : Int) (hd : 3 ≤ d) : bE L xs d MX2_gapStart (0, [(0, bR 13), (1, bI A)], [], WD X F M G O, a, b) (rI (WD X F M G O) (gs X F A) a b) := by
  have hX := hI.1
  have key := for_up (P := fun k => ∀ ls : BL, (ls = [(0, bR 13), (1, bI A), (2, bI (gsN X F A k).1), (3, bI (gsN X F A k).2.1), (4, bI (gsN X F A k).2.2), (5, bI k)] ∨ ∃ t, ls = [(0, bR 13), (1, bI A), (2, bI (gsN X F A k).1), (3, bI (gsN X F A k).2.1), (4, bI (gsN X F A k).2.2), (5, bI k), (6, bI t)]) →
      bE L xs d MX2_gapStart (10, ls, [], WD X F M G O, a, b) (rI (WD X F M G O) (gs X F A) a b)) (X 6 + 1) ?_ ?_ 0 (by omega) (by omega)
  · exact go [10] [] rfl rfl (key _ (Or.inl rfl))
  · intro ls hls
    rcases hls with rfl | ⟨t, rfl⟩
    · exact go [] [0] rfl (by omega) (rti rfl rfl rfl)
    · exact go [] [0] rfl (by omega) (rti rfl rfl rfl)
  · intro k k0 k1 ih ls hls
    obtain ⟨z1, z2, z3, z4, z5, z6⟩ := gsN_b hI A k k0 (by omega)
    have e : gsN X F A (k + 1) = gst X F A (gsN X F A k) := itr_s _ _ k0
    have hb := nxN_b hI A _ ⟨z5, z6⟩ (X 6) (by omega) (Int.le_refl _)
    have hb2 : (gsN X F A k).2.2 ≤ nx X F A (gsN X F A k).2.2 ∧ nx X F A (gsN X F A k).2.2 ≤ 11 * X 5 := hb
    rw [e] at ih
    unfold gst at ih
    rcases hls with rfl | ⟨t, rfl⟩
    all_goals
      refine go [] [1] rfl (by omega) (bc rfl (by omega) (t_nextDepth hI hw A _ ⟨z5, z6⟩ (by omega)) (fun h => by cases h) ?_)
      by_cases hlt : (gsN X F A k).2.1 < nx X F A (gsN X F A k).2.2 - (gsN X F A k).2.2
      · rw [if_pos hlt] at ih
        exact go [10] [1] rfl (by omega) (ih _ (Or.inr ⟨_, rfl⟩))
      · rw [if_neg hlt] at ih
        exact go [10] [0] rfl (by omega) (ih _ (Or.inr ⟨_, rfl⟩))
theorem t_gapKey (hI : SB X F) (hw : ∀ s, 0 ≤ s → s < X 6 → F 9 s = wk F s) (s : Int) (h0 : 0 ≤ s) (h1 : s < X 6) (hd : 4 ≤ d) : bE L xs d MX2_gapKey (0, [(0, bR 13), (1, bI s)], [], WD X F M G O, a, b) (rI (WD X F M G O) (K2 X F s) a b) := by
  have hX := hI.1
  have hs := hI.2.1 s h0 h1
  refine go [] [] rfl (by omega) (bc rfl (by omega) (t_usedAislesBelow hI hw (F 2 s) (by omega) (by omega)) (fun h => by cases h) ?_)
  unfold K2
  by_cases h : nU X F (F 2 s) = 0
  · rw [if_pos h]
    refine go [] [1] rfl (by omega) (bc rfl (by omega) (t_upward hI 0 s (by omega) h0 h1) (fun h => by cases h) ?_)
    exact rti rfl rfl rfl
  · rw [if_neg h]
    refine go [] [0] rfl (by omega) (bc rfl (by omega) (t_isUsedAbove hI hw (F 2 s) (by omega) (by omega)) (fun h => by cases h) ?_)
    by_cases h2 : uab X F (F 2 s) = 0
    · rw [if_pos h2]
      refine go [] [1] rfl (by omega) (bc rfl (by omega) (t_downward hI 8 s (by omega) h0 h1) (fun h => by cases h) ?_)
      exact rti rfl rfl rfl
    · rw [if_neg h2]
      refine go [] [0] rfl (by omega) (bc rfl (by omega) (t_gapStart hI hw (F 2 s) (by omega)) (fun h => by cases h) ?_)
      by_cases h3 : gs X F (F 2 s) < F 4 s
      · rw [if_pos h3]
        refine go [] [1] rfl (by omega) (bc rfl (by omega) (t_downward hI (F 2 s) s (by omega) h0 h1) (fun h => by cases h) ?_)
        exact rti rfl rfl rfl
      · rw [if_neg h3]
        refine go [] [0] rfl (by omega) (bc rfl (by omega) (t_upward hI (16 - F 2 s) s (by omega) h0 h1) (fun h => by cases h) ?_)
        exact rti rfl rfl rfl
theorem t_keyOf (hI : SB X F) (hw : ∀ s, 0 ≤ s → s < X 6 → F 9 s = wk F s) (kind s : Int) (hk : 0 ≤ kind ∧ kind ≤ 2) (h0 : 0 ≤ s) (h1 : s < X 6) (hd : 5 ≤ d) : bE L xs d MX2_keyOf (0, [(0, bR 13), (1, bI kind), (2, bI s)], [], WD X F M G O, a, b) (rI (WD X F M G O) (KK kind X F s) a b) := by
  have hX := hI.1
  have hs := hI.2.1 s h0 h1
  have hq : kind = 0 ∨ kind = 1 ∨ kind = 2 := by omega
  rcases hq with rfl | rfl | rfl
  · refine go [] [0] rfl ⟨(by decide), rfl⟩ (bc rfl (by omega) (t_throughKey hI hw s h0 h1 (by omega)) (fun h => by cases h) ?_)
    exact rti rfl rfl rfl
  · refine go [] [1] rfl ⟨(by decide), (by omega), rfl⟩ (bc rfl (by omega) (t_upward hI (F 2 s) s (by omega) h0 h1) (fun h => by cases h) ?_)
    exact rti rfl rfl rfl
  · refine go [] [2] rfl ⟨(by decide), rfl⟩ (bc rfl (by omega) (t_gapKey hI hw s h0 h1 (by omega)) (fun h => by cases h) ?_)
    exact rti rfl rfl rfl
end P1
end
section
/-! The class's row: a stop comes in; walks by keys -/
def PX (X : Nat → Int) (n l : Int) : Nat → Int := un (un X 3 n) 7 l
def PF (F : Nat → Int → Int) (row keys wt mem rs : Int → Int) : Nat → Int → Int := un (un (un (un (un F 0 row) 8 keys) 9 wt) 10 mem) 11 rs
def ins (row : Int → Int) (k s : Int) : Int → Int := fun j => if j < k then row j else if j = k then s else row (j - 1)
section P2
variable {L : Nat} {xs : Nat → Int32} {X M : Nat → Int} {F G : Nat → Int → Int} {O : Int → Int} {d a b : Nat} {Q : BR → Prop} {row keys wt mem rs : Int → Int} {n l : Int}
theorem t_insert (k s : Int) (hn : 0 ≤ n ∧ n < 10) (hk : 0 ≤ k ∧ k ≤ n) : bE L xs d MX3_insert (0, [(0, bR 2), (1, bI k), (2, bI s)], [], WD (PX X n l) (PF F row keys wt mem rs) M G O, a, b)
    (fun r => ∃ row', r = (WD (PX X (n + 1) l) (PF F row' keys wt mem rs) M G O, .inl none, a, b) ∧ ∀ j, 0 ≤ j → j < n + 1 → row' j = ins row k s j) := by
  have main := for_down (P := fun i => k ≤ i → i ≤ n → ∀ V : Int → Int, (∀ j, 0 ≤ j → j < i → V j = row j) → (∀ j, i < j → j ≤ n → V j = row (j - 1)) →
      bE L xs d MX3_insert (18, [(0, bR 2), (1, bI k), (2, bI s), (3, bI i)], [], WD (PX X n l) (PF F V keys wt mem rs) M G O, a, b)
      (fun r => ∃ row', r = (WD (PX X (n + 1) l) (PF F row' keys wt mem rs) M G O, .inl none, a, b) ∧ ∀ j, 0 ≤ j → j < n + 1 → row' j = ins row k s j)) (fun h => by omega) ?_ n (by omega) (by omega) (by omega) row (fun j _ _ => rfl) (fun j h0 h1 => by omega)
  · exact go [18] [0] rfl ⟨(show n < ((10 : Nat) : Int) by omega), rfl⟩ main
  · intro i i0 ih hki hin V g1 g2
    by_cases he : i = k
    · subst he
      refine go [] [0] rfl ⟨Int.le_refl _, (show 0 ≤ i ∧ i < ((10 : Nat) : Int) by omega), (show -2147483648 ≤ n + 1 ∧ n + 1 ≤ 2147483647 by omega), rfl⟩ (rtv rfl rfl ⟨up V i s, rfl, ?_⟩)
      intro j j0 j1
      unfold ins
      by_cases hj : j < i
      · rw [if_pos hj, up_ne _ (by omega)]; exact g1 j j0 hj
      · rw [if_neg hj]
        by_cases hj2 : j = i
        · rw [if_pos hj2, hj2, up_eq]
        · rw [if_neg hj2, up_ne _ hj2]; exact g2 j (by omega) (by omega)
    · refine go [18] [1] rfl ⟨(show k < i by omega), (show -2147483648 ≤ i - 1 ∧ i - 1 ≤ 2147483647 by omega), (show 0 ≤ i - 1 ∧ i - 1 < ((10 : Nat) : Int) by omega), (show 0 ≤ i ∧ i < ((10 : Nat) : Int) by omega), (show -2147483648 ≤ i - 1 ∧ i - 1 ≤ 2147483647 by omega), rfl⟩ (ih (by omega) (by omega) (up V i (V (i - 1))) ?_ ?_)
      · intro j j0 j1
        rw [up_ne _ (by omega)]; exact g1 j j0 (by omega)
      · intro j j0 j1
        by_cases hj : j = i
        · subst hj
          rw [up_eq]; exact g1 (j - 1) (by omega) (by omega)
        · rw [up_ne _ hj]; exact g2 j (by omega) j1
theorem t_append (s : Int) (hn : 0 ≤ n ∧ n < 10) (hd : 2 ≤ d) : bE L xs d MX3_append (0, [(0, bR 2), (1, bI s)], [], WD (PX X n l) (PF F row keys wt mem rs) M G O, a, b)
    (fun r => ∃ row', r = (WD (PX X (n + 1) l) (PF F row' keys wt mem rs) M G O, .inl none, a, b) ∧ ∀ j, 0 ≤ j → j < n + 1 → row' j = up row n s j) := by
  refine go [] [] rfl rfl (bcall rfl hd (t_insert n s hn (by omega)) ?_)
  rintro r ⟨row', rfl, h⟩
  refine ⟨_, _, _, _, rfl, (fun h => by cases h), rtv rfl rfl ⟨row', rfl, fun j j0 j1 => ?_⟩⟩
  rw [h j j0 j1]
  unfold ins
  by_cases hj : j < n
  · rw [if_pos hj, up_ne _ (by omega)]
  · rw [if_neg hj, if_pos (by omega), show j = n by omega, up_eq]
/-- the class's row as stops come in by number -/
def IR (K : Int → Int) (F : Nat → Int → Int) (s n : Int) (row keys : Int → Int) : Prop :=
  n = nW F s ∧ (∀ i, 0 ≤ i → i < n → 0 ≤ row i ∧ row i < s ∧ wk F (row i) = 1 ∧ keys (row i) = K (row i)) ∧ (∀ t, 0 ≤ t → t < s → wk F t = 1 → ∃ i, 0 ≤ i ∧ i < n ∧ row i = t) ∧ (∀ i j, 0 ≤ i → i < j → j < n → lx K (row i) (row j))
theorem IR_in {K : Int → Int} {F : Nat → Int → Int} {s n : Int} {row keys row' : Int → Int} (h : IR K F s n row keys) (hs : 0 ≤ s) (hw : wk F s = 1) {k : Int} (hk : 0 ≤ k ∧ k ≤ n) (h1 : ∀ i, 0 ≤ i → i < k → K (row i) ≤ K s) (h2 : ∀ i, k ≤ i → i < n → K s < K (row i))
    (hrow : ∀ j, 0 ≤ j → j < n + 1 → row' j = ins row k s j) : IR K F (s + 1) (n + 1) row' (up keys s (K s)) := by
  obtain ⟨a1, a2, a3, a4⟩ := h
  have e : nW F (s + 1) = nW F s + wk F s := itr_s _ _ hs
  refine ⟨by rw [e, hw, a1], ?_, ?_, ?_⟩
  · intro i i0 i1
    rw [hrow i i0 i1]
    unfold ins
    by_cases c1 : i < k
    · rw [if_pos c1]
      obtain ⟨q1, q2, q3, q4⟩ := a2 i i0 (by omega)
      exact ⟨q1, by omega, q3, by rw [up_ne _ (by omega)]; exact q4⟩
    · rw [if_neg c1]
      by_cases c2 : i = k
      · rw [if_pos c2]
        exact ⟨hs, by omega, hw, up_eq _ _ _⟩
      · rw [if_neg c2]
        obtain ⟨q1, q2, q3, q4⟩ := a2 (i - 1) (by omega) (by omega)
        exact ⟨q1, by omega, q3, by rw [up_ne _ (by omega)]; exact q4⟩
  · intro t t0 t1 ht
    by_cases hts : t = s
    · refine ⟨k, hk.1, by omega, ?_⟩
      rw [hrow k hk.1 (by omega)]
      unfold ins
      rw [if_neg (by omega), if_pos rfl, hts]
    · obtain ⟨i, i0, i1, i2⟩ := a3 t t0 (by omega) ht
      by_cases c1 : i < k
      · refine ⟨i, i0, by omega, ?_⟩
        rw [hrow i i0 (by omega)]
        unfold ins
        rw [if_pos c1]; exact i2
      · refine ⟨i + 1, by omega, by omega, ?_⟩
        rw [hrow (i + 1) (by omega) (by omega)]
        unfold ins
        rw [if_neg (by omega), if_neg (by omega), show i + 1 - 1 = i by omega]; exact i2
  · intro i j i0 ij j1
    rw [hrow i i0 (by omega), hrow j (by omega) j1]
    unfold ins
    by_cases c1 : j < k
    · rw [if_pos c1, if_pos (by omega)]
      exact a4 i j i0 ij (by omega)
    · rw [if_neg c1]
      by_cases c2 : j = k
      · rw [if_pos c2, if_pos (by omega)]
        have q := h1 i i0 (by omega)
        have q2 := (a2 i i0 (by omega)).2.1
        by_cases he : K (row i) = K s
        · exact Or.inr ⟨he, q2⟩
        · exact Or.inl (by omega)
      · rw [if_neg c2]
        by_cases c3 : i < k
        · rw [if_pos c3]
          exact a4 i (j - 1) i0 (by omega) (by omega)
        · rw [if_neg c3]
          by_cases c4 : i = k
          · rw [if_pos c4]
            exact Or.inl (h2 (j - 1) (by omega) (by omega))
          · rw [if_neg c4]
            exact a4 (i - 1) (j - 1) (by omega) (by omega) (by omega)
theorem IR_no {K : Int → Int} {F : Nat → Int → Int} {s n : Int} {row keys : Int → Int} (h : IR K F s n row keys) (hs : 0 ≤ s) (hw : wk F s = 0) : IR K F (s + 1) n row keys := by
  obtain ⟨a1, a2, a3, a4⟩ := h
  have e : nW F (s + 1) = nW F s + wk F s := itr_s _ _ hs
  refine ⟨by rw [e, hw, a1]; omega, fun i i0 i1 => ?_, fun t t0 t1 ht => ?_, a4⟩
  · obtain ⟨q1, q2, q3, q4⟩ := a2 i i0 i1
    exact ⟨q1, by omega, q3, q4⟩
  · by_cases hts : t = s
    · subst hts; omega
    · exact a3 t t0 (by omega) ht
theorem t_layByKeys (hI : SB X F) (hw : ∀ s, 0 ≤ s → s < X 6 → wt s = wk F s) (kind : Int) (hk : 0 ≤ kind ∧ kind ≤ 2) (hd : 6 ≤ d) : bE L xs d MX2_layByKeys (0, [(0, bR 13), (1, bI kind), (2, bR 2)], [], WD (PX X 0 l) (PF F row keys wt mem rs) M G O, a, b)
    (fun r => ∃ n row' keys', r = (WD (PX X n l) (PF F row' keys' wt mem rs) M G O, .inl none, a, b) ∧ WLs (KK kind X F) X F n row') := by
  have hX := hI.1
  have key := for_up (P := fun s => ∀ (n : Int) (row keys : Int → Int) (ls : BL), IR (KK kind X F) F s n row keys → (ls = [(0, bR 13), (1, bI kind), (2, bR 2), (3, bI s)] ∨ ∃ t, ls = [(0, bR 13), (1, bI kind), (2, bR 2), (3, bI s), (4, bI t)]) →
      bE L xs d MX2_layByKeys (2, ls, [], WD (PX X n l) (PF F row keys wt mem rs) M G O, a, b) (fun r => ∃ n row' keys', r = (WD (PX X n l) (PF F row' keys' wt mem rs) M G O, .inl none, a, b) ∧ WLs (KK kind X F) X F n row')) (X 6) ?_ ?_ 0 (by omega) (by omega)
  · exact go [2] [] rfl rfl (key 0 row keys _ ⟨rfl, fun i i0 i1 => by omega, fun t t0 t1 => by omega, fun i j i0 ij j1 => by omega⟩ (Or.inl rfl))
  · intro n row keys ls hIR hls
    have hfin : WLs (KK kind X F) X F n row := ⟨hIR.1, fun i i0 i1 => by
      obtain ⟨q1, q2, q3, q4⟩ := hIR.2.1 i i0 i1
      exact ⟨q1, q2, q3⟩, hIR.2.2.1, hIR.2.2.2⟩
    rcases hls with rfl | ⟨t, rfl⟩
    · exact go [] [0] rfl (Int.le_refl (X 6)) (rtv rfl rfl ⟨n, row, keys, rfl, hfin⟩)
    · exact go [] [0] rfl (Int.le_refl (X 6)) (rtv rfl rfl ⟨n, row, keys, rfl, hfin⟩)
  · intro s s0 s1 ih n row keys ls hIR hls
    have hx : 0 ≤ s ∧ s < ((10 : Nat) : Int) := by omega
    have hr1 : -2147483648 ≤ s + 1 ∧ s + 1 ≤ 2147483647 := by omega
    have hnb := nW_b F s s0
    have hn1 := hIR.1
    have w := hw s s0 s1
    rcases wk_01 F s with h | h
    · have hw0 : wt s = 0 := by omega
      rcases hls with rfl | ⟨t, rfl⟩
      · exact go [2] [1, 0] rfl ⟨s1, hx, hw0, hr1, rfl⟩ (ih n row keys _ (IR_no hIR s0 h) (Or.inl rfl))
      · exact go [2] [1, 0] rfl ⟨s1, hx, hw0, hr1, rfl⟩ (ih n row keys _ (IR_no hIR s0 h) (Or.inr ⟨_, rfl⟩))
    · have hw1 : ¬ wt s = 0 := by omega
      have kc : bE L xs (d - 1) MX2_keyOf (0, [(0, bR 13), (1, bI kind), (2, bI s)], [], WD (PX X n l) (PF F row keys wt mem rs) M G O, a, b) (rI (WD (PX X n l) (PF F row keys wt mem rs) M G O) (KK kind X F s) a b) := t_keyOf (X := PX X n l) (F := PF F row keys wt mem rs) hI hw kind s hk s0 s1 (by omega)
      -- the place is sought from behind
      have seek := for_down (P := fun at_ => at_ ≤ n → (∀ i, at_ ≤ i → i < n → KK kind X F s < KK kind X F (row i)) → 0 ≤ at_ → bE L xs d MX2_layByKeys (40, [(0, bR 13), (1, bI kind), (2, bR 2), (3, bI s), (4, bI at_)], [], WD (PX X n l) (PF F row (up keys s (KK kind X F s)) wt mem rs) M G O, a, b)
          (fun r => ∃ n row' keys', r = (WD (PX X n l) (PF F row' keys' wt mem rs) M G O, .inl none, a, b) ∧ WLs (KK kind X F) X F n row')) (fun _ _ h => by omega) ?_ n (by omega) (Int.le_refl _) (fun i i0 i1 => by omega) (by omega)
      · rcases hls with rfl | ⟨t, rfl⟩
        · refine go [] [1, 1] rfl ⟨s1, hx, hw1, rfl⟩ (bc rfl (by omega) kc (fun h => by cases h) ?_)
          exact go [40] [] rfl ⟨hx, rfl⟩ seek
        · refine go [] [1, 1] rfl ⟨s1, hx, hw1, rfl⟩ (bc rfl (by omega) kc (fun h => by cases h) ?_)
          exact go [40] [] rfl ⟨hx, rfl⟩ seek
      · intro p p0 ihp hpn hgt _
        have fin : (∀ i, 0 ≤ i → i < p → KK kind X F (row i) ≤ KK kind X F s) → bE L xs d MX2_layByKeys (74, [(0, bR 13), (1, bI kind), (2, bR 2), (3, bI s), (4, bI p)], [], WD (PX X n l) (PF F row (up keys s (KK kind X F s)) wt mem rs) M G O, a, b)
          (fun r => ∃ n row' keys', r = (WD (PX X n l) (PF F row' keys' wt mem rs) M G O, .inl none, a, b) ∧ WLs (KK kind X F) X F n row') := by
          intro hle
          refine go [] [] rfl rfl (bcall rfl (by omega) (t_insert p s (by omega) (by omega)) ?_)
          rintro r ⟨row', rfl, hrow⟩
          refine ⟨_, _, _, _, rfl, (fun h => by cases h), ?_⟩
          exact go [2] [] rfl ⟨hr1, rfl⟩ (ih (n + 1) row' (up keys s (KK kind X F s)) _ (IR_in hIR s0 h ⟨p0, hpn⟩ hle hgt hrow) (Or.inr ⟨_, rfl⟩))
        by_cases hp : p = 0
        · subst hp
          exact go [74] [0] rfl (Int.le_refl 0) (fin (fun i i0 i1 => by omega))
        · obtain ⟨q1, q2, q3, q4⟩ := hIR.2.1 (p - 1) (by omega) (by omega)
          have hxp : 0 ≤ p - 1 ∧ p - 1 < ((10 : Nat) : Int) := by omega
          have hxr : 0 ≤ row (p - 1) ∧ row (p - 1) < ((10 : Nat) : Int) := by omega
          have hrp : -2147483648 ≤ p - 1 ∧ p - 1 ≤ 2147483647 := by omega
          have u1 : up keys s (KK kind X F s) (row (p - 1)) = KK kind X F (row (p - 1)) := by rw [up_ne _ (by omega)]; exact q4
          have u2 : up keys s (KK kind X F s) s = KK kind X F s := up_eq _ _ _
          by_cases hlt : KK kind X F s < KK kind X F (row (p - 1))
          · refine go [40] [1, 1] rfl ⟨(show 0 < p by omega), hrp, hxp, hxr, hx, (show up keys s (KK kind X F s) s < up keys s (KK kind X F s) (row (p - 1)) by omega), hrp, rfl⟩ (ihp (by omega) (fun i i0 i1 => ?_) (by omega))
            by_cases hi : i = p - 1
            · rw [hi]; exact hlt
            · exact hgt i (by omega) i1
          · refine go [74] [1, 0] rfl ⟨(show 0 < p by omega), hrp, hxp, hxr, hx, (show up keys s (KK kind X F s) (row (p - 1)) ≤ up keys s (KK kind X F s) s by omega)⟩ (fin (fun i i0 i1 => ?_))
            by_cases hi : i = p - 1
            · rw [hi]; omega
            · rcases hIR.2.2.2 i (p - 1) i0 (by omega) (by omega) with q | q
              · omega
              · omega
end P2
end
section
/-! The reference's walks by aisles: through, there and back -/
section B1
variable {L : Nat} {xs : Nat → Int32} {X M : Nat → Int} {F G : Nat → Int → Int} {Y : Nat → Int} {E : Nat → Int → Int} {O : Int → Int} {d a b : Nat} {Q : BR → Prop} {row lf fr few co : Int → Int} {n : Int}
theorem m_hasLeft (hI : SB X F) (hm : RB X F M G) (A : Int) (hl : ∀ s, 0 ≤ s → s < X 6 → F 2 s = A → G 6 s = wk F s) : bE L xs d MX6_hasLeft (0, [(0, bR 19), (1, bI A)], [], WD Y E M G O, a, b) (rI (WD Y E M G O) (us X F A) a b) := by
  have hX := hI.1
  have hM := hm.1
  refine go [2] [] rfl rfl (for_up (P := fun s => (∀ t, 0 ≤ t → t < s → ¬ (wk F t = 1 ∧ F 2 t = A)) → bE L xs d MX6_hasLeft (2, [(0, bR 19), (1, bI A), (2, bI s)], [], WD Y E M G O, a, b) (rI (WD Y E M G O) (us X F A) a b)) (X 6) ?_ ?_ 0 (by omega) (by omega) (fun t h0 h1 => by omega))
  · intro hno
    have e : us X F A = 0 := usN_0 (by omega) hno
    rw [e]
    exact go [] [0] rfl (by omega) (rtb rfl rfl (Or.inl rfl) rfl)
  · intro s s0 s1 ih hno
    obtain ⟨g1, g2, g3, g4⟩ := hm.2.2.1 s s0 s1
    have nxt : ¬ (wk F s = 1 ∧ F 2 s = A) → bE L xs d MX6_hasLeft (2, [(0, bR 19), (1, bI A), (2, bI (s + 1))], [], WD Y E M G O, a, b) (rI (WD Y E M G O) (us X F A) a b) := fun hn => ih (fun t t0 t1 => by
      by_cases ht : t = s
      · subst ht; exact hn
      · exact hno t t0 (by omega))
    by_cases hA : F 2 s = A
    · have w := hl s s0 s1 hA
      rcases wk_01 F s with h | h
      · exact go [2] [1, 0] rfl (by omega) (nxt (fun q => by omega))
      · have e : us X F A = 1 := usN_1 s0 s1 ⟨h, hA⟩
        rw [e]
        exact go [] [1, 1, 1] rfl (by omega) (rtb rfl rfl (Or.inr rfl) rfl)
    · by_cases hg : G 6 s = 0
      · exact go [2] [1, 0] rfl (by omega) (nxt (fun q => hA q.2))
      · exact go [2] [1, 1, 0] rfl (by omega) (nxt (fun q => hA q.2))
theorem K0_b (hI : SB X F) (s : Int) (s0 : 0 ≤ s) (s1 : s < X 6) : F 2 s * 30 ≤ K0 X F s ∧ K0 X F s ≤ F 2 s * 30 + 29 := by
  have hX := hI.1
  have hs := hI.2.1 s s0 s1
  unfold K0 upk dnk
  split <;> omega
/-- left are the stops of aisles from k on -/
def LA (X : Nat → Int) (F : Nat → Int → Int) (k : Int) (lf : Int → Int) : Prop := ∀ s, 0 ≤ s → s < X 6 → (lf s = 1 ↔ wk F s = 1 ∧ k ≤ F 2 s)
theorem LA_end (hI : SB X F) {K : Int → Int} (h : LI K X F n row lf) (hl : LA X F (X 4) lf) : WLs K X F n row := by
  have hX := hI.1
  refine LI_end (by omega) h (fun s s0 s1 => ?_)
  have hs := hI.2.1 s s0 s1
  rcases h.2.1 s s0 s1 with q | q
  · exact q
  · have := (hl s s0 s1).1 q
    omega
theorem LA_0 (hI : SB X F) (hl : ∀ s, 0 ≤ s → s < X 6 → lf s = wk F s) : LA X F 0 lf := by
  intro s s0 s1
  have hs := hI.2.1 s s0 s1
  rw [hl s s0 s1]
  exact ⟨fun h => ⟨h, hs.1⟩, fun h => h.1⟩
theorem Cs_11 {A s : Int} (hf : fr s = 0 ∨ fr s = 1) : Cs F fr A 1 1 s ↔ F 2 s = A := by
  unfold Cs
  constructor
  · exact fun h => h.1
  · intro h
    rcases hf with q | q
    · exact ⟨h, Or.inr ⟨q, rfl⟩⟩
    · exact ⟨h, Or.inl ⟨q, rfl⟩⟩
theorem LA_s {lf' : Int → Int} {k : Int} (hfr : ∀ s, 0 ≤ s → s < X 6 → fr s = 0 ∨ fr s = 1) (hl : LA X F k lf) (h : ∀ s, 0 ≤ s → s < X 6 → (lf' s = 1 ↔ lf s = 1 ∧ ¬ Cs F fr k 1 1 s)) : LA X F (k + 1) lf' := by
  intro s s0 s1
  rw [h s s0 s1, hl s s0 s1, Cs_11 (hfr s s0 s1)]
  constructor
  · rintro ⟨⟨q1, q2⟩, q3⟩
    exact ⟨q1, by omega⟩
  · rintro ⟨q1, q2⟩
    exact ⟨⟨q1, by omega⟩, by omega⟩
theorem m_through (hI : SB X F) (hm : RB X F M G) (hfr : ∀ s, 0 ≤ s → s < X 6 → fr s = 0 ∨ fr s = 1) (hl : ∀ s, 0 ≤ s → s < X 6 → lf s = wk F s) (hd : 3 ≤ d) :
    bE L xs d MX6_through (0, [(0, bR 19)], [], WD Y E (PM M 0) (PG G row lf fr few co) O, a, b)
      (fun r => ∃ n' row' lf', r = (WD Y E (PM M n') (PG G row' lf' fr few co) O, .inl none, a, b) ∧ WLs (K0 X F) X F n' row') := by
  have hX := hI.1
  have hM := hm.1
  have key := for_up (P := fun k => ∀ (n upw : Int) (row lf : Int → Int), LI (K0 X F) X F n row lf → LA X F k lf → (upw = 0 ∨ upw = 1) → (upw = 1 ↔ nU X F k % 2 = 0) →
      bE L xs d MX6_through (4, [(0, bR 19), (1, bI upw), (2, bI k)], [], WD Y E (PM M n) (PG G row lf fr few co) O, a, b)
      (fun r => ∃ n' row' lf', r = (WD Y E (PM M n') (PG G row' lf' fr few co) O, .inl none, a, b) ∧ WLs (K0 X F) X F n' row')) (X 4) ?_ ?_ 0 (by omega) (by omega)
  · refine go [4] [] rfl rfl (key 0 1 row lf (LI_0 (by omega) hl) (LA_0 hI hl) (Or.inr rfl) ⟨fun _ => rfl, fun _ => rfl⟩)
  · intro n upw row lf h1 h2 h3 h4
    exact go [] [0] rfl (show M 1 ≤ X 4 by omega) (rtv rfl rfl ⟨n, row, lf, rfl, LA_end hI h1 h2⟩)
  · intro k k0 k1 ih n upw row lf h1 h2 h3 h4
    have hr1 : -2147483648 ≤ k + 1 ∧ k + 1 ≤ 2147483647 := by omega
    have e : nU X F (k + 1) = nU X F k + us X F k := itr_s _ _ k0
    have kc : bE L xs (d - 1) MX6_hasLeft (0, [(0, bR 19), (1, bI k)], [], WD Y E (PM M n) (PG G row lf fr few co) O, a, b) (rI (WD Y E (PM M n) (PG G row lf fr few co) O) (us X F k) a b) :=
      m_hasLeft (M := PM M n) (G := PG G row lf fr few co) hI hm k (fun s s0 s1 hs => by
        have q := h2 s s0 s1
        show lf s = wk F s
        rcases h1.2.1 s s0 s1 with q1 | q1 <;> rcases wk_01 F s with q' | q'
        · omega
        · exact absurd (q.2 ⟨q', by omega⟩) (by omega)
        · exact absurd (q.1 q1).1 (by omega)
        · omega)
    refine go [] [1] rfl ⟨(show k < M 1 by omega), rfl⟩ (bc rfl (by omega) kc (fun h => by cases h) ?_)
    rcases us_01 (X := X) (F := F) k (by omega) with h | h
    · rw [h]
      refine go [4] [1] rfl ⟨rfl, hr1, rfl⟩ (ih n upw row lf h1 (fun s s0 s1 => ?_) h3 (by rw [e, h, Int.add_zero]; exact h4))
      rw [h2 s s0 s1]
      constructor
      · rintro ⟨q1, q2⟩
        refine ⟨q1, ?_⟩
        by_cases hk : F 2 s = k
        · have : us X F k = 1 := usN_1 s0 s1 ⟨q1, hk⟩
          omega
        · omega
      · rintro ⟨q1, q2⟩
        exact ⟨q1, by omega⟩
    · rw [h]
      refine go [] [0] rfl ⟨(by decide : ¬ (1 : Int) = 0), rfl⟩ (bcall rfl (by omega) (m_addAisle (K0 X F) (if upw = 1 then k * 30 else k * 30 + 29) k upw 1 1 hI hm h3 hfr ⟨Or.inr rfl, Or.inr rfl⟩ ?_ h1 ?_ (by omega)) ?_)
      · intro s s0 s1 hs hc
        rw [Cs_11 (hfr s s0 s1)] at hc
        unfold K0 upk dnk
        rw [hc]
        constructor
        · intro hu
          rw [if_pos (h4.1 hu), if_pos hu]
        · intro hu
          rw [if_neg (fun q => by have := h4.2 q; omega), if_neg (by omega)]
          omega
      · intro s t s0 s1 t0 t1 hs hcs ht hct
        rw [Cs_11 (hfr s s0 s1)] at hcs
        rw [Cs_11 (hfr t t0 t1)] at hct
        have b1 := K0_b hI s s0 s1
        have b2 := K0_b hI t t0 t1
        have := ((h2 t t0 t1).1 ht).2
        omega
      · rintro r ⟨n', row', lf', rfl, g1, g2⟩
        refine ⟨_, _, _, _, rfl, (fun h => by cases h), ?_⟩
        have la := LA_s hfr h2 g2
        rcases h3 with h3 | h3
        · subst h3
          exact go [4] [1] rfl ⟨rfl, hr1, rfl⟩ (ih n' 1 row' lf' g1 la (Or.inr rfl) ⟨fun _ => by omega, fun _ => rfl⟩)
        · subst h3
          exact go [4] [0] rfl ⟨(by decide : ¬ (1 : Int) = 0), hr1, rfl⟩ (ih n' 0 row' lf' g1 la (Or.inl rfl) ⟨fun q => by omega, fun q => by omega⟩)
/-- there and back, within walk -/
theorem w_back (hI : SB X F) (hm : RB X F M G) (hfr : ∀ s, 0 ≤ s → s < X 6 → fr s = 0 ∨ fr s = 1) (hl : ∀ s, 0 ≤ s → s < X 6 → lf s = wk F s) (hd : 3 ≤ d) (m : Int)
    (cont : ∀ (n' : Int) (row' lf' : Int → Int), WLs (K1 F) X F n' row' → bE L xs d MX6_walk (126, [(0, bR 19), (1, bI 1), (2, bI m), (3, bI (X 4))], [], WD Y E (PM M n') (PG G row' lf' fr few co) O, a, b) Q) :
    bE L xs d MX6_walk (104, [(0, bR 19), (1, bI 1), (2, bI m), (3, bI 0)], [], WD Y E (PM M 0) (PG G row lf fr few co) O, a, b) Q := by
  have hX := hI.1
  have hM := hm.1
  have key := for_up (P := fun k => ∀ (n : Int) (row lf : Int → Int), LI (K1 F) X F n row lf → LA X F k lf →
      bE L xs d MX6_walk (104, [(0, bR 19), (1, bI 1), (2, bI m), (3, bI k)], [], WD Y E (PM M n) (PG G row lf fr few co) O, a, b) Q) (X 4) ?_ ?_ 0 (by omega) (by omega)
  · refine key 0 row lf (LI_0 (by omega) hl) (LA_0 hI hl)
  · intro n row lf h1 h2
    exact go [126] [0] rfl (show M 1 ≤ X 4 by omega) (cont n row lf (LA_end hI h1 h2))
  · intro k k0 k1 ih n row lf h1 h2
    have hr1 : -2147483648 ≤ k + 1 ∧ k + 1 ≤ 2147483647 := by omega
    refine go [] [1] rfl ⟨(show k < M 1 by omega), rfl⟩ (bcall rfl (by omega) (m_addAisle (K1 F) (k * 30) k 1 1 1 hI hm (Or.inr rfl) hfr ⟨Or.inr rfl, Or.inr rfl⟩ ?_ h1 ?_ (by omega)) ?_)
    · intro s s0 s1 hs hc
      rw [Cs_11 (hfr s s0 s1)] at hc
      unfold K1 upk
      rw [hc]
      exact ⟨fun _ => rfl, fun q => by omega⟩
    · intro s t s0 s1 t0 t1 hs hcs ht hct
      rw [Cs_11 (hfr s s0 s1)] at hcs
      rw [Cs_11 (hfr t t0 t1)] at hct
      have b1 := hI.2.1 s s0 s1
      have b2 := hI.2.1 t t0 t1
      have := ((h2 t t0 t1).1 ht).2
      unfold K1 upk
      omega
    · rintro r ⟨n', row', lf', rfl, g1, g2⟩
      refine ⟨_, _, _, _, rfl, (fun h => by cases h), ?_⟩
      exact go [104] [] rfl ⟨hr1, rfl⟩ (ih n' row' lf' g1 (LA_s hfr h2 g2))
end B1
end
section
/-! The reference's largest gap -/
section C1
variable {L : Nat} {xs : Nat → Int32} {X M : Nat → Int} {F G : Nat → Int → Int} {Y : Nat → Int} {E : Nat → Int → Int} {O : Int → Int} {d a b : Nat} {Q : BR → Prop} {row lf fr few co : Int → Int} {n : Int}
theorem cnt_lt {g h : Int → Int} (hle : ∀ i, g i ≤ h i) {s n : Int} (s0 : 0 ≤ s) (s1 : s < n) (hs : g s + 1 ≤ h s) : itr (fun q acc => acc + g q) 0 n + 1 ≤ itr (fun q acc => acc + h q) 0 n := by
  have main : ∀ k : Nat, itr (fun q acc => acc + g q) 0 (k : Int) + (if s < (k : Int) then 1 else 0) ≤ itr (fun q acc => acc + h q) 0 (k : Int) := by
    intro k
    induction k with
    | zero => rw [if_neg (by omega)]; exact Int.le_refl _
    | succ k ih =>
      have e : ((k + 1 : Nat) : Int) = (k : Int) + 1 := by omega
      rw [e, itr_s _ _ (by omega), itr_s _ _ (by omega)]
      have := hle (k : Int)
      by_cases c : (k : Int) = s
      · rw [if_neg (by omega)] at ih
        rw [if_pos (by omega)]
        rw [← c] at hs
        omega
      · by_cases c2 : s < (k : Int)
        · rw [if_pos c2] at ih
          rw [if_pos (by omega)]
          omega
        · rw [if_neg c2] at ih
          rw [if_neg (by omega)]
          omega
  have := main n.toNat
  rw [show ((n.toNat : Nat) : Int) = n by omega, if_pos s1] at this
  exact this
def cD (X : Nat → Int) (F : Nat → Int → Int) (D : Int) : Int := itr (fun s acc => acc + (if F 4 s ≤ D then 1 else 0)) 0 (X 6)
theorem nxN_ex (A D : Int) : ∀ i, 0 ≤ i → i ≤ X 6 → nxN X F A D i < 11 * X 5 → ∃ s, 0 ≤ s ∧ s < i ∧ F 4 s = nxN X F A D i ∧ D < F 4 s := by
  refine itr_ind (P := fun i z => z < 11 * X 5 → ∃ s, 0 ≤ s ∧ s < i ∧ F 4 s = z ∧ D < F 4 s) (fun h => by omega) ?_
  intro i z i0 i1 hz hlt
  have old : z < 11 * X 5 → ∃ s, 0 ≤ s ∧ s < i + 1 ∧ F 4 s = z ∧ D < F 4 s := by
    intro h
    obtain ⟨s, q0, q1, q2, q3⟩ := hz h
    exact ⟨s, q0, by omega, q2, q3⟩
  revert hlt
  split
  · next hc =>
    intro hlt
    by_cases h : F 4 i ≤ z
    · exact ⟨i, i0, by omega, by omega, hc.2.2⟩
    · rw [show min z (F 4 i) = z by omega] at hlt ⊢
      exact old hlt
  · exact old
theorem gst_at (A : Int) (q : Int × Int × Int) : (gst X F A q).2.2 = nx X F A q.2.2 := by
  unfold gst
  split <;> rfl
theorem gsN_cnt (hI : SB X F) (A : Int) : ∀ k, 0 ≤ k → k ≤ X 6 + 1 → (gsN X F A k).2.2 < 11 * X 5 → k ≤ cD X F (gsN X F A k).2.2 := by
  have hX := hI.1
  have main : ∀ k : Nat, (k : Int) ≤ X 6 + 1 → (gsN X F A k).2.2 < 11 * X 5 → (k : Int) ≤ cD X F (gsN X F A k).2.2 := by
    intro k
    induction k with
    | zero =>
      intro _ _
      exact (cnt_b (g := fun s => if F 4 s ≤ (gsN X F A ((0 : Nat) : Int)).2.2 then 1 else 0) (fun s => by split <;> simp) (X 6) (X 6) (by omega) (Int.le_refl _)).1
    | succ k ih =>
      intro hk hlt
      have e : ((k + 1 : Nat) : Int) = (k : Int) + 1 := by omega
      have eg : gsN X F A ((k : Int) + 1) = gst X F A (gsN X F A k) := itr_s _ _ (by omega)
      rw [e] at hk hlt ⊢
      rw [eg, gst_at] at hlt ⊢
      obtain ⟨z1, z2, z3, z4, z5, z6⟩ := gsN_b hI A k (by omega) (by omega)
      have hb := nxN_b hI A _ ⟨z5, z6⟩ (X 6) (by omega) (Int.le_refl _)
      obtain ⟨s, s0, s1, s2, s3⟩ := nxN_ex (F := F) A (gsN X F A k).2.2 (X 6) (by omega) (Int.le_refl _) hlt
      have s2' : F 4 s = nx X F A (gsN X F A k).2.2 := s2
      have hb' : (gsN X F A k).2.2 ≤ nx X F A (gsN X F A k).2.2 := hb.1
      have h1 := ih (by omega) (by omega)
      have h2 := cnt_lt (g := fun s => if F 4 s ≤ (gsN X F A k).2.2 then 1 else 0) (h := fun s => if F 4 s ≤ nx X F A (gsN X F A k).2.2 then 1 else 0) (fun i => by
        show (if F 4 i ≤ (gsN X F A k).2.2 then (1 : Int) else 0) ≤ (if F 4 i ≤ nx X F A (gsN X F A k).2.2 then 1 else 0)
        split <;> split <;> omega) s0 s1 (by
        show (if F 4 s ≤ (gsN X F A k).2.2 then (1 : Int) else 0) + 1 ≤ (if F 4 s ≤ nx X F A (gsN X F A k).2.2 then 1 else 0)
        rw [if_neg (by omega), if_pos (by omega)]
        omega)
      have h3 : cD X F (gsN X F A k).2.2 + 1 ≤ cD X F (nx X F A (gsN X F A k).2.2) := h2
      omega
  intro k k0 k1 hlt
  obtain ⟨m, rfl⟩ : ∃ m : Nat, k = m := ⟨k.toNat, by omega⟩
  exact main m k1 hlt
theorem gsN_le (hI : SB X F) (A k : Int) (k0 : 0 ≤ k) (k1 : k ≤ X 6 + 1) (h : (gsN X F A k).2.2 < 11 * X 5) : k ≤ X 6 := by
  have hX := hI.1
  have h1 := gsN_cnt hI A k k0 k1 h
  have h2 := (cnt_b (g := fun s => if F 4 s ≤ (gsN X F A k).2.2 then 1 else 0) (fun s => by split <;> simp) (X 6) (X 6) (by omega) (Int.le_refl _)).2
  have h3 : cD X F (gsN X F A k).2.2 ≤ X 6 := h2
  omega
theorem gsN_fix (hI : SB X F) (A k : Int) (k0 : 0 ≤ k) (k1 : k ≤ X 6 + 1) (h : ¬ (gsN X F A k).2.2 < 11 * X 5) : (gsN X F A k).1 = gs X F A := by
  have hX := hI.1
  refine for_up (P := fun j => k ≤ j → ¬ (gsN X F A j).2.2 < 11 * X 5 → (gsN X F A j).1 = gs X F A) (X 6 + 1) (fun _ _ => rfl) ?_ k k0 k1 (Int.le_refl _) h
  intro j j0 j1 ih hj hat
  obtain ⟨z1, z2, z3, z4, z5, z6⟩ := gsN_b hI A j j0 (by omega)
  have hb := nxN_b hI A _ ⟨z5, z6⟩ (X 6) (by omega) (Int.le_refl _)
  have hb2 : (gsN X F A j).2.2 ≤ nx X F A (gsN X F A j).2.2 ∧ nx X F A (gsN X F A j).2.2 ≤ 11 * X 5 := hb
  have eg : gsN X F A (j + 1) = gst X F A (gsN X F A j) := itr_s _ _ j0
  rw [eg] at ih
  have e1 : gst X F A (gsN X F A j) = ((gsN X F A j).1, (gsN X F A j).2.1, nx X F A (gsN X F A j).2.2) := by
    unfold gst
    rw [if_neg (by omega)]
  rw [e1] at ih
  exact ih (by omega) (show ¬ nx X F A (gsN X F A j).2.2 < 11 * X 5 by omega)
theorem m_gap (hI : SB X F) (hm : RB X F M G) (hl : ∀ s, 0 ≤ s → s < X 6 → G 6 s = wk F s) (A : Int) (hd : 2 ≤ d) : bE L xs d MX6_gap (0, [(0, bR 19), (1, bI A)], [], WD Y E M G O, a, b) (rI (WD Y E M G O) (gs X F A) a b) := by
  have hX := hI.1
  have hM := hm.1
  have key := for_up (P := fun k => ∀ ls : BL, (ls = [(0, bR 19), (1, bI A), (2, bI (gsN X F A k).2.2), (3, bI (gsN X F A k).1), (4, bI (gsN X F A k).2.1)] ∨ ∃ t u, ls = [(0, bR 19), (1, bI A), (2, bI (gsN X F A k).2.2), (3, bI (gsN X F A k).1), (4, bI (gsN X F A k).2.1), (5, bI t), (6, bI u)]) →
      bE L xs d MX6_gap (7, ls, [], WD Y E M G O, a, b) (rI (WD Y E M G O) (gs X F A) a b)) (X 6 + 1) ?_ ?_ 0 (by omega) (by omega)
  · exact go [7] [] rfl rfl (key _ (Or.inl rfl))
  · intro ls hls
    have hat : ¬ (gsN X F A (X 6 + 1)).2.2 < 11 * X 5 := fun h => by
      have := gsN_le hI A (X 6 + 1) (by omega) (Int.le_refl _) h
      omega
    have e := gsN_fix hI A (X 6 + 1) (by omega) (Int.le_refl _) hat
    rw [← e]
    rcases hls with rfl | ⟨t, u, rfl⟩
    · exact go [] [0] rfl (by omega) (rti rfl rfl rfl)
    · exact go [] [0] rfl (by omega) (rti rfl rfl rfl)
  · intro k k0 k1 ih ls hls
    by_cases hat : (gsN X F A k).2.2 < 11 * X 5
    · obtain ⟨z1, z2, z3, z4, z5, z6⟩ := gsN_b hI A k k0 (by omega)
      have e : gsN X F A (k + 1) = gst X F A (gsN X F A k) := itr_s _ _ k0
      rw [e] at ih
      unfold gst at ih
      generalize hq : gsN X F A k = q at ih hls hat z1 z2 z3 z4 z5 z6
      obtain ⟨st, wd, at_⟩ := q
      simp only at ih hls hat z1 z2 z3 z4 z5 z6
      have hb := nxN_b hI A at_ ⟨z5, z6⟩
      have inner := for_up (P := fun s => bE L xs d MX6_gap (30, [(0, bR 19), (1, bI A), (2, bI at_), (3, bI st), (4, bI wd), (5, bI (nxN X F A at_ s)), (6, bI s)], [], WD Y E M G O, a, b) (rI (WD Y E M G O) (gs X F A) a b)) (X 6) ?_ ?_ 0 (by omega) (by omega)
      · have e0 : nxN X F A at_ 0 = 11 * M 2 := by
          show 11 * X 5 = 11 * M 2
          omega
        rw [e0] at inner
        rcases hls with rfl | ⟨t, u, rfl⟩
        · exact go [30] [1] rfl (by omega) inner
        · exact go [30] [1] rfl (by omega) inner
      · have hb2 : at_ ≤ nx X F A at_ ∧ nx X F A at_ ≤ 11 * X 5 := hb (X 6) (by omega) (Int.le_refl _)
        show bE L xs d MX6_gap (30, [(0, bR 19), (1, bI A), (2, bI at_), (3, bI st), (4, bI wd), (5, bI (nx X F A at_)), (6, bI (X 6))], [], WD Y E M G O, a, b) (rI (WD Y E M G O) (gs X F A) a b)
        by_cases hlt : wd < nx X F A at_ - at_
        · rw [if_pos hlt] at ih
          exact go [7] [0, 1] rfl (by omega) (ih _ (Or.inr ⟨_, _, rfl⟩))
        · rw [if_neg hlt] at ih
          exact go [7] [0, 0] rfl (by omega) (ih _ (Or.inr ⟨_, _, rfl⟩))
      · intro s s0 s1 ih2
        have w := hl s s0 s1
        obtain ⟨g1, g2, g3, g4⟩ := hm.2.2.1 s s0 s1
        have en : nxN X F A at_ (s + 1) = if wk F s = 1 ∧ F 2 s = A ∧ at_ < F 4 s then min (nxN X F A at_ s) (F 4 s) else nxN X F A at_ s := itr_s _ _ s0
        have dc := fun (d : Nat) => m_depthOf (L := L) (xs := xs) (Y := Y) (E := E) (O := O) (d := d) (a := a) (b := b) hI hm s (pnt_s s0 s1)
        rw [mp_s (s := s) (by omega)] at dc
        have hbs := hb s s0 (by omega)
        rcases wk_01 F s with h | h
        · rw [en, if_neg (by omega)] at ih2
          exact go [30] [1, 0] rfl (by omega) ih2
        · by_cases hA : F 2 s = A
          · refine go [] [1, 1, 1] rfl (by omega) (bc rfl hd (dc _) (fun h => by cases h) ?_)
            by_cases hlt : at_ < F 4 s
            · rw [en, if_pos ⟨h, hA, hlt⟩] at ih2
              refine go [] [1] rfl (by omega) (bc rfl hd (dc _) (fun h => by cases h) ?_)
              by_cases hlt2 : F 4 s < nxN X F A at_ s
              · rw [show min (nxN X F A at_ s) (F 4 s) = F 4 s by omega] at ih2
                refine go [] [1] rfl (by omega) (bc rfl hd (dc _) (fun h => by cases h) ?_)
                exact go [30] [] rfl (by omega) ih2
              · rw [show min (nxN X F A at_ s) (F 4 s) = nxN X F A at_ s by omega] at ih2
                exact go [30] [0] rfl (by omega) ih2
            · rw [en, if_neg (fun q => hlt q.2.2)] at ih2
              exact go [30] [0] rfl (by omega) ih2
          · rw [en, if_neg (fun q => hA q.2.1)] at ih2
            exact go [30] [1, 1, 0] rfl (by omega) ih2
    · have e := gsN_fix hI A k k0 (by omega) hat
      rw [← e]
      rcases hls with rfl | ⟨t, u, rfl⟩
      · exact go [] [0] rfl (by omega) (rti rfl rfl rfl)
      · exact go [] [0] rfl (by omega) (rti rfl rfl rfl)
end C1
end
section
/-! The reference's walk by largest gaps -/
section C2
variable {L : Nat} {xs : Nat → Int32} {X M : Nat → Int} {F G : Nat → Int → Int} {Y : Nat → Int} {E : Nat → Int → Int} {O : Int → Int} {d a b : Nat} {Q : BR → Prop} {row lf fr few co : Int → Int} {n : Int}
/-- the first and the last aisle that is used, of those below k -/
def FL (X : Nat → Int) (F : Nat → Int → Int) (k f l : Int) : Prop :=
  (f = -1 ∧ l = -1 ∧ ∀ j, 0 ≤ j → j < k → us X F j = 0) ∨ (0 ≤ f ∧ f ≤ l ∧ l < k ∧ us X F f = 1 ∧ us X F l = 1 ∧ (∀ j, 0 ≤ j → j < f → us X F j = 0) ∧ (∀ j, l < j → j < k → us X F j = 0))
/-- the front part, for aisles below k -/
def FR (X : Nat → Int) (F : Nat → Int → Int) (k : Int) (fr : Int → Int) : Prop := ∀ s, 0 ≤ s → s < X 6 → (fr s = 0 ∨ fr s = 1) ∧ (F 2 s < k → (fr s = 1 ↔ F 4 s ≤ gs X F (F 2 s)))
theorem K2_f (hI : SB X F) {f l : Int} (h : 0 ≤ f ∧ f ≤ l ∧ l < X 4 ∧ us X F f = 1 ∧ us X F l = 1 ∧ (∀ j, 0 ≤ j → j < f → us X F j = 0) ∧ (∀ j, l < j → j < X 4 → us X F j = 0)) (hfr : FR X F (X 4) fr) (s : Int) (s0 : 0 ≤ s) (s1 : s < X 6) (hs : wk F s = 1) :
    f ≤ F 2 s ∧ F 2 s ≤ l ∧ (F 2 s = f → K2 X F s = F 3 s) ∧ (f < F 2 s → F 2 s = l → K2 X F s = 269 - F 3 s) ∧ (f < F 2 s → F 2 s < l → fr s = 0 → K2 X F s = F 2 s * 30 + 29 - F 3 s) ∧ (f < F 2 s → F 2 s < l → fr s = 1 → K2 X F s = (16 - F 2 s) * 30 + F 3 s) := by
  obtain ⟨f0, fl, l1, uf, ul, nf, nl⟩ := h
  have hX := hI.1
  have b1 := hI.2.1 s s0 s1
  have u1 : us X F (F 2 s) = 1 := usN_1 s0 s1 ⟨hs, rfl⟩
  have q1 : f ≤ F 2 s := by
    by_cases c : F 2 s < f
    · have := nf (F 2 s) b1.1 c; omega
    · omega
  have q2 : F 2 s ≤ l := by
    by_cases c : l < F 2 s
    · have := nl (F 2 s) c b1.2.1; omega
    · omega
  have hn0 : F 2 s = f → nU X F (F 2 s) = 0 := by
    intro e
    rw [e]
    refine itr_ind (P := fun _ z => z = 0) (n := f) rfl ?_ f f0 (Int.le_refl _)
    intro i z i0 i1 hz
    rw [hz, nf i i0 i1]
    rfl
  have hn1 : f < F 2 s → ¬ nU X F (F 2 s) = 0 := by
    intro c
    have := cnt_pos (lf := us X F) (fun k _ _ => us_01 k (by omega)) uf f0 c
    have e : nU X F (F 2 s) = itr (fun q acc => acc + us X F q) 0 (F 2 s) := rfl
    omega
  have ha0 : F 2 s = l → uab X F (F 2 s) = 0 := by
    intro e
    rw [e]
    exact uab_0 (by omega) (fun k k0 k1 hk => by have := nl k k0 k1; omega)
  have ha1 : F 2 s < l → ¬ uab X F (F 2 s) = 0 := by
    intro c
    have := uab_1 b1.1 c l1 ul
    omega
  have hq := hfr s s0 s1
  have hq2 := hq.2 b1.2.1
  refine ⟨q1, q2, ?_, ?_, ?_, ?_⟩
  · intro e
    unfold K2 upk
    rw [if_pos (hn0 e)]
    omega
  · intro c e
    unfold K2 dnk
    rw [if_neg (hn1 c), if_pos (ha0 e)]
    omega
  · intro c c2 c3
    unfold K2 dnk
    rw [if_neg (hn1 c), if_neg (ha1 c2), if_pos (by
      have : ¬ F 4 s ≤ gs X F (F 2 s) := fun q => by have := hq2.2 q; omega
      omega)]
    omega
  · intro c c2 c3
    unfold K2 upk
    have := hq2.1 c3
    rw [if_neg (hn1 c), if_neg (ha1 c2), if_neg (by omega)]
theorem Cs_01 {A s : Int} : Cs F fr A 0 1 s ↔ F 2 s = A ∧ fr s = 0 := by
  unfold Cs
  constructor
  · rintro ⟨h1, h2 | h2⟩
    · omega
    · exact ⟨h1, h2.1⟩
  · rintro ⟨h1, h2⟩
    exact ⟨h1, Or.inr ⟨h2, rfl⟩⟩
theorem Cs_10 {A s : Int} : Cs F fr A 1 0 s ↔ F 2 s = A ∧ fr s = 1 := by
  unfold Cs
  constructor
  · rintro ⟨h1, h2 | h2⟩
    · exact ⟨h1, h2.1⟩
    · omega
  · rintro ⟨h1, h2⟩
    exact ⟨h1, Or.inl ⟨h2, rfl⟩⟩
/-- from the fronts on: the four turns of stops -/
theorem g_turns (hI : SB X F) (hm : RB X F M G) {f l : Int} (h : 0 ≤ f ∧ f ≤ l ∧ l < X 4 ∧ us X F f = 1 ∧ us X F l = 1 ∧ (∀ j, 0 ≤ j → j < f → us X F j = 0) ∧ (∀ j, l < j → j < X 4 → us X F j = 0)) (hfr : FR X F (X 4) fr) (hl : ∀ s, 0 ≤ s → s < X 6 → lf s = wk F s) (t u : Int) (hd : 3 ≤ d) :
    bE L xs d MX6_gaps (125, [(0, bR 19), (1, bI f), (2, bI l), (3, bI (X 4)), (4, bI t), (5, bI u)], [], WD Y E (PM M 0) (PG G row lf fr few co) O, a, b)
      (fun r => ∃ n' row' lf' fr', r = (WD Y E (PM M n') (PG G row' lf' fr' few co) O, .inl none, a, b) ∧ WLs (K2 X F) X F n' row') := by
  have hX := hI.1
  have hM := hm.1
  have kf := K2_f hI h hfr
  obtain ⟨f0, fl, l1, _⟩ := h
  have hb : ∀ s, 0 ≤ s → s < X 6 → 0 ≤ F 3 s ∧ F 3 s < 30 ∧ 0 ≤ F 2 s ∧ F 2 s < 8 := fun s s0 s1 => by
    have := hI.2.1 s s0 s1; omega
  have hf2 : ∀ s, 0 ≤ s → s < X 6 → fr s = 0 ∨ fr s = 1 := fun s s0 s1 => (hfr s s0 s1).1
  have li0 : LI (K2 X F) X F 0 row lf := LI_0 (by omega) hl
  have hcs : ∀ A s, 0 ≤ s → s < X 6 → (Cs F fr A 1 1 s ↔ F 2 s = A) := fun A s s0 s1 => Cs_11 (hf2 s s0 s1)
  refine go [] [] rfl rfl (bcall rfl (by omega) (m_addAisle (K2 X F) 0 f 1 1 1 hI hm (Or.inr rfl) hf2 ⟨Or.inr rfl, Or.inr rfl⟩ ?_ li0 ?_ (by omega)) ?_)
  · intro s s0 s1 hs hc
    rw [hcs f s s0 s1] at hc
    rw [hl s s0 s1] at hs
    have k := kf s s0 s1 hs
    exact ⟨fun _ => by have := k.2.2.1 hc; omega, fun q => by omega⟩
  · intro s t s0 s1 t0 t1 hs hc ht hct
    rw [hcs f s s0 s1] at hc
    rw [hcs f t t0 t1] at hct
    rw [hl s s0 s1] at hs
    rw [hl t t0 t1] at ht
    obtain ⟨p1, p2, p3, p4, p5, p6⟩ := kf s s0 s1 hs
    obtain ⟨r1, r2, r3, r4, r5, r6⟩ := kf t t0 t1 ht
    have b1 := hb s s0 s1
    have b2 := hb t t0 t1
    have := hf2 t t0 t1
    omega
  rintro r ⟨n1, row1, lf1, rfl, li1, g1⟩
  refine ⟨_, _, _, _, rfl, (fun h => by cases h), ?_⟩
  have turn2 := for_up (P := fun k => f + 1 ≤ k → ∀ (n : Int) (row lf : Int → Int), LI (K2 X F) X F n row lf → (∀ s, 0 ≤ s → s < X 6 → (lf s = 1 ↔ wk F s = 1 ∧ F 2 s ≠ f ∧ ¬ (F 2 s < k ∧ fr s = 0 ∧ F 2 s < l))) →
      bE L xs d MX6_gaps (137, [(0, bR 19), (1, bI f), (2, bI l), (3, bI k), (4, bI t), (5, bI u)], [], WD Y E (PM M n) (PG G row lf fr few co) O, a, b)
      (fun r => ∃ n' row' lf' fr', r = (WD Y E (PM M n') (PG G row' lf' fr' few co) O, .inl none, a, b) ∧ WLs (K2 X F) X F n' row')) (max l (f + 1)) ?_ ?_ (f + 1) (by omega) (by omega) (Int.le_refl _) n1 row1 lf1 li1 ?_
  · exact go [137] [] rfl ⟨(show -2147483648 ≤ f + 1 ∧ f + 1 ≤ 2147483647 by omega), rfl⟩ turn2
  · intro _ n row lf li g
    refine go [] [0] rfl ⟨(show l ≤ max l (f + 1) by omega), rfl⟩ (bcall rfl (by omega) (m_addAisle (K2 X F) 269 l 0 1 1 hI hm (Or.inl rfl) hf2 ⟨Or.inr rfl, Or.inr rfl⟩ ?_ li ?_ (by omega)) ?_)
    · intro s s0 s1 hs hc
      rw [hcs l s s0 s1] at hc
      rw [g s s0 s1] at hs
      obtain ⟨p1, p2, p3, p4, p5, p6⟩ := kf s s0 s1 hs.1
      exact ⟨fun q => by omega, fun _ => p4 (by omega) hc⟩
    · intro s t s0 s1 t0 t1 hs hc ht hct
      rw [hcs l s s0 s1] at hc
      rw [hcs l t t0 t1] at hct
      rw [g s s0 s1] at hs
      rw [g t t0 t1] at ht
      obtain ⟨p1, p2, p3, p4, p5, p6⟩ := kf s s0 s1 hs.1
      obtain ⟨r1, r2, r3, r4, r5, r6⟩ := kf t t0 t1 ht.1
      have b1 := hb s s0 s1
      have b2 := hb t t0 t1
      have := hf2 t t0 t1
      omega
    rintro r ⟨n2, row2, lf2, rfl, li2, g2⟩
    refine ⟨_, _, _, _, rfl, (fun h => by cases h), ?_⟩
    have turn4 := for_down (P := fun k => k < l → ∀ (n : Int) (row lf : Int → Int), LI (K2 X F) X F n row lf → (∀ s, 0 ≤ s → s < X 6 → (lf s = 1 ↔ wk F s = 1 ∧ f < F 2 s ∧ F 2 s ≤ k ∧ fr s = 1)) →
      bE L xs d MX6_gaps (168, [(0, bR 19), (1, bI f), (2, bI l), (3, bI k), (4, bI t), (5, bI u)], [], WD Y E (PM M n) (PG G row lf fr few co) O, a, b)
      (fun r => ∃ n' row' lf' fr', r = (WD Y E (PM M n') (PG G row' lf' fr' few co) O, .inl none, a, b) ∧ WLs (K2 X F) X F n' row')) ?_ ?_ (l - 1) (by omega) (by omega) n2 row2 lf2 li2 ?_
    · exact go [168] [] rfl ⟨(show -2147483648 ≤ l - 1 ∧ l - 1 ≤ 2147483647 by omega), rfl⟩ turn4
    · intro _ n row lf li g
      refine go [] [0] rfl (show (-1 : Int) ≤ f by omega) (rtv rfl rfl ⟨n, row, lf, fr, rfl, LI_end (by omega) li (fun s s0 s1 => ?_)⟩)
      rcases li.2.1 s s0 s1 with q | q
      · exact q
      · rw [g s s0 s1] at q
        omega
    · intro k k0 ih kl n row lf li g
      by_cases hk : k ≤ f
      · refine go [] [0] rfl hk (rtv rfl rfl ⟨n, row, lf, fr, rfl, LI_end (by omega) li (fun s s0 s1 => ?_)⟩)
        rcases li.2.1 s s0 s1 with q | q
        · exact q
        · rw [g s s0 s1] at q
          omega
      · refine go [] [1] rfl ⟨(show f < k by omega), rfl⟩ (bcall rfl (by omega) (m_addAisle (K2 X F) ((16 - k) * 30) k 1 1 0 hI hm (Or.inr rfl) hf2 ⟨Or.inr rfl, Or.inl rfl⟩ ?_ li ?_ (by omega)) ?_)
        · intro s s0 s1 hs hc
          rw [Cs_10] at hc
          rw [g s s0 s1] at hs
          obtain ⟨p1, p2, p3, p4, p5, p6⟩ := kf s s0 s1 hs.1
          refine ⟨fun _ => ?_, fun q => by omega⟩
          rw [← hc.1]
          exact p6 (by omega) (by omega) hc.2
        · intro s t s0 s1 t0 t1 hs hc ht hct
          rw [Cs_10] at hc
          rw [Cs_10] at hct
          rw [g s s0 s1] at hs
          rw [g t t0 t1] at ht
          obtain ⟨p1, p2, p3, p4, p5, p6⟩ := kf s s0 s1 hs.1
          obtain ⟨r1, r2, r3, r4, r5, r6⟩ := kf t t0 t1 ht.1
          have b1 := hb s s0 s1
          have b2 := hb t t0 t1
          omega
        rintro r ⟨n3, row3, lf3, rfl, li3, g3⟩
        refine ⟨_, _, _, _, rfl, (fun h => by cases h), ?_⟩
        refine go [168] [] rfl ⟨(show -2147483648 ≤ k - 1 ∧ k - 1 ≤ 2147483647 by omega), rfl⟩ (ih (by omega) n3 row3 lf3 li3 (fun s s0 s1 => ?_))
        rw [g3 s s0 s1, g s s0 s1, Cs_10]
        omega
    · intro s s0 s1
      rw [g2 s s0 s1, g s s0 s1, hcs l s s0 s1]
      have := hf2 s s0 s1
      constructor
      · rintro ⟨⟨q1, q2, q3⟩, q4⟩
        obtain ⟨p1, p2, p3, p4, p5, p6⟩ := kf s s0 s1 q1
        omega
      · rintro ⟨q1, q2, q3, q4⟩
        omega
  · intro k k0 k1 ih hk n row lf li g
    refine go [] [1] rfl ⟨(show k < l by omega), rfl⟩ (bcall rfl (by omega) (m_addAisle (K2 X F) (k * 30 + 29) k 0 0 1 hI hm (Or.inl rfl) hf2 ⟨Or.inl rfl, Or.inr rfl⟩ ?_ li ?_ (by omega)) ?_)
    · intro s s0 s1 hs hc
      rw [Cs_01] at hc
      rw [g s s0 s1] at hs
      obtain ⟨p1, p2, p3, p4, p5, p6⟩ := kf s s0 s1 hs.1
      refine ⟨fun q => by omega, fun _ => ?_⟩
      rw [← hc.1]
      exact p5 (by omega) (by omega) hc.2
    · intro s t s0 s1 t0 t1 hs hc ht hct
      rw [Cs_01] at hc
      rw [Cs_01] at hct
      rw [g s s0 s1] at hs
      rw [g t t0 t1] at ht
      obtain ⟨p1, p2, p3, p4, p5, p6⟩ := kf s s0 s1 hs.1
      obtain ⟨r1, r2, r3, r4, r5, r6⟩ := kf t t0 t1 ht.1
      have b1 := hb s s0 s1
      have b2 := hb t t0 t1
      have := hf2 t t0 t1
      omega
    rintro r ⟨n3, row3, lf3, rfl, li3, g3⟩
    refine ⟨_, _, _, _, rfl, (fun h => by cases h), ?_⟩
    refine go [137] [] rfl ⟨(show -2147483648 ≤ k + 1 ∧ k + 1 ≤ 2147483647 by omega), rfl⟩ (ih (by omega) n3 row3 lf3 li3 (fun s s0 s1 => ?_))
    rw [g3 s s0 s1, g s s0 s1, Cs_01]
    omega
  · intro s s0 s1
    rw [g1 s s0 s1, hl s s0 s1, hcs f s s0 s1]
    constructor
    · rintro ⟨q1, q2⟩
      obtain ⟨p1, p2, p3, p4, p5, p6⟩ := kf s s0 s1 q1
      omega
    · rintro ⟨q1, q2, q3⟩
      omega
end C2
section C3
variable {L : Nat} {xs : Nat → Int32} {X M : Nat → Int} {F G : Nat → Int → Int} {Y : Nat → Int} {E : Nat → Int → Int} {O : Int → Int} {d a b : Nat} {Q : BR → Prop} {row lf fr few co : Int → Int} {n : Int}
theorem m_gaps (hI : SB X F) (hm : RB X F M G) (hfr : ∀ s, 0 ≤ s → s < X 6 → fr s = 0 ∨ fr s = 1) (hl : ∀ s, 0 ≤ s → s < X 6 → lf s = wk F s) (hd : 3 ≤ d) :
    bE L xs d MX6_gaps (0, [(0, bR 19)], [], WD Y E (PM M 0) (PG G row lf fr few co) O, a, b)
      (fun r => ∃ n' row' lf' fr', r = (WD Y E (PM M n') (PG G row' lf' fr' few co) O, .inl none, a, b) ∧ WLs (K2 X F) X F n' row') := by
  have hX := hI.1
  have hM := hm.1
  have key := for_up (P := fun k => ∀ f l : Int, FL X F k f l → bE L xs d MX6_gaps (6, [(0, bR 19), (1, bI f), (2, bI l), (3, bI k)], [], WD Y E (PM M 0) (PG G row lf fr few co) O, a, b)
      (fun r => ∃ n' row' lf' fr', r = (WD Y E (PM M n') (PG G row' lf' fr' few co) O, .inl none, a, b) ∧ WLs (K2 X F) X F n' row')) (X 4) ?_ ?_ 0 (by omega) (by omega) (-1) (-1) (Or.inl ⟨rfl, rfl, fun j j0 j1 => by omega⟩)
  · exact go [6] [] rfl rfl key
  · intro f l hfl
    rcases hfl with ⟨e1, e2, hno⟩ | h
    · subst e1 e2
      refine go [] [0, 1] rfl ⟨(show M 1 ≤ X 4 by omega), rfl⟩ (rtv rfl rfl ⟨0, row, lf, fr, rfl, LI_end (by omega) (LI_0 (by omega) hl) (fun s s0 s1 => ?_)⟩)
      have hs := hI.2.1 s s0 s1
      rw [hl s s0 s1]
      rcases wk_01 F s with q | q
      · exact q
      · have : us X F (F 2 s) = 1 := usN_1 s0 s1 ⟨q, rfl⟩
        have := hno (F 2 s) hs.1 hs.2.1
        omega
    · have fronts := for_up (P := fun k => ∀ (fr : Int → Int) (ls : BL), FR X F k fr → (ls = [(0, bR 19), (1, bI f), (2, bI l), (3, bI k)] ∧ k = 0 ∨ ∃ t u, ls = [(0, bR 19), (1, bI f), (2, bI l), (3, bI k), (4, bI t), (5, bI u)]) →
        bE L xs d MX6_gaps (52, ls, [], WD Y E (PM M 0) (PG G row lf fr few co) O, a, b)
        (fun r => ∃ n' row' lf' fr', r = (WD Y E (PM M n') (PG G row' lf' fr' few co) O, .inl none, a, b) ∧ WLs (K2 X F) X F n' row')) (X 4) ?_ ?_ 0 (by omega) (by omega) fr _ (fun s s0 s1 => ⟨hfr s s0 s1, fun q => by have := hI.2.1 s s0 s1; omega⟩) (Or.inl ⟨rfl, rfl⟩)
      · exact go [52] [0, 0] rfl ⟨(show M 1 ≤ X 4 by omega), (show ¬ f = -1 by omega), rfl⟩ fronts
      · intro fr ls hF hls
        rcases hls with ⟨_, e0⟩ | ⟨t, u, rfl⟩
        · omega
        · exact go [125] [0] rfl (show M 1 ≤ X 4 by omega) (g_turns hI hm h hF hl t u hd)
      · intro k k0 k1 ih fr ls hF hls
        have gc := fun (fr : Int → Int) => m_gap (L := L) (xs := xs) (Y := Y) (E := E) (O := O) (d := d - 1) (a := a) (b := b) (M := PM M 0) (G := PG G row lf fr few co) hI hm hl k (by omega)
        have inner := for_up (P := fun s => ∀ fr : Int → Int, FR X F k fr → (∀ t, 0 ≤ t → t < s → F 2 t = k → (fr t = 1 ↔ F 4 t ≤ gs X F k)) →
          bE L xs d MX6_gaps (70, [(0, bR 19), (1, bI f), (2, bI l), (3, bI k), (4, bI (gs X F k)), (5, bI s)], [], WD Y E (PM M 0) (PG G row lf fr few co) O, a, b)
          (fun r => ∃ n' row' lf' fr', r = (WD Y E (PM M n') (PG G row' lf' fr' few co) O, .inl none, a, b) ∧ WLs (K2 X F) X F n' row')) (X 6) ?_ ?_ 0 (by omega) (by omega) fr hF (fun t t0 t1 => by omega)
        · rcases hls with ⟨rfl, _⟩ | ⟨t, u, rfl⟩
          · refine go [] [1] rfl ⟨(show k < M 1 by omega), rfl⟩ (bc rfl (by omega) (gc fr) (fun h => by cases h) ?_)
            exact go [70] [] rfl rfl inner
          · refine go [] [1] rfl ⟨(show k < M 1 by omega), rfl⟩ (bc rfl (by omega) (gc fr) (fun h => by cases h) ?_)
            exact go [70] [] rfl rfl inner
        · intro fr hF hk
          refine go [52] [0] rfl ⟨(show M 6 ≤ X 6 by omega), (show -2147483648 ≤ k + 1 ∧ k + 1 ≤ 2147483647 by omega), rfl⟩ (ih fr _ (fun s s0 s1 => ⟨(hF s s0 s1).1, fun q => ?_⟩) (Or.inr ⟨_, _, rfl⟩))
          by_cases c : F 2 s = k
          · rw [c]; exact hk s s0 s1 c
          · exact (hF s s0 s1).2 (by omega)
        · intro s s0 s1 ih2 fr hF hk
          have hx : 0 ≤ s ∧ s < ((10 : Nat) : Int) := by omega
          have hs6 : s < M 6 := by omega
          have hr1 : -2147483648 ≤ s + 1 ∧ s + 1 ≤ 2147483647 := by omega
          obtain ⟨g1, g2, g3, g4⟩ := hm.2.2.1 s s0 s1
          by_cases c : F 2 s = k
          · have dc := m_depthOf (L := L) (xs := xs) (Y := Y) (E := E) (O := O) (d := d - 1) (a := a) (b := b) (M := PM M 0) (G := PG G row lf fr few co) hI hm s (pnt_s s0 s1)
            rw [mp_s (s := s) (by omega)] at dc
            refine go [] [1, 1] rfl ⟨hs6, hx, (show G 1 s = k by omega), rfl⟩ (bc rfl (by omega) dc (fun h => by cases h) ?_)
            have upd : ∀ v : Int, (v = 0 ∨ v = 1) → (v = 1 ↔ F 4 s ≤ gs X F k) → FR X F k (up fr s v) ∧ (∀ t, 0 ≤ t → t < s + 1 → F 2 t = k → (up fr s v t = 1 ↔ F 4 t ≤ gs X F k)) := by
              intro v hv hv2
              constructor
              · intro t t0 t1
                by_cases e : t = s
                · subst e
                  rw [up_eq]
                  exact ⟨hv, fun q => by omega⟩
                · rw [up_ne _ e]; exact hF t t0 t1
              · intro t t0 t1 ht
                by_cases e : t = s
                · subst e
                  rw [up_eq]
                  exact hv2
                · rw [up_ne _ e]; exact hk t t0 (by omega) ht
            by_cases c2 : F 4 s ≤ gs X F k
            · obtain ⟨u1, u2⟩ := upd 1 (Or.inr rfl) ⟨fun _ => c2, fun _ => rfl⟩
              exact go [70] [1] rfl ⟨c2, (show 0 ≤ s ∧ s < ((10 : Nat) : Int) ∧ (0 : Int) ≤ 1 ∧ (1 : Int) ≤ 1 by omega), hr1, rfl⟩ (ih2 (up fr s 1) u1 u2)
            · obtain ⟨u1, u2⟩ := upd 0 (Or.inl rfl) ⟨fun q => by omega, fun q => absurd q c2⟩
              exact go [70] [0] rfl ⟨(show gs X F k < F 4 s by omega), (show 0 ≤ s ∧ s < ((10 : Nat) : Int) ∧ (0 : Int) ≤ 0 ∧ (0 : Int) ≤ 1 by omega), hr1, rfl⟩ (ih2 (up fr s 0) u1 u2)
          · refine go [70] [1, 0] rfl ⟨hs6, hx, (show ¬ G 1 s = k by omega), hr1, rfl⟩ (ih2 fr hF (fun t t0 t1 ht => ?_))
            by_cases e : t = s
            · subst e; exact absurd ht c
            · exact hk t t0 (by omega) ht
  · intro k k0 k1 ih f l hfl
    have hr1 : -2147483648 ≤ k + 1 ∧ k + 1 ≤ 2147483647 := by omega
    have kc := m_hasLeft (L := L) (xs := xs) (Y := Y) (E := E) (O := O) (d := d - 1) (a := a) (b := b) (M := PM M 0) (G := PG G row lf fr few co) hI hm k (fun s s0 s1 _ => hl s s0 s1)
    refine go [] [1] rfl ⟨(show k < M 1 by omega), rfl⟩ (bc rfl (by omega) kc (fun h => by cases h) ?_)
    rcases us_01 (X := X) (F := F) k (by omega) with h | h
    · rw [h]
      refine go [6] [1] rfl ⟨rfl, hr1, rfl⟩ (ih f l ?_)
      rcases hfl with ⟨e1, e2, hno⟩ | ⟨f0, fl, l1, uf, ul, nf, nl⟩
      · refine Or.inl ⟨e1, e2, fun j j0 j1 => ?_⟩
        by_cases e : j = k
        · rw [e]; exact h
        · exact hno j j0 (by omega)
      · refine Or.inr ⟨f0, fl, by omega, uf, ul, nf, fun j j0 j1 => ?_⟩
        by_cases e : j = k
        · rw [e]; exact h
        · exact nl j j0 (by omega)
    · rw [h]
      rcases hfl with ⟨e1, e2, hno⟩ | ⟨f0, fl, l1, uf, ul, nf, nl⟩
      · subst e1 e2
        refine go [6] [0, 1] rfl ⟨(by decide : ¬ (1 : Int) = 0), rfl, hr1, rfl⟩ (ih k k (Or.inr ⟨k0, Int.le_refl _, by omega, h, h, hno, fun j j0 j1 => by omega⟩))
      · refine go [6] [0, 0] rfl ⟨(by decide : ¬ (1 : Int) = 0), (show ¬ f = -1 by omega), hr1, rfl⟩ (ih f k (Or.inr ⟨f0, by omega, by omega, uf, h, nf, fun j j0 j1 => by omega⟩))
end C3
end
section
/-! Walks by the nearest stop, both sides -/
section D1
variable {X : Nat → Int} {F : Nat → Int → Int}
/-- where the walk stands ahead of its step i -/
def at3 (X : Nat → Int) (row : Int → Int) (i : Int) : Int := if i = 0 then X 0 else row (i - 1)
/-- step k: the nearest of those that wait, of equal ones the lowest number -/
def NC (X : Nat → Int) (F : Nat → Int → Int) (row : Int → Int) (k : Int) : Prop :=
  (0 ≤ row k ∧ row k < X 6 ∧ wk F (row k) = 1) ∧ (∀ j, 0 ≤ j → j < k → row j ≠ row k) ∧
  ∀ t, 0 ≤ t → t < X 6 → wk F t = 1 → (∀ j, 0 ≤ j → j < k → row j ≠ t) → t ≠ row k → lx (fun u => F 7 (at3 X row k * 11 + u)) (row k) t
def WL3 (X : Nat → Int) (F : Nat → Int → Int) (n : Int) (row : Int → Int) : Prop := n = nW F (X 6) ∧ ∀ k, 0 ≤ k → k < n → NC X F row k
def NI (X : Nat → Int) (F : Nat → Int → Int) (i : Int) (row lf : Int → Int) : Prop :=
  (0 ≤ i ∧ i + itr (fun s acc => acc + lf s) 0 (X 6) = nW F (X 6)) ∧ (∀ s, 0 ≤ s → s < X 6 → lf s = 0 ∨ lf s = 1) ∧
  (∀ s, 0 ≤ s → s < X 6 → (lf s = 1 ↔ wk F s = 1 ∧ ∀ j, 0 ≤ j → j < i → row j ≠ s)) ∧ ∀ k, 0 ≤ k → k < i → NC X F row k
theorem at3_c {row row' : Int → Int} {k : Int} (k0 : 0 ≤ k) (h : ∀ j, 0 ≤ j → j < k → row' j = row j) : at3 X row' k = at3 X row k := by
  unfold at3
  by_cases e : k = 0
  · rw [if_pos e, if_pos e]
  · rw [if_neg e, if_neg e, h (k - 1) (by omega) (by omega)]
theorem NC_c {row row' : Int → Int} {k : Int} (k0 : 0 ≤ k) (h : ∀ j, 0 ≤ j → j ≤ k → row' j = row j) (hc : NC X F row k) : NC X F row' k := by
  obtain ⟨h1, h2, h3⟩ := hc
  have ek := h k k0 (Int.le_refl _)
  refine ⟨by rw [ek]; exact h1, ?_, ?_⟩
  · intro j j0 j1
    rw [ek, h j j0 (by omega)]
    exact h2 j j0 j1
  · intro t t0 t1 ht hj hne
    rw [ek] at hne
    rw [ek, at3_c k0 (fun j j0 j1 => h j j0 (by omega))]
    exact h3 t t0 t1 ht (fun j j0 j1 => by rw [← h j j0 (by omega)]; exact hj j j0 j1) hne
theorem WL3_one {n n' : Int} {row row' : Int → Int} (h : WL3 X F n row) (h' : WL3 X F n' row') : n = n' ∧ ∀ i, 0 ≤ i → i < n → row i = row' i := by
  obtain ⟨a1, a2⟩ := h
  obtain ⟨b1, b2⟩ := h'
  have hn : n = n' := by rw [a1, b1]
  refine ⟨hn, ?_⟩
  subst hn
  have key : ∀ k : Nat, ∀ i, 0 ≤ i → i < n → i < k → row i = row' i := by
    intro k
    induction k with
    | zero => intro i h0 _ h2; omega
    | succ k ih =>
      intro i h0 h1 h2
      have hj : ∀ j, 0 ≤ j → j < i → row j = row' j := fun j j0 j1 => ih j j0 (by omega) (by omega)
      obtain ⟨p1, p2, p3⟩ := a2 i h0 h1
      obtain ⟨q1, q2, q3⟩ := b2 i h0 h1
      by_cases e : row i = row' i
      · exact e
      · have r1 := p3 (row' i) q1.1 q1.2.1 q1.2.2 (fun j j0 j1 => by rw [hj j j0 j1]; exact q2 j j0 j1) (fun q => e q.symm)
        have r2 := q3 (row i) p1.1 p1.2.1 p1.2.2 (fun j j0 j1 => by rw [← hj j j0 j1]; exact p2 j j0 j1) e
        rw [at3_c (X := X) h0 hj] at r1
        exact (lx_asym r1 r2).elim
  intro i h0 h1
  exact key (i.toNat + 1) i h0 h1 (by omega)
theorem NI_0 {row lf : Int → Int} (hX : 0 ≤ X 6) (hl : ∀ s, 0 ≤ s → s < X 6 → lf s = wk F s) : NI X F 0 row lf := by
  refine ⟨⟨Int.le_refl _, ?_⟩, fun s s0 s1 => by rw [hl s s0 s1]; exact wk_01 F s, fun s s0 s1 => ?_, fun k k0 k1 => by omega⟩
  · rw [Int.zero_add]
    exact itr_congr (fun i x i0 i1 => by rw [hl i i0 i1]) (X 6) hX (Int.le_refl _)
  · rw [hl s s0 s1]
    exact ⟨fun h => ⟨h, fun j j0 j1 => by omega⟩, fun h => h.1⟩
theorem NI_add {i s : Int} {row row' lf : Int → Int} (h : NI X F i row lf) (s0 : 0 ≤ s) (s1 : s < X 6) (hs : lf s = 1) (hmin : ∀ t, 0 ≤ t → t < X 6 → lf t = 1 → t ≠ s → lx (fun u => F 7 (at3 X row i * 11 + u)) s t) (hrow : ∀ j, 0 ≤ j → j < i + 1 → row' j = up row i s j) : NI X F (i + 1) row' (up lf s 0) := by
  obtain ⟨⟨a0, a1⟩, a2, a3, a4⟩ := h
  have hc := cnt_up hs (X 6) (by omega)
  rw [if_pos ⟨s1, s0⟩] at hc
  have ei : row' i = s := by rw [hrow i a0 (by omega), up_eq]
  have ej : ∀ j, 0 ≤ j → j < i → row' j = row j := fun j j0 j1 => by rw [hrow j j0 (by omega), up_ne _ (by omega)]
  refine ⟨⟨by omega, by omega⟩, ?_, ?_, ?_⟩
  · intro t t0 t1; unfold up; split; exact Or.inl rfl; exact a2 t t0 t1
  · intro t t0 t1
    by_cases e : t = s
    · subst e
      rw [up_eq]
      exact ⟨fun q => by omega, fun q => absurd ei (q.2 i a0 (by omega))⟩
    · rw [up_ne _ e, a3 t t0 t1]
      constructor
      · rintro ⟨q1, q2⟩
        refine ⟨q1, fun j j0 j1 => ?_⟩
        by_cases c : j = i
        · rw [c, ei]; exact fun q => e q.symm
        · rw [ej j j0 (by omega)]; exact q2 j j0 (by omega)
      · rintro ⟨q1, q2⟩
        exact ⟨q1, fun j j0 j1 => by rw [← ej j j0 j1]; exact q2 j j0 (by omega)⟩
  · intro k k0 k1
    by_cases c : k = i
    · subst c
      have hw := (a3 s s0 s1).1 hs
      refine ⟨by rw [ei]; exact ⟨s0, s1, hw.1⟩, fun j j0 j1 => ?_, fun t t0 t1 ht hj hne => ?_⟩
      · rw [ei, ej j j0 j1]; exact hw.2 j j0 j1
      · rw [ei] at hne
        rw [ei, at3_c k0 ej]
        exact hmin t t0 t1 ((a3 t t0 t1).2 ⟨ht, fun j j0 j1 => by rw [← ej j j0 j1]; exact hj j j0 j1⟩) hne
    · exact NC_c k0 (fun j j0 j1 => ej j j0 (by omega)) (a4 k k0 (by omega))
theorem NI_ex {i : Int} {row lf : Int → Int} (hX : 0 ≤ X 6) (h : NI X F i row lf) (hi : i < nW F (X 6)) : ∃ t, 0 ≤ t ∧ t < X 6 ∧ lf t = 1 := by
  by_cases c : ∃ t, 0 ≤ t ∧ t < X 6 ∧ lf t = 1
  · exact c
  · have e : itr (fun s acc => acc + lf s) 0 (X 6) = 0 := by
      refine itr_ind (P := fun _ z => z = 0) (n := X 6) rfl ?_ (X 6) hX (Int.le_refl _)
      intro j z j0 j1 hz
      rcases h.2.1 j j0 j1 with q | q
      · rw [hz, q]; rfl
      · exact absurd ⟨j, j0, j1, q⟩ c
    have := h.1
    omega
theorem NI_at {i : Int} {row lf : Int → Int} (hI : SB X F) (h : NI X F i row lf) : pnt X (at3 X row i) := by
  unfold at3
  split
  · exact SB_here hI
  · have := h.1.1
    have q := (h.2.2.2 (i - 1) (by omega) (by omega)).1
    exact pnt_s q.1 q.2.1
theorem at3_s {row : Int → Int} {i : Int} (h : 0 ≤ i) : at3 X row (i + 1) = row i := by
  unfold at3
  rw [if_neg (by omega)]
  congr 1
  omega
end D1
section D2
variable {L : Nat} {xs : Nat → Int32} {X M : Nat → Int} {F G : Nat → Int → Int} {O : Int → Int} {d a b : Nat} {Q : BR → Prop} {row keys wt mem rs : Int → Int} {n l : Int}
theorem t_nearestFrom (hI : SB X F) (h01 : ∀ s, 0 ≤ s → s < X 6 → F 9 s = 0 ∨ F 9 s = 1) (at_ : Int) (hat : pnt X at_) (hex : ∃ t, 0 ≤ t ∧ t < X 6 ∧ F 9 t = 1) (hd : 2 ≤ d) : bE L xs d MX2_nearestFrom (0, [(0, bR 13), (1, bI at_)], [], WD X F M G O, a, b)
    (fun r => ∃ s, r = (WD X F M G O, .inl (some (bI s)), a, b) ∧ 0 ≤ s ∧ s < X 6 ∧ F 9 s = 1 ∧ ∀ t, 0 ≤ t → t < X 6 → F 9 t = 1 → t ≠ s → lx (fun u => F 7 (at_ * 11 + u)) s t) := by
  have hX := hI.1
  have hp := SB_pt hI hat
  have key := for_up (P := fun s => ∀ nr ls : Int, ((nr = 0 ∧ ls = 1000000 ∧ ∀ t, 0 ≤ t → t < s → F 9 t = 0) ∨ (0 ≤ nr ∧ nr < s ∧ F 9 nr = 1 ∧ ls = F 7 (at_ * 11 + nr) ∧ ∀ t, 0 ≤ t → t < s → F 9 t = 1 → t ≠ nr → lx (fun u => F 7 (at_ * 11 + u)) nr t)) →
      bE L xs d MX2_nearestFrom (8, [(0, bR 13), (1, bI at_), (2, bI nr), (3, bI ls), (4, bI s)], [], WD X F M G O, a, b)
      (fun r => ∃ s, r = (WD X F M G O, .inl (some (bI s)), a, b) ∧ 0 ≤ s ∧ s < X 6 ∧ F 9 s = 1 ∧ ∀ t, 0 ≤ t → t < X 6 → F 9 t = 1 → t ≠ s → lx (fun u => F 7 (at_ * 11 + u)) s t)) (X 6) ?_ ?_ 0 (by omega) (by omega) 0 1000000 (Or.inl ⟨rfl, rfl, fun t t0 t1 => by omega⟩)
  · exact go [8] [] rfl rfl key
  · intro nr ls hinv
    rcases hinv with ⟨e1, e2, hno⟩ | ⟨n0, n1, n2, n3, n4⟩
    · obtain ⟨t, t0, t1, t2⟩ := hex
      have := hno t t0 t1
      omega
    · exact go [] [0] rfl (by omega) (rti rfl rfl ⟨nr, rfl, n0, n1, n2, n4⟩)
  · intro s s0 s1 ih nr ls hinv
    rcases h01 s s0 s1 with h | h
    · refine go [8] [1, 0] rfl (by omega) (ih nr ls ?_)
      rcases hinv with ⟨e1, e2, hno⟩ | ⟨n0, n1, n2, n3, n4⟩
      · refine Or.inl ⟨e1, e2, fun t t0 t1 => ?_⟩
        by_cases e : t = s
        · rw [e]; exact h
        · exact hno t t0 (by omega)
      · refine Or.inr ⟨n0, by omega, n2, n3, fun t t0 t1 ht hne => ?_⟩
        by_cases e : t = s
        · rw [e] at ht; omega
        · exact n4 t t0 (by omega) ht hne
    · have w := fun (d : Nat) => t_way (L := L) (xs := xs) (X := X) (F := F) (M := M) (G := G) (O := O) (d := d) (a := a) (b := b) at_ s (by omega)
      have hw := SB_way hI hat (pnt_s s0 s1)
      refine go [] [1, 1] rfl (by omega) (bc rfl hd (w _) (fun h => by cases h) ?_)
      by_cases hlt : F 7 (at_ * 11 + s) < ls
      · refine go [] [1] rfl (by omega) (bc rfl hd (w _) (fun h => by cases h) ?_)
        refine go [8] [] rfl (by omega) (ih s (F 7 (at_ * 11 + s)) (Or.inr ⟨s0, by omega, h, rfl, fun t t0 t1 ht hne => ?_⟩))
        rcases hinv with ⟨e1, e2, hno⟩ | ⟨n0, n1, n2, n3, n4⟩
        · have := hno t t0 (by omega); omega
        · by_cases e : t = nr
          · rw [e]; exact Or.inl (by show F 7 (at_ * 11 + s) < F 7 (at_ * 11 + nr); omega)
          · have q := n4 t t0 (by omega) ht e
            refine Or.inl ?_
            show F 7 (at_ * 11 + s) < F 7 (at_ * 11 + t)
            rcases q with q | q
            · have q' : F 7 (at_ * 11 + nr) < F 7 (at_ * 11 + t) := q
              omega
            · have q' : F 7 (at_ * 11 + nr) = F 7 (at_ * 11 + t) := q.1
              omega
      · refine go [8] [0] rfl (by omega) (ih nr ls ?_)
        rcases hinv with ⟨e1, e2, hno⟩ | ⟨n0, n1, n2, n3, n4⟩
        · omega
        · refine Or.inr ⟨n0, by omega, n2, n3, fun t t0 t1 ht hne => ?_⟩
          by_cases e : t = s
          · rw [e]
            by_cases c : F 7 (at_ * 11 + nr) = F 7 (at_ * 11 + s)
            · exact Or.inr ⟨c, n1⟩
            · exact Or.inl (by show F 7 (at_ * 11 + nr) < F 7 (at_ * 11 + s); omega)
          · exact n4 t t0 (by omega) ht hne
theorem t_layNearest (hI : SB X F) (hw : ∀ s, 0 ≤ s → s < X 6 → wt s = wk F s) (hd : 3 ≤ d) : bE L xs d MX2_layNearest (0, [(0, bR 13), (1, bI (X 0)), (2, bR 2)], [], WD (PX X 0 l) (PF F row keys wt mem rs) M G O, a, b)
    (fun r => ∃ n row' wt', r = (WD (PX X n l) (PF F row' keys wt' mem rs) M G O, .inl none, a, b) ∧ WL3 X F n row') := by
  have hX := hI.1
  have hnb := nW_b F (X 6) (by omega)
  have key := for_up (P := fun i => ∀ (at_ : Int) (row wt : Int → Int) (ls : BL), NI X F i row wt → at_ = at3 X row i → (ls = [(0, bR 13), (1, bI (X 0)), (2, bR 2), (3, bI at_), (4, bI (nW F (X 6))), (5, bI i)] ∨ ∃ t, ls = [(0, bR 13), (1, bI (X 0)), (2, bR 2), (3, bI at_), (4, bI (nW F (X 6))), (5, bI i), (6, bI t)]) →
      bE L xs d MX2_layNearest (14, ls, [], WD (PX X i l) (PF F row keys wt mem rs) M G O, a, b)
      (fun r => ∃ n row' wt', r = (WD (PX X n l) (PF F row' keys wt' mem rs) M G O, .inl none, a, b) ∧ WL3 X F n row')) (nW F (X 6)) ?_ ?_ 0 (by omega) (by omega) (X 0) row wt _ (NI_0 (by omega) hw) rfl (Or.inl rfl)
  · have wc : bE L xs (d - 1) MX4_walkedOnes (0, [(0, bR 6)], [], WD (PX X 0 l) (PF F row keys wt mem rs) M G O, a, b) (rI (WD (PX X 0 l) (PF F row keys wt mem rs) M G O) (nW F (X 6)) a b) := t_walkedOnes (X := PX X 0 l) (F := PF F row keys wt mem rs) hI (by omega)
    refine go [] [] rfl rfl (bc rfl (by omega) wc (fun h => by cases h) ?_)
    exact go [14] [] rfl rfl key
  · intro at_ row wt ls h1 h2 hls
    have fin : WL3 X F (nW F (X 6)) row := ⟨rfl, h1.2.2.2⟩
    rcases hls with rfl | ⟨t, rfl⟩
    · exact go [] [0] rfl (Int.le_refl (nW F (X 6))) (rtv rfl rfl ⟨_, row, wt, rfl, fin⟩)
    · exact go [] [0] rfl (Int.le_refl (nW F (X 6))) (rtv rfl rfl ⟨_, row, wt, rfl, fin⟩)
  · intro i i0 i1 ih at_ row wt ls h1 h2 hls
    have hr1 : -2147483648 ≤ i + 1 ∧ i + 1 ≤ 2147483647 := by omega
    have hp := NI_at hI h1
    rw [← h2] at hp
    have hex := NI_ex (by omega) h1 i1
    have nc : bE L xs (d - 1) MX2_nearestFrom (0, [(0, bR 13), (1, bI at_)], [], WD (PX X i l) (PF F row keys wt mem rs) M G O, a, b)
      (fun r => ∃ s, r = (WD (PX X i l) (PF F row keys wt mem rs) M G O, .inl (some (bI s)), a, b) ∧ 0 ≤ s ∧ s < X 6 ∧ wt s = 1 ∧ ∀ t, 0 ≤ t → t < X 6 → wt t = 1 → t ≠ s → lx (fun u => F 7 (at_ * 11 + u)) s t) :=
      t_nearestFrom (X := PX X i l) (F := PF F row keys wt mem rs) hI h1.2.1 at_ hp hex (by omega)
    rcases hls with rfl | ⟨t, rfl⟩
    all_goals
      refine go [] [1] rfl ⟨i1, rfl⟩ (bcall rfl (by omega) nc ?_)
      rintro r ⟨s, rfl, s0, s1, s2, s3⟩
      refine ⟨_, _, _, _, rfl, (fun h => by cases h), ?_⟩
      refine go [] [] rfl ⟨(show 0 ≤ s ∧ s < ((10 : Nat) : Int) ∧ (0 : Int) ≤ 0 ∧ (0 : Int) ≤ 1 by omega), rfl⟩ (bcall rfl (by omega) (t_append (X := X) (F := F) (n := i) (l := l) (row := row) (keys := keys) (wt := up wt s 0) (mem := mem) (rs := rs) s (by omega) (by omega)) ?_)
      rintro r ⟨row', rfl, hrow⟩
      refine ⟨_, _, _, _, rfl, (fun h => by cases h), ?_⟩
      refine go [14] [] rfl ⟨hr1, rfl⟩ (ih s row' (up wt s 0) _ (NI_add h1 s0 s1 s2 ?_ hrow) ?_ (Or.inr ⟨_, rfl⟩))
      · rw [← h2]; exact s3
      · rw [at3_s i0, hrow i i0 (by omega), up_eq]
end D2
section D3
variable {L : Nat} {xs : Nat → Int32} {X M : Nat → Int} {F G : Nat → Int → Int} {Y : Nat → Int} {E : Nat → Int → Int} {O : Int → Int} {d a b : Nat} {Q : BR → Prop} {row lf fr few co : Int → Int} {n : Int}
theorem m_nearest (hI : SB X F) (hm : RB X F M G) (hl : ∀ s, 0 ≤ s → s < X 6 → lf s = wk F s) (hd : 3 ≤ d) :
    bE L xs d MX6_nearest (0, [(0, bR 19), (1, bI (nW F (X 6)))], [], WD Y E (PM M 0) (PG G row lf fr few co) O, a, b)
      (fun r => ∃ n' row' lf', r = (WD Y E (PM M n') (PG G row' lf' fr few co) O, .inl none, a, b) ∧ WL3 X F n' row') := by
  have hX := hI.1
  have hM := hm.1
  have hnb := nW_b F (X 6) (by omega)
  have key := for_up (P := fun i => ∀ (u : Int) (row lf : Int → Int) (ls : BL), NI X F i row lf → u = mp (at3 X row i) → (ls = [(0, bR 19), (1, bI (nW F (X 6))), (2, bI u), (3, bI i)] ∨ ∃ t v, ls = [(0, bR 19), (1, bI (nW F (X 6))), (2, bI u), (3, bI i), (4, bI t), (5, bI v)]) →
      bE L xs d MX6_nearest (7, ls, [], WD Y E (PM M i) (PG G row lf fr few co) O, a, b)
      (fun r => ∃ n' row' lf', r = (WD Y E (PM M n') (PG G row' lf' fr few co) O, .inl none, a, b) ∧ WL3 X F n' row')) (nW F (X 6)) ?_ ?_ 0 (by omega) (by omega) (M 5) row lf _ (NI_0 (by omega) hl) hM.2.2.2.2.1 (Or.inl rfl)
  · exact go [7] [] rfl rfl key
  · intro u row lf ls h1 h2 hls
    have fin : WL3 X F (nW F (X 6)) row := ⟨rfl, h1.2.2.2⟩
    rcases hls with rfl | ⟨t, v, rfl⟩
    · exact go [] [0] rfl (Int.le_refl (nW F (X 6))) (rtv rfl rfl ⟨_, row, lf, rfl, fin⟩)
    · exact go [] [0] rfl (Int.le_refl (nW F (X 6))) (rtv rfl rfl ⟨_, row, lf, rfl, fin⟩)
  · intro i i0 i1 ih u row lf ls h1 h2 hls
    have hr1 : -2147483648 ≤ i + 1 ∧ i + 1 ≤ 2147483647 := by omega
    have hp := NI_at hI h1
    have hex := NI_ex (by omega) h1 i1
    have wc := fun (q : Int) (q0 : 0 ≤ q) (q1 : q < X 6) => m_way (L := L) (xs := xs) (Y := Y) (E := E) (O := O) (d := d - 1) (a := a) (b := b) (M := PM M i) (G := PG G row lf fr few co) hI hm (at3 X row i) q hp (pnt_s q0 q1) (by omega)
    rw [← h2] at wc
    have inner := for_up (P := fun s => ∀ nx : Int, ((nx = -1 ∧ ∀ t, 0 ≤ t → t < s → lf t = 0) ∨ (0 ≤ nx ∧ nx < s ∧ lf nx = 1 ∧ ∀ t, 0 ≤ t → t < s → lf t = 1 → t ≠ nx → lx (fun u => F 7 (at3 X row i * 11 + u)) nx t)) →
        bE L xs d MX6_nearest (18, [(0, bR 19), (1, bI (nW F (X 6))), (2, bI u), (3, bI i), (4, bI nx), (5, bI s)], [], WD Y E (PM M i) (PG G row lf fr few co) O, a, b)
        (fun r => ∃ n' row' lf', r = (WD Y E (PM M n') (PG G row' lf' fr few co) O, .inl none, a, b) ∧ WL3 X F n' row')) (X 6) ?_ ?_ 0 (by omega) (by omega) (-1) (Or.inl ⟨rfl, fun t t0 t1 => by omega⟩)
    · rcases hls with rfl | ⟨t, v, rfl⟩
      · exact go [18] [1] rfl ⟨i1, rfl⟩ inner
      · exact go [18] [1] rfl ⟨i1, rfl⟩ inner
    · intro nx hinv
      rcases hinv with ⟨e1, hno⟩ | ⟨n0, n1, n2, n4⟩
      · obtain ⟨t, t0, t1, t2⟩ := hex
        have := hno t t0 t1
        omega
      · refine go [] [0] rfl ⟨(show M 6 ≤ X 6 by omega), rfl⟩ (bc rfl (by omega) (m_add nx (by omega) (by omega)) (fun h => by cases h) ?_)
        refine go [7] [] rfl ⟨hr1, rfl⟩ (ih nx (up row i nx) (up lf nx 0) _ (NI_add h1 n0 n1 n2 n4 (fun j _ _ => rfl)) ?_ (Or.inr ⟨_, _, rfl⟩))
        rw [at3_s i0, up_eq, mp_s (s := nx) (by omega)]
    · intro s s0 s1 ih2 nx hinv
      have hx : 0 ≤ s ∧ s < ((10 : Nat) : Int) := by omega
      have hs6 : s < M 6 := by omega
      have hr2 : -2147483648 ≤ s + 1 ∧ s + 1 ≤ 2147483647 := by omega
      rcases h1.2.1 s s0 s1 with h | h
      · refine go [18] [1, 0] rfl ⟨hs6, hx, h, hr2, rfl⟩ (ih2 nx ?_)
        rcases hinv with ⟨e1, hno⟩ | ⟨n0, n1, n2, n4⟩
        · refine Or.inl ⟨e1, fun t t0 t1 => ?_⟩
          by_cases e : t = s
          · rw [e]; exact h
          · exact hno t t0 (by omega)
        · refine Or.inr ⟨n0, by omega, n2, fun t t0 t1 ht hne => ?_⟩
          by_cases e : t = s
          · rw [e] at ht; omega
          · exact n4 t t0 (by omega) ht hne
      · have c1 : ¬ lf s = 0 := by omega
        rcases hinv with ⟨e1, hno⟩ | ⟨n0, n1, n2, n4⟩
        · subst e1
          refine go [18] [1, 1, 0] rfl ⟨hs6, hx, c1, rfl, hr2, rfl⟩ (ih2 s (Or.inr ⟨s0, by omega, h, fun t t0 t1 ht hne => ?_⟩))
          have := hno t t0 (by omega)
          omega
        · have w1 := wc s s0 s1
          have w2 := wc nx n0 (by omega)
          rw [mp_s (s := s) (by omega)] at w1
          rw [mp_s (s := nx) (by omega)] at w2
          have hne : ¬ nx = -1 := by omega
          refine go [] [1, 1, 1] rfl ⟨hs6, hx, c1, hne, rfl⟩ (bc rfl (by omega) w1 (fun h => by cases h) ?_)
          refine go [] [] rfl rfl (bc rfl (by omega) w2 (fun h => by cases h) ?_)
          by_cases hlt : F 7 (at3 X row i * 11 + s) < F 7 (at3 X row i * 11 + nx)
          · refine go [18] [1] rfl ⟨hlt, hr2, rfl⟩ (ih2 s (Or.inr ⟨s0, by omega, h, fun t t0 t1 ht hne => ?_⟩))
            by_cases e : t = nx
            · rw [e]; exact Or.inl hlt
            · refine Or.inl ?_
              show F 7 (at3 X row i * 11 + s) < F 7 (at3 X row i * 11 + t)
              rcases n4 t t0 (by omega) ht e with q | q
              · have q' : F 7 (at3 X row i * 11 + nx) < F 7 (at3 X row i * 11 + t) := q
                omega
              · have q' : F 7 (at3 X row i * 11 + nx) = F 7 (at3 X row i * 11 + t) := q.1
                omega
          · refine go [18] [0] rfl ⟨(show F 7 (at3 X row i * 11 + nx) ≤ F 7 (at3 X row i * 11 + s) by omega), hr2, rfl⟩ (ih2 nx (Or.inr ⟨n0, by omega, n2, fun t t0 t1 ht hne => ?_⟩))
            by_cases e : t = s
            · rw [e]
              by_cases c : F 7 (at3 X row i * 11 + nx) = F 7 (at3 X row i * 11 + s)
              · exact Or.inr ⟨c, n1⟩
              · exact Or.inl (by show F 7 (at3 X row i * 11 + nx) < F 7 (at3 X row i * 11 + s); omega)
            · exact n4 t t0 (by omega) ht hne
end D3
end
section
/-! Sets of members as bits -/
def bt (s x : Int) : Int := bAnd (bShr s x) 1
def rm (s x : Int) : Int := bAnd s (bXor (bShl 1 x) (-1))
def pw (m : Int) : Int := bShl 1 m
theorem bits_1 : (List.range 256).all (fun s => (List.range 8).all (fun x => decide (bt (s : Int) (x : Int) = ((s / 2 ^ x % 2 : Nat) : Int)) && decide (rm (s : Int) (x : Int) = ((s - s / 2 ^ x % 2 * 2 ^ x : Nat) : Int)))) = true := by decide +kernel
theorem bits_2 : (List.range 256).all (fun s => (List.range 8).all (fun x => (List.range 8).all (fun y => decide ((s - s / 2 ^ x % 2 * 2 ^ x) / 2 ^ y % 2 = if y = x then 0 else s / 2 ^ y % 2)))) = true := by decide +kernel
theorem bits_3 : (List.range 256).all (fun s => (List.range 8).all (fun x => (List.range 9).all (fun m => decide (s < 2 ^ m → s / 2 ^ x % 2 = 1 → x < m)))) = true := by decide +kernel
theorem bits_4 : (List.range 9).all (fun m => decide (pw (m : Int) = ((2 ^ m : Nat) : Int)) && decide (1 ≤ 2 ^ m ∧ 2 ^ m ≤ 256) && (List.range 8).all (fun x => decide (x < m → (2 ^ m - 1) / 2 ^ x % 2 = 1))) = true := by decide +kernel
theorem bits_5 : (List.range 256).all (fun s => decide (s = 0) || (List.range 8).any (fun x => decide (s / 2 ^ x % 2 = 1))) = true := by decide +kernel
theorem bt_n {s x : Nat} (hs : s < 256) (hx : x < 8) : bt (s : Int) (x : Int) = ((s / 2 ^ x % 2 : Nat) : Int) ∧ rm (s : Int) (x : Int) = ((s - s / 2 ^ x % 2 * 2 ^ x : Nat) : Int) := by
  have h := List.all_eq_true.mp (List.all_eq_true.mp bits_1 s (List.mem_range.mpr hs)) x (List.mem_range.mpr hx)
  rw [Bool.and_eq_true, decide_eq_true_eq, decide_eq_true_eq] at h
  exact h
theorem bt_01 {s x : Int} (hs : 0 ≤ s ∧ s < 256) (hx : 0 ≤ x ∧ x < 8) : bt s x = 0 ∨ bt s x = 1 := by
  obtain ⟨k, rfl⟩ : ∃ k : Nat, s = k := ⟨s.toNat, by omega⟩
  obtain ⟨y, rfl⟩ : ∃ k : Nat, x = k := ⟨x.toNat, by omega⟩
  rw [(bt_n (s := k) (x := y) (by omega) (by omega)).1]
  omega
theorem rm_b {s x : Int} (hs : 0 ≤ s ∧ s < 256) (hx : 0 ≤ x ∧ x < 8) : 0 ≤ rm s x ∧ rm s x ≤ s ∧ (bt s x = 1 → rm s x < s) := by
  obtain ⟨k, rfl⟩ : ∃ k : Nat, s = k := ⟨s.toNat, by omega⟩
  obtain ⟨y, rfl⟩ : ∃ k : Nat, x = k := ⟨x.toNat, by omega⟩
  obtain ⟨h1, h2⟩ := bt_n (s := k) (x := y) (by omega) (by omega)
  rw [h1, h2]
  have hp : 0 < 2 ^ y := Nat.two_pow_pos y
  generalize 2 ^ y = p at *
  refine ⟨by omega, by omega, ?_⟩
  intro h
  have h' : k / p % 2 = 1 := by omega
  rw [h']
  have : 0 < k := by
    by_cases c : k = 0
    · rw [c, Nat.zero_div] at h'
      omega
    · omega
  omega
theorem bt_rm {s x y : Int} (hs : 0 ≤ s ∧ s < 256) (hx : 0 ≤ x ∧ x < 8) (hy : 0 ≤ y ∧ y < 8) : bt (rm s x) y = if y = x then 0 else bt s y := by
  have hb := rm_b hs hx
  obtain ⟨k, rfl⟩ : ∃ k : Nat, s = k := ⟨s.toNat, by omega⟩
  obtain ⟨u, rfl⟩ : ∃ k : Nat, x = k := ⟨x.toNat, by omega⟩
  obtain ⟨v, rfl⟩ : ∃ k : Nat, y = k := ⟨y.toNat, by omega⟩
  obtain ⟨h1, h2⟩ := bt_n (s := k) (x := u) (by omega) (by omega)
  have h3 := bt_n (s := k) (x := v) (by omega) (by omega)
  rw [h2] at hb ⊢
  have h4 := bt_n (s := k - k / 2 ^ u % 2 * 2 ^ u) (x := v) (by omega) (by omega)
  rw [h4.1, h3.1]
  have h := List.all_eq_true.mp (List.all_eq_true.mp (List.all_eq_true.mp bits_2 k (List.mem_range.mpr (by omega))) u (List.mem_range.mpr (by omega))) v (List.mem_range.mpr (by omega))
  rw [decide_eq_true_eq] at h
  rw [h]
  by_cases c : v = u
  · rw [if_pos c, if_pos (by omega)]; rfl
  · rw [if_neg c, if_neg (by omega)]
theorem bt_rm_eq {s x : Int} (hs : 0 ≤ s ∧ s < 256) (hx : 0 ≤ x ∧ x < 8) : bt (rm s x) x = 0 := by rw [bt_rm hs hx hx, if_pos rfl]
theorem bt_rm_ne {s x y : Int} (hs : 0 ≤ s ∧ s < 256) (hx : 0 ≤ x ∧ x < 8) (hy : 0 ≤ y ∧ y < 8) (h : y ≠ x) : bt (rm s x) y = bt s y := by rw [bt_rm hs hx hy, if_neg h]
theorem pw_b {m : Int} (hm : 0 ≤ m ∧ m ≤ 8) : 1 ≤ pw m ∧ pw m ≤ 256 := by
  obtain ⟨k, rfl⟩ : ∃ k : Nat, m = k := ⟨m.toNat, by omega⟩
  have h := List.all_eq_true.mp bits_4 k (List.mem_range.mpr (by omega))
  rw [Bool.and_eq_true, Bool.and_eq_true, decide_eq_true_eq, decide_eq_true_eq] at h
  rw [h.1.1]
  have := h.1.2
  omega
theorem bt_full {m x : Int} (hm : 0 ≤ m ∧ m ≤ 8) (hx : 0 ≤ x ∧ x < m) : bt (pw m - 1) x = 1 := by
  have hb := pw_b hm
  obtain ⟨k, rfl⟩ : ∃ k : Nat, m = k := ⟨m.toNat, by omega⟩
  obtain ⟨u, rfl⟩ : ∃ k : Nat, x = k := ⟨x.toNat, by omega⟩
  have h := List.all_eq_true.mp bits_4 k (List.mem_range.mpr (by omega))
  rw [Bool.and_eq_true, Bool.and_eq_true, decide_eq_true_eq, decide_eq_true_eq] at h
  have h2 := List.all_eq_true.mp h.2 u (List.mem_range.mpr (by omega))
  rw [decide_eq_true_eq] at h2
  have h3 := h.1.2
  have e : pw (k : Int) - 1 = ((2 ^ k - 1 : Nat) : Int) := by rw [h.1.1]; omega
  rw [e, (bt_n (s := 2 ^ k - 1) (x := u) (by omega) (by omega)).1, h2 (by omega)]
  rfl
theorem bt_lt {s m x : Int} (hm : 0 ≤ m ∧ m ≤ 8) (hs : 0 ≤ s ∧ s < pw m) (hx : 0 ≤ x ∧ x < 8) (h : bt s x = 1) : x < m := by
  have hb := pw_b hm
  obtain ⟨k, rfl⟩ : ∃ k : Nat, m = k := ⟨m.toNat, by omega⟩
  obtain ⟨u, rfl⟩ : ∃ k : Nat, x = k := ⟨x.toNat, by omega⟩
  obtain ⟨v, rfl⟩ : ∃ k : Nat, s = k := ⟨s.toNat, by omega⟩
  have h4 := List.all_eq_true.mp bits_4 k (List.mem_range.mpr (by omega))
  rw [Bool.and_eq_true, Bool.and_eq_true, decide_eq_true_eq, decide_eq_true_eq] at h4
  have h3 := List.all_eq_true.mp (List.all_eq_true.mp (List.all_eq_true.mp bits_3 v (List.mem_range.mpr (by omega))) u (List.mem_range.mpr (by omega))) k (List.mem_range.mpr (by omega))
  rw [decide_eq_true_eq] at h3
  rw [(bt_n (s := v) (x := u) (by omega) (by omega)).1] at h
  rw [h4.1.1] at hs
  have := h3 (by omega) (by omega)
  omega
theorem bt_ex {s : Int} (hs : 0 < s ∧ s < 256) : ∃ x, 0 ≤ x ∧ x < 8 ∧ bt s x = 1 := by
  obtain ⟨v, rfl⟩ : ∃ k : Nat, s = k := ⟨s.toNat, by omega⟩
  have h := List.all_eq_true.mp bits_5 v (List.mem_range.mpr (by omega))
  rw [Bool.or_eq_true, decide_eq_true_eq] at h
  rcases h with h | h
  · omega
  · obtain ⟨x, hx, hb⟩ := List.any_eq_true.mp h
    rw [decide_eq_true_eq] at hb
    have hx' := List.mem_range.mp hx
    refine ⟨x, by omega, by omega, ?_⟩
    rw [(bt_n (s := v) (x := x) (by omega) hx').1, hb]
    rfl
theorem bt_z {x : Int} (hx : 0 ≤ x ∧ x < 8) : bt 0 x = 0 := by
  obtain ⟨u, rfl⟩ : ∃ k : Nat, x = k := ⟨x.toNat, by omega⟩
  have := (bt_n (s := 0) (x := u) (by omega) (by omega)).1
  rw [Nat.zero_div] at this
  exact this
end
section
/-! The least walk: members, rests, steps -/
section L1
variable {X : Nat → Int} {F : Nat → Int → Int}
def MEM (X : Nat → Int) (F : Nat → Int → Int) (n : Int) (mem : Int → Int) : Prop := ∀ s, 0 ≤ s → s < n → wk F s = 1 → mem (nW F s) = s
theorem nW_s {s : Int} (h : 0 ≤ s) : nW F (s + 1) = nW F s + wk F s := itr_s _ _ h
theorem nW_mono {i j : Int} (h0 : 0 ≤ i) (h : i ≤ j) : nW F i ≤ nW F j := by
  obtain ⟨k, hk⟩ : ∃ k : Nat, j = i + k := ⟨(j - i).toNat, by omega⟩
  subst hk
  clear h
  induction k with
  | zero => exact Int.le_of_eq (by congr 1; omega)
  | succ k ih =>
    have e : i + ((k + 1 : Nat) : Int) = (i + k) + 1 := by omega
    rw [e, nW_s (by omega)]
    have := wk_01 F (i + k)
    omega
theorem nW_ex {n k : Int} (hn : 0 ≤ n) (k0 : 0 ≤ k) (k1 : k < nW F n) : ∃ s, 0 ≤ s ∧ s < n ∧ wk F s = 1 ∧ nW F s = k := by
  obtain ⟨m, rfl⟩ : ∃ m : Nat, n = m := ⟨n.toNat, by omega⟩
  clear hn
  induction m with
  | zero =>
    have : nW F ((0 : Nat) : Int) = 0 := rfl
    omega
  | succ m ih =>
    have e : ((m + 1 : Nat) : Int) = (m : Int) + 1 := by omega
    rw [e] at k1 ⊢
    rw [nW_s (by omega)] at k1
    by_cases c : k < nW F m
    · obtain ⟨s, s0, s1, s2, s3⟩ := ih c
      exact ⟨s, s0, by omega, s2, s3⟩
    · have := wk_01 F m
      exact ⟨m, by omega, by omega, by omega, by omega⟩
theorem mem_k {mem : Int → Int} (hX : 0 ≤ X 6) (h : MEM X F (X 6) mem) {k : Int} (k0 : 0 ≤ k) (k1 : k < nW F (X 6)) : 0 ≤ mem k ∧ mem k < X 6 ∧ wk F (mem k) = 1 ∧ nW F (mem k) = k := by
  obtain ⟨s, s0, s1, s2, s3⟩ := nW_ex hX k0 k1
  have e := h s s0 s1 s2
  rw [s3] at e
  rw [e]
  exact ⟨s0, s1, s2, s3⟩
/-- one rest: what it is, and its bound -/
def DC (F : Nat → Int → Int) (mem : Int → Int) (m : Int) (T : Int → Int → Int) (s x : Int) : Prop :=
  (s = 0 → T s x = F 7 (mem x * 11 + 10)) ∧
  (s ≠ 0 → ∃ y, 0 ≤ y ∧ y < m ∧ bt s y = 1 ∧ T s x = F 7 (mem x * 11 + mem y) + T (rm s y) y ∧ ∀ z, 0 ≤ z → z < m → bt s z = 1 → T s x ≤ F 7 (mem x * 11 + mem z) + T (rm s z) z) ∧
  0 ≤ T s x ∧ T s x ≤ 200 * (s + 1)
theorem DC_c {mem : Int → Int} {m : Int} {T T' : Int → Int → Int} {s x : Int} (hm : 0 ≤ m ∧ m ≤ 8) (hs : 0 ≤ s ∧ s < 256) (hx : T' s x = T s x) (h : ∀ s' x', 0 ≤ s' → s' < s → 0 ≤ x' → x' < m → T' s' x' = T s' x') (hc : DC F mem m T s x) : DC F mem m T' s x := by
  obtain ⟨h1, h2, h3⟩ := hc
  refine ⟨fun e => by rw [hx]; exact h1 e, fun e => ?_, by rw [hx]; exact h3⟩
  obtain ⟨y, y0, y1, y2, y3, y4⟩ := h2 e
  have hy := rm_b hs (x := y) (by omega)
  refine ⟨y, y0, y1, y2, ?_, fun z z0 z1 z2 => ?_⟩
  · rw [hx, h _ y hy.1 (hy.2.2 y2) y0 y1]; exact y3
  · have hz := rm_b hs (x := z) (by omega)
    rw [hx, h _ z hz.1 (hz.2.2 z2) z0 z1]; exact y4 z z0 z1 z2
/-- all rests of sets below k -/
def TD (F : Nat → Int → Int) (mem : Int → Int) (m k : Int) (T : Int → Int → Int) : Prop := ∀ s x, 0 ≤ s → s < k → 0 ≤ x → x < m → bt s x = 0 → DC F mem m T s x
theorem TD_one {mem mem' : Int → Int} {m : Int} {T T' : Int → Int → Int} (hm : 0 ≤ m ∧ m ≤ 8) (hmem : ∀ k, 0 ≤ k → k < m → mem k = mem' k) (h : TD F mem m (pw m) T) (h' : TD F mem' m (pw m) T') :
    ∀ s x, 0 ≤ s → s < pw m → 0 ≤ x → x < m → bt s x = 0 → T s x = T' s x := by
  have hp := pw_b hm
  have key : ∀ k : Nat, ∀ s x : Int, 0 ≤ s → s < k → s < pw m → 0 ≤ x → x < m → bt s x = 0 → T s x = T' s x := by
    intro k
    induction k with
    | zero => intro s x s0 s1; omega
    | succ k ih =>
      intro s x s0 s1 s2 x0 x1 hb
      obtain ⟨a1, a2, a3⟩ := h s x s0 s2 x0 x1 hb
      obtain ⟨b1, b2, b3⟩ := h' s x s0 s2 x0 x1 hb
      have ex := hmem x x0 x1
      by_cases e : s = 0
      · rw [a1 e, b1 e, ex]
      · obtain ⟨y, y0, y1, y2, y3, y4⟩ := a2 e
        obtain ⟨z, z0, z1, z2, z3, z4⟩ := b2 e
        have ry := rm_b (s := s) (x := y) (by omega) (by omega)
        have rz := rm_b (s := s) (x := z) (by omega) (by omega)
        have ry2 := ry.2.2 y2
        have rz2 := rz.2.2 z2
        have e1 := ih (rm s y) y ry.1 (by omega) (by omega) y0 y1 (bt_rm_eq (by omega) (by omega))
        have e2 := ih (rm s z) z rz.1 (by omega) (by omega) z0 z1 (bt_rm_eq (by omega) (by omega))
        have l1 := y4 z z0 z1 z2
        have l2 := z4 y y0 y1 y2
        rw [← ex, ← hmem y y0 y1] at l2
        rw [← ex, ← hmem z z0 z1] at z3
        omega
  intro s x s0 s1 x0 x1 hb
  exact key (s.toNat + 1) s x s0 (by omega) s1 x0 x1 hb
/-- what is left of the set behind i steps -/
def SS (F : Nat → Int → Int) (m : Int) (row : Int → Int) (i : Int) : Int := itr (fun j acc => rm acc (nW F (row j))) (pw m - 1) i
/-- step k of the least walk -/
def GC (X : Nat → Int) (F : Nat → Int → Int) (m : Int) (mem : Int → Int) (T : Int → Int → Int) (row : Int → Int) (k : Int) : Prop :=
  ∃ y, 0 ≤ y ∧ y < m ∧ bt (SS F m row k) y = 1 ∧ row k = mem y ∧ ∀ z, 0 ≤ z → z < m → bt (SS F m row k) z = 1 → z ≠ y → lx (fun u => F 7 (at3 X row k * 11 + mem u) + T (rm (SS F m row k) u) u) y z
def WL4 (X : Nat → Int) (F : Nat → Int → Int) (n : Int) (row : Int → Int) : Prop :=
  n = nW F (X 6) ∧ ∃ mem T, MEM X F (X 6) mem ∧ TD F mem n (pw n) T ∧ ∀ k, 0 ≤ k → k < n → GC X F n mem T row k
theorem SS_s {m i : Int} {row : Int → Int} (h : 0 ≤ i) : SS F m row (i + 1) = rm (SS F m row i) (nW F (row i)) := itr_s _ _ h
theorem SS_c {m i : Int} {row row' : Int → Int} (h0 : 0 ≤ i) (h : ∀ j, 0 ≤ j → j < i → row' j = row j) : SS F m row' i = SS F m row i :=
  itr_congr (fun j x j0 j1 => by rw [h j j0 j1]) i h0 (Int.le_refl _)
theorem SS_b {m : Int} {mem row : Int → Int} {T : Int → Int → Int} (hX : 0 ≤ X 6) (hm : m = nW F (X 6)) (h8 : 0 ≤ m ∧ m ≤ 8) (hmem : MEM X F (X 6) mem) {i : Int} (h0 : 0 ≤ i) (h : ∀ k, 0 ≤ k → k < i → GC X F m mem T row k) : 0 ≤ SS F m row i ∧ SS F m row i < pw m := by
  have hp := pw_b h8
  refine itr_ind (P := fun _ z => 0 ≤ z ∧ z < pw m) (n := i) ⟨by omega, by omega⟩ ?_ i h0 (Int.le_refl _)
  intro j z j0 j1 hz
  obtain ⟨y, y0, y1, y2, y3, y4⟩ := h j j0 j1
  have e := (mem_k hX hmem y0 (by omega)).2.2.2
  rw [← y3] at e
  rw [e]
  have := rm_b (s := z) (x := y) (by omega) (by omega)
  omega
theorem WL4_one {n n' : Int} {row row' : Int → Int} (hX : 0 ≤ X 6) (h8 : nW F (X 6) ≤ 8) (h : WL4 X F n row) (h' : WL4 X F n' row') : n = n' ∧ ∀ i, 0 ≤ i → i < n → row i = row' i := by
  obtain ⟨a1, mem, T, a2, a3, a4⟩ := h
  obtain ⟨b1, mem', T', b2, b3, b4⟩ := h'
  have hn : n = n' := by rw [a1, b1]
  refine ⟨hn, ?_⟩
  subst hn
  have hnb := nW_b F (X 6) hX
  have hmem : ∀ k, 0 ≤ k → k < n → mem k = mem' k := by
    intro k k0 k1
    obtain ⟨p0, p1, p2, p3⟩ := mem_k hX a2 k0 (by omega)
    have := b2 (mem k) p0 p1 p2
    rw [p3] at this
    exact this.symm
  have hT := TD_one (F := F) (by omega) hmem a3 b3
  have hp := pw_b (m := n) (by omega)
  have key : ∀ k : Nat, ∀ i, 0 ≤ i → i < n → i < k → row i = row' i := by
    intro k
    induction k with
    | zero => intro i h0 _ h2; omega
    | succ k ih =>
      intro i h0 h1 h2
      have hj : ∀ j, 0 ≤ j → j < i → row j = row' j := fun j j0 j1 => ih j j0 (by omega) (by omega)
      have hsb := SS_b (T := T) hX a1 (by omega) a2 h0 (fun k k0 k1 => a4 k k0 (by omega))
      obtain ⟨y, y0, y1, y2, y3, y4⟩ := a4 i h0 h1
      obtain ⟨z, z0, z1, z2, z3, z4⟩ := b4 i h0 h1
      rw [← SS_c (F := F) (m := n) h0 hj] at z2 z4
      rw [← at3_c (X := X) h0 hj] at z4
      by_cases e : y = z
      · rw [y3, z3, hmem y y0 y1, e]
      · have r1 := y4 z z0 z1 z2 (fun q => e q.symm)
        have r2 := z4 y y0 y1 y2 e
        have ry := rm_b (s := SS F n row i) (x := y) (by omega) (by omega)
        have rz := rm_b (s := SS F n row i) (x := z) (by omega) (by omega)
        have t1 := hT (rm (SS F n row i) y) y ry.1 (by omega) y0 y1 (bt_rm_eq (by omega) (by omega))
        have t2 := hT (rm (SS F n row i) z) z rz.1 (by omega) z0 z1 (bt_rm_eq (by omega) (by omega))
        have r1' : F 7 (at3 X row i * 11 + mem y) + T (rm (SS F n row i) y) y < F 7 (at3 X row i * 11 + mem z) + T (rm (SS F n row i) z) z ∨ (F 7 (at3 X row i * 11 + mem y) + T (rm (SS F n row i) y) y = F 7 (at3 X row i * 11 + mem z) + T (rm (SS F n row i) z) z ∧ y < z) := r1
        have r2' : F 7 (at3 X row i * 11 + mem' z) + T' (rm (SS F n row i) z) z < F 7 (at3 X row i * 11 + mem' y) + T' (rm (SS F n row i) y) y ∨ (F 7 (at3 X row i * 11 + mem' z) + T' (rm (SS F n row i) z) z = F 7 (at3 X row i * 11 + mem' y) + T' (rm (SS F n row i) y) y ∧ z < y) := r2
        rw [← hmem y y0 y1, ← hmem z z0 z1, ← t1, ← t2] at r2'
        omega
  intro i h0 h1
  exact key (i.toNat + 1) i h0 h1 (by omega)
/-- the steps as they grow -/
def GI (X : Nat → Int) (F : Nat → Int → Int) (m : Int) (mem : Int → Int) (T : Int → Int → Int) (i set : Int) (row : Int → Int) : Prop :=
  (0 ≤ i ∧ i + itr (fun s acc => acc + bt set s) 0 m = m) ∧ (0 ≤ set ∧ set < pw m) ∧ set = SS F m row i ∧ ∀ k, 0 ≤ k → k < i → GC X F m mem T row k
theorem GI_0 {m : Int} {mem row : Int → Int} {T : Int → Int → Int} (h8 : 0 ≤ m ∧ m ≤ 8) : GI X F m mem T 0 (pw m - 1) row := by
  have hp := pw_b h8
  refine ⟨⟨Int.le_refl _, ?_⟩, ⟨by omega, by omega⟩, rfl, fun k k0 k1 => by omega⟩
  rw [Int.zero_add]
  refine itr_ind (P := fun i z => z = i) (n := m) rfl ?_ m h8.1 (Int.le_refl _)
  intro i z i0 i1 hz
  rw [hz, bt_full h8 ⟨i0, i1⟩]
theorem GC_c {m : Int} {mem : Int → Int} {T : Int → Int → Int} {row row' : Int → Int} {k : Int} (k0 : 0 ≤ k) (h : ∀ j, 0 ≤ j → j ≤ k → row' j = row j) (hc : GC X F m mem T row k) : GC X F m mem T row' k := by
  unfold GC
  rw [SS_c k0 (fun j j0 j1 => h j j0 (by omega)), at3_c k0 (fun j j0 j1 => h j j0 (by omega)), h k k0 (Int.le_refl _)]
  exact hc
theorem GI_ex {m i set : Int} {mem row : Int → Int} {T : Int → Int → Int} (h8 : 0 ≤ m ∧ m ≤ 8) (h : GI X F m mem T i set row) (hi : i < m) : ∃ y, 0 ≤ y ∧ y < m ∧ bt set y = 1 := by
  have hp := pw_b h8
  by_cases c : ∃ y, 0 ≤ y ∧ y < m ∧ bt set y = 1
  · exact c
  · have e : itr (fun s acc => acc + bt set s) 0 m = 0 := by
      refine itr_ind (P := fun _ z => z = 0) (n := m) rfl ?_ m h8.1 (Int.le_refl _)
      intro j z j0 j1 hz
      rcases bt_01 (s := set) (x := j) (by have := h.2.1; omega) (by omega) with q | q
      · rw [hz, q]; rfl
      · exact absurd ⟨j, j0, j1, q⟩ c
    have := h.1
    omega
theorem GI_z {m i set : Int} {mem row : Int → Int} {T : Int → Int → Int} (h8 : 0 ≤ m ∧ m ≤ 8) (h : GI X F m mem T i set row) (hi : set ≠ 0) : i < m := by
  have hp := pw_b h8
  have hs := h.2.1
  obtain ⟨x, x0, x1, x2⟩ := bt_ex (s := set) (by omega)
  have x3 := bt_lt h8 hs ⟨x0, x1⟩ x2
  have := cnt_pos (lf := bt set) (fun j j0 j1 => bt_01 (by omega) (by omega)) x2 x0 x3
  have := h.1
  omega
theorem GI_end {m i set : Int} {mem row : Int → Int} {T : Int → Int → Int} (h8 : 0 ≤ m ∧ m ≤ 8) (h : GI X F m mem T i set row) (hi : set = 0) : i = m := by
  have e : itr (fun s acc => acc + bt set s) 0 m = 0 := by
    refine itr_ind (P := fun _ z => z = 0) (n := m) rfl ?_ m h8.1 (Int.le_refl _)
    intro j z j0 j1 hz
    rw [hz, hi, bt_z (by omega)]
    rfl
  have := h.1
  omega
theorem GI_add {m i set y : Int} {mem row row' : Int → Int} {T : Int → Int → Int} (hX : 0 ≤ X 6) (hm : m = nW F (X 6)) (h8 : 0 ≤ m ∧ m ≤ 8) (hmem : MEM X F (X 6) mem) (h : GI X F m mem T i set row) (y0 : 0 ≤ y) (y1 : y < m) (y2 : bt set y = 1)
    (hmin : ∀ z, 0 ≤ z → z < m → bt set z = 1 → z ≠ y → lx (fun u => F 7 (at3 X row i * 11 + mem u) + T (rm set u) u) y z) (hrow : ∀ j, 0 ≤ j → j < i + 1 → row' j = up row i (mem y) j) : GI X F m mem T (i + 1) (rm set y) row' := by
  obtain ⟨⟨a0, a1⟩, a2, a3, a4⟩ := h
  have hp := pw_b h8
  have ei : row' i = mem y := by rw [hrow i a0 (by omega), up_eq]
  have ej : ∀ j, 0 ≤ j → j < i → row' j = row j := fun j j0 j1 => by rw [hrow j j0 (by omega), up_ne _ (by omega)]
  have hr := rm_b (s := set) (x := y) (by omega) (by omega)
  have hc := cnt_up (lf := bt set) y2 m (by omega)
  rw [if_pos ⟨y1, y0⟩] at hc
  have he : itr (fun s acc => acc + bt (rm set y) s) 0 m = itr (fun q acc => acc + up (bt set) y 0 q) 0 m := by
    refine itr_congr (fun j x j0 j1 => ?_) m (by omega) (Int.le_refl _)
    rw [bt_rm (by omega) (by omega) (by omega)]
    rfl
  have ey := (mem_k hX hmem y0 (by omega)).2.2.2
  refine ⟨⟨by omega, by omega⟩, ⟨hr.1, by omega⟩, ?_, ?_⟩
  · rw [SS_s a0, SS_c a0 ej, ← a3, ei, ey]
  · intro k k0 k1
    by_cases c : k = i
    · subst c
      unfold GC
      rw [SS_c k0 ej, at3_c k0 ej, ← a3]
      exact ⟨y, y0, y1, y2, ei, hmin⟩
    · exact GC_c k0 (fun j j0 j1 => ej j j0 (by omega)) (a4 k k0 (by omega))
theorem WL4_row {n : Int} {row : Int → Int} (hX : 0 ≤ X 6) (h8 : nW F (X 6) ≤ 8) (h : WL4 X F n row) : (∀ i, 0 ≤ i → i < n → 0 ≤ row i ∧ row i < X 6 ∧ wk F (row i) = 1) ∧ ∀ i j, 0 ≤ i → i < j → j < n → row i ≠ row j := by
  obtain ⟨a1, mem, T, a2, a3, a4⟩ := h
  have hnb := nW_b F (X 6) hX
  have hp := pw_b (m := n) (by omega)
  have hy : ∀ i, 0 ≤ i → i < n → 0 ≤ row i ∧ row i < X 6 ∧ wk F (row i) = 1 ∧ 0 ≤ nW F (row i) ∧ nW F (row i) < n ∧ bt (SS F n row i) (nW F (row i)) = 1 := by
    intro i i0 i1
    obtain ⟨y, y0, y1, y2, y3, y4⟩ := a4 i i0 i1
    obtain ⟨p0, p1, p2, p3⟩ := mem_k hX a2 y0 (by omega)
    rw [y3, p3]
    exact ⟨p0, p1, p2, y0, y1, y2⟩
  have hb : ∀ i, 0 ≤ i → i ≤ n → 0 ≤ SS F n row i ∧ SS F n row i < 256 := fun i i0 i1 => by
    have := SS_b (T := T) hX a1 (by omega) a2 i0 (fun k k0 k1 => a4 k k0 (by omega))
    omega
  refine ⟨fun i i0 i1 => ⟨(hy i i0 i1).1, (hy i i0 i1).2.1, (hy i i0 i1).2.2.1⟩, ?_⟩
  intro i j i0 ij j1 he
  have qi := hy i i0 (by omega)
  have zero : ∀ k : Nat, i + 1 + k ≤ n → bt (SS F n row (i + 1 + k)) (nW F (row i)) = 0 := by
    intro k
    induction k with
    | zero =>
      intro _
      have e : i + 1 + ((0 : Nat) : Int) = i + 1 := by omega
      rw [e, SS_s i0]
      exact bt_rm_eq (hb i i0 (by omega)) (by omega)
    | succ k ih =>
      intro hk
      have e : i + 1 + ((k + 1 : Nat) : Int) = (i + 1 + k) + 1 := by omega
      have q := hy (i + 1 + k) (by omega) (by omega)
      rw [e, SS_s (by omega), bt_rm (hb _ (by omega) (by omega)) (by omega) (by omega)]
      split
      · rfl
      · exact ih (by omega)
  have z := zero (j - (i + 1)).toNat (by omega)
  have e : i + 1 + (((j - (i + 1)).toNat : Nat) : Int) = j := by omega
  rw [e, he] at z
  have qj := hy j (by omega) j1
  omega
end L1
end
section
/-! The class's least walk -/
section E1
variable {L : Nat} {xs : Nat → Int32} {X M : Nat → Int} {F G : Nat → Int → Int} {O : Int → Int} {d a b : Nat} {Q : BR → Prop} {row keys wt mem rs : Int → Int} {n l : Int}
theorem t_isIn (s x : Int) (hb : bt s x = 0 ∨ bt s x = 1) : bE L xs d MX1_isIn (0, [(0, bI s), (1, bI x)], [], WD X F M G O, a, b) (rI (WD X F M G O) (bt s x) a b) := by
  rcases hb with h | h
  · rw [h]
    exact go [] [0] rfl ⟨(show ¬ bt s x = 1 by omega), rfl⟩ (rtb rfl rfl (Or.inl rfl) rfl)
  · rw [h]
    exact go [] [1] rfl ⟨h, rfl⟩ (rtb rfl rfl (Or.inr rfl) rfl)
theorem t_lengthBy (hI : SB X F) (at_ s x : Int) (hat : pnt X at_) (hs : 0 ≤ s ∧ s < 256) (hx : 0 ≤ x ∧ x < 8) (hm : 0 ≤ F 10 x ∧ F 10 x < X 6) (hT : 0 ≤ F 11 (rm s x * 8 + x) ∧ F 11 (rm s x * 8 + x) ≤ 60000) (hd : 2 ≤ d) :
    bE L xs d MX1_lengthBy (0, [(0, bR 16), (1, bI at_), (2, bI s), (3, bI x)], [], WD X F M G O, a, b) (rI (WD X F M G O) (F 7 (at_ * 11 + F 10 x) + F 11 (rm s x * 8 + x)) a b) := by
  have hX := hI.1
  have hp := SB_pt hI hat
  have hw := SB_way hI hat (pnt_s hm.1 hm.2)
  have hr := rm_b hs hx
  refine go [] [] rfl (show 0 ≤ x ∧ x < ((8 : Nat) : Int) by omega) (bc rfl hd (t_way at_ (F 10 x) (by omega)) (fun h => by cases h) ?_)
  exact go [] [] rfl ⟨(show -2147483648 ≤ rm s x * 8 ∧ rm s x * 8 ≤ 2147483647 by omega), (show -2147483648 ≤ rm s x * 8 + x ∧ rm s x * 8 + x ≤ 2147483647 by omega), (show 0 ≤ rm s x * 8 + x ∧ rm s x * 8 + x < ((2048 : Nat) : Int) by omega), (show -2147483648 ≤ F 7 (at_ * 11 + F 10 x) + F 11 (rm s x * 8 + x) ∧ F 7 (at_ * 11 + F 10 x) + F 11 (rm s x * 8 + x) ≤ 2147483647 by omega)⟩ (rti rfl rfl rfl)
theorem t_bestNext (hI : SB X F) (at_ s : Int) (hat : pnt X at_) (h7 : 0 ≤ X 7 ∧ X 7 ≤ 8) (hs : 0 ≤ s ∧ s < 256) (hm : ∀ y, 0 ≤ y → y < X 7 → 0 ≤ F 10 y ∧ F 10 y < X 6) (hT : ∀ y, 0 ≤ y → y < X 7 → bt s y = 1 → 0 ≤ F 11 (rm s y * 8 + y) ∧ F 11 (rm s y * 8 + y) ≤ 60000) (hex : ∃ y, 0 ≤ y ∧ y < X 7 ∧ bt s y = 1) (hd : 3 ≤ d) :
    bE L xs d MX1_bestNext (0, [(0, bR 16), (1, bI at_), (2, bI s)], [], WD X F M G O, a, b)
    (fun r => ∃ y, r = (WD X F M G O, .inl (some (bI y)), a, b) ∧ 0 ≤ y ∧ y < X 7 ∧ bt s y = 1 ∧ ∀ z, 0 ≤ z → z < X 7 → bt s z = 1 → z ≠ y → lx (fun u => F 7 (at_ * 11 + F 10 u) + F 11 (rm s u * 8 + u)) y z) := by
  have hX := hI.1
  have key := for_up (P := fun x => ∀ (bs le : Int) (ls : BL), ((bs = 0 ∧ le = 1000000 ∧ ∀ t, 0 ≤ t → t < x → bt s t = 0) ∨ (0 ≤ bs ∧ bs < x ∧ bt s bs = 1 ∧ le = F 7 (at_ * 11 + F 10 bs) + F 11 (rm s bs * 8 + bs) ∧ ∀ t, 0 ≤ t → t < x → bt s t = 1 → t ≠ bs → lx (fun u => F 7 (at_ * 11 + F 10 u) + F 11 (rm s u * 8 + u)) bs t)) →
      (ls = [(0, bR 16), (1, bI at_), (2, bI s), (3, bI bs), (4, bI le), (5, bI x)] ∨ ∃ t, ls = [(0, bR 16), (1, bI at_), (2, bI s), (3, bI bs), (4, bI le), (5, bI x), (6, bI t)]) →
      bE L xs d MX1_bestNext (9, ls, [], WD X F M G O, a, b)
      (fun r => ∃ y, r = (WD X F M G O, .inl (some (bI y)), a, b) ∧ 0 ≤ y ∧ y < X 7 ∧ bt s y = 1 ∧ ∀ z, 0 ≤ z → z < X 7 → bt s z = 1 → z ≠ y → lx (fun u => F 7 (at_ * 11 + F 10 u) + F 11 (rm s u * 8 + u)) y z)) (X 7) ?_ ?_ 0 (by omega) (by omega) 0 1000000 _ (Or.inl ⟨rfl, rfl, fun t t0 t1 => by omega⟩) (Or.inl rfl)
  · exact go [9] [] rfl rfl key
  · intro bs le ls hinv hls
    rcases hinv with ⟨e1, e2, hno⟩ | ⟨n0, n1, n2, n3, n4⟩
    · obtain ⟨t, t0, t1, t2⟩ := hex
      have := hno t t0 t1
      omega
    · rcases hls with rfl | ⟨t, rfl⟩
      · exact go [] [0] rfl ⟨Int.le_refl (X 7), rfl⟩ (rti rfl rfl ⟨bs, rfl, n0, n1, n2, n4⟩)
      · exact go [] [0] rfl ⟨Int.le_refl (X 7), rfl⟩ (rti rfl rfl ⟨bs, rfl, n0, n1, n2, n4⟩)
  · intro x x0 x1 ih bs le ls hinv hls
    have hx8 : 0 ≤ x ∧ x < 8 := by omega
    have hr1 : -2147483648 ≤ x + 1 ∧ x + 1 ≤ 2147483647 := by omega
    have ic := t_isIn (L := L) (xs := xs) (X := X) (F := F) (M := M) (G := G) (O := O) (d := d - 1) (a := a) (b := b) s x (bt_01 hs hx8)
    rcases bt_01 hs hx8 with h | h
    · have skip : ((bs = 0 ∧ le = 1000000 ∧ ∀ t, 0 ≤ t → t < x + 1 → bt s t = 0) ∨ (0 ≤ bs ∧ bs < x + 1 ∧ bt s bs = 1 ∧ le = F 7 (at_ * 11 + F 10 bs) + F 11 (rm s bs * 8 + bs) ∧ ∀ t, 0 ≤ t → t < x + 1 → bt s t = 1 → t ≠ bs → lx (fun u => F 7 (at_ * 11 + F 10 u) + F 11 (rm s u * 8 + u)) bs t)) := by
        rcases hinv with ⟨e1, e2, hno⟩ | ⟨n0, n1, n2, n3, n4⟩
        · refine Or.inl ⟨e1, e2, fun t t0 t1 => ?_⟩
          by_cases e : t = x
          · rw [e]; exact h
          · exact hno t t0 (by omega)
        · refine Or.inr ⟨n0, by omega, n2, n3, fun t t0 t1 ht hne => ?_⟩
          by_cases e : t = x
          · rw [e] at ht; omega
          · exact n4 t t0 (by omega) ht hne
      rcases hls with rfl | ⟨t, rfl⟩
      · refine go [] [1] rfl ⟨x1, rfl⟩ (bc rfl (by omega) ic (fun h => by cases h) ?_)
        exact go [9] [0] rfl ⟨h, hr1, rfl⟩ (ih bs le _ skip (Or.inl rfl))
      · refine go [] [1] rfl ⟨x1, rfl⟩ (bc rfl (by omega) ic (fun h => by cases h) ?_)
        exact go [9] [0] rfl ⟨h, hr1, rfl⟩ (ih bs le _ skip (Or.inr ⟨_, rfl⟩))
    · have hmx := hm x x0 x1
      have hTx := hT x x0 x1 h
      have lc := t_lengthBy (L := L) (xs := xs) (X := X) (F := F) (M := M) (G := G) (O := O) (d := d - 1) (a := a) (b := b) hI at_ s x hat hs hx8 hmx hTx (by omega)
      have hw := SB_way hI hat (pnt_s hmx.1 hmx.2)
      rcases hls with rfl | ⟨t, rfl⟩
      all_goals
        refine go [] [1] rfl ⟨x1, rfl⟩ (bc rfl (by omega) ic (fun h => by cases h) ?_)
        refine go [] [1] rfl ⟨(show ¬ bt s x = 0 by omega), rfl⟩ (bc rfl (by omega) lc (fun h => by cases h) ?_)
        by_cases hlt : F 7 (at_ * 11 + F 10 x) + F 11 (rm s x * 8 + x) < le
        · refine go [9] [1] rfl ⟨hlt, hr1, rfl⟩ (ih x _ _ (Or.inr ⟨x0, by omega, h, rfl, fun t t0 t1 ht hne => ?_⟩) (Or.inr ⟨_, rfl⟩))
          rcases hinv with ⟨e1, e2, hno⟩ | ⟨n0, n1, n2, n3, n4⟩
          · have := hno t t0 (by omega); omega
          · refine Or.inl ?_
            show F 7 (at_ * 11 + F 10 x) + F 11 (rm s x * 8 + x) < F 7 (at_ * 11 + F 10 t) + F 11 (rm s t * 8 + t)
            by_cases e : t = bs
            · rw [e]; omega
            · rcases n4 t t0 (by omega) ht e with q | q
              · have q' : F 7 (at_ * 11 + F 10 bs) + F 11 (rm s bs * 8 + bs) < F 7 (at_ * 11 + F 10 t) + F 11 (rm s t * 8 + t) := q
                omega
              · have q' : F 7 (at_ * 11 + F 10 bs) + F 11 (rm s bs * 8 + bs) = F 7 (at_ * 11 + F 10 t) + F 11 (rm s t * 8 + t) := q.1
                omega
        · refine go [9] [0] rfl ⟨(show le ≤ F 7 (at_ * 11 + F 10 x) + F 11 (rm s x * 8 + x) by omega), hr1, rfl⟩ (ih bs le _ ?_ (Or.inr ⟨_, rfl⟩))
          rcases hinv with ⟨e1, e2, hno⟩ | ⟨n0, n1, n2, n3, n4⟩
          · omega
          · refine Or.inr ⟨n0, by omega, n2, n3, fun t t0 t1 ht hne => ?_⟩
            by_cases e : t = x
            · rw [e]
              by_cases c : F 7 (at_ * 11 + F 10 bs) + F 11 (rm s bs * 8 + bs) = F 7 (at_ * 11 + F 10 x) + F 11 (rm s x * 8 + x)
              · exact Or.inr ⟨c, n1⟩
              · exact Or.inl (by show F 7 (at_ * 11 + F 10 bs) + F 11 (rm s bs * 8 + bs) < F 7 (at_ * 11 + F 10 x) + F 11 (rm s x * 8 + x); omega)
            · exact n4 t t0 (by omega) ht hne
theorem MEM_s {s : Int} (s0 : 0 ≤ s) (hw : wk F s = 1) (h : MEM X F s mem) : MEM X F (s + 1) (up mem (nW F s) s) := by
  intro t t0 t1 ht
  by_cases e : t = s
  · rw [e, up_eq]
  · have h1 := nW_s (F := F) t0
    have h2 := nW_mono (F := F) (i := t + 1) (j := s) (by omega) (by omega)
    rw [up_ne _ (by omega)]
    exact h t t0 (by omega) ht
theorem MEM_n {s : Int} (hw : wk F s = 0) (h : MEM X F s mem) : MEM X F (s + 1) mem := by
  intro t t0 t1 ht
  by_cases e : t = s
  · rw [e] at ht; omega
  · exact h t t0 (by omega) ht
theorem t_gather (hI : SB X F) (h8 : nW F (X 6) ≤ 8) (hd : 2 ≤ d) : bE L xs d MX1_gather (0, [(0, bR 16)], [], WD (PX X n l) (PF F row keys wt mem rs) M G O, a, b)
    (fun r => ∃ mem', r = (WD (PX X n (nW F (X 6))) (PF F row keys wt mem' rs) M G O, .inl none, a, b) ∧ MEM X F (X 6) mem') := by
  have hX := hI.1
  have key := for_up (P := fun s => ∀ mem : Int → Int, MEM X F s mem → bE L xs d MX1_gather (7, [(0, bR 16), (1, bI s)], [], WD (PX X n (nW F s)) (PF F row keys wt mem rs) M G O, a, b)
    (fun r => ∃ mem', r = (WD (PX X n (nW F (X 6))) (PF F row keys wt mem' rs) M G O, .inl none, a, b) ∧ MEM X F (X 6) mem')) (X 6) ?_ ?_ 0 (by omega) (by omega) mem (fun s s0 s1 => by omega)
  · exact go [7] [] rfl rfl key
  · intro mem hm
    exact go [] [0] rfl (Int.le_refl (X 6)) (rtv rfl rfl ⟨mem, rfl, hm⟩)
  · intro s s0 s1 ih mem hm
    have hr1 : -2147483648 ≤ s + 1 ∧ s + 1 ≤ 2147483647 := by omega
    have hnb := nW_b F s s0
    have e := nW_s (F := F) s0
    have hmono := nW_mono (F := F) (i := s + 1) (j := X 6) (by omega) (by omega)
    by_cases c : nW F s < 8
    · have wc : bE L xs (d - 1) MX4_isWalked (0, [(0, bR 6), (1, bI s)], [], WD (PX X n (nW F s)) (PF F row keys wt mem rs) M G O, a, b) (rI (WD (PX X n (nW F s)) (PF F row keys wt mem rs) M G O) (wk F s) a b) :=
        t_isWalked (X := PX X n (nW F s)) (F := PF F row keys wt mem rs) hI s s0 s1
      refine go [] [1, 1] rfl ⟨s1, c, rfl⟩ (bc rfl hd wc (fun h => by cases h) ?_)
      rcases wk_01 F s with h | h
      · rw [e, h, Int.add_zero] at ih
        rw [h]
        exact go [7] [0] rfl ⟨rfl, hr1, rfl⟩ (ih mem (MEM_n h hm))
      · rw [e, h] at ih
        rw [h]
        exact go [7] [1] rfl ⟨(by decide : ¬ (1 : Int) = 0), (show 0 ≤ nW F s ∧ nW F s < ((8 : Nat) : Int) by omega), (show -2147483648 ≤ nW F s + 1 ∧ nW F s + 1 ≤ 2147483647 by omega), hr1, rfl⟩ (ih _ (MEM_s s0 h hm))
    · have h1 := wk_01 F s
      have e8 : nW F s = nW F (X 6) := by omega
      rw [e8]
      refine go [] [1, 0] rfl ⟨s1, (show 8 ≤ nW F (X 6) by omega)⟩ (rtv rfl rfl ⟨mem, rfl, fun t t0 t1 ht => ?_⟩)
      by_cases ct : t < s
      · exact hm t t0 ct ht
      · have q1 := nW_s (F := F) t0
        have q2 := nW_mono (F := F) (i := t + 1) (j := X 6) (by omega) (by omega)
        have q3 := nW_mono (F := F) (i := s) (j := t) (by omega) (by omega)
        omega
end E1
section E2
variable {L : Nat} {xs : Nat → Int32} {X M : Nat → Int} {F G : Nat → Int → Int} {O : Int → Int} {d a b : Nat} {Q : BR → Prop} {row keys wt mem rs : Int → Int} {n l m : Int}
theorem DC_up {m k x : Int} {T : Int → Int → Int} {y : Int} (hI : SB X F) (hm : m = nW F (X 6)) (h8 : 0 ≤ m ∧ m ≤ 8) (hmem : MEM X F (X 6) mem) (hk : 1 ≤ k ∧ k < 256) (hx : 0 ≤ x ∧ x < m) (hTD : TD F mem m k T) {T' : Int → Int → Int} (hT' : ∀ s t, 0 ≤ s → 0 ≤ t → t < m → ¬ (s = k ∧ t = x) → T' s t = T s t)
    (y0 : 0 ≤ y) (y1 : y < m) (y2 : bt k y = 1) (hv : T' k x = F 7 (mem x * 11 + mem y) + T (rm k y) y) (hmin : ∀ z, 0 ≤ z → z < m → bt k z = 1 → F 7 (mem x * 11 + mem y) + T (rm k y) y ≤ F 7 (mem x * 11 + mem z) + T (rm k z) z) : DC F mem m T' k x := by
  have hX := hI.1
  have ry := rm_b (s := k) (x := y) (by omega) (by omega)
  have ry2 := ry.2.2 y2
  obtain ⟨b1, b2, b3⟩ := hTD (rm k y) y ry.1 ry2 y0 y1 (bt_rm_eq (by omega) (by omega))
  obtain ⟨p0, p1, _⟩ := mem_k (by omega) hmem hx.1 (by omega)
  obtain ⟨q0, q1, _⟩ := mem_k (by omega) hmem y0 (by omega)
  have hw := SB_way hI (pnt_s p0 p1) (pnt_s q0 q1)
  refine ⟨fun e => by omega, fun _ => ⟨y, y0, y1, y2, ?_, fun z z0 z1 z2 => ?_⟩, by omega, by omega⟩
  · rw [hv, hT' (rm k y) y ry.1 y0 y1 (by omega)]
  · have rz := rm_b (s := k) (x := z) (by omega) (by omega)
    have rz2 := rz.2.2 z2
    rw [hv, hT' (rm k z) z rz.1 z0 z1 (by omega)]
    exact hmin z z0 z1 z2
theorem TD_up {m k x : Int} {T T' : Int → Int → Int} (h8 : 0 ≤ m ∧ m ≤ 8) (hk : 0 ≤ k ∧ k ≤ 256) (hTD : TD F mem m k T) (hT' : ∀ s t, 0 ≤ s → 0 ≤ t → t < m → ¬ (s = k ∧ t = x) → T' s t = T s t) : TD F mem m k T' := by
  intro s t s0 s1 t0 t1 hb
  refine DC_c h8 (by omega) (hT' s t s0 t0 t1 (by omega)) (fun s' x' q0 q1 q2 q3 => hT' s' x' q0 q2 q3 (by omega)) (hTD s t s0 s1 t0 t1 hb)
theorem t_fillRests (hI : SB X F) (hm : m = nW F (X 6)) (h8 : 0 ≤ m ∧ m ≤ 8) (hmem : MEM X F (X 6) mem) (hd : 4 ≤ d) : bE L xs d MX1_fillRests (0, [(0, bR 16)], [], WD (PX X n m) (PF F row keys wt mem rs) M G O, a, b)
    (fun r => ∃ rs', r = (WD (PX X n m) (PF F row keys wt mem rs') M G O, .inl none, a, b) ∧ TD F mem m (pw m) (fun s x => rs' (s * 8 + x))) := by
  have hX := hI.1
  have hp := pw_b h8
  have mk : ∀ y, 0 ≤ y → y < m → 0 ≤ mem y ∧ mem y < X 6 := fun y y0 y1 => by
    obtain ⟨p0, p1, _⟩ := mem_k (by omega) hmem y0 (by omega)
    exact ⟨p0, p1⟩
  have sets := for_up (P := fun k => 1 ≤ k → ∀ (rs : Int → Int) (ls : BL), TD F mem m k (fun s x => rs (s * 8 + x)) → (ls = [(0, bR 16), (1, bI k)] ∨ (∃ p, ls = [(0, bR 16), (1, bI k), (2, bI p)]) ∨ ∃ p q, ls = [(0, bR 16), (1, bI k), (2, bI p), (3, bI q)]) →
      bE L xs d MX1_fillRests (39, ls, [], WD (PX X n m) (PF F row keys wt mem rs) M G O, a, b)
      (fun r => ∃ rs', r = (WD (PX X n m) (PF F row keys wt mem rs') M G O, .inl none, a, b) ∧ TD F mem m (pw m) (fun s x => rs' (s * 8 + x)))) (pw m) ?_ ?_ 1 (by omega) (by omega) (Int.le_refl _)
  · have firsts := for_up (P := fun x => ∀ rs : Int → Int, (∀ t, 0 ≤ t → t < x → rs t = F 7 (mem t * 11 + 10)) → bE L xs d MX1_fillRests (2, [(0, bR 16), (1, bI x)], [], WD (PX X n m) (PF F row keys wt mem rs) M G O, a, b)
      (fun r => ∃ rs', r = (WD (PX X n m) (PF F row keys wt mem rs') M G O, .inl none, a, b) ∧ TD F mem m (pw m) (fun s x => rs' (s * 8 + x)))) m ?_ ?_ 0 (by omega) (by omega) rs (fun t t0 t1 => by omega)
    · exact go [2] [] rfl rfl firsts
    · intro rs hrs
      refine go [39] [0] rfl ⟨Int.le_refl m, rfl⟩ (sets rs _ (fun s x s0 s1 x0 x1 hb => ?_) (Or.inl rfl))
      have e : s = 0 := by omega
      subst e
      have hv : rs (0 * 8 + x) = F 7 (mem x * 11 + 10) := by
        rw [show 0 * 8 + x = x by omega]
        exact hrs x x0 x1
      have q := mk x x0 x1
      have hw := SB_way hI (pnt_s q.1 q.2) pnt_d
      exact ⟨fun _ => hv, fun q => absurd rfl q, by show 0 ≤ rs (0 * 8 + x); omega, by show rs (0 * 8 + x) ≤ 200 * (0 + 1); omega⟩
    · intro x x0 x1 ih rs hrs
      have q := mk x x0 x1
      have wc : bE L xs (d - 1) MX4_way (0, [(0, bR 6), (1, bI (mem x)), (2, bI 10)], [], WD (PX X n m) (PF F row keys wt mem rs) M G O, a, b) (rI (WD (PX X n m) (PF F row keys wt mem rs) M G O) (F 7 (mem x * 11 + 10)) a b) :=
        t_way (X := PX X n m) (F := PF F row keys wt mem rs) (mem x) 10 (by omega)
      refine go [] [1] rfl ⟨x1, (show 0 ≤ x ∧ x < ((8 : Nat) : Int) by omega), rfl⟩ (bc rfl (by omega) wc (fun h => by cases h) ?_)
      refine go [2] [] rfl ⟨(show 0 ≤ x ∧ x < ((2048 : Nat) : Int) by omega), (show -2147483648 ≤ x + 1 ∧ x + 1 ≤ 2147483647 by omega), rfl⟩ (ih (up rs x (F 7 (mem x * 11 + 10))) (fun t t0 t1 => ?_))
      by_cases e : t = x
      · rw [e, up_eq]
      · rw [up_ne _ e]; exact hrs t t0 (by omega)
  · intro _ rs ls hTD hls
    rcases hls with rfl | ⟨p, rfl⟩ | ⟨p, q, rfl⟩
    · exact go [] [0] rfl (Int.le_refl (pw m)) (rtv rfl rfl ⟨rs, rfl, hTD⟩)
    · exact go [] [0] rfl (Int.le_refl (pw m)) (rtv rfl rfl ⟨rs, rfl, hTD⟩)
    · exact go [] [0] rfl (Int.le_refl (pw m)) (rtv rfl rfl ⟨rs, rfl, hTD⟩)
  · intro k k0 k1 ih hk rs ls hTD hls
    have inner := for_up (P := fun x => ∀ (rs : Int → Int) (ls : BL), TD F mem m k (fun s x => rs (s * 8 + x)) → (∀ t, 0 ≤ t → t < x → bt k t = 0 → DC F mem m (fun s x => rs (s * 8 + x)) k t) → (ls = [(0, bR 16), (1, bI k), (2, bI x)] ∨ ∃ q, ls = [(0, bR 16), (1, bI k), (2, bI x), (3, bI q)]) →
      bE L xs d MX1_fillRests (51, ls, [], WD (PX X n m) (PF F row keys wt mem rs) M G O, a, b)
      (fun r => ∃ rs', r = (WD (PX X n m) (PF F row keys wt mem rs') M G O, .inl none, a, b) ∧ TD F mem m (pw m) (fun s x => rs' (s * 8 + x)))) m ?_ ?_ 0 (by omega) (by omega) rs
    · have i1 := inner [(0, bR 16), (1, bI k), (2, bI 0)] hTD (fun t t0 t1 => by omega) (Or.inl rfl)
      rcases hls with rfl | ⟨p, rfl⟩ | ⟨p, q, rfl⟩
      · exact go [51] [1] rfl ⟨k1, rfl⟩ i1
      · exact go [51] [1] rfl ⟨k1, rfl⟩ i1
      · exact go [51] [1] rfl ⟨k1, rfl⟩ (inner _ hTD (fun t t0 t1 => by omega) (Or.inr ⟨q, rfl⟩))
    · intro rs ls hTD hDC hls
      have hr1 : -2147483648 ≤ k + 1 ∧ k + 1 ≤ 2147483647 := by omega
      have nxt : TD F mem m (k + 1) (fun s x => rs (s * 8 + x)) := by
        intro s x s0 s1 x0 x1 hb
        by_cases e : s = k
        · subst e; exact hDC x x0 x1 hb
        · exact hTD s x s0 (by omega) x0 x1 hb
      rcases hls with rfl | ⟨q, rfl⟩
      · exact go [39] [0] rfl ⟨Int.le_refl m, hr1, rfl⟩ (ih (by omega) rs _ nxt (Or.inr (Or.inl ⟨_, rfl⟩)))
      · exact go [39] [0] rfl ⟨Int.le_refl m, hr1, rfl⟩ (ih (by omega) rs _ nxt (Or.inr (Or.inr ⟨_, _, rfl⟩)))
    · intro x x0 x1 ih2 rs ls hTD hDC hls
      have hr1 : -2147483648 ≤ x + 1 ∧ x + 1 ≤ 2147483647 := by omega
      have hx8 : 0 ≤ x ∧ x < 8 := by omega
      have hk8 : 0 ≤ k ∧ k < 256 := by omega
      have ic : bE L xs (d - 1) MX1_isIn (0, [(0, bI k), (1, bI x)], [], WD (PX X n m) (PF F row keys wt mem rs) M G O, a, b) (rI (WD (PX X n m) (PF F row keys wt mem rs) M G O) (bt k x) a b) := t_isIn (X := PX X n m) (F := PF F row keys wt mem rs) k x (bt_01 hk8 hx8)
      rcases bt_01 hk8 hx8 with h | h
      · have hT : ∀ y, 0 ≤ y → y < m → bt k y = 1 → 0 ≤ rs (rm k y * 8 + y) ∧ rs (rm k y * 8 + y) ≤ 60000 := by
          intro y y0 y1 y2
          have ry := rm_b (s := k) (x := y) (by omega) (by omega)
          have ry2 := ry.2.2 y2
          obtain ⟨b1, b2, b3, b4⟩ := hTD (rm k y) y ry.1 ry2 y0 y1 (bt_rm_eq (by omega) (by omega))
          have b3' : 0 ≤ rs (rm k y * 8 + y) := b3
          have b4' : rs (rm k y * 8 + y) ≤ 200 * (rm k y + 1) := b4
          omega
        have hex : ∃ y, 0 ≤ y ∧ y < m ∧ bt k y = 1 := by
          obtain ⟨y, y0, y1, y2⟩ := bt_ex (s := k) (by omega)
          exact ⟨y, y0, bt_lt h8 ⟨by omega, k1⟩ ⟨y0, y1⟩ y2, y2⟩
        have q := mk x x0 x1
        have bc1 : bE L xs (d - 1) MX1_bestNext (0, [(0, bR 16), (1, bI (mem x)), (2, bI k)], [], WD (PX X n m) (PF F row keys wt mem rs) M G O, a, b)
          (fun r => ∃ y, r = (WD (PX X n m) (PF F row keys wt mem rs) M G O, .inl (some (bI y)), a, b) ∧ 0 ≤ y ∧ y < m ∧ bt k y = 1 ∧ ∀ z, 0 ≤ z → z < m → bt k z = 1 → z ≠ y → lx (fun u => F 7 (mem x * 11 + mem u) + rs (rm k u * 8 + u)) y z) :=
          t_bestNext (X := PX X n m) (F := PF F row keys wt mem rs) hI (mem x) k (pnt_s q.1 q.2) h8 hk8 mk hT hex (by omega)
        rcases hls with rfl | ⟨q, rfl⟩
        all_goals
          refine go [] [1] rfl ⟨x1, rfl⟩ (bc rfl (by omega) ic (fun h => by cases h) ?_)
          refine go [] [1] rfl ⟨h, (show 0 ≤ x ∧ x < ((8 : Nat) : Int) by omega), rfl⟩ (bcall rfl (by omega) bc1 ?_)
          rintro r ⟨y, rfl, y0, y1, y2, y3⟩
          refine ⟨_, _, _, _, rfl, (fun h => by cases h), ?_⟩
          have qq := mk x x0 x1
          have lc : bE L xs (d - 1) MX1_lengthBy (0, [(0, bR 16), (1, bI (mem x)), (2, bI k), (3, bI y)], [], WD (PX X n m) (PF F row keys wt mem rs) M G O, a, b) (rI (WD (PX X n m) (PF F row keys wt mem rs) M G O) (F 7 (mem x * 11 + mem y) + rs (rm k y * 8 + y)) a b) :=
            t_lengthBy (X := PX X n m) (F := PF F row keys wt mem rs) hI (mem x) k y (pnt_s qq.1 qq.2) hk8 (by omega) (mk y y0 y1) (hT y y0 y1 y2) (by omega)
          refine go [] [] rfl ⟨(show -2147483648 ≤ k * 8 ∧ k * 8 ≤ 2147483647 by omega), (show -2147483648 ≤ k * 8 + x ∧ k * 8 + x ≤ 2147483647 by omega), (show 0 ≤ x ∧ x < ((8 : Nat) : Int) by omega), rfl⟩ (bc rfl (by omega) lc (fun h => by cases h) ?_)
          have hT' : ∀ s t, 0 ≤ s → 0 ≤ t → t < m → ¬ (s = k ∧ t = x) → (fun s t => up rs (k * 8 + x) (F 7 (mem x * 11 + mem y) + rs (rm k y * 8 + y)) (s * 8 + t)) s t = (fun s t => rs (s * 8 + t)) s t := by
            intro s t s0 t0 t1 hne
            exact up_ne _ (by omega)
          refine go [51] [] rfl ⟨(show 0 ≤ k * 8 + x ∧ k * 8 + x < ((2048 : Nat) : Int) by omega), hr1, rfl⟩ (ih2 (up rs (k * 8 + x) (F 7 (mem x * 11 + mem y) + rs (rm k y * 8 + y))) _ (TD_up h8 (by omega) hTD hT') (fun t t0 t1 hb => ?_) (Or.inr ⟨_, rfl⟩))
          by_cases e : t = x
          · subst e
            refine DC_up hI hm h8 hmem ⟨hk, by omega⟩ ⟨x0, x1⟩ hTD hT' y0 y1 y2 (up_eq _ _ _) (fun z z0 z1 z2 => ?_)
            by_cases ez : z = y
            · rw [ez]; exact Int.le_refl _
            · show F 7 (mem t * 11 + mem y) + rs (rm k y * 8 + y) ≤ F 7 (mem t * 11 + mem z) + rs (rm k z * 8 + z)
              rcases y3 z z0 z1 z2 ez with q | q
              · have q' : F 7 (mem t * 11 + mem y) + rs (rm k y * 8 + y) < F 7 (mem t * 11 + mem z) + rs (rm k z * 8 + z) := q
                omega
              · have q' : F 7 (mem t * 11 + mem y) + rs (rm k y * 8 + y) = F 7 (mem t * 11 + mem z) + rs (rm k z * 8 + z) := q.1
                omega
          · exact DC_c h8 hk8 (hT' k t (by omega) t0 (by omega) (by omega)) (fun s' x' q0 q1 q2 q3 => hT' s' x' q0 q2 q3 (by omega)) (hDC t t0 (by omega) hb)
      · have nxt : ∀ t, 0 ≤ t → t < x + 1 → bt k t = 0 → DC F mem m (fun s x => rs (s * 8 + x)) k t := by
          intro t t0 t1 hb
          by_cases e : t = x
          · rw [e] at hb; omega
          · exact hDC t t0 (by omega) hb
        rcases hls with rfl | ⟨q, rfl⟩
        · refine go [] [1] rfl ⟨x1, rfl⟩ (bc rfl (by omega) ic (fun h => by cases h) ?_)
          exact go [51] [0] rfl ⟨(show ¬ bt k x = 0 by omega), hr1, rfl⟩ (ih2 rs _ hTD nxt (Or.inl rfl))
        · refine go [] [1] rfl ⟨x1, rfl⟩ (bc rfl (by omega) ic (fun h => by cases h) ?_)
          exact go [51] [0] rfl ⟨(show ¬ bt k x = 0 by omega), hr1, rfl⟩ (ih2 rs _ hTD nxt (Or.inr ⟨_, rfl⟩))
theorem GI_at {i s : Int} {T : Int → Int → Int} (hI : SB X F) (hm : m = nW F (X 6)) (hmem : MEM X F (X 6) mem) (h : GI X F m mem T i s row) : pnt X (at3 X row i) := by
  have hX := hI.1
  unfold at3
  split
  · exact SB_here hI
  · have := h.1.1
    obtain ⟨y, y0, y1, y2, y3, y4⟩ := h.2.2.2 (i - 1) (by omega) (by omega)
    obtain ⟨p0, p1, _⟩ := mem_k (by omega) hmem y0 (by omega)
    rw [y3]
    exact pnt_s p0 p1
theorem t_leastLay (hI : SB X F) (h8 : nW F (X 6) ≤ 8) (hd : 5 ≤ d) : bE L xs d MX1_lay (0, [(0, bR 16), (1, bI (X 0)), (2, bR 2)], [], WD (PX X 0 l) (PF F row keys wt mem rs) M G O, a, b)
    (fun r => ∃ n l' row' mem' rs', r = (WD (PX X n l') (PF F row' keys wt mem' rs') M G O, .inl none, a, b) ∧ WL4 X F n row') := by
  have hX := hI.1
  have hnb := nW_b F (X 6) (by omega)
  obtain ⟨m, hm⟩ : ∃ m, m = nW F (X 6) := ⟨_, rfl⟩
  have h8' : 0 ≤ m ∧ m ≤ 8 := by omega
  have hp := pw_b h8'
  refine go [] [] rfl rfl (bcall rfl (by omega) (t_gather hI h8 (by omega)) ?_)
  rintro r ⟨mem, rfl, hmem⟩
  rw [← hm]
  refine ⟨_, _, _, _, rfl, (fun h => by cases h), ?_⟩
  refine go [] [] rfl rfl (bcall rfl (by omega) (t_fillRests hI hm h8' hmem (by omega)) ?_)
  rintro r ⟨rs, rfl, hTD⟩
  refine ⟨_, _, _, _, rfl, (fun h => by cases h), ?_⟩
  have mk : ∀ y, 0 ≤ y → y < m → 0 ≤ mem y ∧ mem y < X 6 := fun y y0 y1 => by
    obtain ⟨p0, p1, _⟩ := mem_k (by omega) hmem y0 (by omega)
    exact ⟨p0, p1⟩
  have key := for_up (P := fun i => ∀ (at_ s : Int) (row : Int → Int) (ls : BL), GI X F m mem (fun s x => rs (s * 8 + x)) i s row → at_ = at3 X row i → (ls = [(0, bR 16), (1, bI (X 0)), (2, bR 2), (3, bI at_), (4, bI s), (5, bI i)] ∨ ∃ t, ls = [(0, bR 16), (1, bI (X 0)), (2, bR 2), (3, bI at_), (4, bI s), (5, bI i), (6, bI t)]) →
      bE L xs d MX1_lay (23, ls, [], WD (PX X i m) (PF F row keys wt mem rs) M G O, a, b)
      (fun r => ∃ n l' row' mem' rs', r = (WD (PX X n l') (PF F row' keys wt mem' rs') M G O, .inl none, a, b) ∧ WL4 X F n row')) m ?_ ?_ 0 (by omega) (by omega) (X 0) (pw m - 1) row _ (GI_0 h8') rfl (Or.inl rfl)
  · exact go [23] [] rfl ⟨(show -2147483648 ≤ pw m - 1 ∧ pw m - 1 ≤ 2147483647 by omega), rfl⟩ key
  · intro at_ s row ls h1 h2 hls
    have fin : WL4 X F m row := ⟨hm, mem, _, hmem, hTD, h1.2.2.2⟩
    rcases hls with rfl | ⟨t, rfl⟩
    · exact go [] [0] rfl (Int.le_refl m) (rtv rfl rfl ⟨m, m, row, mem, rs, rfl, fin⟩)
    · exact go [] [0] rfl (Int.le_refl m) (rtv rfl rfl ⟨m, m, row, mem, rs, rfl, fin⟩)
  · intro i i0 i1 ih at_ s row ls h1 h2 hls
    have hr1 : -2147483648 ≤ i + 1 ∧ i + 1 ≤ 2147483647 := by omega
    have hp2 := GI_at hI hm hmem h1
    rw [← h2] at hp2
    have hs := h1.2.1
    have hs8 : 0 ≤ s ∧ s < 256 := by omega
    have hex := GI_ex h8' h1 i1
    have hT : ∀ y, 0 ≤ y → y < m → bt s y = 1 → 0 ≤ rs (rm s y * 8 + y) ∧ rs (rm s y * 8 + y) ≤ 60000 := by
      intro y y0 y1 y2
      have ry := rm_b (s := s) (x := y) (by omega) (by omega)
      have ry2 := ry.2.2 y2
      obtain ⟨b1, b2, b3, b4⟩ := hTD (rm s y) y ry.1 (by omega) y0 y1 (bt_rm_eq (by omega) (by omega))
      have b3' : 0 ≤ rs (rm s y * 8 + y) := b3
      have b4' : rs (rm s y * 8 + y) ≤ 200 * (rm s y + 1) := b4
      omega
    have bc1 : bE L xs (d - 1) MX1_bestNext (0, [(0, bR 16), (1, bI at_), (2, bI s)], [], WD (PX X i m) (PF F row keys wt mem rs) M G O, a, b)
      (fun r => ∃ y, r = (WD (PX X i m) (PF F row keys wt mem rs) M G O, .inl (some (bI y)), a, b) ∧ 0 ≤ y ∧ y < m ∧ bt s y = 1 ∧ ∀ z, 0 ≤ z → z < m → bt s z = 1 → z ≠ y → lx (fun u => F 7 (at_ * 11 + mem u) + rs (rm s u * 8 + u)) y z) :=
      t_bestNext (X := PX X i m) (F := PF F row keys wt mem rs) hI at_ s hp2 h8' hs8 mk hT hex (by omega)
    rcases hls with rfl | ⟨t, rfl⟩
    all_goals
      refine go [] [1] rfl ⟨i1, rfl⟩ (bcall rfl (by omega) bc1 ?_)
      rintro r ⟨y, rfl, y0, y1, y2, y3⟩
      refine ⟨_, _, _, _, rfl, (fun h => by cases h), ?_⟩
      refine go [] [] rfl ⟨(show 0 ≤ y ∧ y < ((8 : Nat) : Int) by omega), rfl⟩ (bcall rfl (by omega) (t_append (X := X) (F := F) (n := i) (l := m) (row := row) (keys := keys) (wt := wt) (mem := mem) (rs := rs) (mem y) (by omega) (by omega)) ?_)
      rintro r ⟨row', rfl, hrow⟩
      refine ⟨_, _, _, _, rfl, (fun h => by cases h), ?_⟩
      refine go [23] [] rfl ⟨hr1, rfl⟩ (ih (mem y) (rm s y) row' _ (GI_add (by omega) hm h8' hmem h1 y0 y1 y2 ?_ hrow) ?_ (Or.inr ⟨_, rfl⟩))
      · rw [← h2]; exact y3
      · rw [at3_s i0, hrow i i0 (by omega), up_eq]
end E2
end
section
/-! The reference's least walk -/
section H1
variable {L : Nat} {xs : Nat → Int32} {X M : Nat → Int} {F G : Nat → Int → Int} {Y : Nat → Int} {E : Nat → Int → Int} {O : Int → Int} {d a b : Nat} {Q : BR → Prop} {row lf fr few mem co : Int → Int} {n m : Int}
/-- what the reference's set loop may have left in its locals -/
def tl4 (tl : BL) : Prop := tl = [] ∨ (∃ p q, tl = [(5, bI p), (6, bI q)]) ∨ (∃ p q r, tl = [(5, bI p), (6, bI q), (7, bI r)]) ∨ ∃ p q r t, tl = [(5, bI p), (6, bI q), (7, bI r), (8, bI t)]
set_option maxRecDepth 100000 in
theorem at_332 : ax_at (axT MX6_least) 332 = some (.return_, 0, 0) := rfl
theorem m_greedy (hI : SB X F) (hm0 : RB X F M G) (hm : m = nW F (X 6)) (h8 : 0 ≤ m ∧ m ≤ 8) (hmem : MEM X F (X 6) mem) (hTD : TD F mem m (pw m) (fun s x => co (8 * s + x))) (kk : Int) (hd : 3 ≤ d) :
    ∀ i, 0 ≤ i → i ≤ m → ∀ (s u : Int) (row lf : Int → Int) (tl : BL), GI X F m mem (fun s x => co (8 * s + x)) i s row → u = mp (at3 X row i) → tl4 tl →
    bE L xs d MX6_least (209, (0, bR 19) :: (1, bI m) :: (2, bI kk) :: (3, bI s) :: (4, bI u) :: tl, [], WD Y E (PM M i) (PG G row lf fr mem co) O, a, b)
      (fun r => ∃ n' row' lf' few' co', r = (WD Y E (PM M n') (PG G row' lf' fr few' co') O, .inl none, a, b) ∧ WL4 X F n' row') := by
  have hX := hI.1
  have hp := pw_b h8
  have mk : ∀ y, 0 ≤ y → y < m → 0 ≤ mem y ∧ mem y < X 6 := fun y y0 y1 => by
    obtain ⟨p0, p1, _⟩ := mem_k (by omega) hmem y0 (by omega)
    exact ⟨p0, p1⟩
  refine for_up (P := fun i => ∀ (s u : Int) (row lf : Int → Int) (tl : BL), GI X F m mem (fun s x => co (8 * s + x)) i s row → u = mp (at3 X row i) → tl4 tl →
    bE L xs d MX6_least (209, (0, bR 19) :: (1, bI m) :: (2, bI kk) :: (3, bI s) :: (4, bI u) :: tl, [], WD Y E (PM M i) (PG G row lf fr mem co) O, a, b)
      (fun r => ∃ n' row' lf' few' co', r = (WD Y E (PM M n') (PG G row' lf' fr few' co') O, .inl none, a, b) ∧ WL4 X F n' row')) m ?_ ?_
  · intro s u row lf tl h1 h2 htl
    have hs0 : s = 0 := by
      by_cases c : s = 0
      · exact c
      · have := GI_z h8 h1 c; omega
    have fin : WL4 X F m row := ⟨hm, mem, _, hmem, hTD, h1.2.2.2⟩
    rcases htl with rfl | ⟨p, q, rfl⟩ | ⟨p, q, r, rfl⟩ | ⟨p, q, r, t, rfl⟩
    all_goals exact go [] [0] rfl hs0 (rtv at_332 rfl ⟨m, row, lf, mem, co, rfl, fin⟩)
  · intro i i0 i1 ih s u row lf tl h1 h2 htl
    have hs0 : ¬ s = 0 := fun c => by
      have := GI_end h8 h1 c; omega
    have hp2 := GI_at hI hm hmem h1
    have hs := h1.2.1
    have hs8 : 0 ≤ s ∧ s < 256 := by omega
    have hex := GI_ex h8 h1 i1
    have hT : ∀ y, 0 ≤ y → y < m → bt s y = 1 → 0 ≤ co (8 * rm s y + y) ∧ co (8 * rm s y + y) ≤ 60000 := by
      intro y y0 y1 y2
      have ry := rm_b (s := s) (x := y) (by omega) (by omega)
      have ry2 := ry.2.2 y2
      obtain ⟨b1, b2, b3, b4⟩ := hTD (rm s y) y ry.1 (by omega) y0 y1 (bt_rm_eq (by omega) (by omega))
      have b3' : 0 ≤ co (8 * rm s y + y) := b3
      have b4' : co (8 * rm s y + y) ≤ 200 * (rm s y + 1) := b4
      omega
    have inner := for_up (P := fun x => ∀ (nx bs : Int) (tl : BL), ((nx = -1 ∧ bs = 1000000 ∧ ∀ t, 0 ≤ t → t < x → bt s t = 0) ∨ (0 ≤ nx ∧ nx < x ∧ bt s nx = 1 ∧ bs = F 7 (at3 X row i * 11 + mem nx) + co (8 * rm s nx + nx) ∧ ∀ t, 0 ≤ t → t < x → bt s t = 1 → t ≠ nx → lx (fun u => F 7 (at3 X row i * 11 + mem u) + co (8 * rm s u + u)) nx t)) → (tl = [] ∨ ∃ v, tl = [(8, bI v)]) →
      bE L xs d MX6_least (223, (0, bR 19) :: (1, bI m) :: (2, bI kk) :: (3, bI s) :: (4, bI u) :: (5, bI nx) :: (6, bI bs) :: (7, bI x) :: tl, [], WD Y E (PM M i) (PG G row lf fr mem co) O, a, b)
      (fun r => ∃ n' row' lf' few' co', r = (WD Y E (PM M n') (PG G row' lf' fr few' co') O, .inl none, a, b) ∧ WL4 X F n' row')) m ?_ ?_ 0 (by omega) (by omega) (-1) 1000000
    · have i1 := fun tl h => inner tl (Or.inl ⟨rfl, rfl, fun t t0 t1 => by omega⟩) h
      rcases htl with rfl | ⟨p, q, rfl⟩ | ⟨p, q, r, rfl⟩ | ⟨p, q, r, t, rfl⟩
      · exact go [223] [1] rfl ⟨hs0, rfl⟩ (i1 [] (Or.inl rfl))
      · exact go [223] [1] rfl ⟨hs0, rfl⟩ (i1 [] (Or.inl rfl))
      · exact go [223] [1] rfl ⟨hs0, rfl⟩ (i1 [] (Or.inl rfl))
      · exact go [223] [1] rfl ⟨hs0, rfl⟩ (i1 [(8, bI t)] (Or.inr ⟨t, rfl⟩))
    · intro nx bs tl hinv htl
      rcases hinv with ⟨e1, e2, hno⟩ | ⟨n0, n1, n2, n3, n4⟩
      · obtain ⟨t, t0, t1, t2⟩ := hex
        have := hno t t0 t1
        omega
      · have q := mk nx n0 n1
        have hx : 0 ≤ nx ∧ nx < ((8 : Nat) : Int) := by omega
        have g := GI_add (row' := up row i (mem nx)) (by omega) hm h8 hmem h1 n0 n1 n2 n4 (fun j _ _ => rfl)
        have ea : mem nx = mp (at3 X (up row i (mem nx)) (i + 1)) := by
          rw [at3_s i0, up_eq, mp_s (s := mem nx) (by omega)]
        rcases htl with rfl | ⟨v, rfl⟩
        · refine go [] [0] rfl ⟨Int.le_refl m, hx⟩ (bc rfl (by omega) (m_add (mem nx) (by omega) (by omega)) (fun h => by cases h) ?_)
          exact go [209] [] rfl ⟨hx, rfl⟩ (ih (rm s nx) (mem nx) (up row i (mem nx)) (up lf (mem nx) 0) _ g ea (Or.inr (Or.inr (Or.inl ⟨_, _, _, rfl⟩))))
        · refine go [] [0] rfl ⟨Int.le_refl m, hx⟩ (bc rfl (by omega) (m_add (mem nx) (by omega) (by omega)) (fun h => by cases h) ?_)
          exact go [209] [] rfl ⟨hx, rfl⟩ (ih (rm s nx) (mem nx) (up row i (mem nx)) (up lf (mem nx) 0) _ g ea (Or.inr (Or.inr (Or.inr ⟨_, _, _, _, rfl⟩))))
    · intro x x0 x1 ih2 nx bs tl hinv htl
      have hx8 : 0 ≤ x ∧ x < 8 := by omega
      have hx : 0 ≤ x ∧ x < ((8 : Nat) : Int) := by omega
      have hr1 : -2147483648 ≤ x + 1 ∧ x + 1 ≤ 2147483647 := by omega
      rcases bt_01 hs8 hx8 with h | h
      · have skip : ((nx = -1 ∧ bs = 1000000 ∧ ∀ t, 0 ≤ t → t < x + 1 → bt s t = 0) ∨ (0 ≤ nx ∧ nx < x + 1 ∧ bt s nx = 1 ∧ bs = F 7 (at3 X row i * 11 + mem nx) + co (8 * rm s nx + nx) ∧ ∀ t, 0 ≤ t → t < x + 1 → bt s t = 1 → t ≠ nx → lx (fun u => F 7 (at3 X row i * 11 + mem u) + co (8 * rm s u + u)) nx t)) := by
          rcases hinv with ⟨e1, e2, hno⟩ | ⟨n0, n1, n2, n3, n4⟩
          · refine Or.inl ⟨e1, e2, fun t t0 t1 => ?_⟩
            by_cases e : t = x
            · rw [e]; exact h
            · exact hno t t0 (by omega)
          · refine Or.inr ⟨n0, by omega, n2, n3, fun t t0 t1 ht hne => ?_⟩
            by_cases e : t = x
            · rw [e] at ht; omega
            · exact n4 t t0 (by omega) ht hne
        rcases htl with rfl | ⟨v, rfl⟩
        · exact go [223] [1, 1] rfl ⟨x1, h, hr1, rfl⟩ (ih2 nx bs _ skip (Or.inl rfl))
        · exact go [223] [1, 1] rfl ⟨x1, h, hr1, rfl⟩ (ih2 nx bs _ skip (Or.inr ⟨_, rfl⟩))
      · have q := mk x x0 x1
        have hTx := hT x x0 x1 h
        have hw := SB_way hI hp2 (pnt_s q.1 q.2)
        have hr := rm_b hs8 hx8
        have wc := m_way (L := L) (xs := xs) (Y := Y) (E := E) (O := O) (d := d - 1) (a := a) (b := b) (M := PM M i) (G := PG G row lf fr mem co) hI hm0 (at3 X row i) (mem x) hp2 (pnt_s q.1 q.2) (by omega)
        rw [← h2, mp_s (s := mem x) (by omega)] at wc
        have c1 : -2147483648 ≤ 8 * rm s x ∧ 8 * rm s x ≤ 2147483647 := by omega
        have c2 : -2147483648 ≤ 8 * rm s x + x ∧ 8 * rm s x + x ≤ 2147483647 := by omega
        have c3 : 0 ≤ 8 * rm s x + x ∧ 8 * rm s x + x < ((2048 : Nat) : Int) := by omega
        have c4 : -2147483648 ≤ F 7 (at3 X row i * 11 + mem x) + co (8 * rm s x + x) ∧ F 7 (at3 X row i * 11 + mem x) + co (8 * rm s x + x) ≤ 2147483647 := by omega
        have hb0 : ¬ bt s x = 0 := by omega
        rcases htl with rfl | ⟨v, rfl⟩
        all_goals
          refine go [] [1, 0] rfl ⟨x1, hb0, hx⟩ (bc rfl (by omega) wc (fun h => by cases h) ?_)
          by_cases hlt : F 7 (at3 X row i * 11 + mem x) + co (8 * rm s x + x) < bs
          · refine go [223] [0] rfl ⟨c1, c2, c3, c4, hlt, hr1, rfl⟩ (ih2 x _ _ (Or.inr ⟨x0, by omega, h, rfl, fun t t0 t1 ht hne => ?_⟩) (Or.inr ⟨_, rfl⟩))
            rcases hinv with ⟨e1, e2, hno⟩ | ⟨n0, n1, n2, n3, n4⟩
            · have := hno t t0 (by omega); omega
            · refine Or.inl ?_
              show F 7 (at3 X row i * 11 + mem x) + co (8 * rm s x + x) < F 7 (at3 X row i * 11 + mem t) + co (8 * rm s t + t)
              by_cases e : t = nx
              · rw [e]; omega
              · rcases n4 t t0 (by omega) ht e with q | q
                · have q' : F 7 (at3 X row i * 11 + mem nx) + co (8 * rm s nx + nx) < F 7 (at3 X row i * 11 + mem t) + co (8 * rm s t + t) := q
                  omega
                · have q' : F 7 (at3 X row i * 11 + mem nx) + co (8 * rm s nx + nx) = F 7 (at3 X row i * 11 + mem t) + co (8 * rm s t + t) := q.1
                  omega
          · refine go [223] [1] rfl ⟨c1, c2, c3, c4, (show bs ≤ F 7 (at3 X row i * 11 + mem x) + co (8 * rm s x + x) by omega), hr1, rfl⟩ (ih2 nx bs _ ?_ (Or.inr ⟨_, rfl⟩))
            rcases hinv with ⟨e1, e2, hno⟩ | ⟨n0, n1, n2, n3, n4⟩
            · omega
            · refine Or.inr ⟨n0, by omega, n2, n3, fun t t0 t1 ht hne => ?_⟩
              by_cases e : t = x
              · rw [e]
                by_cases c : F 7 (at3 X row i * 11 + mem nx) + co (8 * rm s nx + nx) = F 7 (at3 X row i * 11 + mem x) + co (8 * rm s x + x)
                · exact Or.inr ⟨c, n1⟩
                · exact Or.inl (by show F 7 (at3 X row i * 11 + mem nx) + co (8 * rm s nx + nx) < F 7 (at3 X row i * 11 + mem x) + co (8 * rm s x + x); omega)
              · exact n4 t t0 (by omega) ht hne
end H1
section H2
variable {L : Nat} {xs : Nat → Int32} {X M : Nat → Int} {F G : Nat → Int → Int} {Y : Nat → Int} {E : Nat → Int → Int} {O : Int → Int} {d a b : Nat} {Q : BR → Prop} {row lf fr few mem co : Int → Int} {n m : Int}
def tl3 (tl : BL) : Prop := tl = [] ∨ (∃ p q, tl = [(5, bI p), (6, bI q)]) ∨ ∃ p q r, tl = [(5, bI p), (6, bI q), (7, bI r)]
/-- the best so far, for the set k and its member l -/
def JB (F : Nat → Int → Int) (mem co : Int → Int) (k l x best : Int) : Prop :=
  (k = 0 → best = F 7 (mem l * 11 + 10)) ∧
  (k ≠ 0 → (best = 1000000 ∧ ∀ z, 0 ≤ z → z < x → bt k z = 1 → z = l) ∨ ∃ y, 0 ≤ y ∧ y < x ∧ bt k y = 1 ∧ y ≠ l ∧ best = F 7 (mem l * 11 + mem y) + co (8 * rm k y + y) ∧ ∀ z, 0 ≤ z → z < x → bt k z = 1 → z ≠ l → best ≤ F 7 (mem l * 11 + mem z) + co (8 * rm k z + z))
theorem JB_skip {k l x best : Int} (h : JB F mem co k l x best) (hx : bt k x = 0 ∨ x = l) : JB F mem co k l (x + 1) best := by
  refine ⟨h.1, fun hk => ?_⟩
  rcases h.2 hk with ⟨e1, e2⟩ | ⟨y, y0, y1, y2, y3, y4, y5⟩
  · refine Or.inl ⟨e1, fun z z0 z1 hz => ?_⟩
    by_cases e : z = x
    · subst e
      rcases hx with q | q
      · omega
      · exact q
    · exact e2 z z0 (by omega) hz
  · refine Or.inr ⟨y, y0, by omega, y2, y3, y4, fun z z0 z1 hz hzl => ?_⟩
    by_cases e : z = x
    · subst e
      rcases hx with q | q
      · omega
      · exact absurd q hzl
    · exact y5 z z0 (by omega) hz hzl
/-- a row of rests: the set k, all members -/
theorem m_sets (hI : SB X F) (hm0 : RB X F M G) (hm : m = nW F (X 6)) (h8 : 0 ≤ m ∧ m ≤ 8) (hmem : MEM X F (X 6) mem) (kk : Int) (hd : 3 ≤ d) (k : Int) (k0 : 0 ≤ k) (k1 : k < pw m)
    (cont : ∀ (co : Int → Int) (tl : BL), TD F mem m (k + 1) (fun s x => co (8 * s + x)) → tl3 tl → bE L xs d MX6_least (42, (0, bR 19) :: (1, bI m) :: (2, bI kk) :: (3, bI (k + 1)) :: (4, bI m) :: tl, [], WD Y E (PM M 0) (PG G row lf fr mem co) O, a, b) Q) :
    ∀ l, 0 ≤ l → l ≤ m → ∀ (co : Int → Int) (tl : BL), TD F mem m k (fun s x => co (8 * s + x)) → (∀ t, 0 ≤ t → t < l → bt k t = 0 → DC F mem m (fun s x => co (8 * s + x)) k t) → tl3 tl →
    bE L xs d MX6_least (52, (0, bR 19) :: (1, bI m) :: (2, bI kk) :: (3, bI k) :: (4, bI l) :: tl, [], WD Y E (PM M 0) (PG G row lf fr mem co) O, a, b) Q := by
  have hX := hI.1
  have hp := pw_b h8
  have hk8 : 0 ≤ k ∧ k < 256 := by omega
  have mk : ∀ y, 0 ≤ y → y < m → 0 ≤ mem y ∧ mem y < X 6 := fun y y0 y1 => by
    obtain ⟨p0, p1, _⟩ := mem_k (by omega) hmem y0 (by omega)
    exact ⟨p0, p1⟩
  refine for_up (P := fun l => ∀ (co : Int → Int) (tl : BL), TD F mem m k (fun s x => co (8 * s + x)) → (∀ t, 0 ≤ t → t < l → bt k t = 0 → DC F mem m (fun s x => co (8 * s + x)) k t) → tl3 tl →
    bE L xs d MX6_least (52, (0, bR 19) :: (1, bI m) :: (2, bI kk) :: (3, bI k) :: (4, bI l) :: tl, [], WD Y E (PM M 0) (PG G row lf fr mem co) O, a, b) Q) m ?_ ?_
  · intro co tl hTD hDC htl
    have hr1 : -2147483648 ≤ k + 1 ∧ k + 1 ≤ 2147483647 := by omega
    have nxt : TD F mem m (k + 1) (fun s x => co (8 * s + x)) := by
      intro s x s0 s1 x0 x1 hb
      by_cases e : s = k
      · subst e; exact hDC x x0 x1 hb
      · exact hTD s x s0 (by omega) x0 x1 hb
    have c := cont co tl nxt htl
    rcases htl with rfl | ⟨p, q, rfl⟩ | ⟨p, q, r, rfl⟩
    all_goals exact go [42] [0] rfl ⟨Int.le_refl m, hr1, rfl⟩ c
  · intro l l0 l1 ih co tl hTD hDC htl
    have hl : 0 ≤ l ∧ l < ((8 : Nat) : Int) := by omega
    have hr1 : -2147483648 ≤ l + 1 ∧ l + 1 ≤ 2147483647 := by omega
    have ql := mk l l0 l1
    have hT : ∀ y, 0 ≤ y → y < m → bt k y = 1 → 0 ≤ co (8 * rm k y + y) ∧ co (8 * rm k y + y) ≤ 60000 := by
      intro y y0 y1 y2
      have ry := rm_b (s := k) (x := y) (by omega) (by omega)
      have ry2 := ry.2.2 y2
      obtain ⟨b1, b2, b3, b4⟩ := hTD (rm k y) y ry.1 ry2 y0 y1 (bt_rm_eq (by omega) (by omega))
      have b3' : 0 ≤ co (8 * rm k y + y) := b3
      have b4' : co (8 * rm k y + y) ≤ 200 * (rm k y + 1) := b4
      omega
    have inner := for_up (P := fun x => ∀ (best : Int) (tl : BL), JB F mem co k l x best → (tl = [] ∨ ∃ v, tl = [(7, bI v)]) →
      bE L xs d MX6_least (84, (0, bR 19) :: (1, bI m) :: (2, bI kk) :: (3, bI k) :: (4, bI l) :: (5, bI best) :: (6, bI x) :: tl, [], WD Y E (PM M 0) (PG G row lf fr mem co) O, a, b) Q) m ?_ ?_ 0 (by omega) (by omega)
    · by_cases hk : k = 0
      · have wc := m_way (L := L) (xs := xs) (Y := Y) (E := E) (O := O) (d := d - 1) (a := a) (b := b) (M := PM M 0) (G := PG G row lf fr mem co) hI hm0 (mem l) 10 (pnt_s ql.1 ql.2) pnt_d (by omega)
        rw [mp_d, mp_s (s := mem l) (by omega)] at wc
        have i1 := fun tl h => inner (F 7 (mem l * 11 + 10)) tl ⟨fun _ => rfl, fun q => absurd hk q⟩ h
        rcases htl with rfl | ⟨p, q, rfl⟩ | ⟨p, q, r, rfl⟩
        · refine go [] [1, 1] rfl ⟨l1, hk, hl, rfl⟩ (bc rfl (by omega) wc (fun h => by cases h) ?_)
          exact go [84] [] rfl rfl (i1 [] (Or.inl rfl))
        · refine go [] [1, 1] rfl ⟨l1, hk, hl, rfl⟩ (bc rfl (by omega) wc (fun h => by cases h) ?_)
          exact go [84] [] rfl rfl (i1 [] (Or.inl rfl))
        · refine go [] [1, 1] rfl ⟨l1, hk, hl, rfl⟩ (bc rfl (by omega) wc (fun h => by cases h) ?_)
          exact go [84] [] rfl rfl (i1 [(7, bI r)] (Or.inr ⟨_, rfl⟩))
      · have i1 := fun tl h => inner 1000000 tl ⟨fun q => absurd q hk, fun _ => Or.inl ⟨rfl, fun z z0 z1 => by omega⟩⟩ h
        rcases htl with rfl | ⟨p, q, rfl⟩ | ⟨p, q, r, rfl⟩
        · exact go [84] [1, 0] rfl ⟨l1, hk, rfl⟩ (i1 [] (Or.inl rfl))
        · exact go [84] [1, 0] rfl ⟨l1, hk, rfl⟩ (i1 [] (Or.inl rfl))
        · exact go [84] [1, 0] rfl ⟨l1, hk, rfl⟩ (i1 [(7, bI r)] (Or.inr ⟨_, rfl⟩))
    · intro best tl hJ htl
      have hT' : ∀ s t, 0 ≤ s → 0 ≤ t → t < m → ¬ (s = k ∧ t = l) → (fun s t => up co (8 * k + l) best (8 * s + t)) s t = (fun s t => co (8 * s + t)) s t := by
        intro s t s0 t0 t1 hne
        exact up_ne _ (by omega)
      have hv : (fun s t => up co (8 * k + l) best (8 * s + t)) k l = best := up_eq _ _ _
      have nTD : TD F mem m k (fun s t => up co (8 * k + l) best (8 * s + t)) := TD_up h8 (by omega) hTD hT'
      have nDC : ∀ t, 0 ≤ t → t < l + 1 → bt k t = 0 → DC F mem m (fun s t => up co (8 * k + l) best (8 * s + t)) k t := by
        intro t t0 t1 hb
        by_cases e : t = l
        · subst e
          by_cases hk : k = 0
          · have hw := SB_way hI (pnt_s ql.1 ql.2) pnt_d
            have e1 := hJ.1 hk
            exact ⟨fun _ => hv.trans e1, fun q => absurd hk q, by rw [hv]; omega, by rw [hv]; omega⟩
          · rcases hJ.2 hk with ⟨e1, e2⟩ | ⟨y, y0, y1, y2, y3, y4, y5⟩
            · obtain ⟨z, z0, z1, z2⟩ := bt_ex (s := k) (by omega)
              have z3 := bt_lt h8 ⟨k0, k1⟩ ⟨z0, z1⟩ z2
              have := e2 z z0 z3 z2
              subst this
              omega
            · refine DC_up hI hm h8 hmem ⟨by omega, by omega⟩ ⟨t0, by omega⟩ hTD hT' y0 y1 y2 (hv.trans y4) (fun z z0 z1 z2 => ?_)
              have := y5 z z0 z1 z2 (fun q => by rw [q] at z2; omega)
              rw [y4] at this
              exact this
        · exact DC_c h8 hk8 (hT' k t k0 t0 (by omega) (by omega)) (fun s' x' q0 q1 q2 q3 => hT' s' x' q0 q2 q3 (by omega)) (hDC t t0 (by omega) hb)
      have c1 : -2147483648 ≤ 8 * k ∧ 8 * k ≤ 2147483647 := by omega
      have c2 : -2147483648 ≤ 8 * k + l ∧ 8 * k + l ≤ 2147483647 := by omega
      have c3 : 0 ≤ 8 * k + l ∧ 8 * k + l < ((2048 : Nat) : Int) := by omega
      rcases htl with rfl | ⟨v, rfl⟩
      · exact go [52] [0] rfl ⟨Int.le_refl m, c1, c2, c3, hr1, rfl⟩ (ih (up co (8 * k + l) best) _ nTD nDC (Or.inr (Or.inl ⟨_, _, rfl⟩)))
      · exact go [52] [0] rfl ⟨Int.le_refl m, c1, c2, c3, hr1, rfl⟩ (ih (up co (8 * k + l) best) _ nTD nDC (Or.inr (Or.inr ⟨_, _, _, rfl⟩)))
    · intro x x0 x1 ih2 best tl hJ htl
      have hx8 : 0 ≤ x ∧ x < 8 := by omega
      have hx : 0 ≤ x ∧ x < ((8 : Nat) : Int) := by omega
      have hr2 : -2147483648 ≤ x + 1 ∧ x + 1 ≤ 2147483647 := by omega
      rcases bt_01 hk8 hx8 with h | h
      · rcases htl with rfl | ⟨v, rfl⟩
        · exact go [84] [1, 0] rfl ⟨x1, h, hr2, rfl⟩ (ih2 best _ (JB_skip hJ (Or.inl h)) (Or.inl rfl))
        · exact go [84] [1, 0] rfl ⟨x1, h, hr2, rfl⟩ (ih2 best _ (JB_skip hJ (Or.inl h)) (Or.inr ⟨_, rfl⟩))
      · have hb0 : ¬ bt k x = 0 := by omega
        by_cases hxl : x = l
        · rcases htl with rfl | ⟨v, rfl⟩
          · exact go [84] [1, 1, 1] rfl ⟨x1, hb0, hxl, hr2, rfl⟩ (ih2 best _ (JB_skip hJ (Or.inr hxl)) (Or.inl rfl))
          · exact go [84] [1, 1, 1] rfl ⟨x1, hb0, hxl, hr2, rfl⟩ (ih2 best _ (JB_skip hJ (Or.inr hxl)) (Or.inr ⟨_, rfl⟩))
        · have q := mk x x0 x1
          have hTx := hT x x0 x1 h
          have hw := SB_way hI (pnt_s ql.1 ql.2) (pnt_s q.1 q.2)
          have hr := rm_b hk8 hx8
          have hkz : k ≠ 0 := fun e => by
            rw [e, bt_z hx8] at h
            omega
          have wc := m_way (L := L) (xs := xs) (Y := Y) (E := E) (O := O) (d := d - 1) (a := a) (b := b) (M := PM M 0) (G := PG G row lf fr mem co) hI hm0 (mem l) (mem x) (pnt_s ql.1 ql.2) (pnt_s q.1 q.2) (by omega)
          rw [mp_s (s := mem l) (by omega), mp_s (s := mem x) (by omega)] at wc
          have c1 : -2147483648 ≤ 8 * rm k x ∧ 8 * rm k x ≤ 2147483647 := by omega
          have c2 : -2147483648 ≤ 8 * rm k x + x ∧ 8 * rm k x + x ≤ 2147483647 := by omega
          have c3 : 0 ≤ 8 * rm k x + x ∧ 8 * rm k x + x < ((2048 : Nat) : Int) := by omega
          have c4 : -2147483648 ≤ F 7 (mem l * 11 + mem x) + co (8 * rm k x + x) ∧ F 7 (mem l * 11 + mem x) + co (8 * rm k x + x) ≤ 2147483647 := by omega
          rcases htl with rfl | ⟨v, rfl⟩
          all_goals
            refine go [] [1, 1, 0] rfl ⟨x1, hb0, hxl, hl, hx⟩ (bc rfl (by omega) wc (fun h => by cases h) ?_)
            by_cases hlt : F 7 (mem l * 11 + mem x) + co (8 * rm k x + x) < best
            · refine go [84] [1] rfl ⟨c1, c2, c3, c4, hlt, hr2, rfl⟩ (ih2 (F 7 (mem l * 11 + mem x) + co (8 * rm k x + x)) _ ⟨fun q => absurd q hkz, fun _ => Or.inr ⟨x, x0, by omega, h, hxl, rfl, fun z z0 z1 hz hzl => ?_⟩⟩ (Or.inr ⟨_, rfl⟩))
              by_cases e : z = x
              · rw [e]; exact Int.le_refl _
              · rcases hJ.2 hkz with ⟨e1, e2⟩ | ⟨y, y0, y1, y2, y3, y4, y5⟩
                · exact absurd (e2 z z0 (by omega) hz) hzl
                · have := y5 z z0 (by omega) hz hzl
                  omega
            · refine go [84] [0] rfl ⟨c1, c2, c3, c4, (show best ≤ F 7 (mem l * 11 + mem x) + co (8 * rm k x + x) by omega), hr2, rfl⟩ (ih2 best _ ⟨fun q => absurd q hkz, fun _ => ?_⟩ (Or.inr ⟨_, rfl⟩))
              rcases hJ.2 hkz with ⟨e1, e2⟩ | ⟨y, y0, y1, y2, y3, y4, y5⟩
              · omega
              · refine Or.inr ⟨y, y0, by omega, y2, y3, y4, fun z z0 z1 hz hzl => ?_⟩
                by_cases e : z = x
                · rw [e]; omega
                · exact y5 z z0 (by omega) hz hzl
theorem m_least (hI : SB X F) (hm0 : RB X F M G) (h8 : nW F (X 6) ≤ 8) (hl : ∀ s, 0 ≤ s → s < X 6 → lf s = wk F s) (hd : 3 ≤ d) :
    bE L xs d MX6_least (0, [(0, bR 19), (1, bI (nW F (X 6)))], [], WD Y E (PM M 0) (PG G row lf fr few co) O, a, b)
      (fun r => ∃ n' row' lf' few' co', r = (WD Y E (PM M n') (PG G row' lf' fr few' co') O, .inl none, a, b) ∧ WL4 X F n' row') := by
  have hX := hI.1
  have hM := hm0.1
  have hnb := nW_b F (X 6) (by omega)
  obtain ⟨m, hm⟩ : ∃ m, m = nW F (X 6) := ⟨_, rfl⟩
  have h8' : 0 ≤ m ∧ m ≤ 8 := by omega
  have hp := pw_b h8'
  rw [← hm]
  have key := for_up (P := fun s => ∀ mem : Int → Int, MEM X F s mem → bE L xs d MX6_least (4, [(0, bR 19), (1, bI m), (2, bI (nW F s)), (3, bI s)], [], WD Y E (PM M 0) (PG G row lf fr mem co) O, a, b)
      (fun r => ∃ n' row' lf' few' co', r = (WD Y E (PM M n') (PG G row' lf' fr few' co') O, .inl none, a, b) ∧ WL4 X F n' row')) (X 6) ?_ ?_ 0 (by omega) (by omega) few (fun s s0 s1 => by omega)
  · exact go [4] [] rfl rfl key
  · intro mem hmem
    have sets := for_up (P := fun k => ∀ (co : Int → Int) (ls : BL), TD F mem m k (fun s x => co (8 * s + x)) → ((ls = [(0, bR 19), (1, bI m), (2, bI (nW F (X 6))), (3, bI k)] ∧ k = 0) ∨ ∃ tl, tl3 tl ∧ ls = (0, bR 19) :: (1, bI m) :: (2, bI (nW F (X 6))) :: (3, bI k) :: (4, bI m) :: tl) →
      bE L xs d MX6_least (42, ls, [], WD Y E (PM M 0) (PG G row lf fr mem co) O, a, b)
      (fun r => ∃ n' row' lf' few' co', r = (WD Y E (PM M n') (PG G row' lf' fr few' co') O, .inl none, a, b) ∧ WL4 X F n' row')) (pw m) ?_ ?_ 0 (by omega) (by omega) co _ (fun s x s0 s1 => by omega) (Or.inl ⟨rfl, rfl⟩)
    · exact go [42] [0] rfl ⟨(show M 6 ≤ X 6 by omega), rfl⟩ sets
    · intro co ls hTD hls
      rcases hls with ⟨_, e⟩ | ⟨tl, htl, rfl⟩
      · omega
      · have g := fun tl h => m_greedy (L := L) (xs := xs) (Y := Y) (E := E) (O := O) (a := a) (b := b) (fr := fr) hI hm0 hm h8' hmem hTD (nW F (X 6)) hd 0 (Int.le_refl _) h8'.1 (pw m - 1) (M 5) row lf tl (GI_0 h8') hM.2.2.2.2.1 h
        have hr1 : -2147483648 ≤ pw m - 1 ∧ pw m - 1 ≤ 2147483647 := by omega
        rcases htl with rfl | ⟨p, q, rfl⟩ | ⟨p, q, r, rfl⟩
        · exact go [209] [0] rfl ⟨Int.le_refl (pw m), hr1, rfl⟩ (g _ (Or.inl rfl))
        · exact go [209] [0] rfl ⟨Int.le_refl (pw m), hr1, rfl⟩ (g _ (Or.inr (Or.inl ⟨_, _, rfl⟩)))
        · exact go [209] [0] rfl ⟨Int.le_refl (pw m), hr1, rfl⟩ (g _ (Or.inr (Or.inr (Or.inl ⟨_, _, _, rfl⟩))))
    · intro k k0 k1 ih co ls hTD hls
      have g := fun tl h => m_sets (L := L) (xs := xs) (Y := Y) (E := E) (O := O) (a := a) (b := b) (fr := fr) (row := row) (lf := lf) hI hm0 hm h8' hmem (nW F (X 6)) hd k k0 k1 (fun co tl h1 h2 => ih co _ h1 (Or.inr ⟨tl, h2, rfl⟩)) 0 (Int.le_refl _) h8'.1 co tl hTD (fun t t0 t1 => by omega) h
      rcases hls with ⟨rfl, _⟩ | ⟨tl, htl, rfl⟩
      · exact go [52] [1] rfl ⟨k1, rfl⟩ (g [] (Or.inl rfl))
      · rcases htl with rfl | ⟨p, q, rfl⟩ | ⟨p, q, r, rfl⟩
        · exact go [52] [1] rfl ⟨k1, rfl⟩ (g _ (Or.inl rfl))
        · exact go [52] [1] rfl ⟨k1, rfl⟩ (g _ (Or.inr (Or.inl ⟨_, _, rfl⟩)))
        · exact go [52] [1] rfl ⟨k1, rfl⟩ (g _ (Or.inr (Or.inr ⟨_, _, _, rfl⟩)))
  · intro s s0 s1 ih mem hmem
    have hx : 0 ≤ s ∧ s < ((10 : Nat) : Int) := by omega
    have hs6 : s < M 6 := by omega
    have hr1 : -2147483648 ≤ s + 1 ∧ s + 1 ≤ 2147483647 := by omega
    have w := hl s s0 s1
    have e := nW_s (F := F) s0
    have hnb2 := nW_b F s s0
    have hmono := nW_mono (F := F) (i := s + 1) (j := X 6) (by omega) (by omega)
    rcases wk_01 F s with h | h
    · rw [e, h, Int.add_zero] at ih
      exact go [4] [1, 1] rfl ⟨hs6, hx, (show lf s = 0 by omega), hr1, rfl⟩ (ih mem (MEM_n h hmem))
    · rw [e, h] at ih
      exact go [4] [1, 0] rfl ⟨hs6, hx, (show ¬ lf s = 0 by omega), (show 0 ≤ nW F s ∧ nW F s < ((8 : Nat) : Int) by omega), (show -2147483648 ≤ nW F s + 1 ∧ nW F s + 1 ≤ 2147483647 by omega), hr1, rfl⟩ (ih _ (MEM_s s0 h hmem))
end H2
end
section
/-! walk, both sides -/
/-- the walk of a kind: n steps, the row of its stops -/
def WL (kind : Int) (X : Nat → Int) (F : Nat → Int → Int) (n : Int) (row : Int → Int) : Prop := (kind = 4 → WL4 X F n row) ∧ (kind = 3 → WL3 X F n row) ∧ (kind ≤ 2 → WLs (KK kind X F) X F n row)
/-- the class's cells behind a walk -/
def WR (kind : Int) (X : Nat → Int) (F : Nat → Int → Int) (X' : Nat → Int) (F' : Nat → Int → Int) : Prop :=
  (X' 0 = X 0 ∧ X' 1 = X 1 ∧ X' 2 = X 2 ∧ X' 4 = X 4 ∧ X' 5 = X 5 ∧ X' 6 = X 6) ∧ (F' 1 = F 1 ∧ F' 2 = F 2 ∧ F' 3 = F 3 ∧ F' 4 = F 4 ∧ F' 5 = F 5 ∧ F' 6 = F 6 ∧ F' 7 = F 7) ∧ SR X' F' ∧ WL kind X F (X' 3) (F' 0)
section K0
variable {X : Nat → Int} {F : Nat → Int → Int} {kind n n' : Int} {row row' : Int → Int}
theorem KK_0 : KK 0 X F = K0 X F := by
  funext s
  unfold KK
  rw [if_neg (by decide), if_neg (by decide)]
theorem KK_1 : KK 1 X F = K1 F := by
  funext s
  unfold KK
  rw [if_neg (by decide), if_pos rfl]
theorem KK_2 : KK 2 X F = K2 X F := by
  funext s
  unfold KK
  rw [if_pos rfl]
theorem WL_one (hX : 0 ≤ X 6) (hk : 0 ≤ kind ∧ kind ≤ 4) (h4 : kind = 4 → nW F (X 6) ≤ 8) (h : WL kind X F n row) (h' : WL kind X F n' row') : n = n' ∧ ∀ i, 0 ≤ i → i < n → row i = row' i := by
  by_cases c4 : kind = 4
  · exact WL4_one hX (h4 c4) (h.1 c4) (h'.1 c4)
  · by_cases c3 : kind = 3
    · exact WL3_one (h.2.1 c3) (h'.2.1 c3)
    · exact WLs_one (h.2.2 (by omega)) (h'.2.2 (by omega))
theorem WL_row (hX : 0 ≤ X 6) (hk : 0 ≤ kind ∧ kind ≤ 4) (h4 : kind = 4 → nW F (X 6) ≤ 8) (h : WL kind X F n row) : n = nW F (X 6) ∧ (∀ i, 0 ≤ i → i < n → 0 ≤ row i ∧ row i < X 6 ∧ wk F (row i) = 1) ∧ ∀ i j, 0 ≤ i → i < j → j < n → row i ≠ row j := by
  by_cases c4 : kind = 4
  · have w := WL4_row hX (h4 c4) (h.1 c4)
    exact ⟨(h.1 c4).1, w.1, w.2⟩
  · by_cases c3 : kind = 3
    · obtain ⟨a1, a2⟩ := h.2.1 c3
      refine ⟨a1, fun i i0 i1 => (a2 i i0 i1).1, fun i j i0 ij j1 => (a2 j (by omega) j1).2.1 i i0 ij⟩
    · obtain ⟨a1, a2, a3, a4⟩ := h.2.2 (by omega)
      exact ⟨a1, a2, fun i j i0 ij j1 => lx_ne (a4 i j i0 ij j1)⟩
theorem wk_5 {s : Int} (h : wk F s = 1) : 0 < F 5 s := by
  unfold wk at h
  by_cases c : F 6 s = 0 ∧ 0 < F 5 s ∧ F 1 (F 2 s) = 0
  · exact c.2.1
  · rw [if_neg c] at h
    omega
theorem SB_wr (hI : SB X F) {X' : Nat → Int} {F' : Nat → Int → Int} (hw : WR kind X F X' F') : SB X' F' := by
  obtain ⟨⟨x0, x1, x2, x4, x5, x6⟩, ⟨f1, f2, f3, f4, f5, f6, f7⟩, _, _⟩ := hw
  unfold SB pnt at *
  rw [x0, x2, x4, x5, x6, f1, f2, f3, f4, f5, f6, f7]
  exact hI
theorem RB_wr {M : Nat → Int} {G : Nat → Int → Int} (hm : RB X F M G) {X' : Nat → Int} {F' : Nat → Int → Int} (hw : WR kind X F X' F') : RB X' F' M G := by
  obtain ⟨⟨x0, x1, x2, x4, x5, x6⟩, ⟨f1, f2, f3, f4, f5, f6, f7⟩, _, _⟩ := hw
  unfold RB at *
  rw [x0, x1, x2, x4, x5, x6, f1, f2, f3, f5, f6]
  exact hm
end K0
section K1
variable {L : Nat} {xs : Nat → Int32} {X M : Nat → Int} {F G : Nat → Int → Int} {Y : Nat → Int} {E : Nat → Int → Int} {O : Int → Int} {d a b : Nat} {Q : BR → Prop} {row keys wt mem rs : Int → Int} {n l : Int}
theorem t_clear0 : bE L xs d MX3_clear (0, [(0, bR 2)], [], WD (PX X n l) (PF F row keys wt mem rs) M G O, a, b) (rV (WD (PX X 0 l) (PF F row keys wt mem rs) M G O) a b) :=
  go [] [] rfl rfl (rtv rfl rfl rfl)
theorem t_lay (hI : SB X F) (kind : Int) (hk : 0 ≤ kind ∧ kind ≤ 4) (h4 : kind = 4 → nW F (X 6) ≤ 8) (hd : 7 ≤ d) : bE L xs d MX2_lay (0, [(0, bR 13), (1, bI kind), (2, bI (X 0)), (3, bR 2)], [], WD (PX X n l) (PF F row keys wt mem rs) M G O, a, b)
    (fun r => ∃ n l row keys wt mem rs, r = (WD (PX X n l) (PF F row keys wt mem rs) M G O, .inl none, a, b) ∧ WL kind X F n row) := by
  have hX := hI.1
  refine go [] [] rfl rfl (bc rfl (by omega) t_clear0 (fun h => by cases h) ?_)
  have key := for_up (P := fun s => ∀ wt : Int → Int, (∀ t, 0 ≤ t → t < s → wt t = wk F t) → bE L xs d MX2_lay (7, [(0, bR 13), (1, bI kind), (2, bI (X 0)), (3, bR 2), (4, bI s)], [], WD (PX X 0 l) (PF F row keys wt mem rs) M G O, a, b)
    (fun r => ∃ n l row keys wt mem rs, r = (WD (PX X n l) (PF F row keys wt mem rs) M G O, .inl none, a, b) ∧ WL kind X F n row)) (X 6) ?_ ?_ 0 (by omega) (by omega) wt (fun t t0 t1 => by omega)
  · exact go [7] [] rfl rfl key
  · intro wt hw
    by_cases c4 : kind = 4
    · refine go [] [0, 1] rfl ⟨Int.le_refl (X 6), c4, rfl⟩ (bcall rfl (by omega) (t_leastLay hI (h4 c4) (by omega)) ?_)
      rintro r ⟨n, l', row', mem', rs', rfl, hwl⟩
      refine ⟨_, _, _, _, rfl, (fun h => by cases h), ?_⟩
      exact go [] [] rfl rfl (rtv rfl rfl ⟨n, l', row', keys, wt, mem', rs', rfl, fun _ => hwl, fun q => by omega, fun q => by omega⟩)
    · by_cases c3 : kind = 3
      · refine go [] [0, 0, 1] rfl ⟨Int.le_refl (X 6), c4, c3, rfl⟩ (bcall rfl (by omega) (t_layNearest hI hw (by omega)) ?_)
        rintro r ⟨n, row', wt', rfl, hwl⟩
        refine ⟨_, _, _, _, rfl, (fun h => by cases h), ?_⟩
        exact go [] [] rfl rfl (rtv rfl rfl ⟨n, l, row', keys, wt', mem, rs, rfl, fun q => by omega, fun _ => hwl, fun q => by omega⟩)
      · refine go [] [0, 0, 0] rfl ⟨Int.le_refl (X 6), c4, c3, rfl⟩ (bcall rfl (by omega) (t_layByKeys hI hw kind (by omega) (by omega)) ?_)
        rintro r ⟨n, row', keys', rfl, hwl⟩
        refine ⟨_, _, _, _, rfl, (fun h => by cases h), ?_⟩
        exact rtv rfl rfl ⟨n, l, row', keys', wt, mem, rs, rfl, fun q => by omega, fun q => by omega, fun _ => hwl⟩
  · intro s s0 s1 ih wt hw
    have wc : bE L xs (d - 1) MX4_isWalked (0, [(0, bR 6), (1, bI s)], [], WD (PX X 0 l) (PF F row keys wt mem rs) M G O, a, b) (rI (WD (PX X 0 l) (PF F row keys wt mem rs) M G O) (wk F s) a b) :=
      t_isWalked (X := PX X 0 l) (F := PF F row keys wt mem rs) hI s s0 s1
    have w01 := wk_01 F s
    refine go [] [1] rfl ⟨s1, rfl⟩ (bc rfl (by omega) wc (fun h => by cases h) ?_)
    refine go [7] [] rfl ⟨(show 0 ≤ s ∧ s < ((10 : Nat) : Int) ∧ 0 ≤ wk F s ∧ wk F s ≤ 1 by omega), (show -2147483648 ≤ s + 1 ∧ s + 1 ≤ 2147483647 by omega), rfl⟩ (ih (up wt s (wk F s)) (fun t t0 t1 => ?_))
    by_cases e : t = s
    · rw [e, up_eq]
    · rw [up_ne _ e]; exact hw t t0 (by omega)
theorem t_walk3 (hI : SB X F) (kind : Int) (hk : 0 ≤ kind ∧ kind ≤ 4) (h4 : kind = 4 → nW F (X 6) ≤ 8) (hd : 8 ≤ d) : bE L xs d MX5_walk (0, [(0, bR 1), (1, bI kind)], [], WD X F M G O, a, b)
    (fun r => ∃ X' F', r = (WD X' F' M G O, .inl (some (bI (rl X' F'))), a, b) ∧ WR kind X F X' F') := by
  have hX := hI.1
  have lc : bE L xs (d - 1) MX2_lay (0, [(0, bR 13), (1, bI kind), (2, bI (X 0)), (3, bR 2)], [], WD X F M G O, a, b)
    (fun r => ∃ n l row keys wt mem rs, r = (WD (PX X n l) (PF F row keys wt mem rs) M G O, .inl none, a, b) ∧ WL kind X F n row) :=
    t_lay (n := X 3) (l := X 7) (row := F 0) (keys := F 8) (wt := F 9) (mem := F 10) (rs := F 11) hI kind hk h4 (by omega)
  have rest : ∀ (n l : Int) (row keys wt mem rs : Int → Int), WL kind X F n row → bE L xs d MX5_walk (62, [(0, bR 1), (1, bI kind)], [], WD (PX X n l) (PF F row keys wt mem rs) M G O, a, b)
    (fun r => ∃ X' F', r = (WD X' F' M G O, .inl (some (bI (rl X' F'))), a, b) ∧ WR kind X F X' F') := by
    intro n l row keys wt mem rs hwl
    obtain ⟨w1, w2, w3⟩ := WL_row (by omega) hk h4 hwl
    have hnb := nW_b F (X 6) (by omega)
    have sr : SR (PX X n l) (PF F row keys wt mem rs) := by
      refine ⟨(show 0 ≤ n ∧ n ≤ 10 by omega), fun i i0 i1 => ?_, fun i j i0 ij j1 => w3 i j i0 ij j1⟩
      have q := w2 i i0 i1
      exact ⟨q.1, q.2.1, wk_5 q.2.2⟩
    have rc := t_routeLength (L := L) (xs := xs) (M := M) (G := G) (O := O) (d := d - 1) (a := a) (b := b) (X := PX X n l) (F := PF F row keys wt mem rs) hI sr (by omega)
    refine go [] [] rfl rfl (bc rfl (by omega) rc (fun h => by cases h) ?_)
    exact rti rfl rfl ⟨PX X n l, PF F row keys wt mem rs, rfl, ⟨rfl, rfl, rfl, rfl, rfl, rfl⟩, ⟨rfl, rfl, rfl, rfl, rfl, rfl, rfl⟩, sr, hwl⟩
  by_cases c4 : kind = 4
  · refine go [] [1, 0, 1] rfl (by omega) (bc rfl (by omega) (t_walkedOnes hI (by omega)) (fun h => by cases h) ?_)
    have := h4 c4
    refine go [] [0] rfl (by omega) (bcall rfl (by omega) lc ?_)
    rintro r ⟨n, l, row, keys, wt, mem, rs, rfl, hwl⟩
    exact ⟨_, _, _, _, rfl, (fun h => by cases h), rest n l row keys wt mem rs hwl⟩
  · refine go [] [1, 0, 0] rfl (by omega) (bcall rfl (by omega) lc ?_)
    rintro r ⟨n, l, row, keys, wt, mem, rs, rfl, hwl⟩
    exact ⟨_, _, _, _, rfl, (fun h => by cases h), rest n l row keys wt mem rs hwl⟩
theorem m_walk3 (hI : SB X F) (hm : RB X F M G) (kind : Int) (hk : 0 ≤ kind ∧ kind ≤ 4) (h4 : kind = 4 → nW F (X 6) ≤ 8) (hd : 8 ≤ d) {X' : Nat → Int} {F' : Nat → Int → Int} (hw : WR kind X F X' F') : bE L xs d MX6_walk (0, [(0, bR 19), (1, bI kind)], [], WD Y E M G O, a, b)
    (fun r => ∃ M' G', r = (WD Y E M' G' O, .inl (some (bI (rl X' F'))), a, b) ∧ M' 0 = 0 ∧ RB X' F' M' G' ∧ RR X' F' M' G') := by
  have hX := hI.1
  have hM := hm.1
  have sb := SB_wr hI hw
  -- the end: the length
  have fin : ∀ (n : Int) (row lf fr few co : Int → Int) (ls : BL), WL kind X F n row → (ls = [(0, bR 19), (1, bI kind), (2, bI (nW F (X 6)))] ∨ ∃ t, ls = [(0, bR 19), (1, bI kind), (2, bI (nW F (X 6))), (3, bI t)]) →
      bE L xs d MX6_walk (155, ls, [], WD Y E (PM M n) (PG G row lf fr few co) O, a, b) (fun r => ∃ M' G', r = (WD Y E M' G' O, .inl (some (bI (rl X' F'))), a, b) ∧ M' 0 = 0 ∧ RB X' F' M' G' ∧ RR X' F' M' G') := by
    intro n row lf fr few co ls hwl hls
    obtain ⟨e1, e2⟩ := WL_one (by omega) hk h4 hwl hw.2.2.2
    have rb : RB X' F' (PM M n) (PG G row lf fr few co) := RB_wr (M := PM M n) (G := PG G row lf fr few co) hm hw
    have rr : RR X' F' (PM M n) (PG G row lf fr few co) := ⟨e1, fun i i0 i1 => e2 i i0 (by omega)⟩
    have lc := m_length (L := L) (xs := xs) (Y := Y) (E := E) (O := O) (d := d - 1) (a := a) (b := b) sb hw.2.2.1 rb rr (by omega)
    rcases hls with rfl | ⟨t, rfl⟩
    · refine go [] [] rfl rfl (bc rfl (by omega) lc (fun h => by cases h) ?_)
      exact rti rfl rfl ⟨_, _, rfl, rfl, rb, rr⟩
    · refine go [] [] rfl rfl (bc rfl (by omega) lc (fun h => by cases h) ?_)
      exact rti rfl rfl ⟨_, _, rfl, rfl, rb, rr⟩
  -- the kinds
  have kinds : ∀ lf fr : Int → Int, (∀ s, 0 ≤ s → s < X 6 → lf s = wk F s) → (∀ s, 0 ≤ s → s < X 6 → fr s = 0 ∨ fr s = 1) →
      bE L xs d MX6_walk (89, [(0, bR 19), (1, bI kind), (2, bI (nW F (X 6)))], [], WD Y E (PM M 0) (PG G (G 5) lf fr (G 8) (G 9)) O, a, b) (fun r => ∃ M' G', r = (WD Y E M' G' O, .inl (some (bI (rl X' F'))), a, b) ∧ M' 0 = 0 ∧ RB X' F' M' G' ∧ RR X' F' M' G') := by
    intro lf fr hl hfr
    have hq : kind = 0 ∨ kind = 1 ∨ kind = 2 ∨ kind = 3 ∨ kind = 4 := by omega
    rcases hq with rfl | rfl | rfl | rfl | rfl
    · refine go [] [1] rfl ⟨rfl, rfl⟩ (bcall rfl (by omega) (m_through hI hm hfr hl (by omega)) ?_)
      rintro r ⟨n, row', lf', rfl, hwl⟩
      refine ⟨_, _, _, _, rfl, (fun h => by cases h), ?_⟩
      refine go [155] [0, 0, 0, 0] rfl ⟨(by decide : ¬ (0 : Int) = 1), (by decide : ¬ (0 : Int) = 2), (by decide : ¬ (0 : Int) = 3), (by decide : ¬ (0 : Int) = 4)⟩ (fin n row' lf' fr _ _ _ ⟨fun q => by omega, fun q => by omega, fun _ => ?_⟩ (Or.inl rfl))
      rw [KK_0]; exact hwl
    · refine go [104] [0, 1] rfl ⟨(by decide : ¬ (1 : Int) = 0), rfl, rfl⟩ (w_back hI hm hfr hl (by omega) (nW F (X 6)) ?_)
      intro n row' lf' hwl
      refine go [155] [0, 0, 0] rfl ⟨(by decide : ¬ (1 : Int) = 2), (by decide : ¬ (1 : Int) = 3), (by decide : ¬ (1 : Int) = 4)⟩ (fin n row' lf' fr _ _ _ ⟨fun q => by omega, fun q => by omega, fun _ => ?_⟩ (Or.inr ⟨_, rfl⟩))
      rw [KK_1]; exact hwl
    · refine go [] [0, 0, 1] rfl ⟨(by decide : ¬ (2 : Int) = 0), (by decide : ¬ (2 : Int) = 1), rfl, rfl⟩ (bcall rfl (by omega) (m_gaps hI hm hfr hl (by omega)) ?_)
      rintro r ⟨n, row', lf', fr', rfl, hwl⟩
      refine ⟨_, _, _, _, rfl, (fun h => by cases h), ?_⟩
      refine go [155] [0, 0] rfl ⟨(by decide : ¬ (2 : Int) = 3), (by decide : ¬ (2 : Int) = 4)⟩ (fin n row' lf' fr' _ _ _ ⟨fun q => by omega, fun q => by omega, fun _ => ?_⟩ (Or.inl rfl))
      rw [KK_2]; exact hwl
    · refine go [] [0, 0, 0, 1] rfl ⟨(by decide : ¬ (3 : Int) = 0), (by decide : ¬ (3 : Int) = 1), (by decide : ¬ (3 : Int) = 2), rfl, rfl⟩ (bcall rfl (by omega) (m_nearest hI hm hl (by omega)) ?_)
      rintro r ⟨n, row', lf', rfl, hwl⟩
      refine ⟨_, _, _, _, rfl, (fun h => by cases h), ?_⟩
      exact go [155] [0] rfl (by decide : ¬ (3 : Int) = 4) (fin n row' lf' fr _ _ _ ⟨fun q => by omega, fun _ => hwl, fun q => by omega⟩ (Or.inl rfl))
    · refine go [] [0, 0, 0, 0, 1] rfl ⟨(by decide : ¬ (4 : Int) = 0), (by decide : ¬ (4 : Int) = 1), (by decide : ¬ (4 : Int) = 2), (by decide : ¬ (4 : Int) = 3), rfl, rfl⟩ (bcall rfl (by omega) (m_least hI hm (h4 rfl) hl (by omega)) ?_)
      rintro r ⟨n, row', lf', few', co', rfl, hwl⟩
      refine ⟨_, _, _, _, rfl, (fun h => by cases h), ?_⟩
      exact fin n row' lf' fr few' co' _ ⟨fun _ => hwl, fun q => by omega, fun q => by omega⟩ (Or.inl rfl)
  -- what is left, and fronts
  have marks := for_up (P := fun s => ∀ lf fr : Int → Int, (∀ t, 0 ≤ t → t < s → lf t = wk F t ∧ fr t = 1) → bE L xs d MX6_walk (52, [(0, bR 19), (1, bI kind), (2, bI s)], [], WD Y E (PM M 0) (PG G (G 5) lf fr (G 8) (G 9)) O, a, b) (fun r => ∃ M' G', r = (WD Y E M' G' O, .inl (some (bI (rl X' F'))), a, b) ∧ M' 0 = 0 ∧ RB X' F' M' G' ∧ RR X' F' M' G')) (X 6) ?_ ?_ 0 (by omega) (by omega) (G 6) (G 7) (fun t t0 t1 => by omega)
  · refine go [] [] rfl rfl (bc rfl (by omega) (m_in _ _ _) (fun h => by cases h) ?_)
    rw [if_pos (by omega)]
    by_cases c4 : kind = 4
    · refine go [] [0, 1] rfl ⟨(by decide : ¬ (1 : Int) = 0), c4, rfl⟩ (bc rfl (by omega) (m_walked hI hm (by omega)) (fun h => by cases h) ?_)
      exact go [52] [0, 0] rfl ⟨h4 c4, Int.le_refl 0, rfl⟩ marks
    · exact go [52] [0, 0, 0] rfl ⟨(by decide : ¬ (1 : Int) = 0), c4, Int.le_refl 0, rfl⟩ marks
  · intro lf fr hlf
    have wc := m_walked (L := L) (xs := xs) (Y := Y) (E := E) (O := O) (d := d - 1) (a := a) (b := b) (M := PM M 0) (G := PG G (G 5) lf fr (G 8) (G 9)) hI hm (by omega)
    refine go [] [0] rfl ⟨(show M 6 ≤ X 6 by omega), rfl⟩ (bc rfl (by omega) wc (fun h => by cases h) ?_)
    exact go [89] [] rfl rfl (kinds lf fr (fun s s0 s1 => (hlf s s0 s1).1) (fun s s0 s1 => Or.inr (hlf s s0 s1).2))
  · intro s s0 s1 ih lf fr hlf
    have wc := m_isWalked (L := L) (xs := xs) (Y := Y) (E := E) (O := O) (d := d - 1) (a := a) (b := b) (M := PM M 0) (G := PG G (G 5) lf fr (G 8) (G 9)) hI hm s s0 s1
    have w01 := wk_01 F s
    refine go [] [1] rfl ⟨(show s < M 6 by omega), rfl⟩ (bc rfl (by omega) wc (fun h => by cases h) ?_)
    refine go [52] [] rfl ⟨(show 0 ≤ s ∧ s < ((10 : Nat) : Int) ∧ 0 ≤ wk F s ∧ wk F s ≤ 1 by omega), (show 0 ≤ s ∧ s < ((10 : Nat) : Int) ∧ (0 : Int) ≤ 1 ∧ (1 : Int) ≤ 1 by omega), (show -2147483648 ≤ s + 1 ∧ s + 1 ≤ 2147483647 by omega), rfl⟩ (ih (up lf s (wk F s)) (up fr s 1) (fun t t0 t1 => ?_))
    by_cases e : t = s
    · rw [e, up_eq, up_eq]
      exact ⟨rfl, rfl⟩
    · rw [up_ne _ e, up_ne _ e]; exact hlf t t0 (by omega)
end K1
end
