/-! The words of the tables that every method of the program stands on, and how they go over to a callee. -/
def ax_gw : Cond → Bool
  | .arrayClass _ => true
  | w => w.onTables && w.keepsFace
theorem ax_ride {args a' : Array Value} {s U : State} {w : Cond} (hg : ax_gw w = true) (hW : s.WarmedH U.vm) (h : w.before args s = true) : w.before a' U = true := by
  by_cases hA : ∃ ty, w = .arrayClass ty
  · exact word_at hW (Or.inr hA) h
  · have h2 : (w.onTables && w.keepsFace) = true := by cases w <;> first | exact hg | exact absurd ⟨_, rfl⟩ hA
    simp only [Bool.and_eq_true] at h2
    have h3 : w.before args (s.setVm U.vm) = true := Cond.before_shiftedFace (State.Shifted.of_warmed hW) _ h2.2 h
    rw [Cond.onTables_vm (A' := a') (U' := U) U.vm w h2.1, State.setVm_self] at h3
    exact h3
def ax_isN : Cond → Bool
  | .methodLinkNest .. => true
  | _ => false
def axClW : List Cond := wsX00 ++ (wsX10 ++ (wsX20 ++ (wsX30 ++ (wsX40 ++ (wsX50 ++ wsX60)))))
abbrev axNb : ByteArray := prog_20_method_4_code
def axNw : List Cond := (ax_atN "PickPaths" 179 "java/util/NoSuchElementException" 13 axNb "java/lang/RuntimeException" ["java/lang/Exception"]).filter vx_no
def axThL (y : Nat) : List Cond := cond (Nat.blt y 12) (vx_atS "PickPaths" (axTh y).2.2.2.1 (axEx (axTh y).1) (axEn (axTh y).1)) axNw
/-- the exception that a handler's row of the law's class names -/
def axHe : Nat → Nat
  | 13 => 0 | 15 => 1 | 17 => 2 | 27 => 3 | 32 => 4 | _ => 5
def axHdL (i : Nat) : List Cond := (axHh i).flatMap (fun q => [.classLink (axO i) q.2.2.2 (axEx (axHe q.2.2.2)), .castable (axEx (axHe q.2.2.2)) (axEx (axHe q.2.2.2))])
def axTB : List Cond := (List.range 105).map axCode ++ ((List.range 106).flatMap (fun i => ((axT i).flatMap (ax_need i)).filter ax_gw) ++ (axClW ++ ((List.range 14).flatMap axThL ++ (List.range 106).flatMap axHdL)))
theorem ax_k1 : ∀ i, i < 105 → ax_gw (axCode i) = true := by decide +kernel
theorem ax_k2 : ∀ i, i < 106 → ((axT i).flatMap (ax_need i)).all (fun w => ax_gw w || ax_isN w) = true := by decide +kernel
theorem ax_k3 : axClW.all (fun w => decide (w ∈ lw_tbl) && ax_gw w) = true := by decide +kernel
theorem ax_k4a : (axThL 0).all (fun w => decide (w ∈ lw_tbl) && ax_gw w) = true := by decide +kernel
theorem ax_k4b : (axThL 2).all (fun w => decide (w ∈ lw_tbl) && ax_gw w) = true := by decide +kernel
theorem ax_k4c : (axThL 4).all (fun w => decide (w ∈ lw_tbl) && ax_gw w) = true := by decide +kernel
theorem ax_k4d : (axThL 5).all (fun w => decide (w ∈ lw_tbl) && ax_gw w) = true := by decide +kernel
theorem ax_k4e : (axThL 10).all (fun w => decide (w ∈ lw_tbl) && ax_gw w) = true := by decide +kernel
theorem ax_k4f : axNw.all (fun w => decide (w ∈ lw_tbl) && ax_gw w) = true := by decide +kernel
theorem ax_k4 : ∀ y, y < 14 → (axThL y).all (fun w => decide (w ∈ lw_tbl) && ax_gw w) = true := fun y hy => match y, hy with
  | 0, _ => ax_k4a | 1, _ => ax_k4a | 2, _ => ax_k4b | 3, _ => ax_k4a | 4, _ => ax_k4c | 5, _ => ax_k4d | 6, _ => ax_k4c | 7, _ => ax_k4c | 8, _ => ax_k4c | 9, _ => ax_k4a | 10, _ => ax_k4e | 11, _ => ax_k4a | 12, _ => ax_k4f | 13, _ => ax_k4f
  | n + 14, h => absurd h (by omega)
theorem ax_k5 : ∀ i, i < 106 → (axHdL i).all (fun w => decide (w ∈ lw_tbl) && ax_gw w) = true := by decide +kernel
theorem ax_TB_ok : ∀ w ∈ axTB, w ∈ lw_tbl ∧ ax_gw w = true := by
  intro w hw
  have two : ∀ {L : List Cond}, L.all (fun w => decide (w ∈ lw_tbl) && ax_gw w) = true → w ∈ L → w ∈ lw_tbl ∧ ax_gw w = true := by
    intro L h hm
    have h1 := List.all_eq_true.mp h w hm
    simp only [Bool.and_eq_true, decide_eq_true_eq] at h1
    exact h1
  rcases List.mem_append.mp hw with h | h
  · obtain ⟨i, hi, rfl⟩ := List.mem_map.mp h
    have hi := List.mem_range.mp hi
    obtain ⟨p, hp⟩ := ax_ck i hi
    exact ⟨List.mem_of_getElem? hp, ax_k1 i hi⟩
  rcases List.mem_append.mp h with h | h
  · obtain ⟨i, hi, hm⟩ := List.mem_flatMap.mp h
    have hi := List.mem_range.mp hi
    obtain ⟨ps, hp⟩ := ax_nk i hi
    obtain ⟨hm, hg⟩ := List.mem_filter.mp hm
    have h1 : some w ∈ ((axT i).flatMap (ax_need i)).map some := List.mem_map.mpr ⟨w, hm, rfl⟩
    rw [hp] at h1
    obtain ⟨p, -, h2⟩ := List.mem_map.mp h1
    exact ⟨List.mem_of_getElem? h2, hg⟩
  rcases List.mem_append.mp h with h | h
  · exact two ax_k3 h
  rcases List.mem_append.mp h with h | h
  · obtain ⟨y, hy, hm⟩ := List.mem_flatMap.mp h
    exact two (ax_k4 y (List.mem_range.mp hy)) hm
  · obtain ⟨y, hy, hm⟩ := List.mem_flatMap.mp h
    exact two (ax_k5 y (List.mem_range.mp hy)) hm
theorem ax_in_code {i : Nat} (hi : i < 105) : axCode i ∈ axTB := List.mem_append_left _ (List.mem_map.mpr ⟨i, List.mem_range.mpr hi, rfl⟩)
theorem ax_in_need {i : Nat} (hi : i < 106) {q : AxI} (hq : q ∈ axT i) {w : Cond} (hw : w ∈ ax_need i q) (hN : ax_isN w = false) : w ∈ axTB := by
  have h1 : w ∈ (axT i).flatMap (ax_need i) := List.mem_flatMap.mpr ⟨q, hq, hw⟩
  have h2 := List.all_eq_true.mp (ax_k2 i hi) w h1
  rw [hN, Bool.or_false] at h2
  exact List.mem_append_right _ (List.mem_append_left _ (List.mem_flatMap.mpr ⟨i, List.mem_range.mpr hi, List.mem_filter.mpr ⟨h1, h2⟩⟩))
theorem ax_in_cls {w : Cond} (hw : w ∈ axClW) : w ∈ axTB := List.mem_append_right _ (List.mem_append_right _ (List.mem_append_left _ hw))
theorem ax_in_th {y : Nat} (hy : y < 14) {w : Cond} (hw : w ∈ axThL y) : w ∈ axTB := List.mem_append_right _ (List.mem_append_right _ (List.mem_append_right _ (List.mem_append_left _ (List.mem_flatMap.mpr ⟨y, List.mem_range.mpr hy, hw⟩))))
theorem ax_in_hd {i : Nat} (hi : i < 106) {w : Cond} (hw : w ∈ axHdL i) : w ∈ axTB := List.mem_append_right _ (List.mem_append_right _ (List.mem_append_right _ (List.mem_append_right _ (List.mem_flatMap.mpr ⟨i, List.mem_range.mpr hi, hw⟩))))
/-- a class of ours by its number: its words, types and names -/
theorem ax_class : ∀ ci, ci < 7 → axCl[ci]? = some (axRN ci, axTT ci, axNF ci) ∧ (∀ w ∈ u_ws (axRN ci) (axTT ci) (axNF ci), w ∈ axClW) ∧ (∀ k, k < axNF ci → parseFieldDescriptor (axTT ci k).2.2.1 = some (axTy ci k)) ∧ (∀ a, a < axNF ci → ∀ b, b < axNF ci → a ≠ b → (axTT ci a).2.1 ≠ (axTT ci b).2.1) := fun ci h => match ci, h with
  | 0, _ => ⟨rfl, fun w h => List.mem_append_left _ h, tyX0_ok, nmX0⟩
  | 1, _ => ⟨rfl, fun w h => List.mem_append_right _ (List.mem_append_left _ h), tyX1_ok, nmX1⟩
  | 2, _ => ⟨rfl, fun w h => List.mem_append_right _ (List.mem_append_right _ (List.mem_append_left _ h)), tyX2_ok, nmX2⟩
  | 3, _ => ⟨rfl, fun w h => List.mem_append_right _ (List.mem_append_right _ (List.mem_append_right _ (List.mem_append_left _ h))), tyX3_ok, nmX3⟩
  | 4, _ => ⟨rfl, fun w h => List.mem_append_right _ (List.mem_append_right _ (List.mem_append_right _ (List.mem_append_right _ (List.mem_append_left _ h)))), tyX4_ok, nmX4⟩
  | 5, _ => ⟨rfl, fun w h => List.mem_append_right _ (List.mem_append_right _ (List.mem_append_right _ (List.mem_append_right _ (List.mem_append_right _ (List.mem_append_left _ h))))), tyX5_ok, nmX5⟩
  | 6, _ => ⟨rfl, fun w h => List.mem_append_right _ (List.mem_append_right _ (List.mem_append_right _ (List.mem_append_right _ (List.mem_append_right _ (List.mem_append_right _ h))))), tyX6_ok, nmX6⟩
  | n + 7, h => absurd h (by omega)
def axTys (τ : Nat → ClassId) : List (ClassId × FieldType) := [(τ 0, .int), (τ 1, .boolean), (τ 2, .long)]
/-- what stands around the cells: the classes, the script, what a throw reads, the texts, which exceptions are no others -/
def ax_G (D : va_G) (τ : Nat → ClassId) (bS L : Nat) (xs : Nat → Int32) (A : Nat → Prop) (U : State) (H : Heap) : Prop :=
  va_K D axCl (axTys τ) U ∧ va_X bS L xs U H ∧ bS < H.size ∧ ¬ A bS ∧ vx_Zq Bundle.tN "UNASSIGNED_STACK" Bundle.steD A U H ∧ vx_Zq Bundle.tN "SUPPRESSED_SENTINEL" Bundle.listD A U H ∧
  (∀ y, y < 14 → ∃ sa, vk_R "PickPaths" (axTh y).2.2.1 (axTh y).2.2.2.2 sa U) ∧ (∀ e1 e2, e1 < 6 → e2 < 6 → e1 ≠ e2 → va_Nc (axEx e1) (axEx e2) U) ∧ va_Nw (.methodLinkNest "PickPaths" 11 (axY MX3_init) "PickPaths") U
theorem ax_G.to {D : va_G} {τ : Nat → ClassId} {bS L : Nat} {xs : Nat → Int32} {A B : Nat → Prop} {u U : State} {H H1 : Heap} (h : ax_G D τ bS L xs A u H) (hW : u.WarmedH U.vm) (hsz : H.size ≤ H1.size)
    (hq : ∀ a : Nat, a < H.size → ¬ A a → H1[a]? = H[a]?) (hAB : ∀ q, B q → A q) : ax_G D τ bS L xs B U H1 := by
  obtain ⟨h1, h2, h3, h4, h5, h6, h7, h8, h9⟩ := h
  exact ⟨va_K.moved hW.alike h1, (va_X.moved hW.alike h2).kept (hq _ h3 h4), Nat.lt_of_lt_of_le h3 hsz, fun h => h4 (hAB _ h), vx_Zq.narrow (vx_Zq.moved hW.alike (h5.kept hq)) hAB, vx_Zq.narrow (vx_Zq.moved hW.alike (h6.kept hq)) hAB,
    fun y hy => by obtain ⟨sa, h⟩ := h7 y hy; exact ⟨sa, vk_R.warm hW h⟩, fun e1 e2 a b c => va_Nc.moved hW.alike (h8 e1 e2 a b c), va_Nw.warmM hW h9⟩
