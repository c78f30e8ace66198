section AXU
variable {p : Program} {l : Launch} {e : Env} {R : Room} {s : State} {m : MethodId} {args : Array Value} {below : List Frame} {meth : Method} {c : Code} {A : Nat → Prop} {D : va_G} {τ : Nat → ClassId} {bS L a0 b0 n0 : Nat} {xs : Nat → Int32} {σ0 : Nat → Nat} {Q : State → Prop}
variable {i pc x y a b cells slots : Nat} {ls : AxL} {st : List Value} {w : AxW} {H : Heap} {locs : List Loc} {σ : Nat → Nat} {lsA : Array Slot} {k : AxC}
set_option maxHeartbeats 4000000 in
/-- every simple instruction -/
theorem ax_simple {ins : Instr} (hk : ax_kind ins x = 0) (hat : ax_at (axT i) pc = some (ins, x, y)) (hn : ax_next (ax_alts L xs ins x y (pc, ls, st, w, a, b)) k)
    (C : ax_Cx i p l s m args meth c A D τ bS L xs) (hR : 1 ≤ R.frames ∧ 40 ≤ R.locals) (I : ax_In i s A D τ bS a0 b0 n0 σ0 ls w a b H locs cells slots σ lsA)
    (hbd : k.2.2.2.2.1 ≤ a0 + R.cells ∧ k.2.2.2.2.2 ≤ b0 + R.slots) (hgo : ax_Go i p l e R s m args below meth c A D τ bS a0 b0 n0 σ0 Q k) : W p l e R s m args below meth c H locs cells slots Q (F0 m pc lsA (st.map (ax_v σ))) := by
  cases ins
  case iload => exact as_iload hat hn C hR I hbd hgo
  case iload_n => exact as_iload_n hat hn C hR I hbd hgo
  case aload => exact as_aload hat hn C hR I hbd hgo
  case aload_n => exact as_aload_n hat hn C hR I hbd hgo
  case istore => exact as_istore hat hn C hR I hbd hgo
  case istore_n => exact as_istore_n hat hn C hR I hbd hgo
  case astore => exact as_astore hat hn C hR I hbd hgo
  case astore_n => exact as_astore_n hat hn C hR I hbd hgo
  case iconst => exact as_iconst hat hn C hR I hbd hgo
  case bipush => exact as_bipush hat hn C hR I hbd hgo
  case sipush => exact as_sipush hat hn C hR I hbd hgo
  case ldc => exact as_ldc hat hn C hR I hbd hgo
  case iinc => exact as_iinc hat hn C hR I hbd hgo
  case iadd => exact as_iadd hat hn C hR I hbd hgo
  case isub => exact as_isub hat hn C hR I hbd hgo
  case imul => exact as_imul hat hn C hR I hbd hgo
  case iand => exact as_iand hat hn C hR I hbd hgo
  case ixor => exact as_ixor hat hn C hR I hbd hgo
  case ishl => exact as_ishl hat hn C hR I hbd hgo
  case ishr => exact as_ishr hat hn C hR I hbd hgo
  case idiv => exact as_idiv hat hn C hR I hbd hgo
  case irem => exact as_irem hat hn C hR I hbd hgo
  case i2l => exact as_i2l hat hn C hR I hbd hgo
  case lcmp => exact as_lcmp hat hn C hR I hbd hgo
  case dup => exact as_dup hat hn C hR I hbd hgo
  case goto => exact as_goto hat hn C hR I hbd hgo
  case if_icmp => exact as_if_icmp hat hn C hR I hbd hgo
  case ifCond => exact as_ifCond hat hn C hR I hbd hgo
  case tableswitch => exact as_tableswitch hat hn C hR I hbd hgo
  case lookupswitch => exact as_lookupswitch hat hn C hR I hbd hgo
  case getfield => exact as_getfield hat hn C hR I hbd hgo
  case putfield => exact as_putfield hat hn C hR I hbd hgo
  case iaload => exact as_iaload hat hn C hR I hbd hgo
  case baload => exact as_baload hat hn C hR I hbd hgo
  case laload => exact as_laload hat hn C hR I hbd hgo
  case iastore => exact as_iastore hat hn C hR I hbd hgo
  case bastore => exact as_bastore hat hn C hR I hbd hgo
  case lastore => exact as_lastore hat hn C hR I hbd hgo
  case arraylength => exact as_arraylength hat hn C hR I hbd hgo
  case newarray => exact as_newarray hat hn C hR I hbd hgo
  case new => exact as_new hk hat hn C hR I hbd hgo
  case invokespecial => exact as_objinit hat hn C hR I hbd hgo
  case invokestatic => exact as_math hat hn C hR I hbd hgo
  all_goals exact hn.elim
end AXU
