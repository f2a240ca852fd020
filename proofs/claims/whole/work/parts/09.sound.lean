/-! what the abstract machine does, the machine does -/
set_option maxHeartbeats 1000000 in
theorem aSoundI {i : Instr} {n d m pc : Nat} {ls st : List Value} {I : IM} {Q : Po} (hi : aIns m pc = some (i, n)) (h : FT Sh (TI i n d m pc ls st I) Q) : Sh (d, m, pc, ls, st, I) Q := by
  cases i with
  | iconst a0 => exact sh_iconst hi h
  | bipush a0 => exact sh_bipush hi h
  | sipush a0 => exact sh_sipush hi h
  | lconst a0 => exact sh_lconst hi h
  | aconst_null => exact sh_aconst_null hi h
  | ldc a0 => exact sh_ldc hi h
  | ldc_w a0 => exact sh_ldc_w hi h
  | ldc2_w a0 => exact sh_ldc2_w hi h
  | iload_n a0 => exact sh_iload_n hi h
  | iload a0 => exact sh_iload hi h
  | lload_n a0 => exact sh_lload_n hi h
  | lload a0 => exact sh_lload hi h
  | aload_n a0 => exact sh_aload_n hi h
  | aload a0 => exact sh_aload hi h
  | istore_n a0 => exact sh_istore_n hi h
  | istore a0 => exact sh_istore hi h
  | lstore_n a0 => exact sh_lstore_n hi h
  | lstore a0 => exact sh_lstore hi h
  | astore_n a0 => exact sh_astore_n hi h
  | astore a0 => exact sh_astore hi h
  | iinc a0 a1 => exact sh_iinc hi h
  | iadd => exact sh_iadd hi h
  | isub => exact sh_isub hi h
  | imul => exact sh_imul hi h
  | idiv => exact sh_idiv hi h
  | irem => exact sh_irem hi h
  | iand => exact sh_iand hi h
  | ior => exact sh_ior hi h
  | ishl => exact sh_ishl hi h
  | ishr => exact sh_ishr hi h
  | iushr => exact sh_iushr hi h
  | ineg => exact sh_ineg hi h
  | i2l => exact sh_i2l hi h
  | i2s => exact sh_i2s hi h
  | i2b => exact sh_i2b hi h
  | i2c => exact sh_i2c hi h
  | l2i => exact sh_l2i hi h
  | ladd => exact sh_ladd hi h
  | lcmp => exact sh_lcmp hi h
  | dup => exact sh_dup hi h
  | dup2 => exact sh_dup2 hi h
  | pop => exact sh_pop hi h
  | goto a0 => exact sh_goto hi h
  | ifCond a0 a1 => exact sh_ifCond hi h
  | if_icmp a0 a1 => exact sh_if_icmp hi h
  | ifnull a0 => exact sh_ifnull hi h
  | ifnonnull a0 => exact sh_ifnonnull hi h
  | tableswitch a0 a1 a2 a3 => exact sh_tableswitch hi h
  | lookupswitch a0 a1 => exact sh_lookupswitch hi h
  | getfield a0 => exact sh_getfield hi h
  | putfield a0 => exact sh_putfield hi h
  | getstatic a0 => exact sh_getstatic hi h
  | arraylength => exact sh_arraylength hi h
  | iaload => exact sh_iaload hi h
  | baload => exact sh_baload hi h
  | iastore => exact sh_iastore hi h
  | aaload => exact sh_aaload hi h
  | invokestatic a0 => exact sh_invokestatic hi h
  | invokevirtual a0 => exact sh_invokevirtual hi h
  | ireturn => exact sh_ireturn hi h
  | return_ => exact sh_return_ hi h
  | areturn => exact sh_areturn hi h
  | lreturn => exact sh_lreturn hi h
  | _ => exact absurd h.1 id
theorem aSound {s : St} {Q : Po} (h : E s Q) : Sh s Q := by
  refine h Sh (fun s Q k => ?_)
  obtain ⟨d, m, pc, ls, st, I⟩ := s
  cases hi : aIns m pc with
  | none =>
    have k' : FT Sh (match aIns m pc with | some q => TI q.1 q.2 d m pc ls st I | none => tX) Q := k
    rw [hi] at k'
    exact absurd k'.1 id
  | some q =>
    have k' : FT Sh (match aIns m pc with | some q => TI q.1 q.2 d m pc ls st I | none => tX) Q := k
    rw [hi] at k'
    exact aSoundI hi k'
