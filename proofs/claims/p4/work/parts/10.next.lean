/-! ===== a run of the mini machine is a run of the machine ===== -/
def mm_dc (j pc : Nat) (e : mm_Ent) : Prop := decode (md_mt j).2.1 pc = .ok (e.1, mm_len e.1) ∧ e.2.1 = pc + mm_len e.1
/-- a place where the class throws: new; dup; ldc; invokespecial; athrow -/
def mm_thr (j pc ik r1 : Nat) : Prop := ∃ (text : String) (names : List String) (is ic q : Nat),
  decode (md_mt j).2.1 (pc + 3) = .ok (.dup, 1) ∧
  ((decode (md_mt j).2.1 (pc + 4) = .ok (.ldc is, 2) ∧ decode (md_mt j).2.1 (pc + 6) = .ok (.invokespecial ic, 3) ∧ decode (md_mt j).2.1 (pc + 9) = .ok (.athrow, 1)) ∨
   (decode (md_mt j).2.1 (pc + 4) = .ok (.ldc_w is, 3) ∧ decode (md_mt j).2.1 (pc + 7) = .ok (.invokespecial ic, 3) ∧ decode (md_mt j).2.1 (pc + 10) = .ok (.athrow, 1))) ∧
  Bundle.fit (md_en r1) = true ∧ (∀ n ∈ names, Bundle.fit n = true) ∧ (∀ w ∈ Jvm.Cond.classLink (md_mt j).1.cls ik (md_en r1) :: Jvm.Cond.initialized (md_en r1) :: vx_atS (md_mt j).1.cls ic (md_en r1) names, w ∈ md_Tg ∨ w ∈ md_gw) ∧
  (∀ w ∈ Jvm.Cond.classLink (md_mt j).1.cls ik (md_en r1) :: Jvm.Cond.initialized (md_en r1) :: vx_atS (md_mt j).1.cls ic (md_en r1) names, vx_ot w = true) ∧ ((md_mt j).1.cls, is, text, q) ∈ md_sr ∧ names.length ≤ 5 ∧ (md_mt j).2.2.2.2 = []
def mm_ok (j pc : Nat) (e : mm_Ent) : Prop :=
  match e.1 with
  | .tableswitch a b c d => decode (md_mt j).2.1 pc = .ok (.tableswitch a b c d, e.2.1)
  | .lookupswitch a ps => decode (md_mt j).2.1 pc = .ok (.lookupswitch a ps, e.2.1) ∧ (ps.toList.zip (ps.toList.drop 1)).all (fun (a, next) => a.1 < next.1) = true
  | .istore i => mm_dc j pc e ∧ i < (md_mt j).2.2.1
  | .istore_n i => mm_dc j pc e ∧ (i : Nat) < (md_mt j).2.2.1
  | .lstore i => mm_dc j pc e ∧ i + 1 < (md_mt j).2.2.1
  | .lstore_n i => mm_dc j pc e ∧ (i : Nat) + 1 < (md_mt j).2.2.1
  | .astore i => mm_dc j pc e ∧ i < (md_mt j).2.2.1
  | .astore_n i => mm_dc j pc e ∧ (i : Nat) < (md_mt j).2.2.1
  | .iinc i _ => mm_dc j pc e ∧ i < (md_mt j).2.2.1
  | .ifCond _ off => mm_dc j pc e ∧ (pc : Int) + off = (e.2.2.1 : Int)
  | .if_icmp _ off => mm_dc j pc e ∧ (pc : Int) + off = (e.2.2.1 : Int)
  | .if_acmp _ off => mm_dc j pc e ∧ (pc : Int) + off = (e.2.2.1 : Int)
  | .goto off => mm_dc j pc e ∧ (pc : Int) + off = (e.2.2.1 : Int)
  | .ldc i => mm_dc j pc e ∧ (e.2.2.1 = 0 → Jvm.Cond.constant (md_mt j).1.cls i (Int32.ofNat e.2.2.2.1) ∈ md_Tg) ∧ (e.2.2.1 ≠ 0 → ∃ tx, ((md_mt j).1.cls, i, tx, e.2.2.2.1) ∈ md_sr)
  | .ldc_w i => mm_dc j pc e ∧ Jvm.Cond.constant (md_mt j).1.cls i (Int32.ofNat e.2.2.2.1) ∈ md_Tg
  | .ldc2_w i => mm_dc j pc e ∧ Jvm.Cond.constantLong (md_mt j).1.cls i (Int64.ofNat e.2.2.1) ∈ md_Tg
  | .getstatic i => mm_dc j pc e ∧ (e.2.2.2.2 = 0 → e.2.2.1 < md_nst ∧ Jvm.Cond.fieldLink (md_mt j).1.cls i (md_stn e.2.2.1).1 (md_stn e.2.2.1).2.1 (md_stn e.2.2.1).2.2 ∈ md_Tg) ∧ (e.2.2.2.2 ≠ 0 → ∃ q ∈ md_sq, Jvm.Cond.fieldLink (md_mt j).1.cls i q.1 q.2.1 q.2.2 ∈ md_Tg)
  | .getfield i => mm_dc j pc e ∧ (e.2.2.2.2 = 0 → ∃ C T N, md_cl[e.2.2.1]? = some (C, T, N) ∧ e.2.2.2.1 < N ∧ Jvm.Cond.fieldLink (md_mt j).1.cls i (T e.2.2.2.1).1 (T e.2.2.2.1).2.1 (T e.2.2.2.1).2.2.1 ∈ md_Tg) ∧ (e.2.2.2.2 ≠ 0 → Jvm.Cond.fieldLink (md_mt j).1.cls i (md_xf e.2.2.1).1 (md_xf e.2.2.1).2.1 (md_xf e.2.2.1).2.2 ∈ md_Tg)
  | .putfield i => mm_dc j pc e ∧ ∃ C T N ty, md_cl[e.2.2.1]? = some (C, T, N) ∧ e.2.2.2.1 < N ∧ Jvm.Cond.fieldLink (md_mt j).1.cls i (T e.2.2.2.1).1 (T e.2.2.2.1).2.1 (T e.2.2.2.1).2.2.1 ∈ md_Tg ∧ parseFieldDescriptor (T e.2.2.2.1).2.2.1 = some ty ∧ mm_tyc e.2.2.2.2 ty ∧ ((T e.2.2.2.1).2.2.2 = true → (md_mt j).1.name = "<init>" ∧ (T e.2.2.2.1).1 = (md_mt j).1.cls)
  | .new i => mm_dc j pc e ∧ (e.2.2.2.2 = 0 → ∃ C T N, md_cl[e.2.2.1]? = some (C, T, N) ∧ (md_df e.2.2.1).length = N ∧ Jvm.Cond.classLink (md_mt j).1.cls i C ∈ md_Tg ∧ Jvm.Cond.instantiable C N ∈ md_Tg ∧ Jvm.Cond.initialized C ∈ md_Tg) ∧ (e.2.2.2.2 ≠ 0 → mm_thr j pc i e.2.2.1)
  | .newarray a => mm_dc j pc e ∧ newarray.typeOf a = md_ty e.2.2.1 ∧ e.2.2.1 ≤ 3 ∧ Jvm.Cond.arrayClass (md_ty e.2.2.1) ∈ md_Tg
  | .anewarray i => mm_dc j pc e ∧ 4 ≤ e.2.2.1 ∧ ∃ E, md_ty e.2.2.1 = .object E ∧ Jvm.Cond.classLink (md_mt j).1.cls i E ∈ md_Tg ∧ E ∈ md_ao
  | .invokevirtual i => mm_dc j pc e ∧ mm_cal e.2.2.1 (e.2.2.2.1 % 16) ∧ (md_mt e.2.2.1).2.2.2.2 = [] ∧ (e.2.2.2.1 / 16 = 0 ∨ e.2.2.2.1 / 16 = 2) ∧
    (e.2.2.2.1 / 16 = 0 → mm_rcv e.2.2.2.2 (md_mt e.2.2.1).1.cls ∧ (∀ w ∈ ([.methodLink (md_mt j).1.cls i (md_mt e.2.2.1).1, .instanceMethod (md_mt e.2.2.1).1, .selects (md_mt e.2.2.1).1.cls (md_mt e.2.2.1).1 (md_mt e.2.2.1).1, .initialized (md_mt e.2.2.1).1.cls] : List Jvm.Cond), w ∈ md_Tg)) ∧
    (e.2.2.2.1 / 16 = 2 → ∃ x : MethodName, (md_mt e.2.2.1).1 = ⟨(md_mt e.2.2.1).1.cls, x.name, x.desc⟩ ∧ mm_rcv e.2.2.2.2 x.cls ∧ (∀ w ∈ ([.methodLink (md_mt j).1.cls i x, .sameMethod x.cls (md_mt e.2.2.1).1.cls x.name x.desc, .selects x.cls x (md_mt e.2.2.1).1, .instanceMethod (md_mt e.2.2.1).1, .initialized (md_mt e.2.2.1).1.cls] : List Jvm.Cond), w ∈ md_Tg))
  | .invokestatic i => mm_dc j pc e ∧
    ((e.2.2.2.1 / 16 = 1 ∧ mm_cal e.2.2.1 (e.2.2.2.1 % 16) ∧ (∀ w ∈ ([.methodLink (md_mt j).1.cls i (md_mt e.2.2.1).1, .static (md_mt e.2.2.1).1, .initialized (md_mt e.2.2.1).1.cls] : List Jvm.Cond), w ∈ md_Tg)) ∨
     (e.2.2.2.1 / 16 = 6 ∧ (∀ w ∈ ([.methodLink (md_mt j).1.cls i arraycopyName, .native arraycopyName, .static arraycopyName, .initialized "java/lang/System"] : List Jvm.Cond), w ∈ md_Tg)))
  | .invokespecial i => mm_dc j pc e ∧
    ((e.2.2.2.1 / 16 = 2 ∧ mm_cal e.2.2.1 (e.2.2.2.1 % 16) ∧ (md_mt e.2.2.1).2.2.2.2 = [] ∧ (md_mt e.2.2.1).2.2.2.1 = none ∧ (md_mt e.2.2.1).1.name = "<init>" ∧ (∀ w ∈ ([.instanceMethod (md_mt e.2.2.1).1, .initialized (md_mt e.2.2.1).1.cls] : List Jvm.Cond), w ∈ md_Tg) ∧
       (Jvm.Cond.methodLink (md_mt j).1.cls i (md_mt e.2.2.1).1 ∈ md_Tg ∨ ∃ host, ((md_mt j).1.cls, i, (md_mt e.2.2.1).1, host) ∈ md_nw)) ∨
     (e.2.2.2.1 / 16 = 5 ∧ (∀ w ∈ ([.methodLink (md_mt j).1.cls i Lib.objectInit, .instanceMethod Lib.objectInit, .code Lib.objectInit ⟨#[0xb1]⟩ 1 none] : List Jvm.Cond), w ∈ md_Tg)))
  | _ => mm_dc j pc e
section MS
variable {p : Program} {l : Launch} {e : Env} {R : Room} {s : State} {m : MethodId} {args : Array Value} {below : List Frame} {meth : Method} {c : Code} {xl : Nat → Nat} {D : va_G} {w0 : va_W} {A : Nat → Prop} {sc : Nat × (Nat → Int32)} {j d bT cT : Nat} {Q : State → Prop} {nx r1 r2 r3 pc : Nat} {lo : List (Nat × Value)} {st : List Value} {W0 : mm_W} {b0 c0 : Nat} {F' : mm_F}
theorem mm_next (C : mm_C p l R s m args meth c xl A sc j d) (K : mm_dat) (ins : Instr) (hok : mm_ok j pc (ins, nx, r1, r2, r3)) (h : mm_stepI (md_xa sc) j ins nx r1 r2 r3 pc lo st W0 b0 c0 = some (.inl F')) (hb : bT ≤ R.cells + F'.2.2.2.2.1) (hc : cT ≤ R.slots + F'.2.2.2.2.2) (k : mm_G p l e R s m args below meth c xl D w0 A j bT cT Q F') : mm_G p l e R s m args below meth c xl D w0 A j bT cT Q (pc, lo, st, W0, b0, c0) := by
  cases ins with
  | iconst n => obtain ⟨hd, hn⟩ := hok; exact mi_iconst C hd hn h k
  | bipush n => obtain ⟨hd, hn⟩ := hok; exact mi_bipush C hd hn h k
  | sipush n => obtain ⟨hd, hn⟩ := hok; exact mi_sipush C hd hn h k
  | lconst n => obtain ⟨hd, hn⟩ := hok; exact mi_lconst C hd hn h k
  | aconst_null => obtain ⟨hd, hn⟩ := hok; exact mi_aconst_null C hd hn h k
  | iload i => obtain ⟨hd, hn⟩ := hok; exact mi_iload C hd hn h k
  | iload_n i => obtain ⟨hd, hn⟩ := hok; exact mi_iload_n C hd hn h k
  | lload i => obtain ⟨hd, hn⟩ := hok; exact mi_lload C hd hn h k
  | lload_n i => obtain ⟨hd, hn⟩ := hok; exact mi_lload_n C hd hn h k
  | aload i => obtain ⟨hd, hn⟩ := hok; exact mi_aload C hd hn h k
  | aload_n i => obtain ⟨hd, hn⟩ := hok; exact mi_aload_n C hd hn h k
  | dup => obtain ⟨hd, hn⟩ := hok; exact mi_dup C hd hn h k
  | pop => obtain ⟨hd, hn⟩ := hok; exact mi_pop C hd hn h k
  | dup2 => obtain ⟨hd, hn⟩ := hok; exact mi_dup2 C hd hn h k
  | iadd => obtain ⟨hd, hn⟩ := hok; exact mi_iadd C hd hn h k
  | isub => obtain ⟨hd, hn⟩ := hok; exact mi_isub C hd hn h k
  | imul => obtain ⟨hd, hn⟩ := hok; exact mi_imul C hd hn h k
  | iand => obtain ⟨hd, hn⟩ := hok; exact mi_iand C hd hn h k
  | ior => obtain ⟨hd, hn⟩ := hok; exact mi_ior C hd hn h k
  | ixor => obtain ⟨hd, hn⟩ := hok; exact mi_ixor C hd hn h k
  | ineg => obtain ⟨hd, hn⟩ := hok; exact mi_ineg C hd hn h k
  | ishl => obtain ⟨hd, hn⟩ := hok; exact mi_ishl C hd hn h k
  | ishr => obtain ⟨hd, hn⟩ := hok; exact mi_ishr C hd hn h k
  | iushr => obtain ⟨hd, hn⟩ := hok; exact mi_iushr C hd hn h k
  | land => obtain ⟨hd, hn⟩ := hok; exact mi_land C hd hn h k
  | lor => obtain ⟨hd, hn⟩ := hok; exact mi_lor C hd hn h k
  | lshl => obtain ⟨hd, hn⟩ := hok; exact mi_lshl C hd hn h k
  | lshr => obtain ⟨hd, hn⟩ := hok; exact mi_lshr C hd hn h k
  | lcmp => obtain ⟨hd, hn⟩ := hok; exact mi_lcmp C hd hn h k
  | i2l => obtain ⟨hd, hn⟩ := hok; exact mi_i2l C hd hn h k
  | l2i => obtain ⟨hd, hn⟩ := hok; exact mi_l2i C hd hn h k
  | i2b => obtain ⟨hd, hn⟩ := hok; exact mi_i2b C hd hn h k
  | i2c => obtain ⟨hd, hn⟩ := hok; exact mi_i2c C hd hn h k
  | idiv => obtain ⟨hd, hn⟩ := hok; exact mi_idiv C hd hn h k
  | irem => obtain ⟨hd, hn⟩ := hok; exact mi_irem C hd hn h k
  | iaload => obtain ⟨hd, hn⟩ := hok; exact mi_iaload C K hd hn h k
  | baload => obtain ⟨hd, hn⟩ := hok; exact mi_baload C K hd hn h k
  | laload => obtain ⟨hd, hn⟩ := hok; exact mi_laload C K hd hn h k
  | aaload => obtain ⟨hd, hn⟩ := hok; exact mi_aaload C K hd hn h k
  | iastore => obtain ⟨hd, hn⟩ := hok; exact mi_iastore C K hd hn h k
  | bastore => obtain ⟨hd, hn⟩ := hok; exact mi_bastore C K hd hn h k
  | lastore => obtain ⟨hd, hn⟩ := hok; exact mi_lastore C K hd hn h k
  | aastore => obtain ⟨hd, hn⟩ := hok; exact mi_aastore C K hd hn h k
  | arraylength => obtain ⟨hd, hn⟩ := hok; exact mi_arraylength C hd hn h k
  | istore i => obtain ⟨⟨hd, hn⟩, hi⟩ := hok; exact mi_istore C hd hn hi h k
  | istore_n i => obtain ⟨⟨hd, hn⟩, hi⟩ := hok; exact mi_istore_n C hd hn hi h k
  | lstore i => obtain ⟨⟨hd, hn⟩, hi⟩ := hok; exact mi_lstore C hd hn hi h k
  | lstore_n i => obtain ⟨⟨hd, hn⟩, hi⟩ := hok; exact mi_lstore_n C hd hn hi h k
  | astore i => obtain ⟨⟨hd, hn⟩, hi⟩ := hok; exact mi_astore C hd hn hi h k
  | astore_n i => obtain ⟨⟨hd, hn⟩, hi⟩ := hok; exact mi_astore_n C hd hn hi h k
  | iinc i n => obtain ⟨⟨hd, hn⟩, hi⟩ := hok; exact mi_iinc C hd hn hi h k
  | ifCond cd off => obtain ⟨⟨hd, hn⟩, hi⟩ := hok; exact mi_ifCond C hd hn hi h k
  | if_icmp cd off => obtain ⟨⟨hd, hn⟩, hi⟩ := hok; exact mi_if_icmp C hd hn hi h k
  | if_acmp cd off => obtain ⟨⟨hd, hn⟩, hi⟩ := hok; exact mi_if_acmp C hd hn hi h k
  | goto off => obtain ⟨⟨hd, hn⟩, hi⟩ := hok; exact mi_goto C hd hn hi h k
  | ldc_w i => obtain ⟨⟨hd, hn⟩, hi⟩ := hok; exact mi_ldc_w C hd hn hi h k
  | ldc2_w i => obtain ⟨⟨hd, hn⟩, hi⟩ := hok; exact mi_ldc2_w C hd hn hi h k
  | tableswitch a b u v => exact mi_tableswitch C hok h k
  | lookupswitch a ps => obtain ⟨hd, hp⟩ := hok; exact mi_lookupswitch C hd hp h k
  | ldc i => obtain ⟨⟨hd, hn⟩, h0, h1⟩ := hok; exact mi_ldc C hd hn h0 h1 h k
  | getstatic i => obtain ⟨⟨hd, hn⟩, h0, h1⟩ := hok; exact mi_getstatic C hd hn h0 h1 h k
  | getfield i => obtain ⟨⟨hd, hn⟩, h0, h1⟩ := hok; exact mi_getfield C K hd hn h0 h1 h k
  | putfield i => obtain ⟨⟨hd, hn⟩, ho⟩ := hok; exact mi_putfield C K hd hn ho h k
  | new i =>
    obtain ⟨⟨hd, hn⟩, h0, h1⟩ := hok
    by_cases h3 : r3 = 0
    · exact mi_new C K hd hn h3 (h0 h3) h hb hc k
    · exfalso
      simp only [mm_stepI, if_neg h3] at h
      split at h <;> cases h
  | newarray a => obtain ⟨⟨hd, hn⟩, ho⟩ := hok; exact mi_newarray C K hd hn ho h hb hc k
  | anewarray i => obtain ⟨⟨hd, hn⟩, ho⟩ := hok; exact mi_anewarray C hd hn ho h hb hc k
  | invokespecial i =>
    obtain ⟨⟨hd, hn⟩, ⟨h2, -⟩ | ⟨h5, hws⟩⟩ := hok
    · exfalso
      have h2' : r2 / 16 = 2 := h2
      simp only [mm_stepI, mm_call, h2'] at h
      repeat' split at h
      all_goals cases h
    · exact mi_objInit C hd hn hws h5 h k
  | invokestatic i =>
    obtain ⟨⟨hd, hn⟩, ⟨h1, -⟩ | ⟨h6, hws⟩⟩ := hok
    · exfalso
      have h1' : r2 / 16 = 1 := h1
      simp only [mm_stepI, mm_call, h1'] at h
      repeat' split at h
      all_goals cases h
    · exact mi_copy C K hd hn hws h6 h k
  | invokevirtual i =>
    obtain ⟨⟨hd, hn⟩, -, -, h02, -⟩ := hok
    exfalso
    have h02' : r2 / 16 = 0 ∨ r2 / 16 = 2 := h02
    rcases h02' with h0 | h0 <;>
      (simp only [mm_stepI, mm_call, h0] at h
       repeat' split at h
       all_goals cases h)
  | ireturn =>
    exfalso
    simp only [mm_stepI] at h
    repeat' split at h
    all_goals cases h
  | lreturn =>
    exfalso
    simp only [mm_stepI] at h
    repeat' split at h
    all_goals cases h
  | areturn =>
    exfalso
    simp only [mm_stepI] at h
    repeat' split at h
    all_goals cases h
  | return_ =>
    exfalso
    simp only [mm_stepI] at h
    repeat' split at h
    all_goals cases h
  | _ => cases (show (none : Option mm_T) = some (.inl F') from h)
end MS
