/-! ===== what lies outside of a world: statics, constants, tables, texts; a method's standing facts ===== -/
def mm_X (xl : Nat → Nat) (A : Nat → Prop) (sc : Nat × (Nat → Int32)) (U : State) : Prop :=
  (∀ i, i < md_nst → va_Z (md_stn i).1 (md_stn i).2.1 (md_stn i).2.2 (mm_xv xl (md_st i)) A U U.heap ∧ mm_isx (md_st i) = true) ∧
  (∀ i n, md_xc i = some n → va_O (md_xcn n) (xl i) A U U.heap) ∧
  (∀ i k v, md_xo i k = some v → va_OF (md_xf k).1 (md_xf k).2.1 (md_xf k).2.2 (mm_xv xl v) (xl i) A U U.heap ∧ mm_isx v = true) ∧
  (∀ i t n f, md_xa sc i = some (t, n, f) → va_T (md_ty t) (xl i) n (fun j => mm_xv xl (f j)) A U U.heap ∧ ∀ j, mm_isx (f j) = true) ∧
  (∀ q ∈ md_sr, vk_R q.1 q.2.1 q.2.2.1 (xl q.2.2.2) U) ∧
  (∀ w ∈ md_gw, va_Nw w U) ∧
  (∀ q ∈ md_nw, va_Nw (.methodLinkNest q.1 q.2.1 q.2.2.1 q.2.2.2) U) ∧
  (∀ C ∈ md_ao, va_AO C U) ∧
  (∀ q ∈ md_nc, va_Nc q.1 q.2 U) ∧
  vx_Zq Bundle.tN "UNASSIGNED_STACK" Bundle.steD A U U.heap ∧
  vx_Zq Bundle.tN "SUPPRESSED_SENTINEL" Bundle.listD A U U.heap ∧
  (∀ i k, 1 ≤ i → 1 ≤ k → i ≤ md_ne → k ≤ md_ne → xl i = xl k → i = k) ∧
  (∀ q ∈ md_sq, va_Zq q.1 q.2.1 q.2.2 A U U.heap)
def mm_nr : Value → Bool
  | .ref _ => false
  | _ => true
/-- what the tables themselves are, by program -/
def mm_dat : Prop :=
  (∀ (ci : Nat) (C : String) (T : u_T) (N : Nat), md_cl[ci]? = some (C, T, N) → (∀ w ∈ u_ws C T N, w ∈ md_Tg) ∧ (∃ ty0 : Nat → FieldType, (∀ k, k < N → parseFieldDescriptor (T k).2.2.1 = some (ty0 k)) ∧ ∀ k, k < N → defaultValue (ty0 k) = vp_V (md_df ci) k) ∧
    (∀ a, a < N → ∀ b, b < N → a ≠ b → (T a).2.1 ≠ (T b).2.1) ∧ (∀ v ∈ md_df ci, mm_isx v = true ∧ mm_nr v = true)) ∧
  md_ty 0 = .int ∧ md_ty 1 = .long ∧ md_ty 2 = .byte ∧ md_ty 3 = .boolean ∧
  (∀ t, 4 ≤ t → ∃ E, md_ty t = .object E ∧ (md_ac t < 1000 → ∃ r, md_cl[md_ac t]? = some r ∧ r.1 = E) ∧ (1000 ≤ md_ac t → md_xcn (md_ac t - 1000) = E)) ∧
  (∀ w ∈ md_gw, w.onTables = true ∧ w.keepsFace = true) ∧
  (∀ w ∈ md_Tg, goodWord w = true) ∧
  (∀ (ci : Nat) (q : vw_C), md_cl[ci]? = some q → ci < 1000)
theorem mm_X.same {xl : Nat → Nat} {A : Nat → Prop} {sc : Nat × (Nat → Int32)} (K : mm_dat) {u U : State} (hv : U.vm = u.vm) (hh : U.heap = u.heap) (h : mm_X xl A sc u) : mm_X xl A sc U := by
  obtain ⟨h1, h2, h3, h4, h5, h6, h7, h8, h9, h10, h11, h12, h13⟩ := h
  have al : u.vm.Alike U.vm := by rw [hv]; exact Vm.Alike.refl _
  obtain ⟨-, -, -, -, -, -, hg, -⟩ := K
  refine ⟨fun i hi => ⟨?_, (h1 i hi).2⟩, fun i n hi => ?_, fun i k v hi => ⟨?_, (h3 i k v hi).2⟩, fun i t n f hi => ⟨?_, (h4 i t n f hi).2⟩, fun q hq => (h5 q hq).same hv, fun w hw => (h6 w hw).same (hg w hw).1 hv.symm, fun q hq => (h7 q hq).same rfl hv.symm, fun C hC => (h8 C hC).moved al, fun q hq => (h9 q hq).moved al, ?_, ?_, h12, fun q hq => ?_⟩
  · rw [hh]; exact (h1 i hi).1.moved al
  · rw [hh]; exact (h2 i n hi).moved al
  · rw [hh]; exact (h3 i k v hi).1.moved al
  · rw [hh]; exact (h4 i t n f hi).1.moved al
  · rw [hh]; exact h10.moved al
  · rw [hh]; exact h11.moved al
  · rw [hh]; exact (h13 q hq).moved al
/-- at a callee's start -/
theorem mm_X.call {xl : Nat → Nat} {A A1 : Nat → Prop} {sc : Nat × (Nat → Int32)} (K : mm_dat) {s U : State} {H : Heap} {locs : List Loc} (hS : va_S A s.heap H locs) (hH : U.heap = H) (hW : s.WarmedH U.vm) (hA : ∀ q, A1 q → A q) (h : mm_X xl A sc s) : mm_X xl A1 sc U := by
  obtain ⟨h1, h2, h3, h4, h5, h6, h7, h8, h9, h10, h11, h12, h13⟩ := h
  have al : s.vm.Alike U.vm := hW.alike
  have hq := hS.2.1
  obtain ⟨-, -, -, -, -, -, hg, -⟩ := K
  subst hH
  refine ⟨fun i hi => ⟨?_, (h1 i hi).2⟩, fun i n hi => ?_, fun i k v hi => ⟨?_, (h3 i k v hi).2⟩, fun i t n f hi => ⟨?_, (h4 i t n f hi).2⟩, fun q hq => (h5 q hq).warm hW, fun w hw => ?_, fun q hq => (h7 q hq).warmM hW, fun C hC => (h8 C hC).moved al, fun q hq => (h9 q hq).moved al, ?_, ?_, h12, fun q hq2 => ?_⟩
  · exact (((h1 i hi).1.kept hq).narrow hA).moved al
  · exact (((h2 i n hi).kept hq).narrow hA).moved al
  · exact (((h3 i k v hi).1.kept hq).narrow hA).moved al
  · exact (((h4 i t n f hi).1.kept hq).narrow hA).moved al
  · exact va_tabs (hg w hw).1 (rfl : (s.setVm U.vm).vm = U.vm) (Cond.before_shiftedFace (State.Shifted.of_warmed hW) w (hg w hw).2 (h6 w hw))
  · exact ((h10.kept hq).narrow hA).moved al
  · exact ((h11.kept hq).narrow hA).moved al
  · exact (((h13 q hq2).kept hq).narrow hA).moved al
def mm_ws (j : Nat) : List Jvm.Cond := (if (md_mt j).2.2.2.2 = [] then Jvm.Cond.code (md_mt j).1 (md_mt j).2.1 (md_mt j).2.2.1 (md_mt j).2.2.2.1 else Jvm.Cond.codeWith (md_mt j).1 (md_mt j).2.1 (md_mt j).2.2.1 (md_mt j).2.2.2.1 (md_mt j).2.2.2.2) :: md_Tg
def mm_rm (d mc ms : Nat) : Room := { frames := d + 12, cells := mc, slots := ms, locals := 40 * d + 300 }
/-- a method's standing facts -/
def mm_C (p : Program) (l : Launch) (R : Room) (s : State) (m : MethodId) (args : Array Value) (meth : Method) (c : Code) (xl : Nat → Nat) (A : Nat → Prop) (sc : Nat × (Nat → Int32)) (j d : Nat) : Prop :=
  p.tables.exec = Jvm.exec ∧ c.code = (md_mt j).2.1 ∧ c.maxLocals = (md_mt j).2.2.1 ∧ s.vm.findClass (md_mt j).1.cls = some m.cls ∧ (∀ w ∈ md_Tg, w.before args s = true) ∧ mm_X xl A sc s ∧
  (∀ q, s.heap.size ≤ q → A q) ∧ meth.locks = false ∧ meth.sig.returnType = (md_mt j).2.2.2.1 ∧ meth.name = (md_mt j).1.name ∧ c.exceptionTable.toList = Jvm.tableOf (md_mt j).2.2.2.2 ∧ d + 12 ≤ R.frames ∧ 40 * d + 300 ≤ R.locals ∧ l.stackTraces = false
/-- the machine's frame and heap hold the mini machine's -/
abbrev mm_R (xl : Nat → Nat) (D : va_G) (w0 : va_W) (s : State) (A : Nat → Prop) (nL bT cT : Nat) (F : mm_F) (ws : va_W) (tys : List (ClassId × FieldType)) (H : Heap) (locs : List Loc) (cells slots : Nat) (ls : Array Slot) (st' : List Value) : Prop :=
  mm_l xl ws F.2.2.1 st' ∧ (∃ lv, lv_has ls nL lv ∧ mm_lo xl ws F.2.1 lv) ∧ mm_w xl w0 tys F.2.2.2.1 ws ∧ va_K D md_cl tys s ∧ va_P D md_cl ws H ∧ va_D A ws ∧ va_S A s.heap H locs ∧ cells + F.2.2.2.2.1 = bT ∧ slots + F.2.2.2.2.2 = cT
def mm_G (p : Program) (l : Launch) (e : Env) (R : Room) (s : State) (m : MethodId) (args : Array Value) (below : List Frame) (meth : Method) (c : Code) (xl : Nat → Nat) (D : va_G) (w0 : va_W) (A : Nat → Prop) (j bT cT : Nat) (Q : State → Prop) (F : mm_F) : Prop :=
  ∀ (ws : va_W) (tys : List (ClassId × FieldType)) (H : Heap) (locs : List Loc) (cells slots : Nat) (ls : Array Slot) (st' : List Value), mm_R xl D w0 s A (md_mt j).2.2.1 bT cT F ws tys H locs cells slots ls st' →
    W p l e R s m args below meth c H locs cells slots Q (F0 m F.1 ls st')
/-- the same, with an exception thrown over the frame -/
def mm_Gx (p : Program) (l : Launch) (e : Env) (R : Room) (s : State) (m : MethodId) (args : Array Value) (below : List Frame) (meth : Method) (c : Code) (xl : Nat → Nat) (D : va_G) (w0 : va_W) (A : Nat → Prop) (j bT cT : Nat) (Q : State → Prop) (n : Nat) (F : mm_F) : Prop :=
  ∀ (ws : va_W) (tys : List (ClassId × FieldType)) (H : Heap) (locs : List Loc) (cells slots : Nat) (ls : Array Slot) (st' : List Value) (q : Addr) (ce : Cell), mm_R xl D w0 s A (md_mt j).2.2.1 bT cT F ws tys H locs cells slots ls st' →
    H[q]? = some ce → ce.vm = .none → s.vm.findClass (md_en n) = some ce.cls → vx_W p l e R s m args below meth c H locs cells slots Q (F0 m F.1 ls st') q
def mm_len : Instr → Nat
  | .iload _ | .lload _ | .aload _ | .istore _ | .lstore _ | .astore _ | .bipush _ | .ldc _ | .newarray _ => 2
  | .sipush _ | .ldc_w _ | .ldc2_w _ | .iinc _ _ | .ifCond _ _ | .if_icmp _ _ | .if_acmp _ _ | .goto _ | .getfield _ | .putfield _ | .getstatic _ | .new _ | .anewarray _ | .invokevirtual _ | .invokestatic _ | .invokespecial _ => 3
  | _ => 1
theorem mm_word {args : Array Value} {s : State} {w : Jvm.Cond} (ht : ∀ w ∈ md_Tg, w.before args s = true) (h : w ∈ md_Tg) : w.before args s = true := ht w h
