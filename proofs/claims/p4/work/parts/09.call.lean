/-! ===== calls ===== -/
def mm_vo (xl : Nat → Nat) (ws : va_W) : Option Value → Option Value → Prop
  | none, r => r = none
  | some v, r => ∃ v', r = some v' ∧ mm_v xl ws v v'
def mm_End (xl : Nat → Nat) (D : va_G) (ws : va_W) (sz : Nat) (W2 : mm_W) (t : State) (ws2 : va_W) (tys2 : List (ClassId × FieldType)) : Prop :=
  mm_w xl ws tys2 W2 ws2 ∧ va_K D md_cl tys2 t ∧ va_P D md_cl ws2 t.heap ∧ va_D (va_A ws sz) ws2
def mm_Qr (xl : Nat → Nat) (D : va_G) (ws : va_W) (sz : Nat) (o : mm_O) : Array Value → State → Outcome → State → Prop := fun _ st oc t =>
  (∃ (v v' : Option Value) (ws2 : va_W) (tys2 : List (ClassId × FieldType)), o.1 = .inl v ∧ oc = .returned v' ∧ mm_vo xl ws2 v v' ∧ mm_End xl D ws sz o.2.1 t ws2 tys2) ∧ va_F (va_A ws sz) st t
def mm_Qx (xl : Nat → Nat) (D : va_G) (ws : va_W) (sz : Nat) (o : mm_O) : String → State → State → Prop := fun E st t =>
  (∃ (n : Nat) (ws2 : va_W) (tys2 : List (ClassId × FieldType)), o.1 = .inr n ∧ E = md_en n ∧ mm_End xl D ws sz o.2.1 t ws2 tys2) ∧ va_F (va_A ws sz) st t
def mm_Pc (xl : Nat → Nat) (D : va_G) (sc : Nat × (Nat → Int32)) (ws : va_W) (tys : List (ClassId × FieldType)) (sz : Nat) (U : State) : Prop :=
  U.heap.size = sz ∧ va_K D md_cl tys U ∧ va_P D md_cl ws U.heap ∧ va_D (fun _ => True) ws ∧ mm_X xl (va_A ws sz) sc U
/-- method j, called with these arguments in this world, ends as o says -/
def mm_M (l : Launch) (sc : Nat × (Nat → Int32)) (d j : Nat) (as : List Value) (W0 : mm_W) (b0 c0 : Nat) (o : mm_O) : Prop :=
  ∀ (xl : Nat → Nat) (D : va_G) (ws : va_W) (tys : List (ClassId × FieldType)) (as' : List Value) (sz : Nat), mm_l xl ws as as' → mm_w xl ws tys W0 ws →
    vx_Met l (md_mt j).1 (mm_ws j) (mm_rm d (b0 - o.2.2.1) (c0 - o.2.2.2)) (va_Pc as' (mm_Pc xl D sc ws tys sz)) (mm_Qr xl D ws sz o) (mm_Qx xl D ws sz o) (b0 - o.2.2.1) (c0 - o.2.2.2) (va_A ws sz)
theorem mm_blind (K : mm_dat) {xl : Nat → Nat} {D : va_G} {sc : Nat × (Nat → Int32)} {ws : va_W} {tys : List (ClassId × FieldType)} {sz : Nat} {as' : List Value} : FrameBlind (va_Pc as' (mm_Pc xl D sc ws tys sz)) :=
  fun a U g mk q => ⟨q.1, q.2.1, va_K.moved (u := U) (U := U.calling g mk a) (Vm.Alike.refl U.vm) q.2.2.1, q.2.2.2.1, q.2.2.2.2.1, mm_X.same (u := U) (U := U.calling g mk a) K rfl rfl q.2.2.2.2.2⟩
theorem mm_toMet {l : Launch} {y : MethodName} {ws : List Jvm.Cond} {rm : Room} {Pc : Array Value → State → Prop} {Qc : Array Value → State → Outcome → State → Prop} {XC : String → State → State → Prop} {mc ms : Nat} {free : Addr → Prop}
    (h : vx_Met l y ws rm Pc Qc XC mc ms free) (hX : ∀ E st t, ¬ XC E st t) : Met l y ws rm Pc Qc mc ms free := by
  intro p e h1 h2 h3 s m args below hf happ hP hK
  obtain ⟨n, o, a1, a2, a3, a4⟩ := h p e h1 h2 h3 s m args below hf happ hP hK
  refine ⟨n, o, a1, a2, a3, ?_⟩
  rcases a4 with a4 | ⟨q, -, E, ce, L, hx, -⟩
  · exact a4
  · exact absurd hx (hX _ _ _)
section MC
variable {p : Program} {l : Launch} {e : Env} {R : Room} {s : State} {m : MethodId} {args : Array Value} {below : List Frame} {meth : Method} {c : Code} {xl : Nat → Nat} {D : va_G} {w0 : va_W} {A : Nat → Prop} {sc : Nat × (Nat → Int32)} {j d bT cT : Nat} {Q : State → Prop} {nx r1 r2 r3 pc : Nat} {lo : List (Nat × Value)} {st : List Value} {W0 : mm_W} {b0 c0 : Nat} {F' : mm_F}
variable {ws : va_W} {tys : List (ClassId × FieldType)} {H : Heap} {locs : List Loc} {cells slots : Nat} {ls : Array Slot} {st' rest' st0 : List Value} {G : mm_F} {o : mm_O} {a : Array Value}
theorem mm_hA (hD : va_D A ws) (hS : va_S A s.heap H locs) (hall : ∀ q, s.heap.size ≤ q → A q) : ∀ q, va_A ws H.size q → A q := by
  intro q h
  rcases h with ⟨k, e, h⟩ | h
  · exact hD.2 k (q, e) h
  · exact hall q (Nat.le_trans hS.1 h)
/-- behind a call -/
theorem mm_run (C : mm_C p l R s m args meth c xl A sc j d) (hR : mm_R xl D w0 s A (md_mt j).2.2.1 bT cT G ws tys H locs cells slots ls rest')
    (hr : vx_Run p l e R s m args below meth c H locs cells slots (G.2.2.2.2.1 - o.2.2.1) (G.2.2.2.2.2 - o.2.2.2) (F0 m pc ls st0) rest' (mm_Qr xl D ws H.size o a) (mm_Qx xl D ws H.size o) (va_A ws H.size))
    (hb : o.2.2.1 ≤ G.2.2.2.2.1) (hc : o.2.2.2 ≤ G.2.2.2.2.2) (hpc : G.1 = pc)
    (k : ∀ v, o.1 = .inl v → mm_G p l e R s m args below meth c xl D w0 A j bT cT Q (pc + 3, G.2.1, v.toList ++ G.2.2.1, o.2.1, o.2.2.1, o.2.2.2))
    (kx : ∀ n, o.1 = .inr n → mm_Gx p l e R s m args below meth c xl D w0 A j bT cT Q n (G.1, G.2.1, G.2.2.1, o.2.1, o.2.2.1, o.2.2.2)) :
    W p l e R s m args below meth c H locs cells slots Q (F0 m pc ls st0) := by
  subst hpc
  obtain ⟨hst, ⟨lv, hls, hlo⟩, hw, hK, hP, hD, hS, hbb, hcc⟩ := hR
  have hA := mm_hA hD hS C.2.2.2.2.2.2.1
  intro T hT X
  rcases hr T hT X with ⟨v, st₀, t, T', L, h0, X', hL, e1, e2, ⟨⟨v0, v', ws2, tys2, ho, hv, hvo, hw2, hK2, hP2, hD2⟩, hF⟩, hgo⟩ | ⟨q, st₀, t, T', L, E, ce, h0, X', hL, e1, e2, ⟨⟨n, ws2, tys2, ho, hE, hw2, hK2, hP2, hD2⟩, hF⟩, hce, hcv, hcl, hgo⟩
  · cases hv
    have hle := hw2.2.2
    have hw2 : mm_w xl w0 tys2 o.2.1 ws2 := ⟨hw2.1, hw2.2.1, hw.2.2.tr hle⟩
    obtain ⟨k1, k2, k3⟩ := vx_keep h0 e1 hS (fun q _ z => hA q z) hA hL hF
    have hvm : s.vm.Alike t.vm := by rw [← e2]; exact X'.warmed.alike
    have hstv : mm_l xl ws2 (v0.toList ++ G.2.2.1) (v.toList ++ rest') := by
      refine mm_l.app ?_ (hst.mono hle)
      cases v0 with
      | none => rw [show v = none from hvo]; exact mm_l.nil
      | some z => obtain ⟨z', rfl, hz⟩ := hvo; exact mm_l.cons hz mm_l.nil
    obtain ⟨t2, a1, b1⟩ := k v0 ho ws2 tys2 T'.heap (locs ++ L) _ _ ls _ ⟨hstv, ⟨lv, hls, hlo.mono hle⟩, hw2, hK2.moved hvm.symm, by rw [e1]; exact hP2, hD2.weaken (fun _ _ _ z => hA _ z), k3, by show cells + (G.2.2.2.2.1 - o.2.2.1) + o.2.2.1 = bT; omega, by show slots + (G.2.2.2.2.2 - o.2.2.2) + o.2.2.2 = cT; omega⟩ T' rfl X'
    exact ⟨t2, hgo t2 a1, b1⟩
  · have hle := hw2.2.2
    have hw2 : mm_w xl w0 tys2 o.2.1 ws2 := ⟨hw2.1, hw2.2.1, hw.2.2.tr hle⟩
    obtain ⟨k1, k2, k3⟩ := vx_keep h0 e1 hS (fun q _ z => hA q z) hA hL hF
    have hvm : s.vm.Alike t.vm := by rw [← e2]; exact X'.warmed.alike
    subst hE
    obtain ⟨t2, a1, b1⟩ := kx n ho ws2 tys2 T'.heap (locs ++ L) _ _ ls _ q ce ⟨hst.mono hle, ⟨lv, hls, hlo.mono hle⟩, hw2, hK2.moved hvm.symm, by rw [e1]; exact hP2, hD2.weaken (fun _ _ _ z => hA _ z), k3, by show cells + (G.2.2.2.2.1 - o.2.2.1) + o.2.2.1 = bT; omega, by show slots + (G.2.2.2.2.2 - o.2.2.2) + o.2.2.2 = cT; omega⟩ (by rw [e1]; exact hce) hcv hcl T' rfl X'
    exact ⟨t2, hgo.trans a1, b1⟩
/-- a callee's own tables -/
def mm_cal (r1 n : Nat) : Prop :=
  (if (md_mt r1).2.2.2.2 = [] then Jvm.Cond.code (md_mt r1).1 (md_mt r1).2.1 (md_mt r1).2.2.1 (md_mt r1).2.2.2.1 else Jvm.Cond.codeWith (md_mt r1).1 (md_mt r1).2.1 (md_mt r1).2.2.1 (md_mt r1).2.2.2.1 (md_mt r1).2.2.2.2) ∈ md_Tg ∧
  (md_mt r1).2.2.1 ≤ 21 ∧ ((md_mt r1).1.cls ≠ "java/lang/invoke/MethodHandle" ∧ (md_mt r1).1.cls ≠ "java/lang/invoke/VarHandle" ∧ (parseMethodDescriptor (md_mt r1).1.desc).map (fun d => d.parameters.length) = some n)
def mm_rcv (r3 : Nat) (E : String) : Prop := (r3 < 1000 ∧ ∃ T N, md_cl[r3]? = some (E, T, N)) ∨ (1000 ≤ r3 ∧ md_xcn (r3 - 1000) = E)
theorem mm_recv (C : mm_C p l R s m args meth c xl A sc j d) (K : mm_dat) (hw : mm_w xl w0 tys W0 ws) (hK : va_K D md_cl tys s) (hP : va_P D md_cl ws H) (hS : va_S A s.heap H locs) {k av : Nat} (ha : mm_ad xl ws k = some av) (hc : mm_cls W0 k = some r3) {E : String} (hr : mm_rcv r3 E) :
    ∃ cell : Cell, H[av]? = some cell ∧ cell.vm.isStatics = false ∧ s.vm.findClass E = some cell.cls := by
  rcases mm_cls_in hc with ⟨hx, fs, hk⟩ | ⟨hx, q, hq, hn⟩
  · obtain ⟨fs', h1, -⟩ := hw.ob hx ha hk
    rcases hr with ⟨-, T, N, hcl⟩ | ⟨hge, -⟩
    · exact va_recv hK hP hcl h1
    · obtain ⟨r, hr2, -⟩ := hP _ _ h1
      exact absurd (K.2.2.2.2.2.2.2.2 _ _ hr2) (by omega)
  · rcases hr with ⟨hlt, -⟩ | ⟨hge, hE⟩
    · omega
    · have hq2 : r3 - 1000 = q := by omega
      rw [hq2] at hE
      cases mm_ad_out ha hx
      have hO := C.2.2.2.2.2.1.2.1 _ _ hq
      rw [hE] at hO
      exact va_Orecv hO hS
theorem mm_good (K : mm_dat) {L : List Jvm.Cond} (hL : ∀ w ∈ L, w ∈ md_Tg) {n : Nat} (hc : mm_cal r1 n) : GoodIn md_Tg (L ++ mm_ws r1) := by
  intro w hw
  rcases List.mem_append.mp hw with h | h
  · exact ⟨hL w h, good_of_word (K.2.2.2.2.2.2.2.1 w (hL w h))⟩
  · rcases List.mem_cons.mp h with rfl | h
    · exact ⟨hc.1, good_of_word (K.2.2.2.2.2.2.2.1 _ hc.1)⟩
    · exact ⟨h, good_of_word (K.2.2.2.2.2.2.2.1 w h)⟩
theorem mm_ws0 (h : (md_mt r1).2.2.2.2 = []) : mm_ws r1 = Jvm.Cond.code (md_mt r1).1 (md_mt r1).2.1 (md_mt r1).2.2.1 (md_mt r1).2.2.2.1 :: md_Tg := by unfold mm_ws; rw [if_pos h]
theorem mm_ws1 (h : ¬ (md_mt r1).2.2.2.2 = []) : mm_ws r1 = Jvm.Cond.codeWith (md_mt r1).1 (md_mt r1).2.1 (md_mt r1).2.2.1 (md_mt r1).2.2.2.1 (md_mt r1).2.2.2.2 :: md_Tg := by unfold mm_ws; rw [if_neg h]
/-- what the callee's start needs -/
theorem mm_PS (C : mm_C p l R s m args meth c xl A sc j d) (K : mm_dat) (hK : va_K D md_cl tys s) (hP : va_P D md_cl ws H) (hD : va_D A ws) (hS : va_S A s.heap H locs) {As : List Value} : PreS s H (va_Pc As (mm_Pc xl D sc ws tys H.size)) As :=
  ⟨mm_blind K, fun U hU hW => ⟨rfl, by rw [hU], hK.moved hW.alike, by rw [hU]; exact hP, hD.weaken (fun _ _ _ _ => trivial), mm_X.call K hS hU hW (mm_hA hD hS C.2.2.2.2.2.2.1) C.2.2.2.2.2.1⟩⟩
theorem mm_PV (C : mm_C p l R s m args meth c xl A sc j d) (K : mm_dat) (hK : va_K D md_cl tys s) (hP : va_P D md_cl ws H) (hD : va_D A ws) (hS : va_S A s.heap H locs) {As : List Value} {av : Nat} {E : String} (hrc : ∃ cell : Cell, H[av]? = some cell ∧ cell.vm.isStatics = false ∧ s.vm.findClass E = some cell.cls) : PreV s H E av (va_Pc (.ref av :: As) (mm_Pc xl D sc ws tys H.size)) As :=
  ⟨mm_blind K, hrc, fun U hU hW => ⟨rfl, by rw [hU], hK.moved hW.alike, by rw [hU]; exact hP, hD.weaken (fun _ _ _ _ => trivial), mm_X.call K hS hU hW (mm_hA hD hS C.2.2.2.2.2.2.1) C.2.2.2.2.2.1⟩⟩
theorem mm_fix (C : mm_C p l R s m args meth c xl A sc j d) : CallFix p m c (md_mt j).2.1 (md_mt j).2.2.1 s args md_Tg (md_mt j).1.cls := ⟨C.1, C.2.1, C.2.2.1, C.2.2.2.1, C.2.2.2.2.1⟩
set_option maxRecDepth 100000 in
theorem mm_arith {x y z : Nat} (h : x ≤ 21) (h2 : 40 * (y + 1) + 300 ≤ z) : 8 + (x + 11) + (40 * y + 300) ≤ z := by omega
theorem mm_room (C : mm_C p l R s m args meth c xl A sc j (d + 1)) {n mc ms : Nat} (hc : mm_cal r1 n) : (mm_rm d mc ms).frames + 1 ≤ R.frames ∧ 8 + ((md_mt r1).2.2.1 + 11) + (mm_rm d mc ms).locals ≤ R.locals := by
  obtain ⟨-, -, -, -, -, -, -, -, -, -, -, h1, h2, -⟩ := C
  have h3 := hc.2.1
  constructor
  · have h4 : (mm_rm d mc ms).frames = d + 12 := rfl
    rw [h4]
    omega
  · exact mm_arith h3 h2
theorem mm_cut {n : Nat} (hst : mm_l xl ws st st') (hlen : ¬ st.length < n) : mm_l xl ws (st.take n).reverse (st'.take n).reverse ∧ mm_l xl ws (st.drop n) (st'.drop n) ∧ (st'.take n).reverse.length = n ∧ st' = (st'.take n).reverse.reverse ++ st'.drop n := by
  obtain ⟨h1, h2⟩ := hst.split n
  have hl := hst.len
  refine ⟨h1.rev, h2, ?_, ?_⟩
  · rw [List.length_reverse, List.length_take]; omega
  · rw [List.reverse_reverse, List.take_append_drop]
/-- what a call's step was -/
theorem mm_call0 {nx2 : Nat} {as : List Value} {fl : Bool} {j2 : Nat} (h : mm_call r1 r2 r3 pc nx lo st W0 b0 c0 = some (.inr (.inr (j2, as, nx2, fl, G)))) :
    ¬ st.length < r2 % 16 ∧ j2 = r1 ∧ nx2 = nx ∧
    ((r2 / 16 = 1 ∧ fl = true ∧ as = (st.take (r2 % 16)).reverse ∧ G = (pc, lo, st.drop (r2 % 16), W0, b0, c0) ∧ ((st.drop (r2 % 16)).map fun v => v.category).sum ≤ 8) ∨
     (∃ k rest, ((r2 / 16 = 0 ∧ fl = true) ∨ (r2 / 16 = 2 ∧ fl = false)) ∧ st.drop (r2 % 16) = .ref k :: rest ∧ mm_cls W0 k = some r3 ∧ as = .ref k :: (st.take (r2 % 16)).reverse ∧ G = (pc, lo, rest, W0, b0, c0) ∧ (rest.map fun v => v.category).sum ≤ 8)) := by
  unfold mm_call at h
  split at h
  · cases h
  · rename_i hl
    refine ⟨hl, ?_⟩
    dsimp only at h
    split at h
    · rename_i hk
      split at h
      · rename_i k rest hrest
        split at h
        · rename_i hc
          cases h
          exact ⟨rfl, rfl, Or.inr ⟨k, rest, Or.inl ⟨hk, rfl⟩, hrest, hc.1, rfl, rfl, hc.2⟩⟩
        · cases h
      · cases h
    · rename_i hk
      split at h
      · rename_i k rest hrest
        split at h
        · rename_i hc
          cases h
          exact ⟨rfl, rfl, Or.inr ⟨k, rest, Or.inr ⟨hk, rfl⟩, hrest, hc.1, rfl, rfl, hc.2⟩⟩
        · cases h
      · cases h
    · rename_i hk
      split at h
      · rename_i hc
        cases h
        exact ⟨rfl, rfl, Or.inl ⟨hk, rfl, rfl, rfl, hc⟩⟩
      · cases h
    · split at h
      · split at h <;> cases h
      · cases h
    · split at h
      · split at h
        · obtain ⟨W2, -, h⟩ := Option.map_eq_some_iff.mp h
          cases h
        · cases h
      · cases h
    · cases h
/-- invokevirtual: the method itself (may throw), or one that is inherited -/
theorem mi_callV (C : mm_C p l R s m args meth c xl A sc j (d + 1)) (K : mm_dat) {i : Nat} (hd : decode (md_mt j).2.1 pc = .ok (.invokevirtual i, 3)) (hn : nx = pc + 3) (hcal : mm_cal r1 (r2 % 16)) (hh : (md_mt r1).2.2.2.2 = []) (hk1 : r2 / 16 ≠ 1)
    (ho0 : r2 / 16 = 0 → mm_rcv r3 (md_mt r1).1.cls ∧ (∀ w ∈ ([.methodLink (md_mt j).1.cls i (md_mt r1).1, .instanceMethod (md_mt r1).1, .selects (md_mt r1).1.cls (md_mt r1).1 (md_mt r1).1, .initialized (md_mt r1).1.cls] : List Jvm.Cond), w ∈ md_Tg))
    (ho2 : r2 / 16 = 2 → ∃ x : MethodName, (md_mt r1).1 = ⟨(md_mt r1).1.cls, x.name, x.desc⟩ ∧ mm_rcv r3 x.cls ∧ (∀ w ∈ ([.methodLink (md_mt j).1.cls i x, .sameMethod x.cls (md_mt r1).1.cls x.name x.desc, .selects x.cls x (md_mt r1).1, .instanceMethod (md_mt r1).1, .initialized (md_mt r1).1.cls] : List Jvm.Cond), w ∈ md_Tg))
    {nx2 : Nat} {as : List Value} {fl : Bool} {j2 : Nat} (h : mm_stepI (md_xa sc) j (.invokevirtual i) nx r1 r2 r3 pc lo st W0 b0 c0 = some (.inr (.inr (j2, as, nx2, fl, G))))
    (hM : mm_M l sc d j2 as G.2.2.2.1 G.2.2.2.2.1 G.2.2.2.2.2 o) (hfl : fl = false → ∃ v, o.1 = .inl v) (hb : o.2.2.1 ≤ G.2.2.2.2.1) (hc : o.2.2.2 ≤ G.2.2.2.2.2) (hbR : bT ≤ R.cells + o.2.2.1) (hcR : cT ≤ R.slots + o.2.2.2)
    (k : ∀ v, o.1 = .inl v → mm_G p l e R s m args below meth c xl D w0 A j bT cT Q (nx2, G.2.1, v.toList ++ G.2.2.1, o.2.1, o.2.2.1, o.2.2.2))
    (kx : ∀ n, o.1 = .inr n → mm_Gx p l e R s m args below meth c xl D w0 A j bT cT Q n (G.1, G.2.1, G.2.2.1, o.2.1, o.2.2.1, o.2.2.2)) :
    mm_G p l e R s m args below meth c xl D w0 A j bT cT Q (pc, lo, st, W0, b0, c0) := by
  subst hn
  simp only [mm_stepI] at h
  have h9 := mm_call0 h
  clear h
  obtain ⟨hlen, rfl, rfl, h⟩ := h9
  intro ws tys H locs cells slots ls st' hR
  obtain ⟨hst, ⟨lv, hls, hlo⟩, hw, hK, hP, hD, hS, hbb, hcc⟩ := hR
  dsimp only at hst hlo hw hbb hcc
  obtain ⟨hAs, hrs, hlenA, hsplit⟩ := mm_cut hst hlen
  rcases h with ⟨hk, -⟩ | ⟨kr, rest, hkind, hdrop, hcls, rfl, rfl, hsum⟩
  · exact absurd hk hk1
  · rw [hdrop] at hrs
    obtain ⟨_, rest', hrest', hv, hrs⟩ := mm_l.un hrs
    obtain ⟨av, hav, rfl⟩ := mm_v.rr hv
    rw [hrest'] at hsplit
    dsimp only at hM hb hc k kx
    have hsum' : 2 * (F0 m pc ls st').monitorRoom + (rest'.map fun v => v.category).sum ≤ 8 := by
      rw [hrs.cats]
      show 2 * 0 + _ ≤ 8
      omega
    have hMM := hM xl D ws tys (.ref av :: (st'.take (r2 % 16)).reverse) H.size (mm_l.cons hv hAs) ⟨hw.1, hw.2.1, mm_le.rf⟩
    have hf : cells + (b0 - o.2.2.1) ≤ R.cells ∧ slots + (c0 - o.2.2.2) ≤ R.slots := by constructor <;> omega
    have hRG : mm_R xl D w0 s A (md_mt j).2.2.1 bT cT (pc, lo, rest, W0, b0, c0) ws tys H locs cells slots ls rest' := ⟨hrs, ⟨lv, hls, hlo⟩, hw, hK, hP, hD, hS, hbb, hcc⟩
    rcases hkind with ⟨h0, -⟩ | ⟨h2, rfl⟩
    · obtain ⟨hrc, hws⟩ := ho0 h0
      exact mm_run (G := (pc, lo, rest, W0, b0, c0)) (o := o) C hRG (vx_runV (As := (st'.take (r2 % 16)).reverse) (mm_fix C) hMM (cwV (r2 % 16) C.2.2.2.2.1 (mm_good K hws hcal) (mm_ws0 hh) rfl rfl ⟨rfl, hcal.2.2⟩ (mm_room C hcal)) (mm_PV C K hK hP hD hS (mm_recv C K hw hK hP hS hav hcls hrc)) rfl hlenA hls.1 hsplit hsum' hd hf) hb hc rfl k kx
    · obtain ⟨x, hxy, hrc, hws⟩ := ho2 h2
      obtain ⟨v, hv⟩ := hfl rfl
      have hMet := mm_toMet hMM (fun E st t z => by obtain ⟨⟨n, _, _, hz, -⟩, -⟩ := z; rw [hv] at hz; cases hz)
      have hdesc : (md_mt j2).1.desc = x.desc := by rw [hxy]
      exact mm_run (G := (pc, lo, rest, W0, b0, c0)) (o := o) C hRG (fun T hT X => Or.inl (va_runU (As := (st'.take (r2 % 16)).reverse) (mm_fix C) hMet (va_cwU (C := x.cls) (x := x) (r2 % 16) C.2.2.2.2.1 (mm_good K hws hcal) (mm_ws0 hh) rfl rfl hxy ⟨hcal.2.2.1, hcal.2.2.2.1, hdesc ▸ hcal.2.2.2.2⟩ (mm_room C hcal)) (mm_PV C K hK hP hD hS (mm_recv C K hw hK hP hS hav hcls hrc)) rfl hlenA hls.1 hsplit hsum' hd hf T hT X)) hb hc rfl k kx
/-- invokestatic -/
theorem mi_callS (C : mm_C p l R s m args meth c xl A sc j (d + 1)) (K : mm_dat) {i : Nat} (hd : decode (md_mt j).2.1 pc = .ok (.invokestatic i, 3)) (hn : nx = pc + 3) (hk1 : r2 / 16 = 1) (hcal : mm_cal r1 (r2 % 16))
    (hws : ∀ w ∈ ([.methodLink (md_mt j).1.cls i (md_mt r1).1, .static (md_mt r1).1, .initialized (md_mt r1).1.cls] : List Jvm.Cond), w ∈ md_Tg)
    {nx2 : Nat} {as : List Value} {fl : Bool} {j2 : Nat} (h : mm_stepI (md_xa sc) j (.invokestatic i) nx r1 r2 r3 pc lo st W0 b0 c0 = some (.inr (.inr (j2, as, nx2, fl, G))))
    (hM : mm_M l sc d j2 as G.2.2.2.1 G.2.2.2.2.1 G.2.2.2.2.2 o) (hb : o.2.2.1 ≤ G.2.2.2.2.1) (hc : o.2.2.2 ≤ G.2.2.2.2.2) (hbR : bT ≤ R.cells + o.2.2.1) (hcR : cT ≤ R.slots + o.2.2.2)
    (k : ∀ v, o.1 = .inl v → mm_G p l e R s m args below meth c xl D w0 A j bT cT Q (nx2, G.2.1, v.toList ++ G.2.2.1, o.2.1, o.2.2.1, o.2.2.2))
    (kx : ∀ n, o.1 = .inr n → mm_Gx p l e R s m args below meth c xl D w0 A j bT cT Q n (G.1, G.2.1, G.2.2.1, o.2.1, o.2.2.1, o.2.2.2)) :
    mm_G p l e R s m args below meth c xl D w0 A j bT cT Q (pc, lo, st, W0, b0, c0) := by
  subst hn
  simp only [mm_stepI] at h
  have h9 := mm_call0 h
  clear h
  obtain ⟨hlen, rfl, rfl, h⟩ := h9
  intro ws tys H locs cells slots ls st' hR
  obtain ⟨hst, ⟨lv, hls, hlo⟩, hw, hK, hP, hD, hS, hbb, hcc⟩ := hR
  dsimp only at hst hlo hw hbb hcc
  obtain ⟨hAs, hrs, hlenA, hsplit⟩ := mm_cut hst hlen
  rcases h with ⟨-, -, rfl, rfl, hsum⟩ | ⟨kr, rest, hkind, -⟩
  · dsimp only at hM hb hc k kx
    have hsum' : 2 * (F0 m pc ls st').monitorRoom + ((st'.drop (r2 % 16)).map fun v => v.category).sum ≤ 8 := by
      rw [hrs.cats]
      show 2 * 0 + _ ≤ 8
      omega
    have hMM := hM xl D ws tys (st'.take (r2 % 16)).reverse H.size hAs ⟨hw.1, hw.2.1, mm_le.rf⟩
    have hf : cells + (b0 - o.2.2.1) ≤ R.cells ∧ slots + (c0 - o.2.2.2) ≤ R.slots := by constructor <;> omega
    have hRG : mm_R xl D w0 s A (md_mt j).2.2.1 bT cT (pc, lo, st.drop (r2 % 16), W0, b0, c0) ws tys H locs cells slots ls (st'.drop (r2 % 16)) := ⟨hrs, ⟨lv, hls, hlo⟩, hw, hK, hP, hD, hS, hbb, hcc⟩
    by_cases hh : (md_mt j2).2.2.2.2 = []
    · exact mm_run (G := (pc, lo, st.drop (r2 % 16), W0, b0, c0)) (o := o) C hRG (vx_runS (As := (st'.take (r2 % 16)).reverse) (mm_fix C) hMM (va_cwS (r2 % 16) C.2.2.2.2.1 (mm_good K hws hcal) (mm_ws0 hh) rfl rfl hcal.2.2 (mm_room C hcal)) (mm_PS C K hK hP hD hS) rfl hlenA hls.1 hsplit hsum' hd hf) hb hc rfl k kx
    · exact mm_run (G := (pc, lo, st.drop (r2 % 16), W0, b0, c0)) (o := o) C hRG (vx_runSX (As := (st'.take (r2 % 16)).reverse) (mm_fix C) hMM (vx_cwSW (r2 % 16) C.2.2.2.2.1 (mm_good K hws hcal) (mm_ws1 hh) rfl rfl hcal.2.2 (mm_room C hcal)) (mm_PS C K hK hP hD hS) rfl hlenA hls.1 hsplit hsum' hd hf) hb hc rfl k kx
  · exfalso
    omega
/-- invokespecial of a constructor -/
theorem mi_callI (C : mm_C p l R s m args meth c xl A sc j (d + 1)) (K : mm_dat) {i : Nat} (hd : decode (md_mt j).2.1 pc = .ok (.invokespecial i, 3)) (hn : nx = pc + 3) (hk2 : r2 / 16 = 2) (hcal : mm_cal r1 (r2 % 16)) (hh : (md_mt r1).2.2.2.2 = []) (hret : (md_mt r1).2.2.2.1 = none) (hnm : (md_mt r1).1.name = "<init>")
    (hws : ∀ w ∈ ([.instanceMethod (md_mt r1).1, .initialized (md_mt r1).1.cls] : List Jvm.Cond), w ∈ md_Tg)
    (hlk : Jvm.Cond.methodLink (md_mt j).1.cls i (md_mt r1).1 ∈ md_Tg ∨ ∃ host, ((md_mt j).1.cls, i, (md_mt r1).1, host) ∈ md_nw)
    {nx2 : Nat} {as : List Value} {fl : Bool} {j2 : Nat} (h : mm_stepI (md_xa sc) j (.invokespecial i) nx r1 r2 r3 pc lo st W0 b0 c0 = some (.inr (.inr (j2, as, nx2, fl, G))))
    (hM : mm_M l sc d j2 as G.2.2.2.1 G.2.2.2.2.1 G.2.2.2.2.2 o) (hfl : fl = false → ∃ v, o.1 = .inl v) (hb : o.2.2.1 ≤ G.2.2.2.2.1) (hc : o.2.2.2 ≤ G.2.2.2.2.2) (hbR : bT ≤ R.cells + o.2.2.1) (hcR : cT ≤ R.slots + o.2.2.2)
    (k : ∀ v, o.1 = .inl v → mm_G p l e R s m args below meth c xl D w0 A j bT cT Q (nx2, G.2.1, v.toList ++ G.2.2.1, o.2.1, o.2.2.1, o.2.2.2))
    (kx : ∀ n, o.1 = .inr n → mm_Gx p l e R s m args below meth c xl D w0 A j bT cT Q n (G.1, G.2.1, G.2.2.1, o.2.1, o.2.2.1, o.2.2.2)) :
    mm_G p l e R s m args below meth c xl D w0 A j bT cT Q (pc, lo, st, W0, b0, c0) := by
  subst hn
  simp only [mm_stepI] at h
  have h9 := mm_call0 h
  clear h
  obtain ⟨hlen, rfl, rfl, h⟩ := h9
  intro ws tys H locs cells slots ls st' hR
  obtain ⟨hst, ⟨lv, hls, hlo⟩, hw, hK, hP, hD, hS, hbb, hcc⟩ := hR
  dsimp only at hst hlo hw hbb hcc
  obtain ⟨hAs, hrs, hlenA, hsplit⟩ := mm_cut hst hlen
  rcases h with ⟨hk, -⟩ | ⟨kr, rest, hkind, hdrop, hcls, rfl, rfl, hsum⟩
  · exfalso
    omega
  · rw [hdrop] at hrs
    obtain ⟨_, rest', hrest', hv, hrs⟩ := mm_l.un hrs
    obtain ⟨av, hav, rfl⟩ := mm_v.rr hv
    rw [hrest'] at hsplit
    dsimp only at hM hb hc k kx
    have hsum' : 2 * (F0 m pc ls st').monitorRoom + (rest'.map fun v => v.category).sum ≤ 8 := by
      rw [hrs.cats]
      show 2 * 0 + _ ≤ 8
      omega
    have hMM := hM xl D ws tys (.ref av :: (st'.take (r2 % 16)).reverse) H.size (mm_l.cons hv hAs) ⟨hw.1, hw.2.1, mm_le.rf⟩
    have hf : cells + (b0 - o.2.2.1) ≤ R.cells ∧ slots + (c0 - o.2.2.2) ≤ R.slots := by constructor <;> omega
    have hRG : mm_R xl D w0 s A (md_mt j).2.2.1 bT cT (pc, lo, rest, W0, b0, c0) ws tys H locs cells slots ls rest' := ⟨hrs, ⟨lv, hls, hlo⟩, hw, hK, hP, hD, hS, hbb, hcc⟩
    have hfl0 : fl = false := by
      rcases hkind with ⟨h0, -⟩ | ⟨-, h2⟩
      · omega
      · exact h2
    obtain ⟨v, hv⟩ := hfl hfl0
    have hMet := mm_toMet hMM (fun E st t z => by obtain ⟨⟨n, _, _, hz, -⟩, -⟩ := z; rw [hv] at hz; cases hz)
    have hwsr : mm_ws j2 = Jvm.Cond.code (md_mt j2).1 (md_mt j2).2.1 (md_mt j2).2.2.1 none :: md_Tg := by rw [mm_ws0 hh, hret]
    have hG : GoodIn md_Tg (mm_ws j2) := fun w hw => mm_good K hws hcal w (List.mem_append_right _ hw)
    have t1 : (Jvm.Cond.initialized (md_mt j2).1.cls).before args s = true := C.2.2.2.2.1 _ (hws _ (by simp))
    have t2 : (Jvm.Cond.instanceMethod (md_mt j2).1).before args s = true := C.2.2.2.2.1 _ (hws _ (by simp))
    rcases hlk with hlk | ⟨host, hlk⟩
    · exact mm_run (G := (pc, lo, rest, W0, b0, c0)) (o := o) C hRG (fun T hT X => Or.inl (va_runI (As := (st'.take (r2 % 16)).reverse) (mm_fix C) hMet (cwI (r2 % 16) C.2.2.2.2.1 hG hwsr rfl rfl t1 (C.2.2.2.2.1 _ hlk) t2 hnm hcal.2.2 (mm_room C hcal)) (mm_PS C K hK hP hD hS) rfl hlenA hls.1 hsplit hsum' hd hf T hT X)) hb hc rfl k kx
    · exact mm_run (G := (pc, lo, rest, W0, b0, c0)) (o := o) C hRG (fun T hT X => Or.inl (va_runIN (As := (st'.take (r2 % 16)).reverse) (mm_fix C) hMet ⟨va_cnB (r2 % 16) C.2.2.2.2.1 hG hwsr rfl rfl (C.2.2.2.2.2.1.2.2.2.2.2.2.1 _ hlk) t1 hcal.2.2 (mm_room C hcal), hnm, t2⟩ (mm_PS C K hK hP hD hS) rfl hlenA hls.1 hsplit hsum' hd hf T hT X)) hb hc rfl k kx
/-- invokespecial of Object's constructor -/
theorem mi_objInit (C : mm_C p l R s m args meth c xl A sc j d) {i : Nat} (hd : decode (md_mt j).2.1 pc = .ok (.invokespecial i, 3)) (hn : nx = pc + 3)
    (hws : ∀ w ∈ ([.methodLink (md_mt j).1.cls i Lib.objectInit, .instanceMethod Lib.objectInit, .code Lib.objectInit ⟨#[0xb1]⟩ 1 none] : List Jvm.Cond), w ∈ md_Tg) (h5 : r2 / 16 = 5)
    (h : mm_stepI (md_xa sc) j (.invokespecial i) nx r1 r2 r3 pc lo st W0 b0 c0 = some (.inl F')) (k : mm_G p l e R s m args below meth c xl D w0 A j bT cT Q F') : mm_G p l e R s m args below meth c xl D w0 A j bT cT Q (pc, lo, st, W0, b0, c0) := by
  subst hn
  simp only [mm_stepI, mm_call, h5] at h
  split at h
  · cases h
  · split at h
    · split at h
      · rename_i hsum
        cases h
        intro ws tys H locs cells slots ls st' hR
        obtain ⟨hst, ⟨lv, hls, hlo⟩, hR⟩ := hR
        have hst0 := mm_l.un hst
        clear hst
        obtain ⟨_, rest', rfl, hv, hst⟩ := hst0
        obtain ⟨a, ha, rfl⟩ := mm_v.rr hv
        refine W.objInit C.1 C.2.1 C.2.2.2.1 (C.2.2.2.2.1 _ (hws _ (by simp))) (C.2.2.2.2.1 _ (hws _ (by simp))) (C.2.2.2.2.1 _ (hws _ (by simp))) rfl (hls.1.trans C.2.2.1.symm) rfl hd ?_ ?_ (k _ _ _ _ _ _ _ _ ⟨hst, ⟨lv, hls, hlo⟩, hR⟩)
        · have := C.2.2.2.2.2.2.2.2.2.2.2.1
          omega
        · have := C.2.2.2.2.2.2.2.2.2.2.2.2.1
          have h9 := hst.cats
          show 2 * 0 + (rest'.map fun v => v.category).sum + 12 ≤ R.locals
          omega
      · cases h
    · cases h
/-- System.arraycopy -/
theorem mi_copy (C : mm_C p l R s m args meth c xl A sc j d) (K : mm_dat) {i : Nat} (hd : decode (md_mt j).2.1 pc = .ok (.invokestatic i, 3)) (hn : nx = pc + 3)
    (hws : ∀ w ∈ ([.methodLink (md_mt j).1.cls i arraycopyName, .native arraycopyName, .static arraycopyName, .initialized "java/lang/System"] : List Jvm.Cond), w ∈ md_Tg) (h6 : r2 / 16 = 6)
    (h : mm_stepI (md_xa sc) j (.invokestatic i) nx r1 r2 r3 pc lo st W0 b0 c0 = some (.inl F')) (k : mm_G p l e R s m args below meth c xl D w0 A j bT cT Q F') : mm_G p l e R s m args below meth c xl D w0 A j bT cT Q (pc, lo, st, W0, b0, c0) := by
  subst hn
  simp only [mm_stepI, mm_call, h6] at h
  split at h
  · cases h
  · split at h
    · split at h
      · rename_i hsum
        obtain ⟨W2, hg, h⟩ := Option.map_eq_some_iff.mp h
        cases h
        intro ws tys H locs cells slots ls st' hR0
        obtain ⟨hst, ⟨lv, hls, hlo⟩, hw, hK, hP, hD, hS, hR⟩ := id hR0
        have hst0 := mm_l.un hst
        clear hst
        obtain ⟨_, _, rfl, hv, hst⟩ := hst0
        cases mm_v.ri hv
        have hst0 := mm_l.un hst
        clear hst
        obtain ⟨_, _, rfl, hv, hst⟩ := hst0
        cases mm_v.ri hv
        have hst0 := mm_l.un hst
        clear hst
        obtain ⟨_, _, rfl, hv, hst⟩ := hst0
        obtain ⟨ad, had, rfl⟩ := mm_v.rr hv
        have hst0 := mm_l.un hst
        clear hst
        obtain ⟨_, _, rfl, hv, hst⟩ := hst0
        cases mm_v.ri hv
        have hst0 := mm_l.un hst
        clear hst
        obtain ⟨_, rest', rfl, hv, hst⟩ := hst0
        obtain ⟨as, has, rfl⟩ := mm_v.rr hv
        have hfr : 1 ≤ R.frames := by
          have := C.2.2.2.2.2.2.2.2.2.2.2.1
          omega
        have hloc : (rest'.map fun v => v.category).sum + (nativeFrameWords "java/lang/System" "arraycopy" 5 + 11) ≤ R.locals := by
          have h8 := C.2.2.2.2.2.2.2.2.2.2.2.2.1
          have h9 := hst.cats
          have h10 : nativeFrameWords "java/lang/System" "arraycopy" 5 ≤ 100 := by decide +kernel
          omega
        have t1 := C.2.2.2.2.1 _ (hws (.methodLink (md_mt j).1.cls i arraycopyName) (by simp))
        have t2 := C.2.2.2.2.1 _ (hws (.native arraycopyName) (by simp))
        have t3 := C.2.2.2.2.1 _ (hws (.static arraycopyName) (by simp))
        have t4 := C.2.2.2.2.1 _ (hws (.initialized "java/lang/System") (by simp))
        have hml : c.maxLocals = ls.size := C.2.2.1.trans hls.1.symm
        unfold mm_cpy at hg
        split at hg
        · cases hg
        · rename_i hneg
          have n1 : ¬ _ := fun z => hneg (Or.inl z)
          have n2 : ¬ _ := fun z => hneg (Or.inr (Or.inl z))
          have n3 : ¬ _ := fun z => hneg (Or.inr (Or.inr (Or.inl z)))
          have n4 : _ := Decidable.byContradiction (fun z => hneg (Or.inr (Or.inr (Or.inr (Or.inl z)))))
          have n5 : _ := Decidable.byContradiction (fun z => hneg (Or.inr (Or.inr (Or.inr (Or.inr z)))))
          split at hg
          · rename_i n0 f n9 g hks hkd
            split at hg
            · rename_i hlen
              cases hg
              obtain ⟨cA, t0, q1, q2, -⟩ := hw.ai n4 has hks
              obtain ⟨cB, t5, q3, q4, -⟩ := hw.ai n5 had hkd
              have q4' := q4
              rw [K.2.1] at q2 q4
              exact va_copyi C.1 C.2.1 hml C.2.2.2.1 t1 t2 t3 t4 hK hP hD hS _ _ _ _ q1 q3 q2 q4 rfl n1 n2 n3 hlen.1 hlen.2 (fun _ _ => rfl) hfr hloc hd (fun H1 locs1 hP1 hD1 hS1 => k _ _ _ _ _ _ _ _ (mm_lset hR0 q3 (mm_e.i q4' (Or.inl rfl)) hP1 hD1 hS1 (fun _ => trivial) hst (st2 := [])))
            · cases hg
          · rename_i n0 f n9 g hks hkd
            split at hg
            · rename_i hlen
              cases hg
              obtain ⟨cA, t0, q1, q2, -⟩ := hw.al n4 has hks
              obtain ⟨cB, t5, q3, q4, -⟩ := hw.al n5 had hkd
              have q4' := q4
              rw [K.2.2.1] at q2 q4
              exact va_copyl C.1 C.2.1 hml C.2.2.2.1 t1 t2 t3 t4 hK hP hD hS _ _ _ _ q1 q3 q2 q4 rfl n1 n2 n3 hlen.1 hlen.2 (fun _ _ => rfl) hfr hloc hd (fun H1 locs1 hP1 hD1 hS1 => k _ _ _ _ _ _ _ _ (mm_lset hR0 q3 (mm_e.j q4' rfl) hP1 hD1 hS1 (fun _ => trivial) hst (st2 := [])))
            · cases hg
          · cases hg
      · cases h
    · cases h
end MC
