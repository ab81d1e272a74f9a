section
/-! ===== BEGIN words of one list among another's, by their places ===== -/
theorem goodIn_r {big : List Cond} (ws : List Cond) (ps : List Nat) (hp : ws = ps.filterMap (fun i => big[i]?)) (h : ws.all goodWord = true) : GoodIn big ws := by
  intro w hw
  have h1 := List.all_eq_true.mp h w hw
  rw [hp] at hw
  obtain ⟨i, -, hi⟩ := List.mem_filterMap.mp hw
  have hm : w ∈ big := by first | exact List.mem_of_getElem? hi | exact List.getElem?_mem hi
  exact ⟨hm, good_of_word h1⟩
theorem goodIn_app {big a b : List Cond} (ha : GoodIn big a) (hb : GoodIn big b) : GoodIn big (a ++ b) := fun w h => (List.mem_append.mp h).elim (ha w) (hb w)
theorem goodIn_ca {big a b : List Cond} {c : Cond} (ha : GoodIn big (c :: a)) (hb : GoodIn big b) : GoodIn big (c :: (a ++ b)) := fun w h => (List.mem_cons.mp h).elim (fun e => ha w (List.mem_cons.mpr (Or.inl e))) (fun h => (List.mem_append.mp h).elim (fun h => ha w (List.mem_cons.mpr (Or.inr h))) (hb w))
theorem goodIn_sub {big ws : List Cond} (hm : ∀ w ∈ ws, w ∈ big) (h : ws.all goodWord = true) : GoodIn big ws := fun w hw => ⟨hm w hw, good_of_word (List.all_eq_true.mp h w hw)⟩
/-! ===== END ===== -/
/-! ===== BEGIN exceptions that leave a method, and their catching by the caller (launches without stack traces) ===== -/
section VXA
/-! The laws vx_back, vx_callV, vx_callS, vx_callSW, vx_throw0, vx_throwS follow proofs of the library, with one case more: JvmDerived/Free/Laws.lean (Back.of_free), Shelf42/LK1.lean (callV, callS), Shelf/KitTraced.lean (throwNew0V, throwNewS). -/
/-- where a method has thrown q: the class by its name, the cell, what was written, the world -/
def vx_T (XC : String → State → State → Prop) (st : State) (q : Addr) (t : State) (mc ms : Nat) (free : Addr → Prop) : Prop :=
  ∃ (E : String) (ce : Cell) (L : List Loc), XC E st t ∧ t.heap[q]? = some ce ∧ ce.vm = .none ∧ st.vm.findClass E = some ce.cls ∧ st.WarmedH t.vm ∧ st.sameButNew ({ t with vm := st.vm } : State) L mc ms ∧ ∀ z ∈ L, free z.base
def vx_Q (Qc : Array Value → State → Outcome → State → Prop) (XC : String → State → State → Prop) (mc ms : Nat) (free : Addr → Prop) : Array Value → State → Outcome → State → Prop := fun a st o t =>
  (Qc a st o t ∧ ∃ L, FrameEnd st o t L mc ms ∧ ∀ q ∈ L, free q.base) ∨ ∃ q, o = .threw q ∧ vx_T XC st q t mc ms free
/-- a callee that returns or throws -/
def vx_Met (l : Launch) (y : MethodName) (ws : List Cond) (rm : Room) (Pc : Array Value → State → Prop) (Qc : Array Value → State → Outcome → State → Prop) (XC : String → State → State → Prop) (mc ms : Nat) (free : Addr → Prop) : Prop :=
  MetFree l y (headSpec ws rm) Pc (fun _ _ _ _ _ => True) (vx_Q Qc XC mc ms free)
def vx_Post (XC : String → State → State → Prop) (mc ms : Nat) (free : Addr → Prop) : Pt → Array Value → Addr → Pt → Prop := fun A a q B =>
  ∃ (g : JFrame) (mk : MethodId) (t : State) (L : List Loc) (E : String) (ce : Cell), B.U.heap = t.heap ∧ B.U.vm = t.vm ∧ XC E (A.U.calling g mk a) t ∧ t.heap[q]? = some ce ∧ ce.vm = .none ∧ A.U.vm.findClass E = some ce.cls ∧ B.locs = A.locs ++ L ∧ (∀ z ∈ L, free z.base) ∧ B.cells = A.cells + mc ∧ B.slots = A.slots + ms
def vx_Back (l : Launch) (R : Room) (p : Program) (e : Env) (below : List Frame) (s : State) (sargs : Array Value) (y : MethodName) (len W9 : Nat)
    (Pre : Pt → Array Value → Prop) (Post : Pt → Array Value → Option Value → Pt → Prop) (PostX : Pt → Array Value → Addr → Pt → Prop) : Prop :=
  ∀ (m : MethodId) (meth : Method) (c : Code) (A : Pt) (g : JFrame) (ig : Instr) (mk : MethodId) (a : Array Value),
    Stand p l e R s m sargs below meth c A.U A.locs A.cells A.slots → g.method = m → g.locals.size = c.maxLocals → decode c.code g.pc = .ok (ig, len) →
    2 * g.monitorRoom + (g.stack.map fun v => v.category).sum ≤ W9 → A.U.methodNamed? y = some mk → Pre A a →
    (∃ (v : Option Value) (B : Pt), Stand p l e R s m sargs below meth c B.U B.locs B.cells B.slots ∧ Post A a v B ∧
      Steps p.tables e below (doInvoke e (A.U.setTop g) [] mk a).1 (B.U.setTop { g with pc := g.pc + len, stack := v.toList ++ g.stack })) ∨
    (∃ (q : Addr) (B : Pt), Stand p l e R s m sargs below meth c B.U B.locs B.cells B.slots ∧ PostX A a q B ∧
      Steps p.tables e below (doInvoke e (A.U.setTop g) [] mk a).1 ((B.U.setTop g).pushFrame (.throwing q)))
section Payer
variable {l : Launch} {R : Room} {p : Program} {e : Env} {below : List Frame} {s : State} {sargs : Array Value} {y : MethodName} {len W9 : Nat}
theorem vx_back {ws : List Cond} {rm : Room} {Pc : Array Value → State → Prop} {Qc : Array Value → State → Outcome → State → Prop} {XC : String → State → State → Prop} {mc ms : Nat} {free : Addr → Prop} {bytes : ByteArray} {maxL : Nat} {ret : Option FieldType}
    (hM : vx_Met l y ws rm Pc Qc XC mc ms free) (hblind : FrameBlind Pc) (hrc : rm.cells = mc) (hrs : rm.slots = ms)
    (hframes : rm.frames + 1 ≤ R.frames) (hlocals : W9 + (maxL + 11) + rm.locals ≤ R.locals)
    (hws : ∀ w ∈ ws, ∀ a' U, s.WarmedH U.vm → w.before a' U = true) (hcode : Cond.code y bytes maxL ret ∈ ws) (hinit : ∀ a' U, s.WarmedH U.vm → (Cond.initialized y.cls).before a' U = true) :
    vx_Back l R p e below s sargs y len W9 (PreOf R mc ms Pc) (PostOf Qc mc ms free) (vx_Post XC mc ms free) := by
  intro m meth c A g ig mk a X hg hsize hdg hW hn hp
  have h1 : (headSpec ws rm).pre.before a A.U = true := atoms_intro fun w hw => hws w hw _ _ X.warmed
  have h2 : (Cond.code y bytes maxL ret).before a A.U = true := hws _ hcode _ _ X.warmed
  have h3 : (Cond.initialized y.cls).before a A.U = true := hinit _ _ X.warmed
  have h4 : A.cells + (headSpec ws rm).room.cells ≤ R.cells := by rw [show (headSpec ws rm).room.cells = mc from hrc]; exact hp.1
  have h5 : A.slots + (headSpec ws rm).room.slots ≤ R.slots := by rw [show (headSpec ws rm).room.slots = ms from hrs]; exact hp.2.1
  have hPc : Pc a (A.U.calling g mk a) := hblind _ _ _ _ hp.2.2
  obtain ⟨U, Ls, c0, s0⟩ := A
  dsimp only [Pt.U, Pt.locs, Pt.cells, Pt.slots] at h1 h2 h3 h4 h5 X hn hPc ⊢
  obtain ⟨methY, cY, hmY, hcY, -, hlY, -, -, -, -⟩ := Cond.code_spec hn h2
  obtain ⟨kY, hkY, -⟩ := className_of_methodNamed hn
  have hinitY : kY.init = .initialized := Cond.initialized_spec (findClass_of_methodNamed hn) hkY h3
  have h : At U g.method c below := by rw [hg]; exact X.here
  have hlocals9 : W9 + (maxL + 11) + (headSpec ws rm).room.locals ≤ R.locals := hlocals
  have happ : (headSpec ws rm).appliesLoose y e.platform (U.calling g mk a) = true :=
    Spec.appliesLoose_calling (g := g) h hdg hn hkY hinitY
      (X.room_calling (g := g) (R' := (headSpec ws rm).room) hsize hmY hcY hframes (by rw [hlY]; omega) h4 h5) h1
  obtain ⟨mid, hmid⟩ := h.above
  have hfr : (U.setTop g).frames = (.java g :: mid) ++ below := by rw [State.frames_setTop' g h.top, hmid]; rfl
  obtain ⟨o, s₂, hsteps, -, hend, hq⟩ := Steps.callFree hM p X.admits X.cas X.clock (acts := []) hfr happ hPc trivial
  have hq' : vx_Q Qc XC mc ms free a (U.calling g mk a) o s₂ := hq
  rw [State.frames_setTop' g h.top] at hend
  obtain ⟨g₀, hg0⟩ := Option.isSome_iff_exists.mp h.top
  obtain ⟨r, hr⟩ := State.topJava?_eq_some.mp hg0
  have hr' : (({ U with heap := s₂.heap, slotsUsed := s₂.slotsUsed } : State).setVm s₂.vm).frames = .java g₀ :: r := hr
  rcases hq' with ⟨hqc, L, hfe, hL⟩ | ⟨q, rfl, E, ce, L, hx, hce, hcv, hcl, hW₂, hsm, hL⟩
  · obtain ⟨⟨v, rfl⟩, hW₂, e2, q2, q3, q4, q5, q6⟩ := id hfe
    have e3 : s₂ = ({ (U.calling g mk a).setFrames s₂.frames with heap := s₂.heap, slotsUsed := s₂.slotsUsed } : State).setVm s₂.vm := by
      have : s₂ = ({ s₂ with vm := (U.calling g mk a).vm } : State).setVm s₂.vm := rfl
      rw [e2] at this
      exact this
    obtain ⟨c₂, i₂, len₂, hc₂, hd₂, hf₂⟩ := hend
    have hW' : U.WarmedH s₂.vm := hW₂
    have hcc : c₂ = c := by
      have h1 : s₂.code? g.method = U.code? g.method := by
        rw [State.code?_eq, State.code?_eq, hW'.alike.method?]
      exact Option.some.inj (hc₂.symm.trans (h1.trans h.code))
    subst hcc
    have hlen : len₂ = len := by rw [hdg] at hd₂; cases hd₂; rfl
    subst hlen
    have hs₂ : s₂ = (({ U with heap := s₂.heap, slotsUsed := s₂.slotsUsed } : State).setVm s₂.vm).setTop { g with pc := g.pc + len₂, stack := v.toList ++ g.stack } := by
      refine e3.trans ?_
      rw [hf₂, State.calling_eq h.top, State.setFrames_setFrames, State.setTop_of_frames _ hr', hr]
      rfl
    have hsame : U.sameButNew ({ U with heap := s₂.heap, slotsUsed := s₂.slotsUsed } : State) L mc ms := by
      refine ⟨?_, q2, q3, q4, q5, q6⟩
      obtain ⟨t, ht, -⟩ := State.frames_cons hr
      show ({ U with heap := s₂.heap, slotsUsed := s₂.slotsUsed } : State) = { U.setFrames U.frames with heap := s₂.heap, slotsUsed := s₂.slotsUsed }
      rw [State.setFrames_self ht]
    subst hg
    refine Or.inl ⟨v, ⟨(({ U with heap := s₂.heap, slotsUsed := s₂.slotsUsed } : State).setVm s₂.vm), Ls ++ L, c0 + mc, s0 + ms⟩,
      ⟨X.admits, X.cas, X.clock, X.frames, X.room, X.hears, X.method, X.code, (X.here.setHeapUsed s₂.heap s₂.slotsUsed).setVm hW'.alike, X.tail, State.WarmedH.trans X.warmed hW', X.limits, X.bytes, X.same.trans (hsame.setVm s.vm)⟩,
      ⟨g, mk, s₂, L, rfl, rfl, hqc, rfl, hL, rfl, rfl⟩, ?_⟩
    show Steps p.tables e below _ ((({ U with heap := s₂.heap, slotsUsed := s₂.slotsUsed } : State).setVm s₂.vm).setTop { g with pc := g.pc + len₂, stack := v.toList ++ g.stack })
    rw [← hs₂]
    exact hsteps
  · obtain ⟨e2, q2, q3, q4, q5, q6⟩ := id hsm
    have e3 : s₂ = ({ (U.calling g mk a).setFrames s₂.frames with heap := s₂.heap, slotsUsed := s₂.slotsUsed } : State).setVm s₂.vm := by
      have : s₂ = ({ s₂ with vm := (U.calling g mk a).vm } : State).setVm s₂.vm := rfl
      rw [e2] at this
      exact this
    have hf₂ : s₂.frames = .throwing q :: .java g :: U.frames.tail := hend
    have hW' : U.WarmedH s₂.vm := hW₂
    have hs₂ : s₂ = ((({ U with heap := s₂.heap, slotsUsed := s₂.slotsUsed } : State).setVm s₂.vm).setTop g).pushFrame (.throwing q) := by
      refine e3.trans ?_
      rw [hf₂, State.calling_eq h.top, State.setFrames_setFrames, State.pushFrame, State.frames_setTop _ hr', State.setTop_of_frames _ hr', State.setFrames_setFrames, hr]
      rfl
    have hsame : U.sameButNew ({ U with heap := s₂.heap, slotsUsed := s₂.slotsUsed } : State) L mc ms := by
      refine ⟨?_, q2, q3, q4, q5, q6⟩
      obtain ⟨t, ht, -⟩ := State.frames_cons hr
      show ({ U with heap := s₂.heap, slotsUsed := s₂.slotsUsed } : State) = { U.setFrames U.frames with heap := s₂.heap, slotsUsed := s₂.slotsUsed }
      rw [State.setFrames_self ht]
    subst hg
    refine Or.inr ⟨q, ⟨(({ U with heap := s₂.heap, slotsUsed := s₂.slotsUsed } : State).setVm s₂.vm), Ls ++ L, c0 + mc, s0 + ms⟩,
      ⟨X.admits, X.cas, X.clock, X.frames, X.room, X.hears, X.method, X.code, (X.here.setHeapUsed s₂.heap s₂.slotsUsed).setVm hW'.alike, X.tail, State.WarmedH.trans X.warmed hW', X.limits, X.bytes, X.same.trans (hsame.setVm s.vm)⟩,
      ⟨g, mk, s₂, L, E, ce, rfl, rfl, hx, hce, hcv, hcl, rfl, hL, rfl, rfl⟩, ?_⟩
    show Steps p.tables e below _ (((({ U with heap := s₂.heap, slotsUsed := s₂.slotsUsed } : State).setVm s₂.vm).setTop g).pushFrame (.throwing q))
    rw [← hs₂]
    exact hsteps
end Payer
section Calls
variable {p : Program} {l : Launch} {e : Env} {R : Room} {s : State} {m : MethodId} {args : Array Value} {below : List Frame} {meth : Method} {c : Code} {T : State} {locs : List Loc} {cells slots : Nat}
theorem vx_callV (X : Stand p l e R s m args below meth c T locs cells slots) (hexec : p.tables.exec = Jvm.exec) {own C : String} {index : Nat} {y : MethodName} {bytes : ByteArray} {maxL : Nat} {ret : Option FieldType}
    (hown : s.vm.findClass own = some m.cls) (hlink : (Cond.methodLink own index y).before args s = true) (hinst : (Cond.instanceMethod y).before args s = true) (hsel : (Cond.selects C y y).before args s = true)
    (hcode : (Cond.code y bytes maxL ret).before args s = true) (hy : y.cls ≠ "java/lang/invoke/MethodHandle" ∧ y.cls ≠ "java/lang/invoke/VarHandle")
    {W9 : Nat} {Pre : Pt → Array Value → Prop} {Post : Pt → Array Value → Option Value → Pt → Prop} {PostX : Pt → Array Value → Addr → Pt → Prop} (hK : vx_Back l R p e below s args y 3 W9 Pre Post PostX)
    {b : Addr} {cellB : Cell} (hcell : T.heap[b]? = some cellB) (hobj : cellB.vm.isStatics = false) (hcls : s.vm.findClass C = some cellB.cls)
    {g : JFrame} (hg : g.method = m) (hsize : g.locals.size = c.maxLocals) {argsL rest : List Value} (hlen : ∀ sig, parseMethodDescriptor y.desc = some sig → argsL.length = sig.parameters.length)
    (hstack : g.stack = argsL.reverse ++ .ref b :: rest) (hW : 2 * g.monitorRoom + (rest.map fun v => v.category).sum ≤ W9) (hdg : decode c.code g.pc = .ok (.invokevirtual index, 3))
    (hpre : ∀ vm₁, s.WarmedH vm₁ → Pre ⟨T.setVm vm₁, locs, cells, slots⟩ (Value.ref b :: argsL).toArray) :
    (∃ (v : Option Value) (vm₁ : Vm) (B : Pt), s.WarmedH vm₁ ∧ Stand p l e R s m args below meth c B.U B.locs B.cells B.slots ∧ Post ⟨T.setVm vm₁, locs, cells, slots⟩ (Value.ref b :: argsL).toArray v B ∧
      ∀ target, Steps p.tables e below (B.U.setTop { g with pc := g.pc + 3, stack := v.toList ++ rest }) target → Steps p.tables e below (T.setTop g) target) ∨
    (∃ (q : Addr) (vm₁ : Vm) (B : Pt), s.WarmedH vm₁ ∧ Stand p l e R s m args below meth c B.U B.locs B.cells B.slots ∧ PostX ⟨T.setVm vm₁, locs, cells, slots⟩ (Value.ref b :: argsL).toArray q B ∧
      Steps p.tables e below (T.setTop g) ((B.U.setTop { g with stack := rest }).pushFrame (.throwing q))) := by
  obtain ⟨mk, methM, hnamed, hmethM, hstM, habM⟩ := Cond.instanceMethod_spec hinst
  obtain ⟨methM', cM, hmethM', -, -, -, -, -, -, hsigM⟩ := Cond.code_spec hnamed hcode
  cases hmethM.symm.trans hmethM'
  obtain ⟨c2, r2, m2, q1, q2, q3, q4, kP, hkP, hkPi⟩ := Cond.selects_spec hsel
  cases hcls.symm.trans q1
  cases (State.methodFound?_of_named hnamed hy).symm.trans q2
  cases hnamed.symm.trans q3
  have hselP : selectMethod e.platform s.vm cellB.cls mk = .method mk := by rw [Launch.admits_selectMethod X.admits]; exact q4
  obtain ⟨vm₁, X₁, hstep₁⟩ := X.invokevirtual hexec hown hlink hnamed hmethM hstM hkP hkPi hy (a := b) (cell := cellB) hcell
    (fun z h => by rw [h] at hobj; cases hobj) hselP hmethM habM hkP hkPi (g := g) hg (argsL := argsL) (rest := rest) (hlen _ hsigM) hstack hdg
  rcases hK m meth c ⟨T.setVm vm₁, locs, cells, slots⟩ { g with stack := rest } (.invokevirtual index) mk (Value.ref b :: argsL).toArray X₁ hg hsize hdg hW (X₁.named hnamed) (hpre vm₁ X₁.warmed) with ⟨v, B, X', hpost, hsteps⟩ | ⟨q, B, X', hpost, hsteps⟩
  · exact Or.inl ⟨v, vm₁, B, X₁.warmed, X', hpost, fun target h => hstep₁ _ fun acts => by rw [doInvoke_state]; exact hsteps.trans h⟩
  · exact Or.inr ⟨q, vm₁, B, X₁.warmed, X', hpost, hstep₁ _ fun acts => by rw [doInvoke_state]; exact hsteps⟩
theorem vx_callS (X : Stand p l e R s m args below meth c T locs cells slots) (hexec : p.tables.exec = Jvm.exec) {own : String} {index : Nat} {y : MethodName} {bytes : ByteArray} {maxL : Nat} {ret : Option FieldType}
    (hown : s.vm.findClass own = some m.cls) (hlink : (Cond.methodLink own index y).before args s = true) (hstat : (Cond.static y).before args s = true) (hinit : (Cond.initialized y.cls).before args s = true)
    (hcode : (Cond.code y bytes maxL ret).before args s = true) (hy : y.cls ≠ "java/lang/invoke/MethodHandle" ∧ y.cls ≠ "java/lang/invoke/VarHandle")
    {W9 : Nat} {Pre : Pt → Array Value → Prop} {Post : Pt → Array Value → Option Value → Pt → Prop} {PostX : Pt → Array Value → Addr → Pt → Prop} (hK : vx_Back l R p e below s args y 3 W9 Pre Post PostX)
    {g : JFrame} (hg : g.method = m) (hsize : g.locals.size = c.maxLocals) {argsL rest : List Value} (hlen : ∀ sig, parseMethodDescriptor y.desc = some sig → argsL.length = sig.parameters.length)
    (hstack : g.stack = argsL.reverse ++ rest) (hW : 2 * g.monitorRoom + (rest.map fun v => v.category).sum ≤ W9) (hdg : decode c.code g.pc = .ok (.invokestatic index, 3))
    (hpre : ∀ vm₁, s.WarmedH vm₁ → Pre ⟨T.setVm vm₁, locs, cells, slots⟩ argsL.toArray) :
    (∃ (v : Option Value) (vm₁ : Vm) (B : Pt), s.WarmedH vm₁ ∧ Stand p l e R s m args below meth c B.U B.locs B.cells B.slots ∧ Post ⟨T.setVm vm₁, locs, cells, slots⟩ argsL.toArray v B ∧
      ∀ target, Steps p.tables e below (B.U.setTop { g with pc := g.pc + 3, stack := v.toList ++ rest }) target → Steps p.tables e below (T.setTop g) target) ∨
    (∃ (q : Addr) (vm₁ : Vm) (B : Pt), s.WarmedH vm₁ ∧ Stand p l e R s m args below meth c B.U B.locs B.cells B.slots ∧ PostX ⟨T.setVm vm₁, locs, cells, slots⟩ argsL.toArray q B ∧
      Steps p.tables e below (T.setTop g) ((B.U.setTop { g with stack := rest }).pushFrame (.throwing q))) := by
  obtain ⟨mk, hnamed⟩ := Cond.code_named hcode
  obtain ⟨methM, cM, hmethM, -, -, -, -, -, -, hsigM⟩ := Cond.code_spec hnamed hcode
  have hstatic : methM.isStatic = true := Cond.static_spec hnamed hmethM hstat
  obtain ⟨kP, hkP, -⟩ := className_of_methodNamed hnamed
  have hinitP : kP.init = .initialized := Cond.initialized_spec (findClass_of_methodNamed hnamed) hkP hinit
  obtain ⟨vm₁, X₁, hstep₁⟩ := X.invokestatic hexec hown hlink hnamed hmethM hstatic hkP hinitP hy (g := g) hg (argsL := argsL) (rest := rest) (hlen _ hsigM) hstack hdg
  rcases hK m meth c ⟨T.setVm vm₁, locs, cells, slots⟩ { g with stack := rest } (.invokestatic index) mk argsL.toArray X₁ hg hsize hdg hW (X₁.named hnamed) (hpre vm₁ X₁.warmed) with ⟨v, B, X', hpost, hsteps⟩ | ⟨q, B, X', hpost, hsteps⟩
  · exact Or.inl ⟨v, vm₁, B, X₁.warmed, X', hpost, fun target h => hstep₁ _ fun acts => by rw [doInvoke_state]; exact hsteps.trans h⟩
  · exact Or.inr ⟨q, vm₁, B, X₁.warmed, X', hpost, hstep₁ _ fun acts => by rw [doInvoke_state]; exact hsteps⟩
end Calls
theorem vx_cls {s : State} {T : State} {vm₁ : Vm} {E : String} {k : ClassId} (hW : s.WarmedH vm₁) (h : (T.setVm vm₁).vm.findClass E = some k) : s.vm.findClass E = some k := by
  have h1 : vm₁.findClass E = some k := h
  rw [hW.alike.findClass] at h1
  exact h1
/-- the method's frame g, with q thrown over it -/
def vx_W (p : Program) (l : Launch) (e : Env) (R : Room) (s : State) (m : MethodId) (args : Array Value) (below : List Frame) (meth : Method) (c : Code) (H : Heap) (locs : List Loc) (cells slots : Nat) (Q : State → Prop) (g : JFrame) (q : Addr) : Prop :=
  ∀ T : State, T.heap = H → Stand p l e R s m args below meth c T locs cells slots → ∃ t, Steps p.tables e below ((T.setTop g).pushFrame (.throwing q)) t ∧ Q t
def vx_Run (p : Program) (l : Launch) (e : Env) (R : Room) (s : State) (m : MethodId) (args : Array Value) (below : List Frame) (meth : Method) (c : Code) (H : Heap) (locs : List Loc) (cells slots mc ms : Nat) (g : JFrame) (rest : List Value) (Qa : State → Outcome → State → Prop) (XC : String → State → State → Prop) (free : Addr → Prop) : Prop :=
  ∀ T : State, T.heap = H → Stand p l e R s m args below meth c T locs cells slots →
    (∃ (v : Option Value) (st₀ t T' : State) (L : List Loc), st₀.heap = H ∧ Stand p l e R s m args below meth c T' (locs ++ L) (cells + mc) (slots + ms) ∧ (∀ q ∈ L, free q.base) ∧ T'.heap = t.heap ∧ T'.vm = t.vm ∧ Qa st₀ (.returned v) t ∧
      Goes p e below T g T' { g with pc := g.pc + 3, stack := v.toList ++ rest }) ∨
    (∃ (q : Addr) (st₀ t T' : State) (L : List Loc) (E : String) (ce : Cell), st₀.heap = H ∧ Stand p l e R s m args below meth c T' (locs ++ L) (cells + mc) (slots + ms) ∧ (∀ z ∈ L, free z.base) ∧ T'.heap = t.heap ∧ T'.vm = t.vm ∧ XC E st₀ t ∧ t.heap[q]? = some ce ∧ ce.vm = .none ∧ s.vm.findClass E = some ce.cls ∧
      Steps p.tables e below (T.setTop g) ((T'.setTop { g with stack := rest }).pushFrame (.throwing q)))
def vx_X {S : Type} (px : S → Prop) (B : String → S → State → Prop) (A : Nat → Prop) : String → State → State → Prop := fun E st t => ∃ u : S, px u ∧ B E u t ∧ va_F A st t
section Runs
variable {p : Program} {l : Launch} {e : Env} {R : Room} {s : State} {m : MethodId} {args : Array Value} {below : List Frame} {meth : Method} {c : Code} {H : Heap} {locs : List Loc} {cells slots : Nat}
variable {y : MethodName} {bytes cc : ByteArray} {maxL nL mc ms n index : Nat} {ret : Option FieldType} {ws : List Cond} {rm : Room} {Pc : Array Value → State → Prop} {Qc : Array Value → State → Outcome → State → Prop} {XC : String → State → State → Prop} {free : Addr → Prop} {Ts : List Cond} {own C : String} {b : Addr} {As rest : List Value} {g : JFrame}
theorem vx_callBack (cb : CallB R s args own index y bytes maxL ret ws rm mc ms n) (hM : vx_Met l y ws rm Pc Qc XC mc ms free) (hbl : FrameBlind Pc) : vx_Back l R p e below s args y 3 8 (PreOf R mc ms Pc) (PostOf Qc mc ms free) (vx_Post XC mc ms free) := by
  obtain ⟨hrc, hrs, hfr, hlo, hws, hcw, -, hini, -⟩ := cb
  exact vx_back (bytes := bytes) (maxL := maxL) (ret := ret) hM hbl hrc hrs hfr hlo hws hcw (fun a' U hW => word_at hW (Or.inl (by first | rfl | simp [Cond.onTables, Cond.keeps, Cond.steady])) hini)
theorem vx_runV (S : CallFix p m c cc nL s args Ts own) (hM : vx_Met l y ws rm Pc Qc XC mc ms free) (cw : CallW R s args own C index y bytes maxL ret ws rm mc ms n) (hp : PreV s H C b Pc As)
    (hg : g.method = m) (hn : As.length = n) (hsize : g.locals.size = nL) (hstack : g.stack = As.reverse ++ .ref b :: rest) (hW : 2 * g.monitorRoom + (rest.map fun v => v.category).sum ≤ 8) (hdg : decode cc g.pc = .ok (.invokevirtual index, 3)) (hf : cells + mc ≤ R.cells ∧ slots + ms ≤ R.slots) :
    vx_Run p l e R s m args below meth c H locs cells slots mc ms g rest (Qc (Value.ref b :: As).toArray) XC free := by
  have hK : vx_Back l R p e below s args y 3 8 (PreOf R mc ms Pc) (PostOf Qc mc ms free) (vx_Post XC mc ms free) := vx_callBack cw.1 hM hp.1
  obtain ⟨⟨-, -, -, -, -, -, hcode, -, hy, hlen, hl⟩, hin, hse⟩ := cw
  obtain ⟨hx, hb, hml, ho, -⟩ := S
  obtain ⟨-, ⟨cellB, hcB, hoB, hclB⟩, hPc⟩ := hp
  intro T hT X
  rcases vx_callV X hx (C := C) (bytes := bytes) (maxL := maxL) (ret := ret) ho hl hin hse hcode hy hK (by rw [hT]; exact hcB) hoB hclB hg (hsize.trans hml.symm) (argsL := As) (rest := rest) (fun sig h => hn.trans (hlen sig h)) hstack hW (by rw [hb]; exact hdg)
    (fun vm₁ hW₁ => ⟨hf.1, hf.2, hPc (T.setVm vm₁) hT hW₁⟩) with ⟨v, vm₁, ⟨U', l2, c2, s2⟩, hW₁, X', ⟨g', mk, t, L, e1, e2, hq, h1, hL, h2, h3⟩, st⟩ | ⟨q, vm₁, ⟨U', l2, c2, s2⟩, hW₁, X', ⟨g', mk, t, L, E, ce, e1, e2, hq, hce, hcv, hcl, h1, hL, h2, h3⟩, st⟩
  · dsimp only [Pt.U, Pt.locs, Pt.cells, Pt.slots] at X' e1 e2 h1 h2 h3 st
    subst h1; subst h2; subst h3
    exact Or.inl ⟨v, (T.setVm vm₁).calling g' mk (Value.ref b :: As).toArray, t, U', L, hT, X', hL, e1, e2, hq, st⟩
  · dsimp only [Pt.U, Pt.locs, Pt.cells, Pt.slots] at X' e1 e2 h1 h2 h3 st hcl
    subst h1; subst h2; subst h3
    exact Or.inr ⟨q, (T.setVm vm₁).calling g' mk (Value.ref b :: As).toArray, t, U', L, E, ce, hT, X', hL, e1, e2, hq, hce, hcv, vx_cls hW₁ hcl, st⟩
theorem vx_runS (S : CallFix p m c cc nL s args Ts own) (hM : vx_Met l y ws rm Pc Qc XC mc ms free) (cw : CallB R s args own index y bytes maxL ret ws rm mc ms n ∧ (Cond.static y).before args s = true) (hp : PreS s H Pc As)
    (hg : g.method = m) (hn : As.length = n) (hsize : g.locals.size = nL) (hstack : g.stack = As.reverse ++ rest) (hW : 2 * g.monitorRoom + (rest.map fun v => v.category).sum ≤ 8) (hdg : decode cc g.pc = .ok (.invokestatic index, 3)) (hf : cells + mc ≤ R.cells ∧ slots + ms ≤ R.slots) :
    vx_Run p l e R s m args below meth c H locs cells slots mc ms g rest (Qc As.toArray) XC free := by
  have hK : vx_Back l R p e below s args y 3 8 (PreOf R mc ms Pc) (PostOf Qc mc ms free) (vx_Post XC mc ms free) := vx_callBack cw.1 hM hp.1
  obtain ⟨⟨-, -, -, -, -, -, hcode, hini, hy, hlen, hl⟩, hstt⟩ := cw
  obtain ⟨hx, hb, hml, ho, -⟩ := S
  intro T hT X
  rcases vx_callS X hx (bytes := bytes) (maxL := maxL) (ret := ret) ho hl hstt hini hcode hy hK hg (hsize.trans hml.symm) (argsL := As) (rest := rest) (fun sig h => hn.trans (hlen sig h)) hstack hW (by rw [hb]; exact hdg)
    (fun vm₁ hW₁ => ⟨hf.1, hf.2, hp.2 (T.setVm vm₁) hT hW₁⟩) with ⟨v, vm₁, ⟨U', l2, c2, s2⟩, hW₁, X', ⟨g', mk, t, L, e1, e2, hq, h1, hL, h2, h3⟩, st⟩ | ⟨q, vm₁, ⟨U', l2, c2, s2⟩, hW₁, X', ⟨g', mk, t, L, E, ce, e1, e2, hq, hce, hcv, hcl, h1, hL, h2, h3⟩, st⟩
  · dsimp only [Pt.U, Pt.locs, Pt.cells, Pt.slots] at X' e1 e2 h1 h2 h3 st
    subst h1; subst h2; subst h3
    exact Or.inl ⟨v, (T.setVm vm₁).calling g' mk As.toArray, t, U', L, hT, X', hL, e1, e2, hq, st⟩
  · dsimp only [Pt.U, Pt.locs, Pt.cells, Pt.slots] at X' e1 e2 h1 h2 h3 st hcl
    subst h1; subst h2; subst h3
    exact Or.inr ⟨q, (T.setVm vm₁).calling g' mk As.toArray, t, U', L, E, ce, hT, X', hL, e1, e2, hq, hce, hcv, vx_cls hW₁ hcl, st⟩
end Runs
section Rows
variable {p : Program} {l : Launch} {e : Env} {R : Room} {s : State} {m : MethodId} {args : Array Value} {below : List Frame} {meth : Method} {c : Code} {H : Heap} {locs : List Loc} {cells slots : Nat} {Q : State → Prop}
variable {mc ms : Nat} {free : Addr → Prop} {A0 A1 : Nat → Prop} {H0 : Heap} {a : Array Value} {pc : Nat} {ls : Array Slot} {st0 rest : List Value}
theorem vx_keep {st₀ t T' : State} {L : List Loc} (h0 : st₀.heap = H) (e1 : T'.heap = t.heap) (hS : va_S A0 H0 H locs) (hA : ∀ q, q < H.size → A1 q → A0 q) (hf : ∀ q, free q → A0 q) (hL : ∀ q ∈ L, free q.base) (hF : va_F A1 st₀ t) :
    H.size ≤ T'.heap.size ∧ (∀ q : Nat, q < H.size → ¬ A1 q → T'.heap[q]? = H[q]?) ∧ va_S A0 H0 T'.heap (locs ++ L) := by
  obtain ⟨hz, hk⟩ := hF
  rw [h0] at hz hk
  exact ⟨by rw [e1]; exact hz, fun q h1 h2 => by rw [e1]; exact hk q h1 h2,
    ⟨Nat.le_trans hS.1 (by rw [e1]; exact hz), fun q h1 h2 => by rw [e1, hk q (Nat.lt_of_lt_of_le h1 hS.1) (fun z => h2 (hA q (Nat.lt_of_lt_of_le h1 hS.1) z))]; exact hS.2.1 q h1 h2, fun q hq => by
      rcases List.mem_append.mp hq with h | h
      · exact hS.2.2 q h
      · exact hf _ (hL q h)⟩⟩
theorem vx_calli {S SX : Type} {post : Int32 → S → Prop} {px : SX → Prop} {B : S → State → Prop} {BX : String → SX → State → Prop} {AX : Nat → Prop} (hr : vx_Run p l e R s m args below meth c H locs cells slots mc ms (F0 m pc ls st0) rest (va_Qi post B A1 a) (vx_X px BX AX) free) (hS : va_S A0 H0 H locs) (hA : ∀ q, q < H.size → A1 q → A0 q) (hf : ∀ q, free q → A0 q) (hAX : ∀ q, q < H.size → AX q → A0 q)
    (kx : ∀ (E : String) (ce : Cell) (q9 : Addr) (u : SX) (t : State) (H1 : Heap) (locs1 : List Loc), t.heap = H1 → s.vm.Alike t.vm → px u → BX E u t → H.size ≤ H1.size → (∀ q : Nat, q < H.size → ¬ AX q → H1[q]? = H[q]?) → va_S A0 H0 H1 locs1 → H1[q9]? = some ce → ce.vm = .none → s.vm.findClass E = some ce.cls → vx_W p l e R s m args below meth c H1 locs1 (cells + mc) (slots + ms) Q (F0 m pc ls rest) q9)
    (kk : ∀ (r : Int32) (u : S) (t : State) (H1 : Heap) (locs1 : List Loc), t.heap = H1 → s.vm.Alike t.vm → post r u → B u t → H.size ≤ H1.size → (∀ q : Nat, q < H.size → ¬ A1 q → H1[q]? = H[q]?) → va_S A0 H0 H1 locs1 → W p l e R s m args below meth c H1 locs1 (cells + mc) (slots + ms) Q (F0 m (pc + 3) ls (.int r :: rest))) : W p l e R s m args below meth c H locs cells slots Q (F0 m pc ls st0) := by
  intro T hT X
  rcases hr T hT X with ⟨v, st₀, t, T', L, h0, X', hL, e1, e2, ⟨⟨r, u, hv, hp, hb⟩, hF⟩, st⟩ | ⟨q, st₀, t, T', L, E, ce, h0, X', hL, e1, e2, ⟨u, hp, hb, hF⟩, hce, hcv, hcl, st⟩
  · cases hv
    obtain ⟨k1, k2, k3⟩ := vx_keep h0 e1 hS hA hf hL hF
    obtain ⟨t2, a1, b1⟩ := kk r u t T'.heap (locs ++ L) e1.symm (by rw [← e2]; exact X'.warmed.alike) hp hb k1 k2 k3 T' rfl X'
    exact ⟨t2, st t2 a1, b1⟩
  · obtain ⟨k1, k2, k3⟩ := vx_keep h0 e1 hS hAX hf hL hF
    obtain ⟨t2, a1, b1⟩ := kx E ce q u t T'.heap (locs ++ L) e1.symm (by rw [← e2]; exact X'.warmed.alike) hp hb k1 k2 k3 (by rw [e1]; exact hce) hcv hcl T' rfl X'
    exact ⟨t2, st.trans a1, b1⟩
theorem vx_calll {S SX : Type} {post : Int64 → S → Prop} {px : SX → Prop} {B : S → State → Prop} {BX : String → SX → State → Prop} {AX : Nat → Prop} (hr : vx_Run p l e R s m args below meth c H locs cells slots mc ms (F0 m pc ls st0) rest (va_Ql post B A1 a) (vx_X px BX AX) free) (hS : va_S A0 H0 H locs) (hA : ∀ q, q < H.size → A1 q → A0 q) (hf : ∀ q, free q → A0 q) (hAX : ∀ q, q < H.size → AX q → A0 q)
    (kx : ∀ (E : String) (ce : Cell) (q9 : Addr) (u : SX) (t : State) (H1 : Heap) (locs1 : List Loc), t.heap = H1 → s.vm.Alike t.vm → px u → BX E u t → H.size ≤ H1.size → (∀ q : Nat, q < H.size → ¬ AX q → H1[q]? = H[q]?) → va_S A0 H0 H1 locs1 → H1[q9]? = some ce → ce.vm = .none → s.vm.findClass E = some ce.cls → vx_W p l e R s m args below meth c H1 locs1 (cells + mc) (slots + ms) Q (F0 m pc ls rest) q9)
    (kk : ∀ (r : Int64) (u : S) (t : State) (H1 : Heap) (locs1 : List Loc), t.heap = H1 → s.vm.Alike t.vm → post r u → B u t → H.size ≤ H1.size → (∀ q : Nat, q < H.size → ¬ A1 q → H1[q]? = H[q]?) → va_S A0 H0 H1 locs1 → W p l e R s m args below meth c H1 locs1 (cells + mc) (slots + ms) Q (F0 m (pc + 3) ls (.long r :: rest))) : W p l e R s m args below meth c H locs cells slots Q (F0 m pc ls st0) := by
  intro T hT X
  rcases hr T hT X with ⟨v, st₀, t, T', L, h0, X', hL, e1, e2, ⟨⟨r, u, hv, hp, hb⟩, hF⟩, st⟩ | ⟨q, st₀, t, T', L, E, ce, h0, X', hL, e1, e2, ⟨u, hp, hb, hF⟩, hce, hcv, hcl, st⟩
  · cases hv
    obtain ⟨k1, k2, k3⟩ := vx_keep h0 e1 hS hA hf hL hF
    obtain ⟨t2, a1, b1⟩ := kk r u t T'.heap (locs ++ L) e1.symm (by rw [← e2]; exact X'.warmed.alike) hp hb k1 k2 k3 T' rfl X'
    exact ⟨t2, st t2 a1, b1⟩
  · obtain ⟨k1, k2, k3⟩ := vx_keep h0 e1 hS hAX hf hL hF
    obtain ⟨t2, a1, b1⟩ := kx E ce q u t T'.heap (locs ++ L) e1.symm (by rw [← e2]; exact X'.warmed.alike) hp hb k1 k2 k3 (by rw [e1]; exact hce) hcv hcl T' rfl X'
    exact ⟨t2, st.trans a1, b1⟩
theorem vx_callf {S SX : Type} {post : UInt32 → S → Prop} {px : SX → Prop} {B : S → State → Prop} {BX : String → SX → State → Prop} {AX : Nat → Prop} (hr : vx_Run p l e R s m args below meth c H locs cells slots mc ms (F0 m pc ls st0) rest (va_Qf post B A1 a) (vx_X px BX AX) free) (hS : va_S A0 H0 H locs) (hA : ∀ q, q < H.size → A1 q → A0 q) (hf : ∀ q, free q → A0 q) (hAX : ∀ q, q < H.size → AX q → A0 q)
    (kx : ∀ (E : String) (ce : Cell) (q9 : Addr) (u : SX) (t : State) (H1 : Heap) (locs1 : List Loc), t.heap = H1 → s.vm.Alike t.vm → px u → BX E u t → H.size ≤ H1.size → (∀ q : Nat, q < H.size → ¬ AX q → H1[q]? = H[q]?) → va_S A0 H0 H1 locs1 → H1[q9]? = some ce → ce.vm = .none → s.vm.findClass E = some ce.cls → vx_W p l e R s m args below meth c H1 locs1 (cells + mc) (slots + ms) Q (F0 m pc ls rest) q9)
    (kk : ∀ (r : UInt32) (u : S) (t : State) (H1 : Heap) (locs1 : List Loc), t.heap = H1 → s.vm.Alike t.vm → post r u → B u t → H.size ≤ H1.size → (∀ q : Nat, q < H.size → ¬ A1 q → H1[q]? = H[q]?) → va_S A0 H0 H1 locs1 → W p l e R s m args below meth c H1 locs1 (cells + mc) (slots + ms) Q (F0 m (pc + 3) ls (.float r :: rest))) : W p l e R s m args below meth c H locs cells slots Q (F0 m pc ls st0) := by
  intro T hT X
  rcases hr T hT X with ⟨v, st₀, t, T', L, h0, X', hL, e1, e2, ⟨⟨r, u, hv, hp, hb⟩, hF⟩, st⟩ | ⟨q, st₀, t, T', L, E, ce, h0, X', hL, e1, e2, ⟨u, hp, hb, hF⟩, hce, hcv, hcl, st⟩
  · cases hv
    obtain ⟨k1, k2, k3⟩ := vx_keep h0 e1 hS hA hf hL hF
    obtain ⟨t2, a1, b1⟩ := kk r u t T'.heap (locs ++ L) e1.symm (by rw [← e2]; exact X'.warmed.alike) hp hb k1 k2 k3 T' rfl X'
    exact ⟨t2, st t2 a1, b1⟩
  · obtain ⟨k1, k2, k3⟩ := vx_keep h0 e1 hS hAX hf hL hF
    obtain ⟨t2, a1, b1⟩ := kx E ce q u t T'.heap (locs ++ L) e1.symm (by rw [← e2]; exact X'.warmed.alike) hp hb k1 k2 k3 (by rw [e1]; exact hce) hcv hcl T' rfl X'
    exact ⟨t2, st.trans a1, b1⟩
theorem vx_calld {S SX : Type} {post : UInt64 → S → Prop} {px : SX → Prop} {B : S → State → Prop} {BX : String → SX → State → Prop} {AX : Nat → Prop} (hr : vx_Run p l e R s m args below meth c H locs cells slots mc ms (F0 m pc ls st0) rest (va_Qd post B A1 a) (vx_X px BX AX) free) (hS : va_S A0 H0 H locs) (hA : ∀ q, q < H.size → A1 q → A0 q) (hf : ∀ q, free q → A0 q) (hAX : ∀ q, q < H.size → AX q → A0 q)
    (kx : ∀ (E : String) (ce : Cell) (q9 : Addr) (u : SX) (t : State) (H1 : Heap) (locs1 : List Loc), t.heap = H1 → s.vm.Alike t.vm → px u → BX E u t → H.size ≤ H1.size → (∀ q : Nat, q < H.size → ¬ AX q → H1[q]? = H[q]?) → va_S A0 H0 H1 locs1 → H1[q9]? = some ce → ce.vm = .none → s.vm.findClass E = some ce.cls → vx_W p l e R s m args below meth c H1 locs1 (cells + mc) (slots + ms) Q (F0 m pc ls rest) q9)
    (kk : ∀ (r : UInt64) (u : S) (t : State) (H1 : Heap) (locs1 : List Loc), t.heap = H1 → s.vm.Alike t.vm → post r u → B u t → H.size ≤ H1.size → (∀ q : Nat, q < H.size → ¬ A1 q → H1[q]? = H[q]?) → va_S A0 H0 H1 locs1 → W p l e R s m args below meth c H1 locs1 (cells + mc) (slots + ms) Q (F0 m (pc + 3) ls (.double r :: rest))) : W p l e R s m args below meth c H locs cells slots Q (F0 m pc ls st0) := by
  intro T hT X
  rcases hr T hT X with ⟨v, st₀, t, T', L, h0, X', hL, e1, e2, ⟨⟨r, u, hv, hp, hb⟩, hF⟩, st⟩ | ⟨q, st₀, t, T', L, E, ce, h0, X', hL, e1, e2, ⟨u, hp, hb, hF⟩, hce, hcv, hcl, st⟩
  · cases hv
    obtain ⟨k1, k2, k3⟩ := vx_keep h0 e1 hS hA hf hL hF
    obtain ⟨t2, a1, b1⟩ := kk r u t T'.heap (locs ++ L) e1.symm (by rw [← e2]; exact X'.warmed.alike) hp hb k1 k2 k3 T' rfl X'
    exact ⟨t2, st t2 a1, b1⟩
  · obtain ⟨k1, k2, k3⟩ := vx_keep h0 e1 hS hAX hf hL hF
    obtain ⟨t2, a1, b1⟩ := kx E ce q u t T'.heap (locs ++ L) e1.symm (by rw [← e2]; exact X'.warmed.alike) hp hb k1 k2 k3 (by rw [e1]; exact hce) hcv hcl T' rfl X'
    exact ⟨t2, st.trans a1, b1⟩
theorem vx_callv {S SX : Type} {post : S → Prop} {px : SX → Prop} {B : S → State → Prop} {BX : String → SX → State → Prop} {AX : Nat → Prop} (hr : vx_Run p l e R s m args below meth c H locs cells slots mc ms (F0 m pc ls st0) rest (va_Qv post B A1 a) (vx_X px BX AX) free) (hS : va_S A0 H0 H locs) (hA : ∀ q, q < H.size → A1 q → A0 q) (hf : ∀ q, free q → A0 q) (hAX : ∀ q, q < H.size → AX q → A0 q)
    (kx : ∀ (E : String) (ce : Cell) (q9 : Addr) (u : SX) (t : State) (H1 : Heap) (locs1 : List Loc), t.heap = H1 → s.vm.Alike t.vm → px u → BX E u t → H.size ≤ H1.size → (∀ q : Nat, q < H.size → ¬ AX q → H1[q]? = H[q]?) → va_S A0 H0 H1 locs1 → H1[q9]? = some ce → ce.vm = .none → s.vm.findClass E = some ce.cls → vx_W p l e R s m args below meth c H1 locs1 (cells + mc) (slots + ms) Q (F0 m pc ls rest) q9)
    (kk : ∀ (u : S) (t : State) (H1 : Heap) (locs1 : List Loc), t.heap = H1 → s.vm.Alike t.vm → post u → B u t → H.size ≤ H1.size → (∀ q : Nat, q < H.size → ¬ A1 q → H1[q]? = H[q]?) → va_S A0 H0 H1 locs1 → W p l e R s m args below meth c H1 locs1 (cells + mc) (slots + ms) Q (F0 m (pc + 3) ls (rest))) : W p l e R s m args below meth c H locs cells slots Q (F0 m pc ls st0) := by
  intro T hT X
  rcases hr T hT X with ⟨v, st₀, t, T', L, h0, X', hL, e1, e2, ⟨⟨u, hv, hp, hb⟩, hF⟩, st⟩ | ⟨q, st₀, t, T', L, E, ce, h0, X', hL, e1, e2, ⟨u, hp, hb, hF⟩, hce, hcv, hcl, st⟩
  · cases hv
    obtain ⟨k1, k2, k3⟩ := vx_keep h0 e1 hS hA hf hL hF
    obtain ⟨t2, a1, b1⟩ := kk u t T'.heap (locs ++ L) e1.symm (by rw [← e2]; exact X'.warmed.alike) hp hb k1 k2 k3 T' rfl X'
    exact ⟨t2, st t2 a1, b1⟩
  · obtain ⟨k1, k2, k3⟩ := vx_keep h0 e1 hS hAX hf hL hF
    obtain ⟨t2, a1, b1⟩ := kx E ce q u t T'.heap (locs ++ L) e1.symm (by rw [← e2]; exact X'.warmed.alike) hp hb k1 k2 k3 (by rw [e1]; exact hce) hcv hcl T' rfl X'
    exact ⟨t2, st.trans a1, b1⟩
/-- caught by the row x of this method's table; the rows ahead don't take it -/
theorem vx_catch {own name : String} {E : String} {ce : Cell} {q : Addr} (hown : s.vm.findClass own = some m.cls) (pre : List ExceptionTableEntry) (x : ExceptionTableEntry) (suf : List ExceptionTableEntry) (hsplit : c.exceptionTable.toList = pre ++ x :: suf)
    (hpass : ∀ z ∈ pre, covers z pc = false ∨ (z.catchType ≠ 0 ∧ ∃ nm : String, (Cond.classLink own z.catchType nm).before args s = true ∧ va_Nc E nm s)) (hx : covers x pc = true) (h0 : x.catchType ≠ 0)
    (hlink : (Cond.classLink own x.catchType name).before args s = true) (hcast : (Cond.castable E name).before args s = true) (hcell : H[q]? = some ce) (hv : ce.vm = .none) (hcl : s.vm.findClass E = some ce.cls)
    (kk : W p l e R s m args below meth c H locs cells slots Q (F0 m x.handlerPc ls [.ref q])) : vx_W p l e R s m args below meth c H locs cells slots Q (F0 m pc ls rest) q := by
  intro T hT X
  have hpl : e.platform.magicAccessors = ({} : Platform).magicAccessors := by rw [X.admits.platform]
  obtain ⟨c3, c4, hc3, hc4, hasg⟩ := Cond.castable_spec hcast
  cases Option.some.inj (hc3.symm.trans hcl)
  obtain ⟨c5, hc5, hcl5⟩ := Cond.classLink_spec hown hlink e.platform hpl
  cases Option.some.inj (hc4.symm.trans hc5)
  obtain ⟨vm', X', st⟩ := X.thenCaughtThrough q (g := F0 m pc ls rest) rfl (Steps.refl _) (by rw [hT]; exact hcell) (by rw [hv]; rfl) (by obtain ⟨k9, h9, -⟩ := Vm.findClass_spec hcl; exact ⟨k9, h9⟩) pre x suf hsplit
    (fun z hz => by
      rcases hpass z hz with h | ⟨hz0, nm, hl1, hn1⟩
      · exact Or.inl h
      · obtain ⟨c6, hc6, hcl6⟩ := Cond.classLink_spec hown hl1 e.platform hpl
        obtain ⟨a8, b8, h1, h2, h3⟩ := hn1
        cases Option.some.inj (h1.symm.trans hcl)
        cases Option.some.inj (h2.symm.trans hc6)
        exact Or.inr ⟨hz0, _, hcl6, h3⟩) hx (Or.inr ⟨h0, c4, hcl5, hasg⟩)
  obtain ⟨t, a1, b1⟩ := kk (T.setVm vm') hT X'
  exact ⟨t, st.trans a1, b1⟩
end Rows
section Ends
variable {p : Program} {l : Launch} {e : Env} {R : Room} {s : State} {m : MethodId} {args : Array Value} {below : List Frame} {meth : Method} {c : Code} {H : Heap} {locs : List Loc} {cells slots : Nat} {Q : State → Prop}
variable {mc ms : Nat} {free : Addr → Prop} {A0 A1 : Nat → Prop} {H0 : Heap} {a : Array Value} {ls : Array Slot} {st0 rest : List Value}
variable {Qc : Array Value → State → Outcome → State → Prop} {XC : String → State → State → Prop}
/-- what a body that may throw owes at its end -/
def vx_MQ (below : List Frame) (Qc : Array Value → State → Outcome → State → Prop) (XC : String → State → State → Prop) (a : Array Value) (s : State) (mc ms : Nat) (free : Addr → Prop) : State → Prop := fun t =>
  ∃ o, t.status = .running ∧ Ended t below o ∧ vx_Q Qc XC mc ms free a s o t
theorem vx_ret {g : JFrame} {mc ms : Nat} (k : W p l e R s m args below meth c H locs cells slots (MQ below Qc args s mc ms free) g) : W p l e R s m args below meth c H locs cells slots (vx_MQ below Qc XC args s mc ms free) g := by
  intro T hT X
  obtain ⟨t, a1, o, b1, b2, b3, b4⟩ := k T hT X
  exact ⟨t, a1, o, b1, b2, Or.inl ⟨b3, b4⟩⟩
/-- not caught here: it goes on to the caller -/
theorem vx_widen {g : JFrame} {q : Addr} {k n : Nat} (h1 : cells ≤ k) (h2 : slots ≤ n) (kk : vx_W p l e R s m args below meth c H locs k n Q g q) : vx_W p l e R s m args below meth c H locs cells slots Q g q := fun T hT X => kk T hT (stand_widen X h1 h2)
theorem vx_out {pc : Nat} {E : String} {ce : Cell} {q : Addr} {mc ms : Nat} (hout : ∀ x ∈ c.exceptionTable.toList, covers x pc = false) (hlocks : meth.locks = false) (hcell : H[q]? = some ce) (hv : ce.vm = .none) (hcl : s.vm.findClass E = some ce.cls)
    (hx : ∀ t : State, t.heap = H → s.vm.Alike t.vm → XC E s t) (hf : ∀ z ∈ locs, free z.base) (hc : cells ≤ mc) (hs : slots ≤ ms) :
    vx_W p l e R s m args below meth c H locs cells slots (vx_MQ below Qc XC args s mc ms free) (F0 m pc ls rest) q := by
  intro T hT X
  obtain ⟨st1, hrun, hend, hW, hsm⟩ := X.leaveThrown q (g := F0 m pc ls rest) rfl rfl rfl hout hlocks
  have hcell9 : (T.setFrames (.throwing q :: below)).heap[q]? = some ce := by
    show T.heap[q]? = some ce
    rw [hT]; exact hcell
  exact ⟨_, st1, .threw q, hrun, hend, Or.inr ⟨q, rfl, E, ce, locs, hx _ hT hW.alike, hcell9, hv, hcl, hW, hsm.mono hc hs, hf⟩⟩
theorem vx_frame {U : State} {k n : Nat} (h : s.sameButNew ({ U with vm := s.vm } : State) locs k n) : s.heap.size ≤ U.heap.size ∧ ∀ q : Nat, q < s.heap.size → (∀ z ∈ locs, z.base ≠ q) → U.heap[q]? = s.heap[q]? := by
  obtain ⟨-, h2, -, -, -, h6⟩ := h
  refine ⟨h2, fun q hq hz => ?_⟩
  obtain ⟨c9, e1, e2, e3, e4⟩ := h6 q _ (Array.getElem?_eq_getElem hq)
  have hs : c9.slots = (s.heap[q]).slots := Array.ext_getElem? fun i => e4 i fun hm => hz _ hm rfl
  have h9 : c9 = s.heap[q] := by
    rw [hs] at e2
    exact e2
  have e5 : U.heap[q]? = some c9 := e1
  rw [e5, h9, Array.getElem?_eq_getElem hq]
/-- the words of a throw but the four that speak of the heap -/
def vx_no (w : Cond) : Bool := decide (w ≠ .isRef (.static Bundle.tN "UNASSIGNED_STACK" Bundle.steD)) && decide (w ≠ .isRef (.static Bundle.tN "SUPPRESSED_SENTINEL" Bundle.listD)) && decide (w ≠ .laysStatic Bundle.tN "UNASSIGNED_STACK" Bundle.steD) && decide (w ≠ .laysStatic Bundle.tN "SUPPRESSED_SENTINEL" Bundle.listD)
def vx_at0 (own : String) (ic : Nat) (X : String) (names : List String) : List Cond := (Bundle.ownAtoms0 own ic X names).filter vx_no
def vx_atS (own : String) (ic : Nat) (X : String) (names : List String) : List Cond := (Bundle.ownAtoms own ic X names).filter vx_no
/-- a word that the tables alone decide, or a good one -/
def vx_ot (w : Cond) : Bool := w.onTables || goodWord w
theorem vx_ot_at {args a' : Array Value} {s U : State} {w : Cond} (hW : s.WarmedH U.vm) (hvm : s.vm = U.vm) (hg : vx_ot w = true) (h : w.before args s = true) : w.before a' U = true := by
  simp only [vx_ot, Bool.or_eq_true] at hg
  rcases hg with hg | hg
  · exact va_tabs hg hvm h
  · exact word_at hW (good_of_word hg) h
/-- a list's words: the good ones out of the method's own list, the others by premises of their own -/
theorem vx_hat {args : Array Value} {s : State} {L B : List Cond} (h1 : ∀ w ∈ L.filter goodWord, w.before args s = true) (h2 : ∀ w ∈ L.filter (fun w => !goodWord w), w ∈ B) (h3 : ∀ w ∈ B, w.before args s = true) : ∀ w ∈ L, w.before args s = true := by
  intro w hw
  by_cases g : goodWord w = true
  · exact h1 w (List.mem_filter.mpr ⟨hw, g⟩)
  · refine h3 w (h2 w (List.mem_filter.mpr ⟨hw, ?_⟩))
    show (!goodWord w) = true
    cases hgw : goodWord w
    · rfl
    · exact absurd hgw g
theorem vx_c {args : Array Value} {s : State} {w : Cond} {B : List Cond} (h : w.before args s = true) (t : ∀ w ∈ B, w.before args s = true) : ∀ w' ∈ w :: B, w'.before args s = true := fun w' h' => (List.mem_cons.mp h').elim (fun e => by rw [e]; exact h) (t w')
theorem vx_n {args : Array Value} {s : State} : ∀ w ∈ ([] : List Cond), w.before args s = true := fun _ h => nomatch h
theorem vx_own {args : Array Value} {s : State} {L : List Cond} (h1 : ∀ w ∈ L.filter vx_no, w.before args s = true)
    (hU : (Cond.isRef (.static Bundle.tN "UNASSIGNED_STACK" Bundle.steD)).before args s = true) (hN : (Cond.isRef (.static Bundle.tN "SUPPRESSED_SENTINEL" Bundle.listD)).before args s = true)
    (lU : (Cond.laysStatic Bundle.tN "UNASSIGNED_STACK" Bundle.steD).before args s = true) (lN : (Cond.laysStatic Bundle.tN "SUPPRESSED_SENTINEL" Bundle.listD).before args s = true) : ∀ w ∈ L, w.before args s = true := by
  intro w hw
  by_cases e1 : w = .isRef (.static Bundle.tN "UNASSIGNED_STACK" Bundle.steD)
  · rw [e1]; exact hU
  · by_cases e2 : w = .isRef (.static Bundle.tN "SUPPRESSED_SENTINEL" Bundle.listD)
    · rw [e2]; exact hN
    · by_cases e3 : w = .laysStatic Bundle.tN "UNASSIGNED_STACK" Bundle.steD
      · rw [e3]; exact lU
      · by_cases e4 : w = .laysStatic Bundle.tN "SUPPRESSED_SENTINEL" Bundle.listD
        · rw [e4]; exact lN
        · exact h1 w (List.mem_filter.mpr ⟨hw, by unfold vx_no; rw [decide_eq_true e1, decide_eq_true e2, decide_eq_true e3, decide_eq_true e4]; rfl⟩)
/-- where a static field lies, its class's statics cell in H -/
def vx_L (C n d : String) (A : Nat → Prop) (U : State) (H : Heap) : Prop := ∃ (c : ClassId) (k : Class) (i : Nat) (f : Field) (a : Nat) (cell : Cell), U.vm.findClass C = some c ∧ U.fieldFound? C n d = some (c, k, i, f) ∧ f.isStatic = true ∧ k.statics = some a ∧ H[a]? = some cell ∧ cell.vm.isStatics = true ∧ cell.cls = c ∧ f.slot < cell.slots.size ∧ k.staticTypes[f.slot]? = some f.type ∧ ¬ A a
theorem vx_L.moved {C n d : String} {A : Nat → Prop} {u U : State} {H : Heap} (hvm : u.vm.Alike U.vm) (h : vx_L C n d A u H) : vx_L C n d A U H := by
  obtain ⟨c, k, i, f, a, cell, h1, h2, h3, h4, h5, h6, h7, h8, h9, h10⟩ := h
  obtain ⟨k', hi', he⟩ := State.fieldFound?_setVm hvm h2
  exact ⟨c, k', i, f, a, cell, by rw [hvm.findClass]; exact h1, hi', h3, by rw [he]; exact h4, h5, h6, h7, h8, by rw [he]; exact h9, h10⟩
theorem vx_L.kept {C n d : String} {A : Nat → Prop} {U : State} {H H1 : Heap} (h : vx_L C n d A U H) (hq : ∀ a : Nat, a < H.size → ¬ A a → H1[a]? = H[a]?) : vx_L C n d A U H1 := by
  obtain ⟨c, k, i, f, a, cell, h1, h2, h3, h4, h5, h6, h7, h8, h9, h10⟩ := h
  exact ⟨c, k, i, f, a, cell, h1, h2, h3, h4, by rw [hq a (Array.getElem?_eq_some_iff.mp h5).1 h10]; exact h5, h6, h7, h8, h9, h10⟩
theorem vx_L.narrow {C n d : String} {A B : Nat → Prop} {U : State} {H : Heap} (h : vx_L C n d A U H) (hAB : ∀ q, B q → A q) : vx_L C n d B U H := by
  obtain ⟨c, k, i, f, a, cell, h1, h2, h3, h4, h5, h6, h7, h8, h9, h10⟩ := h
  exact ⟨c, k, i, f, a, cell, h1, h2, h3, h4, h5, h6, h7, h8, h9, fun z => h10 (hAB _ z)⟩
theorem vx_L.word {C n d : String} {A : Nat → Prop} {s : State} {args : Array Value} (h : vx_L C n d A s s.heap) : (Cond.laysStatic C n d).before args s = true := by
  obtain ⟨c, k, i, f, a, cell, h1, h2, h3, h4, h5, h6, h7, h8, h9, -⟩ := h
  show (Cond.laysStatic C n d).holds args s none s [] = true
  exact Cond.laysStatic_of h1 h2 h3 h4 h5 h6 h7 h8 h9
/-- .. and what it holds: null or some reference -/
def vx_Zq (C n d : String) (A : Nat → Prop) (U : State) (H : Heap) : Prop := va_Zq C n d A U H ∧ vx_L C n d A U H
theorem vx_Zq.moved {C n d : String} {A : Nat → Prop} {u U : State} {H : Heap} (hvm : u.vm.Alike U.vm) (h : vx_Zq C n d A u H) : vx_Zq C n d A U H := ⟨va_Zq.moved hvm h.1, vx_L.moved hvm h.2⟩
theorem vx_Zq.kept {C n d : String} {A : Nat → Prop} {U : State} {H H1 : Heap} (h : vx_Zq C n d A U H) (hq : ∀ a : Nat, a < H.size → ¬ A a → H1[a]? = H[a]?) : vx_Zq C n d A U H1 := ⟨va_Zq.kept h.1 hq, vx_L.kept h.2 hq⟩
theorem vx_Zq.narrow {C n d : String} {A B : Nat → Prop} {U : State} {H : Heap} (h : vx_Zq C n d A U H) (hAB : ∀ q, B q → A q) : vx_Zq C n d B U H := ⟨va_Zq.narrow h.1 hAB, vx_L.narrow h.2 hAB⟩
theorem vx_Zqof {args : Array Value} {s : State} {C n d : String} {A : Nat → Prop} (hl : (Cond.laysStatic C n d).before args s = true) (hini : (Cond.initialized C).before args s = true) (h : (Cond.isRef (.static C n d)).before args s = true) (hA : ∀ a : Nat, a < s.heap.size → ¬ A a) : vx_Zq C n d A s s.heap := by
  refine ⟨va_Zqof hl hini h hA, ?_⟩
  obtain ⟨c, k, i, f, a, cell, h1, h2, h3, h4, h5, h6, h7, h8, h9⟩ := Cond.laysStatic_spec hl
  exact ⟨c, k, i, f, a, cell, h1, h2, h3, h4, h5, h6, h7, h8, h9, hA a (Array.getElem?_eq_some_iff.mp h5).1⟩
theorem vx_isRef {C n d : String} {v : Value} {A : Nat → Prop} {s : State} {args : Array Value} (h : va_Z C n d v A s s.heap) (hv : v.isRef = true) : (Cond.isRef (.static C n d)).before args s = true := by
  obtain ⟨cf, kf, fi, f, a, cell, h1, h2, h3, h4, h5, h6, h7, -⟩ := h
  have he : (Term.static C n d).eval args s none [] s = some v := by
    simp [Term.eval, State.fieldNamed?, h1, h2, h4, h5, h6, h7]
  simp only [Cond.before, Cond.holds, Cond.value, he]
  cases v <;> simp_all [Value.isRef]
theorem vx_isRefq {C n d : String} {A : Nat → Prop} {s : State} {args : Array Value} (h : va_Zq C n d A s s.heap) : (Cond.isRef (.static C n d)).before args s = true := by
  rcases h with h | ⟨t, h⟩
  · exact vx_isRef h rfl
  · exact vx_isRef h rfl
/-- the same frame, seen from here: as if the method were called anew in this heap -/
theorem vx_rebase {T : State} (X : Stand p l e R s m args below meth c T locs cells slots) {R' : Room} (hf : R'.frames ≤ R.frames) (hl : R'.locals ≤ R.locals) (hc : cells + R'.cells ≤ R.cells) (hs : slots + R'.slots ≤ R.slots) :
    Stand p l e R' ((T.setVm s.vm).setFrames (.invoking m args :: below)) m args below meth c T [] 0 0 := by
  have htop : (T.setVm s.vm).topJava?.isSome := X.here.top
  have hF : ((T.setVm s.vm).setFrames (.invoking m args :: below)).frames = .invoking m args :: below := State.frames_setFrames _ (State.cur_lt_of_top htop)
  obtain ⟨g₀, hg0⟩ := Option.isSome_iff_exists.mp htop
  obtain ⟨r, hr⟩ := State.topJava?_eq_some.mp hg0
  have hl9 : e.platform.stackLimits (T.setVm s.vm).me = e.platform.stackLimits s.me := X.limits
  have hb9 : (T.setVm s.vm).me.stackBytes = s.me.stackBytes := X.bytes
  refine ⟨X.admits, X.cas, X.clock, hF, ?_, X.hears, X.method, X.code, X.here, X.tail, X.warmed, ?_, ?_, ?_⟩
  · have h := X.room
    have hU : ((T.setVm s.vm).setFrames (.invoking m args :: below)).localsInUse = s.localsInUse := by
      rw [State.localsInUse_invoking hF (meth := meth) (c := c) X.method X.code, State.localsInUse_invoking X.frames X.method X.code]
    simp only [State.hasRoom, Bool.and_eq_true, decide_eq_true_eq] at h ⊢
    obtain ⟨⟨⟨⟨h1, h2, h3, h4, h5, h6⟩, h7⟩, h8⟩, h9⟩ := h
    rw [X.frames, List.length_cons] at h2 h3
    have q1 := X.heapSize
    have q2 := X.used
    simp only [hF, hU, List.length_cons, State.stackLimits_setFrames, State.stackBytes_setFrames, hl9, hb9]
    refine ⟨⟨⟨⟨by omega, by omega, by omega, by omega, by omega, h6⟩, ?_⟩, ?_⟩, X.book⟩
    · show T.heap.size + R'.cells ≤ e.platform.maxCells
      omega
    · show T.slotsUsed + R'.slots ≤ e.platform.maxSlots
      omega
  · rw [State.stackLimits_setFrames]; rfl
  · rw [State.stackBytes_setFrames]; rfl
  · refine ⟨?_, Nat.le_refl _, Nat.le_refl _, ?_, ?_, fun a c9 h9 => ⟨c9, h9, rfl, rfl, fun _ _ => rfl⟩⟩
    · obtain ⟨t, ht, -⟩ := State.frames_cons hr
      show T.setVm s.vm = { ((T.setVm s.vm).setFrames (.invoking m args :: below)).setFrames (T.setVm s.vm).frames with heap := T.heap, slotsUsed := T.slotsUsed }
      rw [State.setFrames_setFrames, State.setFrames_self ht]
      rfl
    · show T.slotsUsed = T.slotsUsed + ((T.heap.toList.drop T.heap.size).map (·.slots.size)).sum
      rw [List.drop_eq_nil_of_le (Nat.le_of_eq Array.length_toList)]
      rfl
    · show ((T.heap.toList.drop T.heap.size).map (·.slots.size)).sum ≤ 0
      rw [List.drop_eq_nil_of_le (Nat.le_of_eq Array.length_toList)]
      exact Nat.le_refl _
/-- 'throw new E()': new; dup; invokespecial; athrow -/
theorem vx_throw0 {cc : ByteArray} {pc : Nat} (hexec : p.tables.exec = Jvm.exec) (hb : c.code = cc) (hl : l.stackTraces = false) {own cls : String} {names : List String} {ik ic mc ms : Nat} {A : Nat → Prop}
    (hown : s.vm.findClass own = some m.cls) (hcls : Bundle.fit cls = true) (hnames : ∀ n ∈ names, Bundle.fit n = true)
    (hk : (Cond.classLink own ik cls).before args s = true) (hini : (Cond.initialized cls).before args s = true) (hat : ∀ w ∈ vx_at0 own ic cls names, w.before args s = true)
    (hgood : ∀ w ∈ Cond.classLink own ik cls :: Cond.initialized cls :: vx_at0 own ic cls names, vx_ot w = true)
    (hU : vx_Zq Bundle.tN "UNASSIGNED_STACK" Bundle.steD A s s.heap) (hN : vx_Zq Bundle.tN "SUPPRESSED_SENTINEL" Bundle.listD A s s.heap) (hS : va_S A s.heap H locs) (hsize : ls.size = c.maxLocals)
    (d0 : decode cc pc = .ok (.new ik, 3)) (d3 : decode cc (pc + 3) = .ok (.dup, 1)) (d4 : decode cc (pc + 4) = .ok (.invokespecial ic, 3)) (d7 : decode cc (pc + 7) = .ok (.athrow, 1))
    (hout : ∀ x ∈ c.exceptionTable.toList, covers x (pc + 7) = false)
    (hRframes : names.length + 3 < R.frames) (hRlocals : (rest.map fun v => v.category).sum + (13 * (names.length + 1) + 42) ≤ R.locals) (hRcells : cells + 1 ≤ R.cells) (hRslots : slots + 6 ≤ R.slots) (hlocks : meth.locks = false)
    (hx : ∀ t : State, s.vm.Alike t.vm → H.size ≤ t.heap.size → (∀ q : Nat, q < H.size → t.heap[q]? = H[q]?) → XC cls s t)
    (hf : ∀ z ∈ locs, free z.base) (hc : cells + 1 ≤ mc) (hs : slots + 6 ≤ ms) :
    W p l e R s m args below meth c H locs cells slots (vx_MQ below Qc XC args s mc ms free) (F0 m pc ls rest) := by
  intro T hT X
  have htr : e.platform.stackTraces = false := (show e.platform.stackTraces = l.stackTraces by rw [X.admits.platform]).trans hl
  have Y := vx_rebase X (R' := { frames := R.frames, locals := R.locals, cells := 1, slots := 6 }) (Nat.le_refl _) (Nat.le_refl _) hRcells hRslots
  obtain ⟨s', hA⟩ : ∃ z, z = (T.setVm s.vm).setFrames (.invoking m args :: below) := ⟨_, rfl⟩
  rw [← hA] at Y
  have hvm : s'.vm = s.vm := by rw [hA]; rfl
  have hhp : s'.heap = H := by rw [hA]; exact hT
  have hW0 : s.WarmedH s'.vm := by rw [hvm]; exact State.WarmedH.refl s
  have hat' : ∀ w ∈ vx_at0 own ic cls names, w.before args s' = true := fun w hw => vx_ot_at hW0 hvm.symm (hgood w (List.mem_cons_of_mem _ (List.mem_cons_of_mem _ hw))) (hat w hw)
  have hk' : (Cond.classLink own ik cls).before args s' = true := vx_ot_at hW0 hvm.symm (hgood _ List.mem_cons_self) hk
  have hini' : (Cond.initialized cls).before args s' = true := vx_ot_at hW0 hvm.symm (hgood _ (List.mem_cons_of_mem _ List.mem_cons_self)) hini
  have hU' : vx_Zq Bundle.tN "UNASSIGNED_STACK" Bundle.steD A s' s'.heap := by rw [hhp]; exact vx_Zq.moved hW0.alike (hU.kept hS.2.1)
  have hN' : vx_Zq Bundle.tN "SUPPRESSED_SENTINEL" Bundle.listD A s' s'.heap := by rw [hhp]; exact vx_Zq.moved hW0.alike (hN.kept hS.2.1)
  have h : ∀ w ∈ Bundle.ownAtoms0 own ic cls names, w.before args s' = true := vx_own hat' (vx_isRefq hU'.1) (vx_isRefq hN'.1) hU'.2.word hN'.2.word
  have hown' : s'.vm.findClass own = some m.cls := by rw [hvm]; exact hown
  have hins : (Cond.instantiable cls 6).before args s' = true := h _ (by simp [Bundle.ownAtoms0])
  obtain ⟨vm₁, cX, kX, hfX, hkX, -, -, X₁, st1⟩ := Y.newCold hexec (own := own) (C := cls) (index := ik) (n := 6) hown' hk' hins hini'
    (g := F0 m pc ls rest) rfl (by rw [hb]; exact d0) (Nat.le_refl _) (Nat.le_refl _)
  generalize hT1 : (T.setVm vm₁).pushCell { cls := cX, slots := kX.instanceTypes.map defaultValue, vm := .none } = T1 at X₁ st1
  have hcat : (Value.ref T.heap.size).category = 1 := rfl
  have hcellA : T1.heap[T.heap.size]? = some (freshCell cX kX) := by rw [← hT1]; exact State.heap_pushCell_size _ _
  have d3' : decode c.code (pc + 3) = .ok (.dup, 1) := by rw [hb]; exact d3
  obtain ⟨U, hsteps, hrun, hend, hW, hsame, ce, hce, hO⟩ := X₁.ctorThrow0 hexec htr (own := own) (cls := cls) (names := names) (ic := ic) hown' hcls hnames h (fun x hx => nomatch hx) hfX hkX hcellA (by rw [hhp, hT]; exact Nat.le_refl _)
    (g := { method := m, pc := pc + 4, locals := ls, stack := .ref T.heap.size :: .ref T.heap.size :: rest, locked := none }) rfl hsize rfl rfl (rest := rest) rfl
    (by rw [hb]; exact d4) (by rw [hb]; exact d7) hout hRframes (by simp only [List.map_cons, List.sum_cons, hcat]; omega) hlocks
  obtain ⟨f1, f2⟩ := vx_frame hsame
  rw [hhp] at f1 f2
  have hWs : s.WarmedH U.vm := State.WarmedH.trans hW0 hW
  have hcl : s.vm.findClass cls = some ce.cls := by
    have h9 := hO.cls
    rw [hvm] at h9
    exact h9
  have hall : s.sameButNew ({ U with vm := s.vm } : State) locs mc ms := by
    subst hA
    obtain ⟨e1, e2⟩ := hsame
    rw [State.setFrames_setFrames] at e1
    have h2 : (T.setVm s.vm).sameButNew ({ U with vm := s.vm } : State) [] (0 + 1) (0 + 6) := ⟨e1, e2⟩
    have h3 := X.same.trans h2
    rw [List.append_nil] at h3
    exact h3.mono hc hs
  refine ⟨U, ?_, .threw T.heap.size, hrun, hend, Or.inr ⟨T.heap.size, rfl, cls, ce, locs, hx U hWs.alike f1 (fun q hq => f2 q hq (fun z hz => nomatch hz)), hce, hO.vm, hcl, hWs, hall, hf⟩⟩
  refine st1 _ ?_
  show Steps p.tables e below (T1.setTop { method := m, pc := pc + 3, locals := ls, stack := .ref T.heap.size :: rest, locked := none }) _
  jvm_step X₁.here [X₁.here.top, hexec, d3', Value.category]
  exact hsteps
/-- 'throw new E("text")': new; dup; ldc; invokespecial; athrow -/
theorem vx_throwS {cc : ByteArray} {pc : Nat} (hexec : p.tables.exec = Jvm.exec) (hb : c.code = cc) (hl : l.stackTraces = false) {own cls text : String} {names : List String} {ik is ic mc ms sa : Nat} {A : Nat → Prop}
    (hown : s.vm.findClass own = some m.cls) (hcls : Bundle.fit cls = true) (hnames : ∀ n ∈ names, Bundle.fit n = true)
    (hk : (Cond.classLink own ik cls).before args s = true) (hini : (Cond.initialized cls).before args s = true) (hstr : vk_R own is text sa s) (hat : ∀ w ∈ vx_atS own ic cls names, w.before args s = true)
    (hgood : ∀ w ∈ Cond.classLink own ik cls :: Cond.initialized cls :: vx_atS own ic cls names, vx_ot w = true)
    (hU : vx_Zq Bundle.tN "UNASSIGNED_STACK" Bundle.steD A s s.heap) (hN : vx_Zq Bundle.tN "SUPPRESSED_SENTINEL" Bundle.listD A s s.heap) (hS : va_S A s.heap H locs) (hsize : ls.size = c.maxLocals)
    (d0 : decode cc pc = .ok (.new ik, 3)) (d3 : decode cc (pc + 3) = .ok (.dup, 1)) (d4 : decode cc (pc + 4) = .ok (.ldc is, 2)) (d6 : decode cc (pc + 6) = .ok (.invokespecial ic, 3)) (d9 : decode cc (pc + 9) = .ok (.athrow, 1))
    (hout : ∀ x ∈ c.exceptionTable.toList, covers x (pc + 9) = false)
    (hRframes : names.length + 3 < R.frames) (hRlocals : (rest.map fun v => v.category).sum + (13 * (names.length + 1) + 43) ≤ R.locals) (hRcells : cells + 1 ≤ R.cells) (hRslots : slots + 6 ≤ R.slots) (hlocks : meth.locks = false)
    (hx : ∀ t : State, s.vm.Alike t.vm → H.size ≤ t.heap.size → (∀ q : Nat, q < H.size → t.heap[q]? = H[q]?) → XC cls s t)
    (hf : ∀ z ∈ locs, free z.base) (hc : cells + 1 ≤ mc) (hs : slots + 6 ≤ ms) :
    W p l e R s m args below meth c H locs cells slots (vx_MQ below Qc XC args s mc ms free) (F0 m pc ls rest) := by
  intro T hT X
  have htr : e.platform.stackTraces = false := (show e.platform.stackTraces = l.stackTraces by rw [X.admits.platform]).trans hl
  have Y := vx_rebase X (R' := { frames := R.frames, locals := R.locals, cells := 1, slots := 6 }) (Nat.le_refl _) (Nat.le_refl _) hRcells hRslots
  obtain ⟨s', hA⟩ : ∃ z, z = (T.setVm s.vm).setFrames (.invoking m args :: below) := ⟨_, rfl⟩
  rw [← hA] at Y
  have hvm : s'.vm = s.vm := by rw [hA]; rfl
  have hhp : s'.heap = H := by rw [hA]; exact hT
  have hW0 : s.WarmedH s'.vm := by rw [hvm]; exact State.WarmedH.refl s
  have hat' : ∀ w ∈ vx_atS own ic cls names, w.before args s' = true := fun w hw => vx_ot_at hW0 hvm.symm (hgood w (List.mem_cons_of_mem _ (List.mem_cons_of_mem _ hw))) (hat w hw)
  have hk' : (Cond.classLink own ik cls).before args s' = true := vx_ot_at hW0 hvm.symm (hgood _ List.mem_cons_self) hk
  have hini' : (Cond.initialized cls).before args s' = true := vx_ot_at hW0 hvm.symm (hgood _ (List.mem_cons_of_mem _ List.mem_cons_self)) hini
  have hU' : vx_Zq Bundle.tN "UNASSIGNED_STACK" Bundle.steD A s' s'.heap := by rw [hhp]; exact vx_Zq.moved hW0.alike (hU.kept hS.2.1)
  have hN' : vx_Zq Bundle.tN "SUPPRESSED_SENTINEL" Bundle.listD A s' s'.heap := by rw [hhp]; exact vx_Zq.moved hW0.alike (hN.kept hS.2.1)
  have h : ∀ w ∈ Bundle.ownAtoms own ic cls names, w.before args s' = true := vx_own hat' (vx_isRefq hU'.1) (vx_isRefq hN'.1) hU'.2.word hN'.2.word
  have hown' : s'.vm.findClass own = some m.cls := by rw [hvm]; exact hown
  have hins : (Cond.instantiable cls 6).before args s' = true := h _ (by simp [Bundle.ownAtoms])
  obtain ⟨vm₁, cX, kX, hfX, hkX, -, -, X₁, st1⟩ := Y.newCold hexec (own := own) (C := cls) (index := ik) (n := 6) hown' hk' hins hini'
    (g := F0 m pc ls rest) rfl (by rw [hb]; exact d0) (Nat.le_refl _) (Nat.le_refl _)
  generalize hT1 : (T.setVm vm₁).pushCell { cls := cX, slots := kX.instanceTypes.map defaultValue, vm := .none } = T1 at X₁ st1
  have hcat : (Value.ref T.heap.size).category = 1 := rfl
  have hcellA : T1.heap[T.heap.size]? = some (freshCell cX kX) := by rw [← hT1]; exact State.heap_pushCell_size _ _
  have d3' : decode c.code (pc + 3) = .ok (.dup, 1) := by rw [hb]; exact d3
  have d4' : decode c.code (pc + 4) = .ok (.ldc is, 2) := by rw [hb]; exact d4
  have hstr' : vk_R own is text sa s' := vk_R.warm hW0 hstr
  obtain ⟨U, hsteps, hrun, hend, hW, hsame, ce, hce, hO⟩ := X₁.ctorThrowS hexec htr (own := own) (cls := cls) (names := names) (ic := ic) hown' hcls hnames h (fun x hx => nomatch hx) hfX hkX hcellA (by rw [hhp, hT]; exact Nat.le_refl _) (msg := .ref sa) rfl
    (g := { method := m, pc := pc + 6, locals := ls, stack := .ref sa :: .ref T.heap.size :: .ref T.heap.size :: rest, locked := none }) rfl hsize rfl rfl (rest := rest) rfl
    (by rw [hb]; exact d6) (by rw [hb]; exact d9) hout hRframes (by simp only [List.map_cons, List.sum_cons, hcat]; omega) hlocks
  obtain ⟨f1, f2⟩ := vx_frame hsame
  rw [hhp] at f1 f2
  have hWs : s.WarmedH U.vm := State.WarmedH.trans hW0 hW
  have hcl : s.vm.findClass cls = some ce.cls := by
    have h9 := hO.cls
    rw [hvm] at h9
    exact h9
  have hall : s.sameButNew ({ U with vm := s.vm } : State) locs mc ms := by
    subst hA
    obtain ⟨e1, e2⟩ := hsame
    rw [State.setFrames_setFrames] at e1
    have h2 : (T.setVm s.vm).sameButNew ({ U with vm := s.vm } : State) [] (0 + 1) (0 + 6) := ⟨e1, e2⟩
    have h3 := X.same.trans h2
    rw [List.append_nil] at h3
    exact h3.mono hc hs
  refine ⟨U, ?_, .threw T.heap.size, hrun, hend, Or.inr ⟨T.heap.size, rfl, cls, ce, locs, hx U hWs.alike f1 (fun q hq => f2 q hq (fun z hz => nomatch hz)), hce, hO.vm, hcl, hWs, hall, hf⟩⟩
  refine st1 _ ?_
  show Steps p.tables e below (T1.setTop { method := m, pc := pc + 3, locals := ls, stack := .ref T.heap.size :: rest, locked := none }) _
  jvm_step X₁.here [X₁.here.top, hexec, d3', Value.category]
  exact X₁.ldcString hexec (own := own) (text := text) (index := is) (a := sa) hown' hstr'.1 hstr'.2
    (g := { method := m, pc := pc + 4, locals := ls, stack := .ref T.heap.size :: .ref T.heap.size :: rest, locked := none }) rfl d4' _ hsteps
/-- 'throw new E("text")', the text by a wide index -/
theorem vx_throwSW {cc : ByteArray} {pc : Nat} (hexec : p.tables.exec = Jvm.exec) (hb : c.code = cc) (hl : l.stackTraces = false) {own cls text : String} {names : List String} {ik is ic mc ms sa : Nat} {A : Nat → Prop}
    (hown : s.vm.findClass own = some m.cls) (hcls : Bundle.fit cls = true) (hnames : ∀ n ∈ names, Bundle.fit n = true)
    (hk : (Cond.classLink own ik cls).before args s = true) (hini : (Cond.initialized cls).before args s = true) (hstr : vk_R own is text sa s) (hat : ∀ w ∈ vx_atS own ic cls names, w.before args s = true)
    (hgood : ∀ w ∈ Cond.classLink own ik cls :: Cond.initialized cls :: vx_atS own ic cls names, vx_ot w = true)
    (hU : vx_Zq Bundle.tN "UNASSIGNED_STACK" Bundle.steD A s s.heap) (hN : vx_Zq Bundle.tN "SUPPRESSED_SENTINEL" Bundle.listD A s s.heap) (hS : va_S A s.heap H locs) (hsize : ls.size = c.maxLocals)
    (d0 : decode cc pc = .ok (.new ik, 3)) (d3 : decode cc (pc + 3) = .ok (.dup, 1)) (d4 : decode cc (pc + 4) = .ok (.ldc_w is, 3)) (d7 : decode cc (pc + 7) = .ok (.invokespecial ic, 3)) (d10 : decode cc (pc + 10) = .ok (.athrow, 1))
    (hout : ∀ x ∈ c.exceptionTable.toList, covers x (pc + 10) = false)
    (hRframes : names.length + 3 < R.frames) (hRlocals : (rest.map fun v => v.category).sum + (13 * (names.length + 1) + 43) ≤ R.locals) (hRcells : cells + 1 ≤ R.cells) (hRslots : slots + 6 ≤ R.slots) (hlocks : meth.locks = false)
    (hx : ∀ t : State, s.vm.Alike t.vm → H.size ≤ t.heap.size → (∀ q : Nat, q < H.size → t.heap[q]? = H[q]?) → XC cls s t)
    (hf : ∀ z ∈ locs, free z.base) (hc : cells + 1 ≤ mc) (hs : slots + 6 ≤ ms) :
    W p l e R s m args below meth c H locs cells slots (vx_MQ below Qc XC args s mc ms free) (F0 m pc ls rest) := by
  intro T hT X
  have htr : e.platform.stackTraces = false := (show e.platform.stackTraces = l.stackTraces by rw [X.admits.platform]).trans hl
  have Y := vx_rebase X (R' := { frames := R.frames, locals := R.locals, cells := 1, slots := 6 }) (Nat.le_refl _) (Nat.le_refl _) hRcells hRslots
  obtain ⟨s', hA⟩ : ∃ z, z = (T.setVm s.vm).setFrames (.invoking m args :: below) := ⟨_, rfl⟩
  rw [← hA] at Y
  have hvm : s'.vm = s.vm := by rw [hA]; rfl
  have hhp : s'.heap = H := by rw [hA]; exact hT
  have hW0 : s.WarmedH s'.vm := by rw [hvm]; exact State.WarmedH.refl s
  have hat' : ∀ w ∈ vx_atS own ic cls names, w.before args s' = true := fun w hw => vx_ot_at hW0 hvm.symm (hgood w (List.mem_cons_of_mem _ (List.mem_cons_of_mem _ hw))) (hat w hw)
  have hk' : (Cond.classLink own ik cls).before args s' = true := vx_ot_at hW0 hvm.symm (hgood _ List.mem_cons_self) hk
  have hini' : (Cond.initialized cls).before args s' = true := vx_ot_at hW0 hvm.symm (hgood _ (List.mem_cons_of_mem _ List.mem_cons_self)) hini
  have hU' : vx_Zq Bundle.tN "UNASSIGNED_STACK" Bundle.steD A s' s'.heap := by rw [hhp]; exact vx_Zq.moved hW0.alike (hU.kept hS.2.1)
  have hN' : vx_Zq Bundle.tN "SUPPRESSED_SENTINEL" Bundle.listD A s' s'.heap := by rw [hhp]; exact vx_Zq.moved hW0.alike (hN.kept hS.2.1)
  have h : ∀ w ∈ Bundle.ownAtoms own ic cls names, w.before args s' = true := vx_own hat' (vx_isRefq hU'.1) (vx_isRefq hN'.1) hU'.2.word hN'.2.word
  have hown' : s'.vm.findClass own = some m.cls := by rw [hvm]; exact hown
  have hins : (Cond.instantiable cls 6).before args s' = true := h _ (by simp [Bundle.ownAtoms])
  obtain ⟨vm₁, cX, kX, hfX, hkX, -, -, X₁, st1⟩ := Y.newCold hexec (own := own) (C := cls) (index := ik) (n := 6) hown' hk' hins hini'
    (g := F0 m pc ls rest) rfl (by rw [hb]; exact d0) (Nat.le_refl _) (Nat.le_refl _)
  generalize hT1 : (T.setVm vm₁).pushCell { cls := cX, slots := kX.instanceTypes.map defaultValue, vm := .none } = T1 at X₁ st1
  have hcat : (Value.ref T.heap.size).category = 1 := rfl
  have hcellA : T1.heap[T.heap.size]? = some (freshCell cX kX) := by rw [← hT1]; exact State.heap_pushCell_size _ _
  have d3' : decode c.code (pc + 3) = .ok (.dup, 1) := by rw [hb]; exact d3
  have d4' : decode c.code (pc + 4) = .ok (.ldc_w is, 3) := by rw [hb]; exact d4
  have hstr' : vk_R own is text sa s' := vk_R.warm hW0 hstr
  obtain ⟨U, hsteps, hrun, hend, hW, hsame, ce, hce, hO⟩ := X₁.ctorThrowS hexec htr (own := own) (cls := cls) (names := names) (ic := ic) hown' hcls hnames h (fun x hx => nomatch hx) hfX hkX hcellA (by rw [hhp, hT]; exact Nat.le_refl _) (msg := .ref sa) rfl
    (g := { method := m, pc := pc + 7, locals := ls, stack := .ref sa :: .ref T.heap.size :: .ref T.heap.size :: rest, locked := none }) rfl hsize rfl rfl (rest := rest) rfl
    (by rw [hb]; exact d7) (by rw [hb]; exact d10) hout hRframes (by simp only [List.map_cons, List.sum_cons, hcat]; omega) hlocks
  obtain ⟨f1, f2⟩ := vx_frame hsame
  rw [hhp] at f1 f2
  have hWs : s.WarmedH U.vm := State.WarmedH.trans hW0 hW
  have hcl : s.vm.findClass cls = some ce.cls := by
    have h9 := hO.cls
    rw [hvm] at h9
    exact h9
  have hall : s.sameButNew ({ U with vm := s.vm } : State) locs mc ms := by
    subst hA
    obtain ⟨e1, e2⟩ := hsame
    rw [State.setFrames_setFrames] at e1
    have h2 : (T.setVm s.vm).sameButNew ({ U with vm := s.vm } : State) [] (0 + 1) (0 + 6) := ⟨e1, e2⟩
    have h3 := X.same.trans h2
    rw [List.append_nil] at h3
    exact h3.mono hc hs
  refine ⟨U, ?_, .threw T.heap.size, hrun, hend, Or.inr ⟨T.heap.size, rfl, cls, ce, locs, hx U hWs.alike f1 (fun q hq => f2 q hq (fun z hz => nomatch hz)), hce, hO.vm, hcl, hWs, hall, hf⟩⟩
  refine st1 _ ?_
  show Steps p.tables e below (T1.setTop { method := m, pc := pc + 3, locals := ls, stack := .ref T.heap.size :: rest, locked := none }) _
  jvm_step X₁.here [X₁.here.top, hexec, d3', Value.category]
  exact X₁.ldcStringW hexec (own := own) (text := text) (index := is) (a := sa) hown' hstr'.1 hstr'.2
    (g := { method := m, pc := pc + 4, locals := ls, stack := .ref T.heap.size :: .ref T.heap.size :: rest, locked := none }) rfl d4' _ hsteps
end Ends
section Bodies
variable {l : Launch}
theorem vx_ofW {y : MethodName} {ws ws' : List Cond} {rm : Room} {Pc : Array Value → State → Prop} {Qc : Array Value → State → Outcome → State → Prop} {XC : String → State → State → Prop} {mc ms : Nat} {free : Addr → Prop} {cc : ByteArray} {maxL : Nat} {ret : Option FieldType}
    (hy : plainName y.cls = true) (hw : ws = Cond.code y cc maxL ret :: ws')
    (body : ∀ p e s m args below meth c s₁, BodyLoose p l y (headSpec ws rm) cc maxL ret e s m args below meth c s₁ → c.maxLocals = maxL → (∀ x ∈ c.exceptionTable.toList, False) → Pc args s →
      W p l e (headSpec ws rm).room s m args below meth c s.heap [] 0 0 (vx_MQ below Qc XC args s mc ms free) (entryFrame m args maxL)) : vx_Met l y ws rm Pc Qc XC mc ms free := by
  refine MetFree.of_bodyS (code := cc) (maxLocals := maxL) (ret := ret) hy ?_ ?_
  · intro args s m h hn
    obtain ⟨meth, c, h1, h2, h3, h4, h5, h6, -, -⟩ := Cond.code_spec hn (atoms_spec (ws := ws) h _ (by rw [hw]; exact List.mem_cons_self))
    exact ⟨meth, c, h1, h2, h3, h4, h5, h6⟩
  · intro p e s m args below meth c s₁ B hml hP _
    have hh0 : s₁.heap = s.heap := by rw [B.state]; rfl
    have ht : ∀ x ∈ c.exceptionTable.toList, False := by
      obtain ⟨meth9, c9, h1, h2, -, -, -, -, h7, -⟩ := Cond.code_spec B.named (atoms_spec (ws := ws) B.pre _ (by rw [hw]; exact List.mem_cons_self))
      cases Option.some.inj (h1.symm.trans B.method)
      cases Option.some.inj (h2.symm.trans (Stand.of_body B).code)
      intro x hx
      rw [Array.isEmpty_iff.mp h7] at hx
      cases hx
    obtain ⟨t, a1, o, b1, b2, b3⟩ := body p e s m args below meth c s₁ B hml ht hP s₁ hh0 (Stand.of_body B)
    exact ⟨t, o, a1, b1, b2, b3⟩
/-- the table of a body with handlers -/
theorem vx_table {p : Program} {x y : MethodName} {S : Spec} {cc bytes : ByteArray} {maxL maxL' : Nat} {ret ret' : Option FieldType} {e : Env} {s s₁ : State} {m : MethodId} {args : Array Value} {below : List Frame} {meth : Method} {c : Code} {hh : List (Nat × Nat × Nat × Nat)}
    (B : BodyLoose p l y S cc maxL ret e s m args below meth c s₁) (h : (Cond.codeWith y bytes maxL' ret' hh).before args s = true) : c.exceptionTable.toList = tableOf hh := by
  obtain ⟨m9, meth9, c9, hn9, h1, h2, -, -, h6, -⟩ := Cond.codeWith_spec h
  cases Option.some.inj (hn9.symm.trans B.named)
  cases Option.some.inj (h1.symm.trans B.method)
  cases Option.some.inj (h2.symm.trans (Stand.of_body B).code)
  rw [← h6, table_eq]
end Bodies
end VXA
/-! ===== END ===== -/
/-! ===== BEGIN a static call of a method with an exception table ===== -/
section VXS
variable {p : Program} {l : Launch} {e : Env} {R : Room} {s : State} {m : MethodId} {args : Array Value} {below : List Frame} {meth : Method} {c : Code} {T : State} {H : Heap} {locs : List Loc} {cells slots : Nat}
abbrev vx_CSW (R : Room) (s : State) (args : Array Value) (own : String) (index : Nat) (y : MethodName) (bytes : ByteArray) (maxL : Nat) (ret : Option FieldType) (hh : List (Nat × Nat × Nat × Nat)) (ws : List Cond) (rm : Room) (mc ms n : Nat) : Prop :=
  (rm.cells = mc ∧ rm.slots = ms ∧ rm.frames + 1 ≤ R.frames ∧ 8 + (maxL + 11) + rm.locals ≤ R.locals ∧ (∀ w ∈ ws, ∀ (a' : Array Value) (U : State), s.WarmedH U.vm → w.before a' U = true) ∧ Cond.codeWith y bytes maxL ret hh ∈ ws) ∧
  (Cond.codeWith y bytes maxL ret hh).before args s = true ∧ (Cond.initialized y.cls).before args s = true ∧ (y.cls ≠ "java/lang/invoke/MethodHandle" ∧ y.cls ≠ "java/lang/invoke/VarHandle") ∧
  (∀ sig, parseMethodDescriptor y.desc = some sig → n = sig.parameters.length) ∧ (Cond.methodLink own index y).before args s = true ∧ (Cond.static y).before args s = true
theorem vx_cwSW {own : String} {index maxL mc ms : Nat} {y : MethodName} {bytes : ByteArray} {ret : Option FieldType} {hh : List (Nat × Nat × Nat × Nat)} {Ts ws ws' : List Cond} {rm : Room} (n : Nat) (ht : ∀ w ∈ Ts, w.before args s = true) (hT : GoodIn Ts (va_wsS own index y ws)) (hw : ws = Cond.codeWith y bytes maxL ret hh :: ws') (hrc : rm.cells = mc) (hrs : rm.slots = ms)
    (hd : y.cls ≠ "java/lang/invoke/MethodHandle" ∧ y.cls ≠ "java/lang/invoke/VarHandle" ∧ (parseMethodDescriptor y.desc).map (fun d => d.parameters.length) = some n) (hR : rm.frames + 1 ≤ R.frames ∧ 8 + (maxL + 11) + rm.locals ≤ R.locals) :
    vx_CSW R s args own index y bytes maxL ret hh ws rm mc ms n := by
  have ok : ∀ w ∈ va_wsS own index y ws, w.before args s = true := fun w h => ht w (hT w h).1
  have hG : GoodIn Ts ws := fun w h => hT w (by unfold va_wsS; exact List.mem_append_right _ h)
  have hc : Cond.codeWith y bytes maxL ret hh ∈ ws := by rw [hw]; exact List.mem_cons_self
  refine ⟨⟨hrc, hrs, hR.1, hR.2, pay_in ht hG, hc⟩, ht _ (hG _ hc).1, ok _ (by simp [va_wsS]), ⟨hd.1, hd.2.1⟩, fun sig h => ?_, ok _ (by simp [va_wsS]), ok _ (by simp [va_wsS])⟩
  have h2 := hd.2.2
  rw [h] at h2
  exact (Option.some.inj h2).symm
theorem vx_callSW (X : Stand p l e R s m args below meth c T locs cells slots) (hexec : p.tables.exec = Jvm.exec) {own : String} {index : Nat} {y : MethodName} {bytes : ByteArray} {maxL : Nat} {ret : Option FieldType} {hh : List (Nat × Nat × Nat × Nat)}
    (hown : s.vm.findClass own = some m.cls) (hlink : (Cond.methodLink own index y).before args s = true) (hstat : (Cond.static y).before args s = true) (hinit : (Cond.initialized y.cls).before args s = true)
    (hcode : (Cond.codeWith y bytes maxL ret hh).before args s = true) (hy : y.cls ≠ "java/lang/invoke/MethodHandle" ∧ y.cls ≠ "java/lang/invoke/VarHandle")
    {W9 : Nat} {Pre : Pt → Array Value → Prop} {Post : Pt → Array Value → Option Value → Pt → Prop} (hK : Back l R p e below s args y 3 W9 Pre Post)
    {g : JFrame} (hg : g.method = m) (hsize : g.locals.size = c.maxLocals) {argsL rest : List Value} (hlen : ∀ sig, parseMethodDescriptor y.desc = some sig → argsL.length = sig.parameters.length)
    (hstack : g.stack = argsL.reverse ++ rest) (hW : 2 * g.monitorRoom + (rest.map fun v => v.category).sum ≤ W9) (hdg : decode c.code g.pc = .ok (.invokestatic index, 3))
    (hpre : ∀ vm₁, s.WarmedH vm₁ → Pre ⟨T.setVm vm₁, locs, cells, slots⟩ argsL.toArray) :
    ∃ (v : Option Value) (vm₁ : Vm) (B : Pt), s.WarmedH vm₁ ∧ Stand p l e R s m args below meth c B.U B.locs B.cells B.slots ∧ Post ⟨T.setVm vm₁, locs, cells, slots⟩ argsL.toArray v B ∧
      ∀ target, Steps p.tables e below (B.U.setTop { g with pc := g.pc + 3, stack := v.toList ++ rest }) target → Steps p.tables e below (T.setTop g) target := by
  obtain ⟨mk, methM, cM, hnamed, hmethM, -, -, -, -, -, -, hsigM⟩ := Cond.codeWith_spec hcode
  have hstatic : methM.isStatic = true := Cond.static_spec hnamed hmethM hstat
  obtain ⟨kP, hkP, -⟩ := className_of_methodNamed hnamed
  have hinitP : kP.init = .initialized := Cond.initialized_spec (findClass_of_methodNamed hnamed) hkP hinit
  obtain ⟨vm₁, X₁, hstep₁⟩ := X.invokestatic hexec hown hlink hnamed hmethM hstatic hkP hinitP hy (g := g) hg (argsL := argsL) (rest := rest) (hlen _ hsigM) hstack hdg
  obtain ⟨v, B, X', hpost, hsteps⟩ := hK m meth c ⟨T.setVm vm₁, locs, cells, slots⟩ { g with stack := rest } (.invokestatic index) mk argsL.toArray X₁ hg hsize hdg hW (X₁.named hnamed) (hpre vm₁ X₁.warmed)
  exact ⟨v, vm₁, B, X₁.warmed, X', hpost, fun target h => hstep₁ _ fun acts => by rw [doInvoke_state]; exact hsteps.trans h⟩
theorem vx_runSW {y : MethodName} {bytes cc : ByteArray} {maxL nL mc ms n index : Nat} {ret : Option FieldType} {hh : List (Nat × Nat × Nat × Nat)} {ws : List Cond} {rm : Room} {Pc : Array Value → State → Prop} {Qc : Array Value → State → Outcome → State → Prop} {free : Addr → Prop} {Ts : List Cond} {own : String} {As rest : List Value} {g : JFrame}
    (S : CallFix p m c cc nL s args Ts own) (hM : Met l y ws rm Pc Qc mc ms free) (cw : vx_CSW R s args own index y bytes maxL ret hh ws rm mc ms n) (hp : PreS s H Pc As)
    (hg : g.method = m) (hn : As.length = n) (hsize : g.locals.size = nL) (hstack : g.stack = As.reverse ++ rest) (hW : 2 * g.monitorRoom + (rest.map fun v => v.category).sum ≤ 8) (hdg : decode cc g.pc = .ok (.invokestatic index, 3)) (hf : cells + mc ≤ R.cells ∧ slots + ms ≤ R.slots) :
    va_Run p l e R s m args below meth c H locs cells slots mc ms g rest (Qc As.toArray) (free) := by
  obtain ⟨⟨hrc, hrs, hfr, hlo, hws, hcw⟩, hcode, hini, hy, hlen, hl, hstt⟩ := cw
  have hK : Back l R p e below s args y 3 8 (PreOf R mc ms Pc) (PostOf Qc mc ms free) := va_backW (hh := hh) (bytes := bytes) (maxL := maxL) (ret := ret) hM hp.1 hrc hrs hfr hlo hws hcw (fun a' U hW => word_at hW (Or.inl (by first | rfl | simp [Cond.onTables, Cond.keeps, Cond.steady])) hini)
  obtain ⟨hx, hb, hml, ho, -⟩ := S
  intro T hT X
  obtain ⟨v, vm₁, ⟨U', l2, c2, s2⟩, hW₁, X', ⟨g', mk, t, L, e1, e2, hq, h1, hL, h2, h3⟩, st⟩ := vx_callSW X hx (hh := hh) (bytes := bytes) (maxL := maxL) (ret := ret) ho hl hstt hini hcode hy hK hg (hsize.trans hml.symm) (argsL := As) (rest := rest) (fun sig h => hn.trans (hlen sig h)) hstack hW (by rw [hb]; exact hdg)
    (fun vm₁ hW₁ => ⟨hf.1, hf.2, hp.2 (T.setVm vm₁) hT hW₁⟩)
  dsimp only [Pt.U, Pt.locs, Pt.cells, Pt.slots] at X' e1 e2 h1 h2 h3 st
  subst h1; subst h2; subst h3
  exact ⟨v, (T.setVm vm₁).calling g' mk As.toArray, t, U', L, hT, X', hL, e1, e2, hq, st⟩
/-- not caught here, past rows that name other classes: it goes on to the caller -/
theorem vx_outP {p : Program} {l : Launch} {e : Env} {R : Room} {s : State} {m : MethodId} {args : Array Value} {below : List Frame} {meth : Method} {c : Code} {H : Heap} {locs : List Loc} {cells slots : Nat} {free : Addr → Prop} {ls : Array Slot} {rest : List Value} {Qc : Array Value → State → Outcome → State → Prop} {XC : String → State → State → Prop}
    {pc : Nat} {own E : String} {ce : Cell} {q : Addr} {mc ms : Nat} (hown : s.vm.findClass own = some m.cls) (hlocks : meth.locks = false)
    (hpass : ∀ z ∈ c.exceptionTable.toList, covers z pc = false ∨ (z.catchType ≠ 0 ∧ ∃ nm : String, (Cond.classLink own z.catchType nm).before args s = true ∧ va_Nc E nm s)) (hcell : H[q]? = some ce) (hv : ce.vm = .none) (hcl : s.vm.findClass E = some ce.cls)
    (hx : ∀ t : State, t.heap = H → s.vm.Alike t.vm → XC E s t) (hf : ∀ z ∈ locs, free z.base) (hc : cells ≤ mc) (hs : slots ≤ ms) :
    vx_W p l e R s m args below meth c H locs cells slots (vx_MQ below Qc XC args s mc ms free) (F0 m pc ls rest) q := by
  intro T hT X
  have hpl : e.platform.magicAccessors = ({} : Platform).magicAccessors := by rw [X.admits.platform]
  obtain ⟨vm', hW', X', st⟩ := X.outThrough hlocks q (g := F0 m pc ls rest) rfl rfl rfl (cell := ce) (by rw [hT]; exact hcell) (by rw [hv]; rfl)
    (by obtain ⟨k9, h9, -⟩ := Vm.findClass_spec hcl; exact ⟨k9, h9⟩) (fun z hz => by
      rcases hpass z hz with h | ⟨hz0, nm, hl1, hn1⟩
      · exact Or.inl h
      · obtain ⟨c6, hc6, hcl6⟩ := Cond.classLink_spec hown hl1 e.platform hpl
        obtain ⟨a8, b8, h1, h2, h3⟩ := hn1
        cases Option.some.inj (h1.symm.trans hcl)
        cases Option.some.inj (h2.symm.trans hc6)
        exact Or.inr ⟨hz0, _, hcl6, h3⟩)
  obtain ⟨g₀, hfr⟩ := X'.frames_eq
  have hcell9 : ((T.setVm vm').setFrames (.throwing q :: below)).heap[q]? = some ce := by
    show T.heap[q]? = some ce
    rw [hT]; exact hcell
  have hend : Ended ((T.setVm vm').setFrames (.throwing q :: below)) below (.threw q) := State.frames_setFrames _ (State.cur_lt_of_frames hfr)
  refine ⟨(T.setVm vm').setFrames (.throwing q :: below), ?_, .threw q, X'.here.running, hend, Or.inr ⟨q, rfl, E, ce, locs, hx _ hT (X'.ends _).1.alike, hcell9, hv, hcl, (X'.ends _).1, (X'.ends _).2.mono hc hs, hf⟩⟩
  rw [X.pushThrowing_eq]
  exact st
/-- a thing of a world lies in the heap -/
theorem vx_lt {D : va_G} {cl : List vw_C} {ws : va_W} {H1 : Heap} (h : va_P D cl ws H1) {k : Nat} {q : Nat × va_E} (hk : ws[k]? = some q) : q.1 < H1.size := (h k q hk).lt
end VXS
/-! ===== END ===== -/
/-! ===== BEGIN methods with a table of their own: called by a name, returning or throwing ===== -/
section VXH
/-! vx_backW, vx_callVX, vx_callSX, vx_callVW, vx_runVW, vx_runVX, vx_runSX, vx_ofWH follow the same proofs as their sisters above (Free/Laws.lean, Shelf42/LK1.lean); vx_outP calls Shelf42/NT130.lean (outThrough). -/
section
variable {l : Launch} {R : Room} {p : Program} {e : Env} {below : List Frame} {s : State} {sargs : Array Value} {y : MethodName} {len W9 : Nat}
theorem vx_backW {ws : List Cond} {rm : Room} {Pc : Array Value → State → Prop} {Qc : Array Value → State → Outcome → State → Prop} {XC : String → State → State → Prop} {mc ms : Nat} {free : Addr → Prop} {bytes : ByteArray} {maxL : Nat} {ret : Option FieldType} {hh : List (Nat × Nat × Nat × Nat)}
    (hM : vx_Met l y ws rm Pc Qc XC mc ms free) (hblind : FrameBlind Pc) (hrc : rm.cells = mc) (hrs : rm.slots = ms)
    (hframes : rm.frames + 1 ≤ R.frames) (hlocals : W9 + (maxL + 11) + rm.locals ≤ R.locals)
    (hws : ∀ w ∈ ws, ∀ a' U, s.WarmedH U.vm → w.before a' U = true) (hcode : Cond.codeWith y bytes maxL ret hh ∈ ws) (hinit : ∀ a' U, s.WarmedH U.vm → (Cond.initialized y.cls).before a' U = true) :
    vx_Back l R p e below s sargs y len W9 (PreOf R mc ms Pc) (PostOf Qc mc ms free) (vx_Post XC mc ms free) := by
  intro m meth c A g ig mk a X hg hsize hdg hW hn hp
  have h1 : (headSpec ws rm).pre.before a A.U = true := atoms_intro fun w hw => hws w hw _ _ X.warmed
  have h2 : (Cond.codeWith y bytes maxL ret hh).before a A.U = true := hws _ hcode _ _ X.warmed
  have h3 : (Cond.initialized y.cls).before a A.U = true := hinit _ _ X.warmed
  have h4 : A.cells + (headSpec ws rm).room.cells ≤ R.cells := by rw [show (headSpec ws rm).room.cells = mc from hrc]; exact hp.1
  have h5 : A.slots + (headSpec ws rm).room.slots ≤ R.slots := by rw [show (headSpec ws rm).room.slots = ms from hrs]; exact hp.2.1
  have hPc : Pc a (A.U.calling g mk a) := hblind _ _ _ _ hp.2.2
  obtain ⟨U, Ls, c0, s0⟩ := A
  dsimp only [Pt.U, Pt.locs, Pt.cells, Pt.slots] at h1 h2 h3 h4 h5 X hn hPc ⊢
  obtain ⟨m9, methY, cY, hn9, hmY, hcY, -, hlY, -⟩ := Cond.codeWith_spec h2
  cases Option.some.inj (hn9.symm.trans hn)
  obtain ⟨kY, hkY, -⟩ := className_of_methodNamed hn
  have hinitY : kY.init = .initialized := Cond.initialized_spec (findClass_of_methodNamed hn) hkY h3
  have h : At U g.method c below := by rw [hg]; exact X.here
  have hlocals9 : W9 + (maxL + 11) + (headSpec ws rm).room.locals ≤ R.locals := hlocals
  have happ : (headSpec ws rm).appliesLoose y e.platform (U.calling g mk a) = true :=
    Spec.appliesLoose_calling (g := g) h hdg hn hkY hinitY
      (X.room_calling (g := g) (R' := (headSpec ws rm).room) hsize hmY hcY hframes (by rw [hlY]; omega) h4 h5) h1
  obtain ⟨mid, hmid⟩ := h.above
  have hfr : (U.setTop g).frames = (.java g :: mid) ++ below := by rw [State.frames_setTop' g h.top, hmid]; rfl
  obtain ⟨o, s₂, hsteps, -, hend, hq⟩ := Steps.callFree hM p X.admits X.cas X.clock (acts := []) hfr happ hPc trivial
  have hq' : vx_Q Qc XC mc ms free a (U.calling g mk a) o s₂ := hq
  rw [State.frames_setTop' g h.top] at hend
  obtain ⟨g₀, hg0⟩ := Option.isSome_iff_exists.mp h.top
  obtain ⟨r, hr⟩ := State.topJava?_eq_some.mp hg0
  have hr' : (({ U with heap := s₂.heap, slotsUsed := s₂.slotsUsed } : State).setVm s₂.vm).frames = .java g₀ :: r := hr
  rcases hq' with ⟨hqc, L, hfe, hL⟩ | ⟨q, rfl, E, ce, L, hx, hce, hcv, hcl, hW₂, hsm, hL⟩
  · obtain ⟨⟨v, rfl⟩, hW₂, e2, q2, q3, q4, q5, q6⟩ := id hfe
    have e3 : s₂ = ({ (U.calling g mk a).setFrames s₂.frames with heap := s₂.heap, slotsUsed := s₂.slotsUsed } : State).setVm s₂.vm := by
      have : s₂ = ({ s₂ with vm := (U.calling g mk a).vm } : State).setVm s₂.vm := rfl
      rw [e2] at this
      exact this
    obtain ⟨c₂, i₂, len₂, hc₂, hd₂, hf₂⟩ := hend
    have hW' : U.WarmedH s₂.vm := hW₂
    have hcc : c₂ = c := by
      have h1 : s₂.code? g.method = U.code? g.method := by
        rw [State.code?_eq, State.code?_eq, hW'.alike.method?]
      exact Option.some.inj (hc₂.symm.trans (h1.trans h.code))
    subst hcc
    have hlen : len₂ = len := by rw [hdg] at hd₂; cases hd₂; rfl
    subst hlen
    have hs₂ : s₂ = (({ U with heap := s₂.heap, slotsUsed := s₂.slotsUsed } : State).setVm s₂.vm).setTop { g with pc := g.pc + len₂, stack := v.toList ++ g.stack } := by
      refine e3.trans ?_
      rw [hf₂, State.calling_eq h.top, State.setFrames_setFrames, State.setTop_of_frames _ hr', hr]
      rfl
    have hsame : U.sameButNew ({ U with heap := s₂.heap, slotsUsed := s₂.slotsUsed } : State) L mc ms := by
      refine ⟨?_, q2, q3, q4, q5, q6⟩
      obtain ⟨t, ht, -⟩ := State.frames_cons hr
      show ({ U with heap := s₂.heap, slotsUsed := s₂.slotsUsed } : State) = { U.setFrames U.frames with heap := s₂.heap, slotsUsed := s₂.slotsUsed }
      rw [State.setFrames_self ht]
    subst hg
    refine Or.inl ⟨v, ⟨(({ U with heap := s₂.heap, slotsUsed := s₂.slotsUsed } : State).setVm s₂.vm), Ls ++ L, c0 + mc, s0 + ms⟩,
      ⟨X.admits, X.cas, X.clock, X.frames, X.room, X.hears, X.method, X.code, (X.here.setHeapUsed s₂.heap s₂.slotsUsed).setVm hW'.alike, X.tail, State.WarmedH.trans X.warmed hW', X.limits, X.bytes, X.same.trans (hsame.setVm s.vm)⟩,
      ⟨g, mk, s₂, L, rfl, rfl, hqc, rfl, hL, rfl, rfl⟩, ?_⟩
    show Steps p.tables e below _ ((({ U with heap := s₂.heap, slotsUsed := s₂.slotsUsed } : State).setVm s₂.vm).setTop { g with pc := g.pc + len₂, stack := v.toList ++ g.stack })
    rw [← hs₂]
    exact hsteps
  · obtain ⟨e2, q2, q3, q4, q5, q6⟩ := id hsm
    have e3 : s₂ = ({ (U.calling g mk a).setFrames s₂.frames with heap := s₂.heap, slotsUsed := s₂.slotsUsed } : State).setVm s₂.vm := by
      have : s₂ = ({ s₂ with vm := (U.calling g mk a).vm } : State).setVm s₂.vm := rfl
      rw [e2] at this
      exact this
    have hf₂ : s₂.frames = .throwing q :: .java g :: U.frames.tail := hend
    have hW' : U.WarmedH s₂.vm := hW₂
    have hs₂ : s₂ = ((({ U with heap := s₂.heap, slotsUsed := s₂.slotsUsed } : State).setVm s₂.vm).setTop g).pushFrame (.throwing q) := by
      refine e3.trans ?_
      rw [hf₂, State.calling_eq h.top, State.setFrames_setFrames, State.pushFrame, State.frames_setTop _ hr', State.setTop_of_frames _ hr', State.setFrames_setFrames, hr]
      rfl
    have hsame : U.sameButNew ({ U with heap := s₂.heap, slotsUsed := s₂.slotsUsed } : State) L mc ms := by
      refine ⟨?_, q2, q3, q4, q5, q6⟩
      obtain ⟨t, ht, -⟩ := State.frames_cons hr
      show ({ U with heap := s₂.heap, slotsUsed := s₂.slotsUsed } : State) = { U.setFrames U.frames with heap := s₂.heap, slotsUsed := s₂.slotsUsed }
      rw [State.setFrames_self ht]
    subst hg
    refine Or.inr ⟨q, ⟨(({ U with heap := s₂.heap, slotsUsed := s₂.slotsUsed } : State).setVm s₂.vm), Ls ++ L, c0 + mc, s0 + ms⟩,
      ⟨X.admits, X.cas, X.clock, X.frames, X.room, X.hears, X.method, X.code, (X.here.setHeapUsed s₂.heap s₂.slotsUsed).setVm hW'.alike, X.tail, State.WarmedH.trans X.warmed hW', X.limits, X.bytes, X.same.trans (hsame.setVm s.vm)⟩,
      ⟨g, mk, s₂, L, E, ce, rfl, rfl, hx, hce, hcv, hcl, rfl, hL, rfl, rfl⟩, ?_⟩
    show Steps p.tables e below _ (((({ U with heap := s₂.heap, slotsUsed := s₂.slotsUsed } : State).setVm s₂.vm).setTop g).pushFrame (.throwing q))
    rw [← hs₂]
    exact hsteps
end
variable {p : Program} {l : Launch} {e : Env} {R : Room} {s : State} {m : MethodId} {args : Array Value} {below : List Frame} {meth : Method} {c : Code} {T : State} {H : Heap} {locs : List Loc} {cells slots : Nat}
theorem vx_callVX (X : Stand p l e R s m args below meth c T locs cells slots) (hexec : p.tables.exec = Jvm.exec) {own C : String} {index : Nat} {y : MethodName} {bytes : ByteArray} {maxL : Nat} {ret : Option FieldType} {hh : List (Nat × Nat × Nat × Nat)}
    (hown : s.vm.findClass own = some m.cls) (hlink : (Cond.methodLink own index y).before args s = true) (hinst : (Cond.instanceMethod y).before args s = true) (hsel : (Cond.selects C y y).before args s = true)
    (hcode : (Cond.codeWith y bytes maxL ret hh).before args s = true) (hy : y.cls ≠ "java/lang/invoke/MethodHandle" ∧ y.cls ≠ "java/lang/invoke/VarHandle")
    {W9 : Nat} {Pre : Pt → Array Value → Prop} {Post : Pt → Array Value → Option Value → Pt → Prop} {PostX : Pt → Array Value → Addr → Pt → Prop} (hK : vx_Back l R p e below s args y 3 W9 Pre Post PostX)
    {b : Addr} {cellB : Cell} (hcell : T.heap[b]? = some cellB) (hobj : cellB.vm.isStatics = false) (hcls : s.vm.findClass C = some cellB.cls)
    {g : JFrame} (hg : g.method = m) (hsize : g.locals.size = c.maxLocals) {argsL rest : List Value} (hlen : ∀ sig, parseMethodDescriptor y.desc = some sig → argsL.length = sig.parameters.length)
    (hstack : g.stack = argsL.reverse ++ .ref b :: rest) (hW : 2 * g.monitorRoom + (rest.map fun v => v.category).sum ≤ W9) (hdg : decode c.code g.pc = .ok (.invokevirtual index, 3))
    (hpre : ∀ vm₁, s.WarmedH vm₁ → Pre ⟨T.setVm vm₁, locs, cells, slots⟩ (Value.ref b :: argsL).toArray) :
    (∃ (v : Option Value) (vm₁ : Vm) (B : Pt), s.WarmedH vm₁ ∧ Stand p l e R s m args below meth c B.U B.locs B.cells B.slots ∧ Post ⟨T.setVm vm₁, locs, cells, slots⟩ (Value.ref b :: argsL).toArray v B ∧
      ∀ target, Steps p.tables e below (B.U.setTop { g with pc := g.pc + 3, stack := v.toList ++ rest }) target → Steps p.tables e below (T.setTop g) target) ∨
    (∃ (q : Addr) (vm₁ : Vm) (B : Pt), s.WarmedH vm₁ ∧ Stand p l e R s m args below meth c B.U B.locs B.cells B.slots ∧ PostX ⟨T.setVm vm₁, locs, cells, slots⟩ (Value.ref b :: argsL).toArray q B ∧
      Steps p.tables e below (T.setTop g) ((B.U.setTop { g with stack := rest }).pushFrame (.throwing q))) := by
  obtain ⟨mk, methM, hnamed, hmethM, hstM, habM⟩ := Cond.instanceMethod_spec hinst
  obtain ⟨m8, methM', cM, hn8, hmethM', -, -, -, -, -, -, hsigM⟩ := Cond.codeWith_spec hcode
  cases Option.some.inj (hn8.symm.trans hnamed)
  cases hmethM.symm.trans hmethM'
  obtain ⟨c2, r2, m2, q1, q2, q3, q4, kP, hkP, hkPi⟩ := Cond.selects_spec hsel
  cases hcls.symm.trans q1
  cases (State.methodFound?_of_named hnamed hy).symm.trans q2
  cases hnamed.symm.trans q3
  have hselP : selectMethod e.platform s.vm cellB.cls mk = .method mk := by rw [Launch.admits_selectMethod X.admits]; exact q4
  obtain ⟨vm₁, X₁, hstep₁⟩ := X.invokevirtual hexec hown hlink hnamed hmethM hstM hkP hkPi hy (a := b) (cell := cellB) hcell
    (fun z h => by rw [h] at hobj; cases hobj) hselP hmethM habM hkP hkPi (g := g) hg (argsL := argsL) (rest := rest) (hlen _ hsigM) hstack hdg
  rcases hK m meth c ⟨T.setVm vm₁, locs, cells, slots⟩ { g with stack := rest } (.invokevirtual index) mk (Value.ref b :: argsL).toArray X₁ hg hsize hdg hW (X₁.named hnamed) (hpre vm₁ X₁.warmed) with ⟨v, B, X', hpost, hsteps⟩ | ⟨q, B, X', hpost, hsteps⟩
  · exact Or.inl ⟨v, vm₁, B, X₁.warmed, X', hpost, fun target h => hstep₁ _ fun acts => by rw [doInvoke_state]; exact hsteps.trans h⟩
  · exact Or.inr ⟨q, vm₁, B, X₁.warmed, X', hpost, hstep₁ _ fun acts => by rw [doInvoke_state]; exact hsteps⟩
theorem vx_callSX (X : Stand p l e R s m args below meth c T locs cells slots) (hexec : p.tables.exec = Jvm.exec) {own : String} {index : Nat} {y : MethodName} {bytes : ByteArray} {maxL : Nat} {ret : Option FieldType} {hh : List (Nat × Nat × Nat × Nat)}
    (hown : s.vm.findClass own = some m.cls) (hlink : (Cond.methodLink own index y).before args s = true) (hstat : (Cond.static y).before args s = true) (hinit : (Cond.initialized y.cls).before args s = true)
    (hcode : (Cond.codeWith y bytes maxL ret hh).before args s = true) (hy : y.cls ≠ "java/lang/invoke/MethodHandle" ∧ y.cls ≠ "java/lang/invoke/VarHandle")
    {W9 : Nat} {Pre : Pt → Array Value → Prop} {Post : Pt → Array Value → Option Value → Pt → Prop} {PostX : Pt → Array Value → Addr → Pt → Prop} (hK : vx_Back l R p e below s args y 3 W9 Pre Post PostX)
    {g : JFrame} (hg : g.method = m) (hsize : g.locals.size = c.maxLocals) {argsL rest : List Value} (hlen : ∀ sig, parseMethodDescriptor y.desc = some sig → argsL.length = sig.parameters.length)
    (hstack : g.stack = argsL.reverse ++ rest) (hW : 2 * g.monitorRoom + (rest.map fun v => v.category).sum ≤ W9) (hdg : decode c.code g.pc = .ok (.invokestatic index, 3))
    (hpre : ∀ vm₁, s.WarmedH vm₁ → Pre ⟨T.setVm vm₁, locs, cells, slots⟩ argsL.toArray) :
    (∃ (v : Option Value) (vm₁ : Vm) (B : Pt), s.WarmedH vm₁ ∧ Stand p l e R s m args below meth c B.U B.locs B.cells B.slots ∧ Post ⟨T.setVm vm₁, locs, cells, slots⟩ argsL.toArray v B ∧
      ∀ target, Steps p.tables e below (B.U.setTop { g with pc := g.pc + 3, stack := v.toList ++ rest }) target → Steps p.tables e below (T.setTop g) target) ∨
    (∃ (q : Addr) (vm₁ : Vm) (B : Pt), s.WarmedH vm₁ ∧ Stand p l e R s m args below meth c B.U B.locs B.cells B.slots ∧ PostX ⟨T.setVm vm₁, locs, cells, slots⟩ argsL.toArray q B ∧
      Steps p.tables e below (T.setTop g) ((B.U.setTop { g with stack := rest }).pushFrame (.throwing q))) := by
  obtain ⟨mk, methM, cM, hnamed, hmethM, -, -, -, -, -, -, hsigM⟩ := Cond.codeWith_spec hcode
  have hstatic : methM.isStatic = true := Cond.static_spec hnamed hmethM hstat
  obtain ⟨kP, hkP, -⟩ := className_of_methodNamed hnamed
  have hinitP : kP.init = .initialized := Cond.initialized_spec (findClass_of_methodNamed hnamed) hkP hinit
  obtain ⟨vm₁, X₁, hstep₁⟩ := X.invokestatic hexec hown hlink hnamed hmethM hstatic hkP hinitP hy (g := g) hg (argsL := argsL) (rest := rest) (hlen _ hsigM) hstack hdg
  rcases hK m meth c ⟨T.setVm vm₁, locs, cells, slots⟩ { g with stack := rest } (.invokestatic index) mk argsL.toArray X₁ hg hsize hdg hW (X₁.named hnamed) (hpre vm₁ X₁.warmed) with ⟨v, B, X', hpost, hsteps⟩ | ⟨q, B, X', hpost, hsteps⟩
  · exact Or.inl ⟨v, vm₁, B, X₁.warmed, X', hpost, fun target h => hstep₁ _ fun acts => by rw [doInvoke_state]; exact hsteps.trans h⟩
  · exact Or.inr ⟨q, vm₁, B, X₁.warmed, X', hpost, hstep₁ _ fun acts => by rw [doInvoke_state]; exact hsteps⟩
theorem vx_callVW (X : Stand p l e R s m args below meth c T locs cells slots) (hexec : p.tables.exec = Jvm.exec) {own C : String} {index : Nat} {y : MethodName} {bytes : ByteArray} {maxL : Nat} {ret : Option FieldType} {hh : List (Nat × Nat × Nat × Nat)}
    (hown : s.vm.findClass own = some m.cls) (hlink : (Cond.methodLink own index y).before args s = true) (hinst : (Cond.instanceMethod y).before args s = true) (hsel : (Cond.selects C y y).before args s = true)
    (hcode : (Cond.codeWith y bytes maxL ret hh).before args s = true) (hy : y.cls ≠ "java/lang/invoke/MethodHandle" ∧ y.cls ≠ "java/lang/invoke/VarHandle")
    {W9 : Nat} {Pre : Pt → Array Value → Prop} {Post : Pt → Array Value → Option Value → Pt → Prop} (hK : Back l R p e below s args y 3 W9 Pre Post)
    {b : Addr} {cellB : Cell} (hcell : T.heap[b]? = some cellB) (hobj : cellB.vm.isStatics = false) (hcls : s.vm.findClass C = some cellB.cls)
    {g : JFrame} (hg : g.method = m) (hsize : g.locals.size = c.maxLocals) {argsL rest : List Value} (hlen : ∀ sig, parseMethodDescriptor y.desc = some sig → argsL.length = sig.parameters.length)
    (hstack : g.stack = argsL.reverse ++ .ref b :: rest) (hW : 2 * g.monitorRoom + (rest.map fun v => v.category).sum ≤ W9) (hdg : decode c.code g.pc = .ok (.invokevirtual index, 3))
    (hpre : ∀ vm₁, s.WarmedH vm₁ → Pre ⟨T.setVm vm₁, locs, cells, slots⟩ (Value.ref b :: argsL).toArray) :
    ∃ (v : Option Value) (vm₁ : Vm) (B : Pt), s.WarmedH vm₁ ∧ Stand p l e R s m args below meth c B.U B.locs B.cells B.slots ∧ Post ⟨T.setVm vm₁, locs, cells, slots⟩ (Value.ref b :: argsL).toArray v B ∧
      ∀ target, Steps p.tables e below (B.U.setTop { g with pc := g.pc + 3, stack := v.toList ++ rest }) target → Steps p.tables e below (T.setTop g) target := by
  obtain ⟨mk, methM, hnamed, hmethM, hstM, habM⟩ := Cond.instanceMethod_spec hinst
  obtain ⟨m8, methM', cM, hn8, hmethM', -, -, -, -, -, -, hsigM⟩ := Cond.codeWith_spec hcode
  cases Option.some.inj (hn8.symm.trans hnamed)
  cases hmethM.symm.trans hmethM'
  obtain ⟨c2, r2, m2, q1, q2, q3, q4, kP, hkP, hkPi⟩ := Cond.selects_spec hsel
  cases hcls.symm.trans q1
  cases (State.methodFound?_of_named hnamed hy).symm.trans q2
  cases hnamed.symm.trans q3
  have hselP : selectMethod e.platform s.vm cellB.cls mk = .method mk := by rw [Launch.admits_selectMethod X.admits]; exact q4
  obtain ⟨vm₁, X₁, hstep₁⟩ := X.invokevirtual hexec hown hlink hnamed hmethM hstM hkP hkPi hy (a := b) (cell := cellB) hcell
    (fun z h => by rw [h] at hobj; cases hobj) hselP hmethM habM hkP hkPi (g := g) hg (argsL := argsL) (rest := rest) (hlen _ hsigM) hstack hdg
  obtain ⟨v, B, X', hpost, hsteps⟩ := hK m meth c ⟨T.setVm vm₁, locs, cells, slots⟩ { g with stack := rest } (.invokevirtual index) mk (Value.ref b :: argsL).toArray X₁ hg hsize hdg hW (X₁.named hnamed) (hpre vm₁ X₁.warmed)
  exact ⟨v, vm₁, B, X₁.warmed, X', hpost, fun target h => hstep₁ _ fun acts => by rw [doInvoke_state]; exact hsteps.trans h⟩
abbrev vx_CVW (R : Room) (s : State) (args : Array Value) (own C : String) (index : Nat) (y : MethodName) (bytes : ByteArray) (maxL : Nat) (ret : Option FieldType) (hh : List (Nat × Nat × Nat × Nat)) (ws : List Cond) (rm : Room) (mc ms n : Nat) : Prop :=
  (rm.cells = mc ∧ rm.slots = ms ∧ rm.frames + 1 ≤ R.frames ∧ 8 + (maxL + 11) + rm.locals ≤ R.locals ∧ (∀ w ∈ ws, ∀ (a' : Array Value) (U : State), s.WarmedH U.vm → w.before a' U = true) ∧ Cond.codeWith y bytes maxL ret hh ∈ ws) ∧
  (Cond.codeWith y bytes maxL ret hh).before args s = true ∧ (Cond.initialized y.cls).before args s = true ∧ (y.cls ≠ "java/lang/invoke/MethodHandle" ∧ y.cls ≠ "java/lang/invoke/VarHandle") ∧
  (∀ sig, parseMethodDescriptor y.desc = some sig → n = sig.parameters.length) ∧ (Cond.methodLink own index y).before args s = true ∧ (Cond.instanceMethod y).before args s = true ∧ (Cond.selects C y y).before args s = true
theorem vx_cwVW {own C : String} {index maxL mc ms : Nat} {y : MethodName} {bytes : ByteArray} {ret : Option FieldType} {hh : List (Nat × Nat × Nat × Nat)} {Ts ws ws' : List Cond} {rm : Room} (n : Nat) (ht : ∀ w ∈ Ts, w.before args s = true) (hT : GoodIn Ts (wsV own index C y ws)) (hw : ws = Cond.codeWith y bytes maxL ret hh :: ws') (hrc : rm.cells = mc) (hrs : rm.slots = ms)
    (hd : y.cls = C ∧ y.cls ≠ "java/lang/invoke/MethodHandle" ∧ y.cls ≠ "java/lang/invoke/VarHandle" ∧ (parseMethodDescriptor y.desc).map (fun d => d.parameters.length) = some n) (hR : rm.frames + 1 ≤ R.frames ∧ 8 + (maxL + 11) + rm.locals ≤ R.locals) :
    vx_CVW R s args own C index y bytes maxL ret hh ws rm mc ms n := by
  obtain ⟨hC, hd⟩ := hd
  subst hC
  have ok : ∀ w ∈ wsV own index y.cls y ws, w.before args s = true := fun w h => ht w (hT w h).1
  have hG : GoodIn Ts ws := fun w h => hT w (by unfold wsV; exact List.mem_append_right _ h)
  have hc : Cond.codeWith y bytes maxL ret hh ∈ ws := by rw [hw]; exact List.mem_cons_self
  refine ⟨⟨hrc, hrs, hR.1, hR.2, pay_in ht hG, hc⟩, ht _ (hG _ hc).1, ok _ (by simp [wsV]), ⟨hd.1, hd.2.1⟩, fun sig h => ?_, ok _ (by simp [wsV]), ok _ (by simp [wsV]), ok _ (by simp [wsV])⟩
  have h2 := hd.2.2
  rw [h] at h2
  exact (Option.some.inj h2).symm
theorem vx_runVW {y : MethodName} {bytes cc : ByteArray} {maxL nL mc ms n index : Nat} {ret : Option FieldType} {hh : List (Nat × Nat × Nat × Nat)} {ws : List Cond} {rm : Room} {Pc : Array Value → State → Prop} {Qc : Array Value → State → Outcome → State → Prop} {free : Addr → Prop} {Ts : List Cond} {own C : String} {b : Addr} {As rest : List Value} {g : JFrame}
    (S : CallFix p m c cc nL s args Ts own) (hM : Met l y ws rm Pc Qc mc ms free) (cw : vx_CVW R s args own C index y bytes maxL ret hh ws rm mc ms n) (hp : PreV s H C b Pc As)
    (hg : g.method = m) (hn : As.length = n) (hsize : g.locals.size = nL) (hstack : g.stack = As.reverse ++ .ref b :: rest) (hW : 2 * g.monitorRoom + (rest.map fun v => v.category).sum ≤ 8) (hdg : decode cc g.pc = .ok (.invokevirtual index, 3)) (hf : cells + mc ≤ R.cells ∧ slots + ms ≤ R.slots) :
    va_Run p l e R s m args below meth c H locs cells slots mc ms g rest (Qc (Value.ref b :: As).toArray) free := by
  obtain ⟨⟨hrc, hrs, hfr, hlo, hws, hcw⟩, hcode, hini, hy, hlen, hl, hin, hse⟩ := cw
  have hK : Back l R p e below s args y 3 8 (PreOf R mc ms Pc) (PostOf Qc mc ms free) := va_backW (hh := hh) (bytes := bytes) (maxL := maxL) (ret := ret) hM hp.1 hrc hrs hfr hlo hws hcw (fun a' U hW => word_at hW (Or.inl (by first | rfl | simp [Cond.onTables, Cond.keeps, Cond.steady])) hini)
  obtain ⟨hx, hb, hml, ho, -⟩ := S
  obtain ⟨-, ⟨cellB, hcB, hoB, hclB⟩, hPc⟩ := hp
  intro T hT X
  obtain ⟨v, vm₁, ⟨U', l2, c2, s2⟩, hW₁, X', ⟨g', mk, t, L, e1, e2, hq, h1, hL, h2, h3⟩, st⟩ := vx_callVW X hx (C := C) (hh := hh) (bytes := bytes) (maxL := maxL) (ret := ret) ho hl hin hse hcode hy hK (by rw [hT]; exact hcB) hoB hclB hg (hsize.trans hml.symm) (argsL := As) (rest := rest) (fun sig h => hn.trans (hlen sig h)) hstack hW (by rw [hb]; exact hdg)
    (fun vm₁ hW₁ => ⟨hf.1, hf.2, hPc (T.setVm vm₁) hT hW₁⟩)
  dsimp only [Pt.U, Pt.locs, Pt.cells, Pt.slots] at X' e1 e2 h1 h2 h3 st
  subst h1; subst h2; subst h3
  exact ⟨v, (T.setVm vm₁).calling g' mk (Value.ref b :: As).toArray, t, U', L, hT, X', hL, e1, e2, hq, st⟩
section
variable {y : MethodName} {bytes cc : ByteArray} {maxL nL mc ms n index : Nat} {ret : Option FieldType} {ws : List Cond} {rm : Room} {Pc : Array Value → State → Prop} {Qc : Array Value → State → Outcome → State → Prop} {XC : String → State → State → Prop} {free : Addr → Prop} {Ts : List Cond} {own C : String} {b : Addr} {As rest : List Value} {g : JFrame}
theorem vx_runVX {hh : List (Nat × Nat × Nat × Nat)} (S : CallFix p m c cc nL s args Ts own) (hM : vx_Met l y ws rm Pc Qc XC mc ms free) (cw : vx_CVW R s args own C index y bytes maxL ret hh ws rm mc ms n) (hp : PreV s H C b Pc As)
    (hg : g.method = m) (hn : As.length = n) (hsize : g.locals.size = nL) (hstack : g.stack = As.reverse ++ .ref b :: rest) (hW : 2 * g.monitorRoom + (rest.map fun v => v.category).sum ≤ 8) (hdg : decode cc g.pc = .ok (.invokevirtual index, 3)) (hf : cells + mc ≤ R.cells ∧ slots + ms ≤ R.slots) :
    vx_Run p l e R s m args below meth c H locs cells slots mc ms g rest (Qc (Value.ref b :: As).toArray) XC free := by
  obtain ⟨⟨hrc, hrs, hfr, hlo, hws, hcw⟩, hcode, hini, hy, hlen, hl, hin, hse⟩ := cw
  have hK : vx_Back l R p e below s args y 3 8 (PreOf R mc ms Pc) (PostOf Qc mc ms free) (vx_Post XC mc ms free) := vx_backW (hh := hh) (bytes := bytes) (maxL := maxL) (ret := ret) hM hp.1 hrc hrs hfr hlo hws hcw (fun a' U hW => word_at hW (Or.inl (by first | rfl | simp [Cond.onTables, Cond.keeps, Cond.steady])) hini)
  obtain ⟨hx, hb, hml, ho, -⟩ := S
  obtain ⟨-, ⟨cellB, hcB, hoB, hclB⟩, hPc⟩ := hp
  intro T hT X
  rcases vx_callVX X hx (C := C) (hh := hh) (bytes := bytes) (maxL := maxL) (ret := ret) ho hl hin hse hcode hy hK (by rw [hT]; exact hcB) hoB hclB hg (hsize.trans hml.symm) (argsL := As) (rest := rest) (fun sig h => hn.trans (hlen sig h)) hstack hW (by rw [hb]; exact hdg)
    (fun vm₁ hW₁ => ⟨hf.1, hf.2, hPc (T.setVm vm₁) hT hW₁⟩) with ⟨v, vm₁, ⟨U', l2, c2, s2⟩, hW₁, X', ⟨g', mk, t, L, e1, e2, hq, h1, hL, h2, h3⟩, st⟩ | ⟨q, vm₁, ⟨U', l2, c2, s2⟩, hW₁, X', ⟨g', mk, t, L, E, ce, e1, e2, hq, hce, hcv, hcl, h1, hL, h2, h3⟩, st⟩
  · dsimp only [Pt.U, Pt.locs, Pt.cells, Pt.slots] at X' e1 e2 h1 h2 h3 st
    subst h1; subst h2; subst h3
    exact Or.inl ⟨v, (T.setVm vm₁).calling g' mk (Value.ref b :: As).toArray, t, U', L, hT, X', hL, e1, e2, hq, st⟩
  · dsimp only [Pt.U, Pt.locs, Pt.cells, Pt.slots] at X' e1 e2 h1 h2 h3 st hcl
    subst h1; subst h2; subst h3
    exact Or.inr ⟨q, (T.setVm vm₁).calling g' mk (Value.ref b :: As).toArray, t, U', L, E, ce, hT, X', hL, e1, e2, hq, hce, hcv, vx_cls hW₁ hcl, st⟩
theorem vx_runSX {hh : List (Nat × Nat × Nat × Nat)} (S : CallFix p m c cc nL s args Ts own) (hM : vx_Met l y ws rm Pc Qc XC mc ms free) (cw : vx_CSW R s args own index y bytes maxL ret hh ws rm mc ms n) (hp : PreS s H Pc As)
    (hg : g.method = m) (hn : As.length = n) (hsize : g.locals.size = nL) (hstack : g.stack = As.reverse ++ rest) (hW : 2 * g.monitorRoom + (rest.map fun v => v.category).sum ≤ 8) (hdg : decode cc g.pc = .ok (.invokestatic index, 3)) (hf : cells + mc ≤ R.cells ∧ slots + ms ≤ R.slots) :
    vx_Run p l e R s m args below meth c H locs cells slots mc ms g rest (Qc As.toArray) XC free := by
  obtain ⟨⟨hrc, hrs, hfr, hlo, hws, hcw⟩, hcode, hini, hy, hlen, hl, hstt⟩ := cw
  have hK : vx_Back l R p e below s args y 3 8 (PreOf R mc ms Pc) (PostOf Qc mc ms free) (vx_Post XC mc ms free) := vx_backW (hh := hh) (bytes := bytes) (maxL := maxL) (ret := ret) hM hp.1 hrc hrs hfr hlo hws hcw (fun a' U hW => word_at hW (Or.inl (by first | rfl | simp [Cond.onTables, Cond.keeps, Cond.steady])) hini)
  obtain ⟨hx, hb, hml, ho, -⟩ := S
  intro T hT X
  rcases vx_callSX X hx (hh := hh) (bytes := bytes) (maxL := maxL) (ret := ret) ho hl hstt hini hcode hy hK hg (hsize.trans hml.symm) (argsL := As) (rest := rest) (fun sig h => hn.trans (hlen sig h)) hstack hW (by rw [hb]; exact hdg)
    (fun vm₁ hW₁ => ⟨hf.1, hf.2, hp.2 (T.setVm vm₁) hT hW₁⟩) with ⟨v, vm₁, ⟨U', l2, c2, s2⟩, hW₁, X', ⟨g', mk, t, L, e1, e2, hq, h1, hL, h2, h3⟩, st⟩ | ⟨q, vm₁, ⟨U', l2, c2, s2⟩, hW₁, X', ⟨g', mk, t, L, E, ce, e1, e2, hq, hce, hcv, hcl, h1, hL, h2, h3⟩, st⟩
  · dsimp only [Pt.U, Pt.locs, Pt.cells, Pt.slots] at X' e1 e2 h1 h2 h3 st
    subst h1; subst h2; subst h3
    exact Or.inl ⟨v, (T.setVm vm₁).calling g' mk As.toArray, t, U', L, hT, X', hL, e1, e2, hq, st⟩
  · dsimp only [Pt.U, Pt.locs, Pt.cells, Pt.slots] at X' e1 e2 h1 h2 h3 st hcl
    subst h1; subst h2; subst h3
    exact Or.inr ⟨q, (T.setVm vm₁).calling g' mk As.toArray, t, U', L, E, ce, hT, X', hL, e1, e2, hq, hce, hcv, vx_cls hW₁ hcl, st⟩
end
end VXH
theorem vx_ofWH {l : Launch} {y : MethodName} {ws ws' : List Cond} {rm : Room} {Pc : Array Value → State → Prop} {Qc : Array Value → State → Outcome → State → Prop} {XC : String → State → State → Prop} {mc ms : Nat} {free : Addr → Prop} {cc : ByteArray} {maxL : Nat} {ret : Option FieldType} {hh : List (Nat × Nat × Nat × Nat)}
    (hy : plainName y.cls = true) (hw : ws = Cond.codeWith y cc maxL ret hh :: ws')
    (body : ∀ p e s m args below meth c s₁, BodyLoose p l y (headSpec ws rm) cc maxL ret e s m args below meth c s₁ → c.maxLocals = maxL → Pc args s →
      W p l e (headSpec ws rm).room s m args below meth c s.heap [] 0 0 (vx_MQ below Qc XC args s mc ms free) (entryFrame m args maxL)) : vx_Met l y ws rm Pc Qc XC mc ms free := by
  refine MetFree.of_bodyS (code := cc) (maxLocals := maxL) (ret := ret) hy ?_ ?_
  · intro args s m h hn
    obtain ⟨m9, meth, c, hn9, h1, h2, h3, h4, -, h5, h6, -⟩ := Cond.codeWith_spec (atoms_spec (ws := ws) h _ (by rw [hw]; exact List.mem_cons_self))
    cases hn.symm.trans hn9
    exact ⟨meth, c, h1, h2, h3, h4, h5, h6⟩
  · intro p e s m args below meth c s₁ B hml hP _
    have hh0 : s₁.heap = s.heap := by rw [B.state]; rfl
    obtain ⟨t, a1, o, b1, b2, b3⟩ := body p e s m args below meth c s₁ B hml hP s₁ hh0 (Stand.of_body B)
    exact ⟨t, o, a1, b1, b2, b3⟩
/-! ===== END ===== -/
end
section
abbrev mm_W : Type := List va_E
abbrev mm_Ent : Type := Instr × Nat × Nat × Nat × Nat
abbrev mm_Mt : Type := MethodName × ByteArray × Nat × Option FieldType × List (Nat × Nat × Nat × Nat)
abbrev mm_Xa : Type := Nat → Option (Nat × Nat × (Nat → Value))
def md_cd : Nat → Nat → Option mm_Ent := fun _ _ => none
def md_mt : Nat → mm_Mt := fun _ => (⟨"a", "b", "c"⟩, ⟨#[]⟩, 0, none, [])
def md_st : Nat → Value := fun _ => .null
def md_stn : Nat → String × String × String := fun _ => ("", "", "")
def md_nst : Nat := 0
def md_xc : Nat → Option Nat := fun _ => none
def md_xcn : Nat → String := fun _ => ""
def md_xo : Nat → Nat → Option Value := fun _ _ => none
def md_xf : Nat → String × String × String := fun _ => ("", "", "")
def md_xa (_ : Nat × (Nat → Int32)) : mm_Xa := fun _ => none
def md_df : Nat → List Value := fun _ => []
def md_ty : Nat → FieldType := fun _ => .int
def md_ac : Nat → Nat := fun _ => 0
def md_cl : List vw_C := []
def md_Tg : List Jvm.Cond := []
def md_gw : List Jvm.Cond := []
def md_nw : List (String × Nat × MethodName × String) := []
def md_ao : List String := []
def md_nc : List (String × String) := []
def md_sr : List (String × Nat × String × Nat) := []
def md_sq : List (String × String × String) := []
def md_hd : Nat → Nat → Nat → Option Nat := fun _ _ _ => none
def md_en : Nat → String := fun _ => ""
def md_ne : Nat := 0
end
section
/-! ===== THE MINI MACHINE: a world is a list of contents, a reference is a place in it; names that begin with md_ are the program's own tables (02.data) ===== -/
def mm_XB : Nat := 1000000
abbrev mm_F : Type := Nat × List (Nat × Value) × List Value × mm_W × Nat × Nat
abbrev mm_O : Type := (Option Value ⊕ Nat) × mm_W × Nat × Nat
abbrev mm_T : Type := mm_F ⊕ mm_O ⊕ (Nat × List Value × Nat × Bool × mm_F)
def mm_cmp : Jvm.ClassFile.Cond → Int32 → Int32 → Bool
  | .eq, x, y => decide (x = y)
  | .ne, x, y => !decide (x = y)
  | .lt, x, y => decide (x < y)
  | .ge, x, y => decide (y ≤ x)
  | .gt, x, y => decide (y < x)
  | .le, x, y => decide (x ≤ y)
def mm_ib (i : Int32) (n : Nat) : Bool := !(decide (i < 0) || decide (n ≤ i.toNatClampNeg))
def mm_get : List (Nat × Value) → Nat → Option Value
  | [], _ => none
  | q :: l, i => if q.1 = i then some q.2 else mm_get l i
def mm_sto (lo : List (Nat × Value)) (i : Nat) (v : Value) : List (Nat × Value) := (i, v) :: lo.filter (fun q => !(q.1 == i) && !(q.1 + 1 == i && q.2.category == 2))
def mm_stl (lo : List (Nat × Value)) (i : Nat) (v : Value) : List (Nat × Value) := (i, v) :: lo.filter (fun q => !(q.1 == i) && (!(q.1 == i + 1) && !(q.1 + 1 == i && q.2.category == 2)))
/-- an array's element: its kind's number and the value -/
def mm_aget (xa : mm_Xa) (W : mm_W) (k : Nat) (i : Int32) : Option (Nat × Value) :=
  if k < mm_XB then
    match W[k]? with
    | some (.inl (t, n, .inl f)) => if mm_ib i n then some (t, .int (f i.toNatClampNeg)) else none
    | some (.inl (t, n, .inr (.inl f))) => if mm_ib i n then some (t, .long (f i.toNatClampNeg)) else none
    | some (.inl (t, n, .inr (.inr (.inr (.inr f))))) => if mm_ib i n then some (t, va_rf (f i.toNatClampNeg)) else none
    | _ => none
  else
    match xa (k - mm_XB) with
    | some (t, n, f) => if mm_ib i n then some (t, f i.toNatClampNeg) else none
    | none => none
def mm_alen (xa : mm_Xa) (W : mm_W) (k : Nat) : Option Nat :=
  if k < mm_XB then
    match W[k]? with
    | some (.inl (_, n, _)) => some n
    | _ => none
  else
    match xa (k - mm_XB) with
    | some (_, n, _) => some n
    | none => none
def mm_nar (t : Nat) (x : Int32) : Int32 := if t = 2 then vp_nar .byte x else if t = 3 then vp_nar .boolean x else x
/-- an int is stored: t is 0, 2 or 3 -/
def mm_aputi (W : mm_W) (k : Nat) (i : Int32) (x : Int32) : Option (Nat × mm_W) :=
  match W[k]? with
  | some (.inl (t, n, .inl f)) => if mm_ib i n then some (t, W.set k (.inl (t, n, .inl (upd f i.toNatClampNeg (mm_nar t x))))) else none
  | _ => none
def mm_aputl (W : mm_W) (k : Nat) (i : Int32) (x : Int64) : Option (Nat × mm_W) :=
  match W[k]? with
  | some (.inl (t, n, .inr (.inl f))) => if mm_ib i n then some (t, W.set k (.inl (t, n, .inr (.inl (vp_updL f i.toNatClampNeg x))))) else none
  | _ => none
/-- the class of what a reference is: a world's object's by its number, an outer object's by 1000 and its number -/
def mm_cls (W : mm_W) (k : Nat) : Option Nat :=
  if k < mm_XB then
    match W[k]? with
    | some (.inr (ci, _)) => some ci
    | _ => none
  else (md_xc (k - mm_XB)).map (fun n => 1000 + n)
def mm_aputr (W : mm_W) (k : Nat) (i : Int32) (v : Nat) : Option mm_W :=
  match W[k]? with
  | some (.inl (t, n, .inr (.inr (.inr (.inr f))))) => if mm_ib i n && decide (4 ≤ t) && decide (mm_cls W v = some (md_ac t)) then some (W.set k (.inl (t, n, .inr (.inr (.inr (.inr (va_up f i.toNatClampNeg (some v)))))))) else none
  | _ => none
/-- a field takes this value: 0 int, 1 long, 2 boolean, 3 a reference -/
def mm_nf : Nat → Value → Bool
  | 0, .int _ => true
  | 1, .long _ => true
  | 2, .int x => decide (x = 0) || decide (x = 1)
  | 3, .ref _ => true
  | 3, .null => true
  | _, _ => false
def mm_put (W : mm_W) (k ci f t : Nat) (v : Value) : Option mm_W :=
  match W[k]? with
  | some (.inr (c, fs)) => if c = ci ∧ f < fs.length ∧ mm_nf t v = true then some (W.set k (.inr (c, fs.set f v))) else none
  | _ => none
def mm_getf (W : mm_W) (k ci f : Nat) : Option Value :=
  match W[k]? with
  | some (.inr (c, fs)) => if c = ci then fs[f]? else none
  | _ => none
def mm_cpy (W : mm_W) (s : Nat) (sp : Int32) (d : Nat) (dp n : Int32) : Option mm_W :=
  if sp < 0 ∨ dp < 0 ∨ n < 0 ∨ ¬ s < mm_XB ∨ ¬ d < mm_XB then none else
  match W[s]?, W[d]? with
  | some (.inl (0, n0, .inl f)), some (.inl (0, n1, .inl g)) =>
    if sp.toNatClampNeg + n.toNatClampNeg ≤ n0 ∧ dp.toNatClampNeg + n.toNatClampNeg ≤ n1 then some (W.set d (.inl (0, n1, .inl (va_cpy f g sp.toNatClampNeg dp.toNatClampNeg n.toNatClampNeg)))) else none
  | some (.inl (1, n0, .inr (.inl f))), some (.inl (1, n1, .inr (.inl g))) =>
    if sp.toNatClampNeg + n.toNatClampNeg ≤ n0 ∧ dp.toNatClampNeg + n.toNatClampNeg ≤ n1 then some (W.set d (.inl (1, n1, .inr (.inl (va_cpy f g sp.toNatClampNeg dp.toNatClampNeg n.toNatClampNeg))))) else none
  | _, _ => none
/-- where a switch goes -/
def mm_at (pc : Nat) (off : Int) : Option Nat := if 0 ≤ (pc : Int) + off then some ((pc : Int) + off).toNat else none
def mm_tsw (pc : Nat) (dflt lo hi : Int) (offs : Array Int) (x : Int32) : Option Nat :=
  if x.toInt < lo ∨ hi < x.toInt then mm_at pc dflt else
  match offs[(x.toInt - lo).toNat]? with
  | some off => mm_at pc off
  | none => none
def mm_call (r1 r2 r3 pc nx : Nat) (lo : List (Nat × Value)) (st : List Value) (W : mm_W) (b c : Nat) : Option mm_T :=
  if st.length < r2 % 16 then none else
  let As := (st.take (r2 % 16)).reverse
  let rest := st.drop (r2 % 16)
  match r2 / 16 with
  | 0 => match rest with
    | .ref k :: rest => if mm_cls W k = some r3 ∧ (rest.map fun v => v.category).sum ≤ 8 then some (.inr (.inr (r1, .ref k :: As, nx, true, (pc, lo, rest, W, b, c)))) else none
    | _ => none
  | 2 => match rest with
    | .ref k :: rest => if mm_cls W k = some r3 ∧ (rest.map fun v => v.category).sum ≤ 8 then some (.inr (.inr (r1, .ref k :: As, nx, false, (pc, lo, rest, W, b, c)))) else none
    | _ => none
  | 1 => if (rest.map fun v => v.category).sum ≤ 8 then some (.inr (.inr (r1, As, nx, true, (pc, lo, rest, W, b, c)))) else none
  | 5 => match st with
    | .ref _ :: st => if (st.map fun v => v.category).sum ≤ 8 then some (.inl (nx, lo, st, W, b, c)) else none
    | _ => none
  | 6 => match st with
    | .int n :: .int dp :: .ref d :: .int sp :: .ref s :: st => if (st.map fun v => v.category).sum ≤ 8 then (mm_cpy W s sp d dp n).map (fun W2 => .inl (nx, lo, st, W2, b, c)) else none
    | _ => none
  | _ => none
def mm_stepI (xa : mm_Xa) (j : Nat) (ins : Instr) (nx r1 r2 r3 pc : Nat) (lo : List (Nat × Value)) (st : List Value) (W : mm_W) (b c : Nat) : Option mm_T :=
  match ins with
  | .iconst n => some (.inl (nx, lo, .int (Int32.ofInt n) :: st, W, b, c))
  | .bipush n => some (.inl (nx, lo, .int (Int8.ofInt n).toInt32 :: st, W, b, c))
  | .sipush n => some (.inl (nx, lo, .int (Int16.ofInt n).toInt32 :: st, W, b, c))
  | .lconst n => some (.inl (nx, lo, .long (Int64.ofNat (n : Nat)) :: st, W, b, c))
  | .aconst_null => some (.inl (nx, lo, .null :: st, W, b, c))
  | .ldc _ => if r1 = 0 then some (.inl (nx, lo, .int (Int32.ofNat r2) :: st, W, b, c)) else some (.inl (nx, lo, .ref (mm_XB + r2) :: st, W, b, c))
  | .ldc_w _ => some (.inl (nx, lo, .int (Int32.ofNat r2) :: st, W, b, c))
  | .ldc2_w _ => some (.inl (nx, lo, .long (Int64.ofNat r1) :: st, W, b, c))
  | .iload i => match mm_get lo i with
    | some (.int x) => some (.inl (nx, lo, .int x :: st, W, b, c))
    | _ => none
  | .iload_n i => match mm_get lo i with
    | some (.int x) => some (.inl (nx, lo, .int x :: st, W, b, c))
    | _ => none
  | .lload i => match mm_get lo i with
    | some (.long x) => some (.inl (nx, lo, .long x :: st, W, b, c))
    | _ => none
  | .lload_n i => match mm_get lo i with
    | some (.long x) => some (.inl (nx, lo, .long x :: st, W, b, c))
    | _ => none
  | .aload i => match mm_get lo i with
    | some (.ref x) => some (.inl (nx, lo, .ref x :: st, W, b, c))
    | _ => none
  | .aload_n i => match mm_get lo i with
    | some (.ref x) => some (.inl (nx, lo, .ref x :: st, W, b, c))
    | _ => none
  | .istore i => match st with
    | .int x :: st => some (.inl (nx, mm_sto lo i (.int x), st, W, b, c))
    | _ => none
  | .istore_n i => match st with
    | .int x :: st => some (.inl (nx, mm_sto lo i (.int x), st, W, b, c))
    | _ => none
  | .lstore i => match st with
    | .long x :: st => some (.inl (nx, mm_stl lo i (.long x), st, W, b, c))
    | _ => none
  | .lstore_n i => match st with
    | .long x :: st => some (.inl (nx, mm_stl lo i (.long x), st, W, b, c))
    | _ => none
  | .astore i => match st with
    | .ref x :: st => some (.inl (nx, mm_sto lo i (.ref x), st, W, b, c))
    | .retAddr x :: st => some (.inl (nx, mm_sto lo i (.retAddr x), st, W, b, c))
    | _ => none
  | .astore_n i => match st with
    | .ref x :: st => some (.inl (nx, mm_sto lo i (.ref x), st, W, b, c))
    | .retAddr x :: st => some (.inl (nx, mm_sto lo i (.retAddr x), st, W, b, c))
    | _ => none
  | .iinc i n => match mm_get lo i with
    | some (.int x) => some (.inl (nx, mm_sto lo i (.int (x + Int32.ofInt n)), st, W, b, c))
    | _ => none
  | .dup => match st with
    | v :: st => if v.category = 1 then some (.inl (nx, lo, v :: v :: st, W, b, c)) else none
    | _ => none
  | .pop => match st with
    | v :: st => if v.category = 1 then some (.inl (nx, lo, st, W, b, c)) else none
    | _ => none
  | .dup2 => match st with
    | v :: w :: st => if v.category = 1 ∧ w.category = 1 then some (.inl (nx, lo, v :: w :: v :: w :: st, W, b, c)) else none
    | _ => none
  | .iadd => match st with
    | .int y :: .int x :: st => some (.inl (nx, lo, .int (x + y) :: st, W, b, c))
    | _ => none
  | .isub => match st with
    | .int y :: .int x :: st => some (.inl (nx, lo, .int (x - y) :: st, W, b, c))
    | _ => none
  | .imul => match st with
    | .int y :: .int x :: st => some (.inl (nx, lo, .int (x * y) :: st, W, b, c))
    | _ => none
  | .iand => match st with
    | .int y :: .int x :: st => some (.inl (nx, lo, .int (x &&& y) :: st, W, b, c))
    | _ => none
  | .ior => match st with
    | .int y :: .int x :: st => some (.inl (nx, lo, .int (x ||| y) :: st, W, b, c))
    | _ => none
  | .ixor => match st with
    | .int y :: .int x :: st => some (.inl (nx, lo, .int (x ^^^ y) :: st, W, b, c))
    | _ => none
  | .idiv => match st with
    | .int y :: .int x :: st => if y = 0 then none else some (.inl (nx, lo, .int (x / y) :: st, W, b, c))
    | _ => none
  | .irem => match st with
    | .int y :: .int x :: st => if y = 0 then none else some (.inl (nx, lo, .int (x - x / y * y) :: st, W, b, c))
    | _ => none
  | .ineg => match st with
    | .int x :: st => some (.inl (nx, lo, .int (-x) :: st, W, b, c))
    | _ => none
  | .ishl => match st with
    | .int y :: .int x :: st => some (.inl (nx, lo, .int (x <<< (y &&& 31)) :: st, W, b, c))
    | _ => none
  | .ishr => match st with
    | .int y :: .int x :: st => some (.inl (nx, lo, .int (x >>> (y &&& 31)) :: st, W, b, c))
    | _ => none
  | .iushr => match st with
    | .int y :: .int x :: st => some (.inl (nx, lo, .int (x.toUInt32 >>> (y.toUInt32 &&& Int32.toUInt32 31)).toInt32 :: st, W, b, c))
    | _ => none
  | .land => match st with
    | .long y :: .long x :: st => some (.inl (nx, lo, .long (x &&& y) :: st, W, b, c))
    | _ => none
  | .lor => match st with
    | .long y :: .long x :: st => some (.inl (nx, lo, .long (x ||| y) :: st, W, b, c))
    | _ => none
  | .lshl => match st with
    | .int y :: .long x :: st => some (.inl (nx, lo, .long (x <<< (y.toInt64 &&& 63)) :: st, W, b, c))
    | _ => none
  | .lshr => match st with
    | .int y :: .long x :: st => some (.inl (nx, lo, .long (x >>> (y.toInt64 &&& 63)) :: st, W, b, c))
    | _ => none
  | .lcmp => match st with
    | .long y :: .long x :: st => some (.inl (nx, lo, .int (lg_cmp x y) :: st, W, b, c))
    | _ => none
  | .i2l => match st with
    | .int x :: st => some (.inl (nx, lo, .long x.toInt64 :: st, W, b, c))
    | _ => none
  | .l2i => match st with
    | .long x :: st => some (.inl (nx, lo, .int x.toInt32 :: st, W, b, c))
    | _ => none
  | .i2b => match st with
    | .int x :: st => some (.inl (nx, lo, .int x.toInt8.toInt32 :: st, W, b, c))
    | _ => none
  | .i2c => match st with
    | .int x :: st => some (.inl (nx, lo, .int (x.toUInt32 % 65536).toInt32 :: st, W, b, c))
    | _ => none
  | .ifCond k _ => match st with
    | .int x :: st => some (.inl (if mm_cmp k x 0 then r1 else nx, lo, st, W, b, c))
    | _ => none
  | .if_icmp k _ => match st with
    | .int y :: .int x :: st => some (.inl (if mm_cmp k x y then r1 else nx, lo, st, W, b, c))
    | _ => none
  | .if_acmp k _ => match st with
    | .ref y :: .ref x :: st =>
      if mm_XB < x ∧ mm_XB < y ∧ x ≤ mm_XB + md_ne ∧ y ≤ mm_XB + md_ne then some (.inl (if decide (x = y) == decide (k = .eq) then r1 else nx, lo, st, W, b, c)) else none
    | _ => none
  | .goto _ => some (.inl (r1, lo, st, W, b, c))
  | .tableswitch dflt l h offs => match st with
    | .int x :: st => match mm_tsw pc dflt l h offs x with
      | some t => some (.inl (t, lo, st, W, b, c))
      | none => none
    | _ => none
  | .lookupswitch dflt ps => match st with
    | .int x :: st => match mm_at pc (Op.lookupswitch.offset ps.toList dflt x.toInt) with
      | some t => some (.inl (t, lo, st, W, b, c))
      | none => none
    | _ => none
  | .iaload => match st with
    | .int i :: .ref k :: st => match mm_aget xa W k i with
      | some (t, v) => if t = 0 then some (.inl (nx, lo, v :: st, W, b, c)) else none
      | none => none
    | _ => none
  | .baload => match st with
    | .int i :: .ref k :: st => match mm_aget xa W k i with
      | some (t, v) => if t = 2 ∨ t = 3 then some (.inl (nx, lo, v :: st, W, b, c)) else none
      | none => none
    | _ => none
  | .laload => match st with
    | .int i :: .ref k :: st => match mm_aget xa W k i with
      | some (t, v) => if t = 1 then some (.inl (nx, lo, v :: st, W, b, c)) else none
      | none => none
    | _ => none
  | .aaload => match st with
    | .int i :: .ref k :: st => match mm_aget xa W k i with
      | some (t, v) => if 4 ≤ t then some (.inl (nx, lo, v :: st, W, b, c)) else none
      | none => none
    | _ => none
  | .iastore => match st with
    | .int x :: .int i :: .ref k :: st => if k < mm_XB then match mm_aputi W k i x with
      | some (t, W2) => if t = 0 then some (.inl (nx, lo, st, W2, b, c)) else none
      | none => none
      else none
    | _ => none
  | .bastore => match st with
    | .int x :: .int i :: .ref k :: st => if k < mm_XB then match mm_aputi W k i x with
      | some (t, W2) => if t = 2 ∨ t = 3 then some (.inl (nx, lo, st, W2, b, c)) else none
      | none => none
      else none
    | _ => none
  | .lastore => match st with
    | .long x :: .int i :: .ref k :: st => if k < mm_XB then match mm_aputl W k i x with
      | some (t, W2) => if t = 1 then some (.inl (nx, lo, st, W2, b, c)) else none
      | none => none
      else none
    | _ => none
  | .aastore => match st with
    | .ref v :: .int i :: .ref k :: st => if k < mm_XB then (mm_aputr W k i v).map (fun W2 => .inl (nx, lo, st, W2, b, c)) else none
    | _ => none
  | .arraylength => match st with
    | .ref k :: st => (mm_alen xa W k).map (fun n => .inl (nx, lo, .int (Int32.ofNat n) :: st, W, b, c))
    | _ => none
  | .getfield _ => match st with
    | .ref k :: st =>
      if r3 = 0 then (if k < mm_XB then (mm_getf W k r1 r2).map (fun v => .inl (nx, lo, v :: st, W, b, c)) else none)
      else if k < mm_XB then none else (md_xo (k - mm_XB) r1).map (fun v => .inl (nx, lo, v :: st, W, b, c))
    | _ => none
  | .putfield _ => match st with
    | v :: .ref k :: st => if k < mm_XB then (mm_put W k r1 r2 r3 v).map (fun W2 => .inl (nx, lo, st, W2, b, c)) else none
    | _ => none
  | .getstatic _ => if r3 = 0 then some (.inl (nx, lo, md_st r1 :: st, W, b, c)) else some (.inl (nx, lo, .retAddr 0 :: st, W, b, c))
  | .new _ =>
    if r3 = 0 then
      (if 1 ≤ b ∧ (md_df r1).length ≤ c ∧ W.length < mm_XB then some (.inl (nx, lo, .ref W.length :: st, W ++ [.inr (r1, md_df r1)], b - 1, c - (md_df r1).length)) else none)
    else if 1 ≤ b ∧ 6 ≤ c ∧ (st.map fun v => v.category).sum ≤ 8 then some (.inr (.inl (.inr r1, W, b - 1, c - 6))) else none
  | .newarray _ => match st with
    | .int n :: st =>
      if ¬ n < 0 ∧ 1 ≤ b ∧ n.toNatClampNeg ≤ c ∧ W.length < mm_XB ∧ n.toNatClampNeg ≤ 1000000 then
        some (.inl (nx, lo, .ref W.length :: st, W ++ [.inl (r1, n.toNatClampNeg, if r1 = 1 then .inr (.inl (fun _ => 0)) else .inl (fun _ => 0))], b - 1, c - n.toNatClampNeg))
      else none
    | _ => none
  | .anewarray _ => match st with
    | .int n :: st =>
      if ¬ n < 0 ∧ 1 ≤ b ∧ n.toNatClampNeg ≤ c ∧ W.length < mm_XB ∧ n.toNatClampNeg ≤ 1000000 then
        some (.inl (nx, lo, .ref W.length :: st, W ++ [.inl (r1, n.toNatClampNeg, .inr (.inr (.inr (.inr (fun _ => none)))))], b - 1, c - n.toNatClampNeg))
      else none
    | _ => none
  | .invokevirtual _ => mm_call r1 r2 r3 pc nx lo st W b c
  | .invokestatic _ => mm_call r1 r2 r3 pc nx lo st W b c
  | .invokespecial _ => mm_call r1 r2 r3 pc nx lo st W b c
  | .ireturn => match st with
    | [.int v] => (match (md_mt j).2.2.2.1 with
      | some ty => if narrow ty (.int v) = .int v then some (.inr (.inl (.inl (some (.int v)), W, b, c))) else none
      | none => none)
    | _ => none
  | .lreturn => match st with
    | [.long v] => if (md_mt j).2.2.2.1 = some .long then some (.inr (.inl (.inl (some (.long v)), W, b, c))) else none
    | _ => none
  | .areturn => match st with
    | [.ref v] => (match (md_mt j).2.2.2.1 with
      | some (.object _) => some (.inr (.inl (.inl (some (.ref v)), W, b, c)))
      | some (.array _) => some (.inr (.inl (.inl (some (.ref v)), W, b, c)))
      | _ => none)
    | _ => none
  | .return_ => match st with
    | [] => if (md_mt j).2.2.2.1 = none then some (.inr (.inl (.inl none, W, b, c))) else none
    | _ => none
  | _ => none
def mm_step (xa : mm_Xa) (j : Nat) (F : mm_F) : Option mm_T :=
  match md_cd j F.1 with
  | none => none
  | some e => mm_stepI xa j e.1 e.2.1 e.2.2.1 e.2.2.2.1 e.2.2.2.2 F.1 F.2.1 F.2.2.1 F.2.2.2.1 F.2.2.2.2.1 F.2.2.2.2.2
/-- runs of at most f steps, calls of depth d -/
def mm_ex (xa : mm_Xa) : Nat → Nat → Nat → mm_F → Option mm_O
  | 0, _, _, _ => none
  | f + 1, d, j, F =>
    match mm_step xa j F with
    | none => none
    | some (.inl F') => mm_ex xa f d j F'
    | some (.inr (.inl o)) => some o
    | some (.inr (.inr (j', as, nx, fl, G))) =>
      match d with
      | 0 => none
      | d' + 1 =>
        if (md_mt j').2.2.1 < (as.map fun v => v.category).sum then none else
        match mm_ex xa f d' j' (0, lv_args 0 as, [], G.2.2.2.1, G.2.2.2.2.1, G.2.2.2.2.2) with
        | none => none
        | some (.inl v, W2, b2, c2) => mm_ex xa f (d' + 1) j (nx, G.2.1, v.toList ++ G.2.2.1, W2, b2, c2)
        | some (.inr E, W2, b2, c2) =>
          if fl = false then none else
          if (md_mt j).2.2.2.2 = [] then some (.inr E, W2, b2, c2) else
          match md_hd j G.1 E with
          | none => none
          | some h => mm_ex xa f (d' + 1) j (h, G.2.1, [.retAddr 0], W2, b2, c2)
end
section
/-! ===== what a mini world is in the heap ===== -/
def mm_ad (xl : Nat → Nat) (ws : va_W) (k : Nat) : Option Nat := if k < mm_XB then (ws[k]?).map (fun q => q.1) else some (xl (k - mm_XB))
def mm_v (xl : Nat → Nat) (ws : va_W) : Value → Value → Prop
  | .ref k, v' => ∃ a, mm_ad xl ws k = some a ∧ v' = .ref a
  | .retAddr _, v' => v' = .null ∨ ∃ a, v' = .ref a
  | .int x, v' => v' = .int x
  | .long x, v' => v' = .long x
  | .float x, v' => v' = .float x
  | .double x, v' => v' = .double x
  | .null, v' => v' = .null
def mm_o (xl : Nat → Nat) (ws : va_W) : Option Nat → Option Nat → Prop
  | none, r => r = none
  | some k, r => ∃ a, mm_ad xl ws k = some a ∧ r = some a
def mm_l (xl : Nat → Nat) (ws : va_W) : List Value → List Value → Prop
  | [], l' => l' = []
  | v :: l, l' => ∃ v' l2, l' = v' :: l2 ∧ mm_v xl ws v v' ∧ mm_l xl ws l l2
def mm_lo (xl : Nat → Nat) (ws : va_W) : List (Nat × Value) → List (Nat × Value) → Prop
  | [], l' => l' = []
  | q :: l, l' => ∃ v' l2, l' = (q.1, v') :: l2 ∧ mm_v xl ws q.2 v' ∧ mm_lo xl ws l l2
def mm_e (xl : Nat → Nat) (ws : va_W) (tys : List (ClassId × FieldType)) : va_E → va_E → Prop
  | .inr (ci, fs), e' => ∃ fs', e' = .inr (ci, fs') ∧ mm_l xl ws fs fs'
  | .inl (t, n, .inl f), e' => ∃ (cA : ClassId) (t0 : Nat), tys[t0]? = some (cA, md_ty t) ∧ e' = .inl (cA, n, .inl f) ∧ (t = 0 ∨ t = 2 ∨ t = 3)
  | .inl (t, n, .inr (.inl f)), e' => ∃ (cA : ClassId) (t0 : Nat), tys[t0]? = some (cA, md_ty t) ∧ e' = .inl (cA, n, .inr (.inl f)) ∧ t = 1
  | .inl (t, n, .inr (.inr (.inr (.inr f)))), e' => ∃ (cA : ClassId) (t0 : Nat) (f' : Nat → Option Nat), tys[t0]? = some (cA, md_ty t) ∧ e' = .inl (cA, n, .inr (.inr (.inr (.inr f')))) ∧ (∀ j, mm_o xl ws (f j) (f' j)) ∧ 4 ≤ t
  | .inl (_, _, .inr (.inr (.inl _))), _ => False
  | .inl (_, _, .inr (.inr (.inr (.inl _)))), _ => False
def mm_le (xl : Nat → Nat) (ws ws1 : va_W) : Prop := ∀ k a, mm_ad xl ws k = some a → mm_ad xl ws1 k = some a
/-- w0: the world at the method's start -/
def mm_w (xl : Nat → Nat) (w0 : va_W) (tys : List (ClassId × FieldType)) (W : mm_W) (ws : va_W) : Prop :=
  ws.length = W.length ∧ (∀ (k : Nat) (e : va_E), W[k]? = some e → ∃ (a : Nat) (e' : va_E), ws[k]? = some (a, e') ∧ mm_e xl ws tys e e') ∧ mm_le xl w0 ws
def mm_tle (tys tys1 : List (ClassId × FieldType)) : Prop := ∀ (t0 : Nat) (q : ClassId × FieldType), tys[t0]? = some q → tys1[t0]? = some q
theorem mm_le.rf {xl : Nat → Nat} {ws : va_W} : mm_le xl ws ws := fun _ _ h => h
theorem mm_le.tr {xl : Nat → Nat} {ws ws1 ws2 : va_W} (h : mm_le xl ws ws1) (h2 : mm_le xl ws1 ws2) : mm_le xl ws ws2 := fun k a q => h2 k a (h k a q)
theorem mm_tle.rf {tys : List (ClassId × FieldType)} : mm_tle tys tys := fun _ _ h => h
theorem mm_tle.app {tys t2 : List (ClassId × FieldType)} : mm_tle tys (tys ++ t2) := fun t0 q h => by
  rw [List.getElem?_append_left ((List.getElem?_eq_some_iff.mp h).1)]; exact h
theorem mm_v.mono {xl : Nat → Nat} {ws ws1 : va_W} (h : mm_le xl ws ws1) {v v' : Value} (hv : mm_v xl ws v v') : mm_v xl ws1 v v' := by
  cases v with
  | ref k => obtain ⟨a, h1, h2⟩ := hv; exact ⟨a, h _ _ h1, h2⟩
  | _ => exact hv
theorem mm_o.mono {xl : Nat → Nat} {ws ws1 : va_W} (h : mm_le xl ws ws1) {v v' : Option Nat} (hv : mm_o xl ws v v') : mm_o xl ws1 v v' := by
  cases v with
  | some k => obtain ⟨a, h1, h2⟩ := hv; exact ⟨a, h _ _ h1, h2⟩
  | none => exact hv
theorem mm_l.mono {xl : Nat → Nat} {ws ws1 : va_W} (h : mm_le xl ws ws1) : ∀ {l l' : List Value}, mm_l xl ws l l' → mm_l xl ws1 l l'
  | [], _, hv => hv
  | _ :: _, _, hv => by obtain ⟨v', l2, h1, h2, h3⟩ := hv; exact ⟨v', l2, h1, h2.mono h, mm_l.mono h h3⟩
theorem mm_lo.mono {xl : Nat → Nat} {ws ws1 : va_W} (h : mm_le xl ws ws1) : ∀ {l l' : List (Nat × Value)}, mm_lo xl ws l l' → mm_lo xl ws1 l l'
  | [], _, hv => hv
  | _ :: _, _, hv => by obtain ⟨v', l2, h1, h2, h3⟩ := hv; exact ⟨v', l2, h1, h2.mono h, mm_lo.mono h h3⟩
theorem mm_e.mono {xl : Nat → Nat} {ws ws1 : va_W} {tys tys1 : List (ClassId × FieldType)} (h : mm_le xl ws ws1) (ht : mm_tle tys tys1) {e e' : va_E} (he : mm_e xl ws tys e e') : mm_e xl ws1 tys1 e e' := by
  rcases e with ⟨t, n, f | f | f | f | f⟩ | ⟨ci, fs⟩
  · obtain ⟨cA, t0, h1, h2⟩ := he; exact ⟨cA, t0, ht _ _ h1, h2⟩
  · obtain ⟨cA, t0, h1, h2⟩ := he; exact ⟨cA, t0, ht _ _ h1, h2⟩
  · exact False.elim he
  · exact False.elim he
  · obtain ⟨cA, t0, f', h1, h2, h3, h4⟩ := he; exact ⟨cA, t0, f', ht _ _ h1, h2, fun j => (h3 j).mono h, h4⟩
  · obtain ⟨fs', h1, h2⟩ := he; exact ⟨fs', h1, h2.mono h⟩
theorem mm_ad_set {xl : Nat → Nat} {ws : va_W} {q a : Nat} {e0 e : va_E} (h : ws[q]? = some (a, e0)) (k : Nat) : mm_ad xl (ws.set q (a, e)) k = mm_ad xl ws k := by
  unfold mm_ad
  split
  · by_cases hk : k = q
    · subst hk
      rw [List.getElem?_set_self ((List.getElem?_eq_some_iff.mp h).1), h]; rfl
    · rw [List.getElem?_set_ne (fun z => hk z.symm)]
  · rfl
theorem mm_le_set {xl : Nat → Nat} {ws : va_W} {q a : Nat} {e0 e : va_E} (h : ws[q]? = some (a, e0)) : mm_le xl ws (ws.set q (a, e)) := fun k b hk => by rw [mm_ad_set h]; exact hk
theorem mm_le_app {xl : Nat → Nat} {ws w2 : va_W} : mm_le xl ws (ws ++ w2) := fun k a h => by
  unfold mm_ad at h ⊢
  split at h
  · rename_i hk
    rw [if_pos hk]
    cases hq : ws[k]? with
    | none => rw [hq] at h; cases h
    | some q =>
      rw [List.getElem?_append_left ((List.getElem?_eq_some_iff.mp hq).1), hq]
      rw [hq] at h; exact h
  · rename_i hk
    rw [if_neg hk]; exact h
theorem mm_ad_new {xl : Nat → Nat} {ws : va_W} {a : Nat} {e : va_E} {k : Nat} (hk : k = ws.length) (hx : k < mm_XB) : mm_ad xl (ws ++ [(a, e)]) k = some a := by
  subst hk
  unfold mm_ad
  rw [if_pos hx, List.getElem?_append_right (Nat.le_refl _), Nat.sub_self]; rfl
theorem mm_ad_at {xl : Nat → Nat} {ws : va_W} {a : Nat} {e : va_E} {k : Nat} (h : ws[k]? = some (a, e)) (hx : k < mm_XB) : mm_ad xl ws k = some a := by
  unfold mm_ad
  rw [if_pos hx, h]; rfl
theorem mm_ad_in {xl : Nat → Nat} {ws : va_W} {a : Nat} {k : Nat} (h : mm_ad xl ws k = some a) (hx : k < mm_XB) : ∃ e, ws[k]? = some (a, e) := by
  unfold mm_ad at h
  rw [if_pos hx] at h
  cases hq : ws[k]? with
  | none => rw [hq] at h; cases h
  | some q =>
    obtain ⟨a', e⟩ := q
    rw [hq] at h
    have : a' = a := by simpa using h
    subst this
    exact ⟨e, rfl⟩
theorem mm_ad_out {xl : Nat → Nat} {ws : va_W} {a : Nat} {k : Nat} (h : mm_ad xl ws k = some a) (hx : ¬ k < mm_XB) : a = xl (k - mm_XB) := by
  unfold mm_ad at h
  rw [if_neg hx] at h
  exact (Option.some.inj h).symm
theorem mm_w.set {xl : Nat → Nat} {w0 : va_W} {tys : List (ClassId × FieldType)} {W : mm_W} {ws : va_W} (h : mm_w xl w0 tys W ws) {q a : Nat} {e0 e e' : va_E} (hq : ws[q]? = some (a, e0)) (he : mm_e xl ws tys e e') : mm_w xl w0 tys (W.set q e) (ws.set q (a, e')) := by
  obtain ⟨h1, h2, h9⟩ := h
  refine ⟨by simp [h1], fun k x hk => ?_, h9.tr (mm_le_set hq)⟩
  have hl := (List.getElem?_eq_some_iff.mp hq).1
  by_cases hkq : k = q
  · subst hkq
    rw [List.getElem?_set_self (by rw [← h1]; exact hl)] at hk
    cases hk
    exact ⟨a, e', by rw [List.getElem?_set_self hl], he.mono (mm_le_set hq) mm_tle.rf⟩
  · rw [List.getElem?_set_ne (fun z => hkq z.symm)] at hk
    obtain ⟨a2, e2, h3, h4⟩ := h2 k x hk
    exact ⟨a2, e2, by rw [List.getElem?_set_ne (fun z => hkq z.symm)]; exact h3, h4.mono (mm_le_set hq) mm_tle.rf⟩
theorem mm_w.app {xl : Nat → Nat} {w0 : va_W} {tys tys1 : List (ClassId × FieldType)} {W : mm_W} {ws : va_W} (h : mm_w xl w0 tys W ws) (ht : mm_tle tys tys1) {a : Nat} {e e' : va_E} (he : mm_e xl (ws ++ [(a, e')]) tys1 e e') : mm_w xl w0 tys1 (W ++ [e]) (ws ++ [(a, e')]) := by
  obtain ⟨h1, h2, h9⟩ := h
  refine ⟨by simp [h1], fun k x hk => ?_, h9.tr mm_le_app⟩
  by_cases hl : k < W.length
  · rw [List.getElem?_append_left hl] at hk
    obtain ⟨a2, e2, h3, h4⟩ := h2 k x hk
    exact ⟨a2, e2, by rw [List.getElem?_append_left (by rw [h1]; exact hl)]; exact h3, h4.mono mm_le_app ht⟩
  · rw [List.getElem?_append_right (by omega)] at hk
    have hz : k - W.length < 1 := (List.getElem?_eq_some_iff.mp hk).1
    have hk0 : k = W.length := by omega
    subst hk0
    rw [Nat.sub_self] at hk
    cases hk
    exact ⟨a, e', by rw [List.getElem?_append_right (by omega), h1, Nat.sub_self]; rfl, he⟩
theorem mm_v.cat {xl : Nat → Nat} {ws : va_W} {v v' : Value} (h : mm_v xl ws v v') : v'.category = v.category := by
  cases v with
  | ref k => obtain ⟨a, -, rfl⟩ := h; rfl
  | retAddr k => rcases h with rfl | ⟨a, rfl⟩ <;> rfl
  | _ => rw [show v' = _ from h]
theorem mm_l.cats {xl : Nat → Nat} {ws : va_W} : ∀ {l l' : List Value}, mm_l xl ws l l' → (l'.map fun v => v.category).sum = (l.map fun v => v.category).sum
  | [], _, h => by rw [show _ = [] from h]
  | _ :: _, _, h => by obtain ⟨v', l2, rfl, h2, h3⟩ := h; simp only [List.map_cons, List.sum_cons, h2.cat, mm_l.cats h3]
theorem mm_l.len {xl : Nat → Nat} {ws : va_W} : ∀ {l l' : List Value}, mm_l xl ws l l' → l'.length = l.length
  | [], _, h => by rw [show _ = [] from h]
  | _ :: _, _, h => by obtain ⟨v', l2, rfl, h2, h3⟩ := h; simp only [List.length_cons, mm_l.len h3]
theorem mm_l.at {xl : Nat → Nat} {ws : va_W} : ∀ {l l' : List Value}, mm_l xl ws l l' → ∀ {k : Nat} {v : Value}, l[k]? = some v → ∃ v', l'[k]? = some v' ∧ mm_v xl ws v v'
  | [], _, _, k, v, hk => by simp at hk
  | _ :: _, _, h, 0, v, hk => by
    obtain ⟨v', l2, rfl, h2, h3⟩ := h
    rw [List.getElem?_cons_zero] at hk ⊢
    cases hk
    exact ⟨v', rfl, h2⟩
  | _ :: _, _, h, k + 1, v, hk => by
    obtain ⟨v', l2, rfl, h2, h3⟩ := h
    rw [List.getElem?_cons_succ] at hk ⊢
    exact mm_l.at h3 hk
theorem mm_l.set {xl : Nat → Nat} {ws : va_W} : ∀ {l l' : List Value}, mm_l xl ws l l' → ∀ (k : Nat) {v v' : Value}, mm_v xl ws v v' → mm_l xl ws (l.set k v) (l'.set k v')
  | [], _, h, _, _, _, _ => by rw [show _ = [] from h]; exact (rfl : ([] : List Value) = [])
  | _ :: _, _, h, 0, v, v', hv => by
    obtain ⟨v0, l2, rfl, h2, h3⟩ := h
    exact ⟨v', l2, rfl, hv, h3⟩
  | _ :: _, _, h, k + 1, v, v', hv => by
    obtain ⟨v0, l2, rfl, h2, h3⟩ := h
    exact ⟨v0, l2.set k v', rfl, h2, mm_l.set h3 k hv⟩
theorem mm_l.app {xl : Nat → Nat} {ws : va_W} : ∀ {l l' m m' : List Value}, mm_l xl ws l l' → mm_l xl ws m m' → mm_l xl ws (l ++ m) (l' ++ m')
  | [], _, _, _, h, h2 => by rw [show _ = [] from h]; exact h2
  | _ :: _, _, _, _, h, h2 => by
    obtain ⟨v0, l2, rfl, h3, h4⟩ := h
    exact ⟨v0, l2 ++ _, rfl, h3, mm_l.app h4 h2⟩
theorem mm_l.split {xl : Nat → Nat} {ws : va_W} : ∀ (n : Nat) {l l' : List Value}, mm_l xl ws l l' → mm_l xl ws (l.take n) (l'.take n) ∧ mm_l xl ws (l.drop n) (l'.drop n)
  | 0, _, _, h => ⟨(rfl : ([] : List Value) = []), h⟩
  | n + 1, [], _, h => by rw [show _ = [] from h]; exact ⟨(rfl : ([] : List Value) = []), (rfl : ([] : List Value) = [])⟩
  | n + 1, _ :: _, _, h => by
    obtain ⟨v0, l2, rfl, h3, h4⟩ := h
    obtain ⟨h5, h6⟩ := mm_l.split n h4
    exact ⟨⟨v0, l2.take n, rfl, h3, h5⟩, h6⟩
theorem mm_l.rev {xl : Nat → Nat} {ws : va_W} : ∀ {l l' : List Value}, mm_l xl ws l l' → mm_l xl ws l.reverse l'.reverse
  | [], _, h => by rw [show _ = [] from h]; exact (rfl : ([] : List Value) = [])
  | v :: l, _, h => by
    obtain ⟨v0, l2, rfl, h3, h4⟩ := h
    rw [List.reverse_cons, List.reverse_cons]
    exact mm_l.app (mm_l.rev h4) ⟨v0, [], rfl, h3, rfl⟩
theorem mm_lo.get {xl : Nat → Nat} {ws : va_W} : ∀ {lo lv : List (Nat × Value)}, mm_lo xl ws lo lv → ∀ {i : Nat} {v : Value}, mm_get lo i = some v → ∃ v', (i, v') ∈ lv ∧ mm_v xl ws v v'
  | [], _, _, i, v, hg => by cases hg
  | q :: l, _, h, i, v, hg => by
    obtain ⟨v0, l2, rfl, h3, h4⟩ := h
    unfold mm_get at hg
    split at hg
    · rename_i hi
      cases hg
      subst hi
      exact ⟨v0, List.mem_cons_self, h3⟩
    · obtain ⟨v', h5, h6⟩ := mm_lo.get h4 hg
      exact ⟨v', List.mem_cons_of_mem _ h5, h6⟩
theorem mm_lo.fil {xl : Nat → Nat} {ws : va_W} (f : Nat × Nat → Bool) : ∀ {lo lv : List (Nat × Value)}, mm_lo xl ws lo lv → mm_lo xl ws (lo.filter (fun q => f (q.1, q.2.category))) (lv.filter (fun q => f (q.1, q.2.category)))
  | [], _, h => by rw [show _ = [] from h]; exact (rfl : ([] : List (Nat × Value)) = [])
  | q :: l, _, h => by
    obtain ⟨v0, l2, rfl, h3, h4⟩ := h
    have ih := mm_lo.fil f h4
    by_cases hf : f (q.1, q.2.category) = true
    · rw [List.filter_cons_of_pos (by exact hf), List.filter_cons_of_pos (by rw [h3.cat]; exact hf)]
      exact ⟨v0, _, rfl, h3, ih⟩
    · rw [List.filter_cons_of_neg (by exact hf), List.filter_cons_of_neg (by rw [h3.cat]; exact hf)]
      exact ih
theorem mm_lo.sto {xl : Nat → Nat} {ws : va_W} {lo lv : List (Nat × Value)} (h : mm_lo xl ws lo lv) (i : Nat) {v v' : Value} (hv : mm_v xl ws v v') : mm_lo xl ws (mm_sto lo i v) ((i, v') :: lv.filter (fun q => !(q.1 == i) && !(q.1 + 1 == i && q.2.category == 2))) :=
  ⟨v', _, rfl, hv, mm_lo.fil (fun z => !(z.1 == i) && !(z.1 + 1 == i && z.2 == 2)) h⟩
theorem mm_lo.stl {xl : Nat → Nat} {ws : va_W} {lo lv : List (Nat × Value)} (h : mm_lo xl ws lo lv) (i : Nat) {v v' : Value} (hv : mm_v xl ws v v') : mm_lo xl ws (mm_stl lo i v) ((i, v') :: lv.filter (fun q => !(q.1 == i) && (!(q.1 == i + 1) && !(q.1 + 1 == i && q.2.category == 2)))) :=
  ⟨v', _, rfl, hv, mm_lo.fil (fun z => !(z.1 == i) && (!(z.1 == i + 1) && !(z.1 + 1 == i && z.2 == 2))) h⟩
theorem mm_lo.args {xl : Nat → Nat} {ws : va_W} : ∀ {l l' : List Value} (i : Nat), mm_l xl ws l l' → mm_lo xl ws (lv_args i l) (lv_args i l')
  | [], _, _, h => by rw [show _ = [] from h]; exact (rfl : ([] : List (Nat × Value)) = [])
  | v :: l, _, i, h => by
    obtain ⟨v0, l2, rfl, h3, h4⟩ := h
    unfold lv_args
    rw [h3.cat]
    exact ⟨v0, _, rfl, h3, mm_lo.args _ h4⟩
theorem mm_v.re {xl : Nat → Nat} {ws : va_W} {r r' : Option Nat} (h : mm_o xl ws r r') : mm_v xl ws (va_rf r) (va_rf r') := by
  cases r with
  | none => rw [show r' = none from h]; exact (rfl : Value.null = Value.null)
  | some k => obtain ⟨a, h1, rfl⟩ := h; exact ⟨a, h1, rfl⟩
/-- an outer value: where it is -/
def mm_xv (xl : Nat → Nat) : Value → Value
  | .ref k => .ref (xl (k - mm_XB))
  | v => v
def mm_isx : Value → Bool
  | .ref k => decide (mm_XB ≤ k)
  | .retAddr _ => false
  | _ => true
theorem mm_v.x {xl : Nat → Nat} {ws : va_W} {v : Value} (h : mm_isx v = true) : mm_v xl ws v (mm_xv xl v) := by
  cases v with
  | ref k =>
    have hk : mm_XB ≤ k := by simpa [mm_isx] using h
    exact ⟨_, by unfold mm_ad; rw [if_neg (Nat.not_lt.mpr hk)], rfl⟩
  | retAddr k => cases h
  | int x => exact (rfl : Value.int x = Value.int x)
  | long x => exact (rfl : Value.long x = Value.long x)
  | float x => exact (rfl : Value.float x = Value.float x)
  | double x => exact (rfl : Value.double x = Value.double x)
  | null => exact (rfl : Value.null = Value.null)
theorem mm_ib_in {i : Int32} {n : Nat} (h : mm_ib i n = true) : vp_in i n := by
  unfold mm_ib at h
  simpa [vp_in] using h
theorem mm_l.nil {xl : Nat → Nat} {ws : va_W} : mm_l xl ws [] [] := (rfl : ([] : List Value) = [])
theorem mm_l.cons {xl : Nat → Nat} {ws : va_W} {v v' : Value} {l l' : List Value} (h : mm_v xl ws v v') (h2 : mm_l xl ws l l') : mm_l xl ws (v :: l) (v' :: l') := ⟨v', l', rfl, h, h2⟩
theorem mm_v.i {xl : Nat → Nat} {ws : va_W} {x : Int32} : mm_v xl ws (.int x) (.int x) := (rfl : Value.int x = Value.int x)
theorem mm_v.j {xl : Nat → Nat} {ws : va_W} {x : Int64} : mm_v xl ws (.long x) (.long x) := (rfl : Value.long x = Value.long x)
theorem mm_v.n {xl : Nat → Nat} {ws : va_W} : mm_v xl ws .null .null := (rfl : Value.null = Value.null)
theorem mm_v.ri {xl : Nat → Nat} {ws : va_W} {x : Int32} {v' : Value} (h : mm_v xl ws (.int x) v') : v' = .int x := h
theorem mm_v.rj {xl : Nat → Nat} {ws : va_W} {x : Int64} {v' : Value} (h : mm_v xl ws (.long x) v') : v' = .long x := h
theorem mm_v.rn {xl : Nat → Nat} {ws : va_W} {v' : Value} (h : mm_v xl ws .null v') : v' = .null := h
theorem mm_v.rr {xl : Nat → Nat} {ws : va_W} {k : Nat} {v' : Value} (h : mm_v xl ws (.ref k) v') : ∃ a, mm_ad xl ws k = some a ∧ v' = .ref a := h
theorem mm_v.rt {xl : Nat → Nat} {ws : va_W} {k : Nat} {v' : Value} (h : mm_v xl ws (.retAddr k) v') : v' = .null ∨ ∃ a, v' = .ref a := h
theorem mm_l.un {xl : Nat → Nat} {ws : va_W} {v : Value} {l l' : List Value} (h : mm_l xl ws (v :: l) l') : ∃ v' l2, l' = v' :: l2 ∧ mm_v xl ws v v' ∧ mm_l xl ws l l2 := h
theorem mm_l.un0 {xl : Nat → Nat} {ws : va_W} {l' : List Value} (h : mm_l xl ws [] l') : l' = [] := h
theorem mm_lvat {ls : Array Slot} {nL : Nat} {lv : List (Nat × Value)} (h : lv_has ls nL lv) {i : Nat} {v : Value} (hm : (i, v) ∈ lv) : ls[i]? = some (.val v) := h.2.2 (i, v) hm
theorem mm_e.i {xl : Nat → Nat} {ws : va_W} {tys : List (ClassId × FieldType)} {t n t0 : Nat} {f : Nat → Int32} {cA : ClassId} (h : tys[t0]? = some (cA, md_ty t)) (ht : t = 0 ∨ t = 2 ∨ t = 3) : mm_e xl ws tys (.inl (t, n, .inl f)) (.inl (cA, n, .inl f)) := ⟨cA, t0, h, rfl, ht⟩
theorem mm_e.j {xl : Nat → Nat} {ws : va_W} {tys : List (ClassId × FieldType)} {t n t0 : Nat} {f : Nat → Int64} {cA : ClassId} (h : tys[t0]? = some (cA, md_ty t)) (ht : t = 1) : mm_e xl ws tys (.inl (t, n, .inr (.inl f))) (.inl (cA, n, .inr (.inl f))) := ⟨cA, t0, h, rfl, ht⟩
theorem mm_e.r {xl : Nat → Nat} {ws : va_W} {tys : List (ClassId × FieldType)} {t n t0 : Nat} {f f' : Nat → Option Nat} {cA : ClassId} (h : tys[t0]? = some (cA, md_ty t)) (hf : ∀ j, mm_o xl ws (f j) (f' j)) (ht : 4 ≤ t) : mm_e xl ws tys (.inl (t, n, .inr (.inr (.inr (.inr f))))) (.inl (cA, n, .inr (.inr (.inr (.inr f'))))) := ⟨cA, t0, f', h, rfl, hf, ht⟩
theorem mm_e.o {xl : Nat → Nat} {ws : va_W} {tys : List (ClassId × FieldType)} {ci : Nat} {fs fs' : List Value} (h : mm_l xl ws fs fs') : mm_e xl ws tys (.inr (ci, fs)) (.inr (ci, fs')) := ⟨fs', rfl, h⟩
end
section
/-! ===== what lies outside of a world: statics, constants, tables, texts; a method's standing facts ===== -/
def mm_X (xl : Nat → Nat) (A : Nat → Prop) (sc : Nat × (Nat → Int32)) (U : State) : Prop :=
  (∀ i, i < md_nst → va_Z (md_stn i).1 (md_stn i).2.1 (md_stn i).2.2 (mm_xv xl (md_st i)) A U U.heap ∧ mm_isx (md_st i) = true) ∧
  (∀ i n, md_xc i = some n → va_O (md_xcn n) (xl i) A U U.heap) ∧
  (∀ i k v, md_xo i k = some v → va_OF (md_xf k).1 (md_xf k).2.1 (md_xf k).2.2 (mm_xv xl v) (xl i) A U U.heap ∧ mm_isx v = true) ∧
  (∀ i t n f, md_xa sc i = some (t, n, f) → va_T (md_ty t) (xl i) n (fun j => mm_xv xl (f j)) A U U.heap ∧ ∀ j, mm_isx (f j) = true) ∧
  (∀ q ∈ md_sr, vk_R q.1 q.2.1 q.2.2.1 (xl q.2.2.2) U) ∧
  (∀ w ∈ md_gw, va_Nw w U) ∧
  (∀ q ∈ md_nw, va_Nw (.methodLinkNest q.1 q.2.1 q.2.2.1 q.2.2.2) U) ∧
  (∀ C ∈ md_ao, va_AO C U) ∧
  (∀ q ∈ md_nc, va_Nc q.1 q.2 U) ∧
  vx_Zq Bundle.tN "UNASSIGNED_STACK" Bundle.steD A U U.heap ∧
  vx_Zq Bundle.tN "SUPPRESSED_SENTINEL" Bundle.listD A U U.heap ∧
  (∀ i k, 1 ≤ i → 1 ≤ k → i ≤ md_ne → k ≤ md_ne → xl i = xl k → i = k) ∧
  (∀ q ∈ md_sq, va_Zq q.1 q.2.1 q.2.2 A U U.heap)
/-- what the tables themselves are, by program -/
def mm_dat : Prop :=
  (∀ (ci : Nat) (C : String) (T : u_T) (N : Nat), md_cl[ci]? = some (C, T, N) → (∀ w ∈ u_ws C T N, w ∈ md_Tg) ∧ (∃ ty0 : Nat → FieldType, (∀ k, k < N → parseFieldDescriptor (T k).2.2.1 = some (ty0 k)) ∧ ∀ k, k < N → defaultValue (ty0 k) = vp_V (md_df ci) k) ∧
    (∀ a, a < N → ∀ b, b < N → a ≠ b → (T a).2.1 ≠ (T b).2.1) ∧ (∀ v ∈ md_df ci, mm_isx v = true ∧ v.isRef = false)) ∧
  md_ty 0 = .int ∧ md_ty 1 = .long ∧ md_ty 2 = .byte ∧ md_ty 3 = .boolean ∧
  (∀ t, 4 ≤ t → ∃ E, md_ty t = .object E ∧ (md_ac t < 1000 → ∃ r, md_cl[md_ac t]? = some r ∧ r.1 = E) ∧ (1000 ≤ md_ac t → md_xcn (md_ac t - 1000) = E)) ∧
  (∀ w ∈ md_gw, w.onTables = true ∧ w.keepsFace = true) ∧
  (∀ w ∈ md_Tg, goodWord w = true) ∧
  (∀ (ci : Nat) (q : vw_C), md_cl[ci]? = some q → ci < 1000)
theorem mm_X.same {xl : Nat → Nat} {A : Nat → Prop} {sc : Nat × (Nat → Int32)} (K : mm_dat) {u U : State} (hv : U.vm = u.vm) (hh : U.heap = u.heap) (h : mm_X xl A sc u) : mm_X xl A sc U := by
  obtain ⟨h1, h2, h3, h4, h5, h6, h7, h8, h9, h10, h11, h12, h13⟩ := h
  have al : u.vm.Alike U.vm := by rw [hv]; exact Vm.Alike.refl _
  obtain ⟨-, -, -, -, -, -, hg, -⟩ := K
  refine ⟨fun i hi => ⟨?_, (h1 i hi).2⟩, fun i n hi => ?_, fun i k v hi => ⟨?_, (h3 i k v hi).2⟩, fun i t n f hi => ⟨?_, (h4 i t n f hi).2⟩, fun q hq => (h5 q hq).same hv, fun w hw => (h6 w hw).same (hg w hw).1 hv.symm, fun q hq => (h7 q hq).same rfl hv.symm, fun C hC => (h8 C hC).moved al, fun q hq => (h9 q hq).moved al, ?_, ?_, h12, fun q hq => ?_⟩
  · rw [hh]; exact (h1 i hi).1.moved al
  · rw [hh]; exact (h2 i n hi).moved al
  · rw [hh]; exact (h3 i k v hi).1.moved al
  · rw [hh]; exact (h4 i t n f hi).1.moved al
  · rw [hh]; exact h10.moved al
  · rw [hh]; exact h11.moved al
  · rw [hh]; exact (h13 q hq).moved al
/-- at a callee's start -/
theorem mm_X.call {xl : Nat → Nat} {A A1 : Nat → Prop} {sc : Nat × (Nat → Int32)} (K : mm_dat) {s U : State} {H : Heap} {locs : List Loc} (hS : va_S A s.heap H locs) (hH : U.heap = H) (hW : s.WarmedH U.vm) (hA : ∀ q, A1 q → A q) (h : mm_X xl A sc s) : mm_X xl A1 sc U := by
  obtain ⟨h1, h2, h3, h4, h5, h6, h7, h8, h9, h10, h11, h12, h13⟩ := h
  have al : s.vm.Alike U.vm := hW.alike
  have hq := hS.2.1
  obtain ⟨-, -, -, -, -, -, hg, -⟩ := K
  subst hH
  refine ⟨fun i hi => ⟨?_, (h1 i hi).2⟩, fun i n hi => ?_, fun i k v hi => ⟨?_, (h3 i k v hi).2⟩, fun i t n f hi => ⟨?_, (h4 i t n f hi).2⟩, fun q hq => (h5 q hq).warm hW, fun w hw => ?_, fun q hq => (h7 q hq).warmM hW, fun C hC => (h8 C hC).moved al, fun q hq => (h9 q hq).moved al, ?_, ?_, h12, fun q hq2 => ?_⟩
  · exact (((h1 i hi).1.kept hq).narrow hA).moved al
  · exact (((h2 i n hi).kept hq).narrow hA).moved al
  · exact (((h3 i k v hi).1.kept hq).narrow hA).moved al
  · exact (((h4 i t n f hi).1.kept hq).narrow hA).moved al
  · exact va_tabs (hg w hw).1 (rfl : (s.setVm U.vm).vm = U.vm) (Cond.before_shiftedFace (State.Shifted.of_warmed hW) w (hg w hw).2 (h6 w hw))
  · exact ((h10.kept hq).narrow hA).moved al
  · exact ((h11.kept hq).narrow hA).moved al
  · exact (((h13 q hq2).kept hq).narrow hA).moved al
def mm_ws (j : Nat) : List Jvm.Cond := (if (md_mt j).2.2.2.2 = [] then Jvm.Cond.code (md_mt j).1 (md_mt j).2.1 (md_mt j).2.2.1 (md_mt j).2.2.2.1 else Jvm.Cond.codeWith (md_mt j).1 (md_mt j).2.1 (md_mt j).2.2.1 (md_mt j).2.2.2.1 (md_mt j).2.2.2.2) :: md_Tg
def mm_rm (d mc ms : Nat) : Room := { frames := d + 12, cells := mc, slots := ms, locals := 40 * d + 300 }
/-- a method's standing facts -/
def mm_C (p : Program) (l : Launch) (R : Room) (s : State) (m : MethodId) (args : Array Value) (meth : Method) (c : Code) (xl : Nat → Nat) (A : Nat → Prop) (sc : Nat × (Nat → Int32)) (j d : Nat) : Prop :=
  p.tables.exec = Jvm.exec ∧ c.code = (md_mt j).2.1 ∧ c.maxLocals = (md_mt j).2.2.1 ∧ s.vm.findClass (md_mt j).1.cls = some m.cls ∧ (∀ w ∈ md_Tg, w.before args s = true) ∧ mm_X xl A sc s ∧
  (∀ q, s.heap.size ≤ q → A q) ∧ meth.locks = false ∧ meth.sig.returnType = (md_mt j).2.2.2.1 ∧ meth.name = (md_mt j).1.name ∧ c.exceptionTable.toList = Jvm.tableOf (md_mt j).2.2.2.2 ∧ d + 12 ≤ R.frames ∧ 40 * d + 300 ≤ R.locals ∧ l.stackTraces = false
/-- the machine's frame and heap hold the mini machine's -/
abbrev mm_R (xl : Nat → Nat) (D : va_G) (w0 : va_W) (s : State) (A : Nat → Prop) (nL bT cT : Nat) (F : mm_F) (ws : va_W) (tys : List (ClassId × FieldType)) (H : Heap) (locs : List Loc) (cells slots : Nat) (ls : Array Slot) (st' : List Value) : Prop :=
  mm_l xl ws F.2.2.1 st' ∧ (∃ lv, lv_has ls nL lv ∧ mm_lo xl ws F.2.1 lv) ∧ mm_w xl w0 tys F.2.2.2.1 ws ∧ va_K D md_cl tys s ∧ va_P D md_cl ws H ∧ va_D A ws ∧ va_S A s.heap H locs ∧ cells + F.2.2.2.2.1 = bT ∧ slots + F.2.2.2.2.2 = cT
def mm_G (p : Program) (l : Launch) (e : Env) (R : Room) (s : State) (m : MethodId) (args : Array Value) (below : List Frame) (meth : Method) (c : Code) (xl : Nat → Nat) (D : va_G) (w0 : va_W) (A : Nat → Prop) (j bT cT : Nat) (Q : State → Prop) (F : mm_F) : Prop :=
  ∀ (ws : va_W) (tys : List (ClassId × FieldType)) (H : Heap) (locs : List Loc) (cells slots : Nat) (ls : Array Slot) (st' : List Value), mm_R xl D w0 s A (md_mt j).2.2.1 bT cT F ws tys H locs cells slots ls st' →
    W p l e R s m args below meth c H locs cells slots Q (F0 m F.1 ls st')
/-- the same, with an exception thrown over the frame -/
def mm_Gx (p : Program) (l : Launch) (e : Env) (R : Room) (s : State) (m : MethodId) (args : Array Value) (below : List Frame) (meth : Method) (c : Code) (xl : Nat → Nat) (D : va_G) (w0 : va_W) (A : Nat → Prop) (j bT cT : Nat) (Q : State → Prop) (n : Nat) (F : mm_F) : Prop :=
  ∀ (ws : va_W) (tys : List (ClassId × FieldType)) (H : Heap) (locs : List Loc) (cells slots : Nat) (ls : Array Slot) (st' : List Value) (q : Addr) (ce : Cell), mm_R xl D w0 s A (md_mt j).2.2.1 bT cT F ws tys H locs cells slots ls st' →
    H[q]? = some ce → ce.vm = .none → s.vm.findClass (md_en n) = some ce.cls → vx_W p l e R s m args below meth c H locs cells slots Q (F0 m F.1 ls st') q
def mm_len : Instr → Nat
  | .iload _ | .lload _ | .aload _ | .istore _ | .lstore _ | .astore _ | .bipush _ | .ldc _ | .newarray _ => 2
  | .sipush _ | .ldc_w _ | .ldc2_w _ | .iinc _ _ | .ifCond _ _ | .if_icmp _ _ | .if_acmp _ _ | .goto _ | .getfield _ | .putfield _ | .getstatic _ | .new _ | .anewarray _ | .invokevirtual _ | .invokestatic _ | .invokespecial _ => 3
  | _ => 1
theorem mm_word {args : Array Value} {s : State} {w : Jvm.Cond} (ht : ∀ w ∈ md_Tg, w.before args s = true) (h : w ∈ md_Tg) : w.before args s = true := ht w h
end
section
/-! ===== one instruction: from the mini machine's step to the machine's (laid by wip/mm/gen06.py) ===== -/
section MI
variable {p : Program} {l : Launch} {e : Env} {R : Room} {s : State} {m : MethodId} {args : Array Value} {below : List Frame} {meth : Method} {c : Code} {xl : Nat → Nat} {D : va_G} {w0 : va_W} {A : Nat → Prop} {sc : Nat × (Nat → Int32)} {j d bT cT : Nat} {Q : State → Prop} {nx r1 r2 r3 pc : Nat} {lo : List (Nat × Value)} {st : List Value} {W0 : mm_W} {b0 c0 : Nat} {F' : mm_F}
theorem mi_iconst (C : mm_C p l R s m args meth c xl A sc j d) {n : Int} (hd : decode (md_mt j).2.1 pc = .ok (.iconst n, 1)) (hn : nx = pc + 1)  (h : mm_stepI (md_xa sc) j (.iconst n) nx r1 r2 r3 pc lo st W0 b0 c0 = some (.inl F')) (k : mm_G p l e R s m args below meth c xl D w0 A j bT cT Q F') : mm_G p l e R s m args below meth c xl D w0 A j bT cT Q (pc, lo, st, W0, b0, c0) := by
  subst hn
  simp only [mm_stepI] at h
  cases h
  intro ws tys H locs cells slots ls st' hR
  obtain ⟨hst, ⟨lv, hls, hlo⟩, hR⟩ := hR
  exact lv_iconst C.1 C.2.1 hd rfl (k _ _ _ _ _ _ _ _ ⟨mm_l.cons mm_v.i hst, ⟨lv, hls, hlo⟩, hR⟩)
theorem mi_bipush (C : mm_C p l R s m args meth c xl A sc j d) {n : Int} (hd : decode (md_mt j).2.1 pc = .ok (.bipush n, 2)) (hn : nx = pc + 2)  (h : mm_stepI (md_xa sc) j (.bipush n) nx r1 r2 r3 pc lo st W0 b0 c0 = some (.inl F')) (k : mm_G p l e R s m args below meth c xl D w0 A j bT cT Q F') : mm_G p l e R s m args below meth c xl D w0 A j bT cT Q (pc, lo, st, W0, b0, c0) := by
  subst hn
  simp only [mm_stepI] at h
  cases h
  intro ws tys H locs cells slots ls st' hR
  obtain ⟨hst, ⟨lv, hls, hlo⟩, hR⟩ := hR
  exact lv_bipush C.1 C.2.1 hd rfl (k _ _ _ _ _ _ _ _ ⟨mm_l.cons mm_v.i hst, ⟨lv, hls, hlo⟩, hR⟩)
theorem mi_sipush (C : mm_C p l R s m args meth c xl A sc j d) {n : Int} (hd : decode (md_mt j).2.1 pc = .ok (.sipush n, 3)) (hn : nx = pc + 3)  (h : mm_stepI (md_xa sc) j (.sipush n) nx r1 r2 r3 pc lo st W0 b0 c0 = some (.inl F')) (k : mm_G p l e R s m args below meth c xl D w0 A j bT cT Q F') : mm_G p l e R s m args below meth c xl D w0 A j bT cT Q (pc, lo, st, W0, b0, c0) := by
  subst hn
  simp only [mm_stepI] at h
  cases h
  intro ws tys H locs cells slots ls st' hR
  obtain ⟨hst, ⟨lv, hls, hlo⟩, hR⟩ := hR
  exact lv_sipush C.1 C.2.1 hd rfl (k _ _ _ _ _ _ _ _ ⟨mm_l.cons mm_v.i hst, ⟨lv, hls, hlo⟩, hR⟩)
theorem mi_lconst (C : mm_C p l R s m args meth c xl A sc j d) {n : Fin 2} (hd : decode (md_mt j).2.1 pc = .ok (.lconst n, 1)) (hn : nx = pc + 1)  (h : mm_stepI (md_xa sc) j (.lconst n) nx r1 r2 r3 pc lo st W0 b0 c0 = some (.inl F')) (k : mm_G p l e R s m args below meth c xl D w0 A j bT cT Q F') : mm_G p l e R s m args below meth c xl D w0 A j bT cT Q (pc, lo, st, W0, b0, c0) := by
  subst hn
  simp only [mm_stepI] at h
  cases h
  intro ws tys H locs cells slots ls st' hR
  obtain ⟨hst, ⟨lv, hls, hlo⟩, hR⟩ := hR
  exact lv_lconst C.1 C.2.1 hd rfl (k _ _ _ _ _ _ _ _ ⟨mm_l.cons mm_v.j hst, ⟨lv, hls, hlo⟩, hR⟩)
theorem mi_aconst_null (C : mm_C p l R s m args meth c xl A sc j d)  (hd : decode (md_mt j).2.1 pc = .ok (.aconst_null, 1)) (hn : nx = pc + 1)  (h : mm_stepI (md_xa sc) j (.aconst_null) nx r1 r2 r3 pc lo st W0 b0 c0 = some (.inl F')) (k : mm_G p l e R s m args below meth c xl D w0 A j bT cT Q F') : mm_G p l e R s m args below meth c xl D w0 A j bT cT Q (pc, lo, st, W0, b0, c0) := by
  subst hn
  simp only [mm_stepI] at h
  cases h
  intro ws tys H locs cells slots ls st' hR
  obtain ⟨hst, ⟨lv, hls, hlo⟩, hR⟩ := hR
  exact lv_null C.1 C.2.1 hd (k _ _ _ _ _ _ _ _ ⟨mm_l.cons mm_v.n hst, ⟨lv, hls, hlo⟩, hR⟩)
theorem mi_iload (C : mm_C p l R s m args meth c xl A sc j d) {i : Nat} (hd : decode (md_mt j).2.1 pc = .ok (.iload i, 2)) (hn : nx = pc + 2)  (h : mm_stepI (md_xa sc) j (.iload i) nx r1 r2 r3 pc lo st W0 b0 c0 = some (.inl F')) (k : mm_G p l e R s m args below meth c xl D w0 A j bT cT Q F') : mm_G p l e R s m args below meth c xl D w0 A j bT cT Q (pc, lo, st, W0, b0, c0) := by
  subst hn
  simp only [mm_stepI] at h
  split at h
  · rename_i x hg
    cases h
    intro ws tys H locs cells slots ls st' hR
    obtain ⟨hst, ⟨lv, hls, hlo⟩, hR⟩ := hR
    obtain ⟨v', hm, hv⟩ := hlo.get hg
    cases mm_v.ri hv
    exact lv_iload C.1 C.2.1 hd (mm_lvat hls hm) (k _ _ _ _ _ _ _ _ ⟨mm_l.cons mm_v.i hst, ⟨lv, hls, hlo⟩, hR⟩)
  · cases h
theorem mi_iload_n (C : mm_C p l R s m args meth c xl A sc j d) {i : Fin 4} (hd : decode (md_mt j).2.1 pc = .ok (.iload_n i, 1)) (hn : nx = pc + 1)  (h : mm_stepI (md_xa sc) j (.iload_n i) nx r1 r2 r3 pc lo st W0 b0 c0 = some (.inl F')) (k : mm_G p l e R s m args below meth c xl D w0 A j bT cT Q F') : mm_G p l e R s m args below meth c xl D w0 A j bT cT Q (pc, lo, st, W0, b0, c0) := by
  subst hn
  simp only [mm_stepI] at h
  split at h
  · rename_i x hg
    cases h
    intro ws tys H locs cells slots ls st' hR
    obtain ⟨hst, ⟨lv, hls, hlo⟩, hR⟩ := hR
    obtain ⟨v', hm, hv⟩ := hlo.get hg
    cases mm_v.ri hv
    exact lv_iload_n C.1 C.2.1 hd rfl (mm_lvat hls hm) (k _ _ _ _ _ _ _ _ ⟨mm_l.cons mm_v.i hst, ⟨lv, hls, hlo⟩, hR⟩)
  · cases h
theorem mi_lload (C : mm_C p l R s m args meth c xl A sc j d) {i : Nat} (hd : decode (md_mt j).2.1 pc = .ok (.lload i, 2)) (hn : nx = pc + 2)  (h : mm_stepI (md_xa sc) j (.lload i) nx r1 r2 r3 pc lo st W0 b0 c0 = some (.inl F')) (k : mm_G p l e R s m args below meth c xl D w0 A j bT cT Q F') : mm_G p l e R s m args below meth c xl D w0 A j bT cT Q (pc, lo, st, W0, b0, c0) := by
  subst hn
  simp only [mm_stepI] at h
  split at h
  · rename_i x hg
    cases h
    intro ws tys H locs cells slots ls st' hR
    obtain ⟨hst, ⟨lv, hls, hlo⟩, hR⟩ := hR
    obtain ⟨v', hm, hv⟩ := hlo.get hg
    cases mm_v.rj hv
    exact lv_lload C.1 C.2.1 hd (mm_lvat hls hm) (k _ _ _ _ _ _ _ _ ⟨mm_l.cons mm_v.j hst, ⟨lv, hls, hlo⟩, hR⟩)
  · cases h
theorem mi_lload_n (C : mm_C p l R s m args meth c xl A sc j d) {i : Fin 4} (hd : decode (md_mt j).2.1 pc = .ok (.lload_n i, 1)) (hn : nx = pc + 1)  (h : mm_stepI (md_xa sc) j (.lload_n i) nx r1 r2 r3 pc lo st W0 b0 c0 = some (.inl F')) (k : mm_G p l e R s m args below meth c xl D w0 A j bT cT Q F') : mm_G p l e R s m args below meth c xl D w0 A j bT cT Q (pc, lo, st, W0, b0, c0) := by
  subst hn
  simp only [mm_stepI] at h
  split at h
  · rename_i x hg
    cases h
    intro ws tys H locs cells slots ls st' hR
    obtain ⟨hst, ⟨lv, hls, hlo⟩, hR⟩ := hR
    obtain ⟨v', hm, hv⟩ := hlo.get hg
    cases mm_v.rj hv
    exact lv_lload_n C.1 C.2.1 hd rfl (mm_lvat hls hm) (k _ _ _ _ _ _ _ _ ⟨mm_l.cons mm_v.j hst, ⟨lv, hls, hlo⟩, hR⟩)
  · cases h
theorem mi_aload (C : mm_C p l R s m args meth c xl A sc j d) {i : Nat} (hd : decode (md_mt j).2.1 pc = .ok (.aload i, 2)) (hn : nx = pc + 2)  (h : mm_stepI (md_xa sc) j (.aload i) nx r1 r2 r3 pc lo st W0 b0 c0 = some (.inl F')) (k : mm_G p l e R s m args below meth c xl D w0 A j bT cT Q F') : mm_G p l e R s m args below meth c xl D w0 A j bT cT Q (pc, lo, st, W0, b0, c0) := by
  subst hn
  simp only [mm_stepI] at h
  split at h
  · rename_i x hg
    cases h
    intro ws tys H locs cells slots ls st' hR
    obtain ⟨hst, ⟨lv, hls, hlo⟩, hR⟩ := hR
    obtain ⟨v', hm, hv⟩ := hlo.get hg
    obtain ⟨a, ha, rfl⟩ := mm_v.rr hv
    exact lv_aload C.1 C.2.1 hd (mm_lvat hls hm) (k _ _ _ _ _ _ _ _ ⟨mm_l.cons hv hst, ⟨lv, hls, hlo⟩, hR⟩)
  · cases h
theorem mi_aload_n (C : mm_C p l R s m args meth c xl A sc j d) {i : Fin 4} (hd : decode (md_mt j).2.1 pc = .ok (.aload_n i, 1)) (hn : nx = pc + 1)  (h : mm_stepI (md_xa sc) j (.aload_n i) nx r1 r2 r3 pc lo st W0 b0 c0 = some (.inl F')) (k : mm_G p l e R s m args below meth c xl D w0 A j bT cT Q F') : mm_G p l e R s m args below meth c xl D w0 A j bT cT Q (pc, lo, st, W0, b0, c0) := by
  subst hn
  simp only [mm_stepI] at h
  split at h
  · rename_i x hg
    cases h
    intro ws tys H locs cells slots ls st' hR
    obtain ⟨hst, ⟨lv, hls, hlo⟩, hR⟩ := hR
    obtain ⟨v', hm, hv⟩ := hlo.get hg
    obtain ⟨a, ha, rfl⟩ := mm_v.rr hv
    exact lv_aload_n C.1 C.2.1 hd rfl (mm_lvat hls hm) (k _ _ _ _ _ _ _ _ ⟨mm_l.cons hv hst, ⟨lv, hls, hlo⟩, hR⟩)
  · cases h
theorem mi_istore (C : mm_C p l R s m args meth c xl A sc j d) {i : Nat} (hd : decode (md_mt j).2.1 pc = .ok (.istore i, 2)) (hn : nx = pc + 2) (hi : i < (md_mt j).2.2.1) (h : mm_stepI (md_xa sc) j (.istore i) nx r1 r2 r3 pc lo st W0 b0 c0 = some (.inl F')) (k : mm_G p l e R s m args below meth c xl D w0 A j bT cT Q F') : mm_G p l e R s m args below meth c xl D w0 A j bT cT Q (pc, lo, st, W0, b0, c0) := by
  subst hn
  simp only [mm_stepI] at h
  split at h
  · cases h
    intro ws tys H locs cells slots ls st' hR
    obtain ⟨hst, ⟨lv, hls, hlo⟩, hR⟩ := hR
    have hst0 := mm_l.un hst
    clear hst
    obtain ⟨v', l2, rfl, hv, hst⟩ := hst0
    cases mm_v.ri hv
    exact lv_istore C.1 C.2.1 hd hls hi rfl (fun ls2 hl2 => k _ _ _ _ _ _ _ _ ⟨hst, ⟨_, hl2, hlo.sto _ mm_v.i⟩, hR⟩)
  · cases h
theorem mi_istore_n (C : mm_C p l R s m args meth c xl A sc j d) {i : Fin 4} (hd : decode (md_mt j).2.1 pc = .ok (.istore_n i, 1)) (hn : nx = pc + 1) (hi : (i : Nat) < (md_mt j).2.2.1) (h : mm_stepI (md_xa sc) j (.istore_n i) nx r1 r2 r3 pc lo st W0 b0 c0 = some (.inl F')) (k : mm_G p l e R s m args below meth c xl D w0 A j bT cT Q F') : mm_G p l e R s m args below meth c xl D w0 A j bT cT Q (pc, lo, st, W0, b0, c0) := by
  subst hn
  simp only [mm_stepI] at h
  split at h
  · cases h
    intro ws tys H locs cells slots ls st' hR
    obtain ⟨hst, ⟨lv, hls, hlo⟩, hR⟩ := hR
    have hst0 := mm_l.un hst
    clear hst
    obtain ⟨v', l2, rfl, hv, hst⟩ := hst0
    cases mm_v.ri hv
    exact lv_istore_n C.1 C.2.1 hd rfl hls hi rfl (fun ls2 hl2 => k _ _ _ _ _ _ _ _ ⟨hst, ⟨_, hl2, hlo.sto _ mm_v.i⟩, hR⟩)
  · cases h
theorem mi_lstore (C : mm_C p l R s m args meth c xl A sc j d) {i : Nat} (hd : decode (md_mt j).2.1 pc = .ok (.lstore i, 2)) (hn : nx = pc + 2) (hi : i + 1 < (md_mt j).2.2.1) (h : mm_stepI (md_xa sc) j (.lstore i) nx r1 r2 r3 pc lo st W0 b0 c0 = some (.inl F')) (k : mm_G p l e R s m args below meth c xl D w0 A j bT cT Q F') : mm_G p l e R s m args below meth c xl D w0 A j bT cT Q (pc, lo, st, W0, b0, c0) := by
  subst hn
  simp only [mm_stepI] at h
  split at h
  · cases h
    intro ws tys H locs cells slots ls st' hR
    obtain ⟨hst, ⟨lv, hls, hlo⟩, hR⟩ := hR
    have hst0 := mm_l.un hst
    clear hst
    obtain ⟨v', l2, rfl, hv, hst⟩ := hst0
    cases mm_v.rj hv
    exact lv_lstore C.1 C.2.1 hd hls hi rfl (fun ls2 hl2 => k _ _ _ _ _ _ _ _ ⟨hst, ⟨_, hl2, hlo.stl _ mm_v.j⟩, hR⟩)
  · cases h
theorem mi_lstore_n (C : mm_C p l R s m args meth c xl A sc j d) {i : Fin 4} (hd : decode (md_mt j).2.1 pc = .ok (.lstore_n i, 1)) (hn : nx = pc + 1) (hi : (i : Nat) + 1 < (md_mt j).2.2.1) (h : mm_stepI (md_xa sc) j (.lstore_n i) nx r1 r2 r3 pc lo st W0 b0 c0 = some (.inl F')) (k : mm_G p l e R s m args below meth c xl D w0 A j bT cT Q F') : mm_G p l e R s m args below meth c xl D w0 A j bT cT Q (pc, lo, st, W0, b0, c0) := by
  subst hn
  simp only [mm_stepI] at h
  split at h
  · cases h
    intro ws tys H locs cells slots ls st' hR
    obtain ⟨hst, ⟨lv, hls, hlo⟩, hR⟩ := hR
    have hst0 := mm_l.un hst
    clear hst
    obtain ⟨v', l2, rfl, hv, hst⟩ := hst0
    cases mm_v.rj hv
    exact lv_lstore_n C.1 C.2.1 hd rfl hls hi rfl (fun ls2 hl2 => k _ _ _ _ _ _ _ _ ⟨hst, ⟨_, hl2, hlo.stl _ mm_v.j⟩, hR⟩)
  · cases h
theorem mi_astore (C : mm_C p l R s m args meth c xl A sc j d) {i : Nat} (hd : decode (md_mt j).2.1 pc = .ok (.astore i, 2)) (hn : nx = pc + 2) (hi : i < (md_mt j).2.2.1) (h : mm_stepI (md_xa sc) j (.astore i) nx r1 r2 r3 pc lo st W0 b0 c0 = some (.inl F')) (k : mm_G p l e R s m args below meth c xl D w0 A j bT cT Q F') : mm_G p l e R s m args below meth c xl D w0 A j bT cT Q (pc, lo, st, W0, b0, c0) := by
  subst hn
  simp only [mm_stepI] at h
  split at h
  · cases h
    intro ws tys H locs cells slots ls st' hR
    obtain ⟨hst, ⟨lv, hls, hlo⟩, hR⟩ := hR
    have hst0 := mm_l.un hst
    clear hst
    obtain ⟨v', l2, rfl, hv, hst⟩ := hst0
    obtain ⟨a, ha, rfl⟩ := mm_v.rr hv
    exact lv_astore C.1 C.2.1 hd hls hi rfl (fun ls2 hl2 => k _ _ _ _ _ _ _ _ ⟨hst, ⟨_, hl2, hlo.sto _ hv⟩, hR⟩)
  · cases h
    intro ws tys H locs cells slots ls st' hR
    obtain ⟨hst, ⟨lv, hls, hlo⟩, hR⟩ := hR
    have hst0 := mm_l.un hst
    clear hst
    obtain ⟨v', l2, rfl, hv, hst⟩ := hst0
    rcases mm_v.rt hv with rfl | ⟨a, rfl⟩
    · exact lv_astoreN C.1 C.2.1 hd hls hi rfl (fun ls2 hl2 => k _ _ _ _ _ _ _ _ ⟨hst, ⟨_, hl2, hlo.sto _ hv⟩, hR⟩)
    · exact lv_astore C.1 C.2.1 hd hls hi rfl (fun ls2 hl2 => k _ _ _ _ _ _ _ _ ⟨hst, ⟨_, hl2, hlo.sto _ hv⟩, hR⟩)
  · cases h
theorem mi_astore_n (C : mm_C p l R s m args meth c xl A sc j d) {i : Fin 4} (hd : decode (md_mt j).2.1 pc = .ok (.astore_n i, 1)) (hn : nx = pc + 1) (hi : (i : Nat) < (md_mt j).2.2.1) (h : mm_stepI (md_xa sc) j (.astore_n i) nx r1 r2 r3 pc lo st W0 b0 c0 = some (.inl F')) (k : mm_G p l e R s m args below meth c xl D w0 A j bT cT Q F') : mm_G p l e R s m args below meth c xl D w0 A j bT cT Q (pc, lo, st, W0, b0, c0) := by
  subst hn
  simp only [mm_stepI] at h
  split at h
  · cases h
    intro ws tys H locs cells slots ls st' hR
    obtain ⟨hst, ⟨lv, hls, hlo⟩, hR⟩ := hR
    have hst0 := mm_l.un hst
    clear hst
    obtain ⟨v', l2, rfl, hv, hst⟩ := hst0
    obtain ⟨a, ha, rfl⟩ := mm_v.rr hv
    exact lv_astore_n C.1 C.2.1 hd rfl hls hi rfl (fun ls2 hl2 => k _ _ _ _ _ _ _ _ ⟨hst, ⟨_, hl2, hlo.sto _ hv⟩, hR⟩)
  · cases h
    intro ws tys H locs cells slots ls st' hR
    obtain ⟨hst, ⟨lv, hls, hlo⟩, hR⟩ := hR
    have hst0 := mm_l.un hst
    clear hst
    obtain ⟨v', l2, rfl, hv, hst⟩ := hst0
    rcases mm_v.rt hv with rfl | ⟨a, rfl⟩
    · exact lv_astore_nN C.1 C.2.1 hd rfl hls hi rfl (fun ls2 hl2 => k _ _ _ _ _ _ _ _ ⟨hst, ⟨_, hl2, hlo.sto _ hv⟩, hR⟩)
    · exact lv_astore_n C.1 C.2.1 hd rfl hls hi rfl (fun ls2 hl2 => k _ _ _ _ _ _ _ _ ⟨hst, ⟨_, hl2, hlo.sto _ hv⟩, hR⟩)
  · cases h
theorem mi_iinc (C : mm_C p l R s m args meth c xl A sc j d) {i : Nat} {n : Int} (hd : decode (md_mt j).2.1 pc = .ok (.iinc i n, 3)) (hn : nx = pc + 3) (hi : i < (md_mt j).2.2.1) (h : mm_stepI (md_xa sc) j (.iinc i n) nx r1 r2 r3 pc lo st W0 b0 c0 = some (.inl F')) (k : mm_G p l e R s m args below meth c xl D w0 A j bT cT Q F') : mm_G p l e R s m args below meth c xl D w0 A j bT cT Q (pc, lo, st, W0, b0, c0) := by
  subst hn
  simp only [mm_stepI] at h
  split at h
  · rename_i x hg
    cases h
    intro ws tys H locs cells slots ls st' hR
    obtain ⟨hst, ⟨lv, hls, hlo⟩, hR⟩ := hR
    obtain ⟨v', hm, hv⟩ := hlo.get hg
    cases mm_v.ri hv
    obtain ⟨q, hq⟩ := List.getElem?_of_mem hm
    exact lv_iinc C.1 C.2.1 hd hls hq rfl hi rfl (fun ls2 hl2 => k _ _ _ _ _ _ _ _ ⟨hst, ⟨_, hl2, hlo.sto _ mm_v.i⟩, hR⟩)
  · cases h
theorem mi_dup (C : mm_C p l R s m args meth c xl A sc j d)  (hd : decode (md_mt j).2.1 pc = .ok (.dup, 1)) (hn : nx = pc + 1)  (h : mm_stepI (md_xa sc) j (.dup) nx r1 r2 r3 pc lo st W0 b0 c0 = some (.inl F')) (k : mm_G p l e R s m args below meth c xl D w0 A j bT cT Q F') : mm_G p l e R s m args below meth c xl D w0 A j bT cT Q (pc, lo, st, W0, b0, c0) := by
  subst hn
  simp only [mm_stepI] at h
  split at h
  · split at h
    · rename_i hc
      cases h
      intro ws tys H locs cells slots ls st' hR
      obtain ⟨hst, ⟨lv, hls, hlo⟩, hR⟩ := hR
      have hst0 := mm_l.un hst
      clear hst
      obtain ⟨v', l2, rfl, hv, hst⟩ := hst0
      exact lv_dup C.1 C.2.1 hd (hv.cat.trans hc) (k _ _ _ _ _ _ _ _ ⟨mm_l.cons hv (mm_l.cons hv hst), ⟨lv, hls, hlo⟩, hR⟩)
    · cases h
  · cases h
theorem mi_pop (C : mm_C p l R s m args meth c xl A sc j d)  (hd : decode (md_mt j).2.1 pc = .ok (.pop, 1)) (hn : nx = pc + 1)  (h : mm_stepI (md_xa sc) j (.pop) nx r1 r2 r3 pc lo st W0 b0 c0 = some (.inl F')) (k : mm_G p l e R s m args below meth c xl D w0 A j bT cT Q F') : mm_G p l e R s m args below meth c xl D w0 A j bT cT Q (pc, lo, st, W0, b0, c0) := by
  subst hn
  simp only [mm_stepI] at h
  split at h
  · split at h
    · rename_i hc
      cases h
      intro ws tys H locs cells slots ls st' hR
      obtain ⟨hst, ⟨lv, hls, hlo⟩, hR⟩ := hR
      have hst0 := mm_l.un hst
      clear hst
      obtain ⟨v', l2, rfl, hv, hst⟩ := hst0
      exact lv_pop C.1 C.2.1 hd (hv.cat.trans hc) (k _ _ _ _ _ _ _ _ ⟨hst, ⟨lv, hls, hlo⟩, hR⟩)
    · cases h
  · cases h
theorem mi_dup2 (C : mm_C p l R s m args meth c xl A sc j d)  (hd : decode (md_mt j).2.1 pc = .ok (.dup2, 1)) (hn : nx = pc + 1)  (h : mm_stepI (md_xa sc) j (.dup2) nx r1 r2 r3 pc lo st W0 b0 c0 = some (.inl F')) (k : mm_G p l e R s m args below meth c xl D w0 A j bT cT Q F') : mm_G p l e R s m args below meth c xl D w0 A j bT cT Q (pc, lo, st, W0, b0, c0) := by
  subst hn
  simp only [mm_stepI] at h
  split at h
  · split at h
    · rename_i hc
      cases h
      intro ws tys H locs cells slots ls st' hR
      obtain ⟨hst, ⟨lv, hls, hlo⟩, hR⟩ := hR
      have hst0 := mm_l.un hst
      clear hst
      obtain ⟨v', l2, rfl, hv, hst⟩ := hst0
      have hst0 := mm_l.un hst
      clear hst
      obtain ⟨w', l3, rfl, hw, hst⟩ := hst0
      exact lv_dup2_11 C.1 C.2.1 hd (hv.cat.trans hc.1) (hw.cat.trans hc.2) (k _ _ _ _ _ _ _ _ ⟨mm_l.cons hv (mm_l.cons hw (mm_l.cons hv (mm_l.cons hw hst))), ⟨lv, hls, hlo⟩, hR⟩)
    · cases h
  · cases h
theorem mi_iadd (C : mm_C p l R s m args meth c xl A sc j d)  (hd : decode (md_mt j).2.1 pc = .ok (.iadd, 1)) (hn : nx = pc + 1)  (h : mm_stepI (md_xa sc) j (.iadd) nx r1 r2 r3 pc lo st W0 b0 c0 = some (.inl F')) (k : mm_G p l e R s m args below meth c xl D w0 A j bT cT Q F') : mm_G p l e R s m args below meth c xl D w0 A j bT cT Q (pc, lo, st, W0, b0, c0) := by
  subst hn
  simp only [mm_stepI] at h
  split at h
  · cases h
    intro ws tys H locs cells slots ls st' hR
    obtain ⟨hst, ⟨lv, hls, hlo⟩, hR⟩ := hR
    have hst0 := mm_l.un hst
    clear hst
    obtain ⟨_, _, rfl, hv, hst⟩ := hst0
    cases mm_v.ri hv
    have hst0 := mm_l.un hst
    clear hst
    obtain ⟨_, _, rfl, hv, hst⟩ := hst0
    cases mm_v.ri hv
    exact lv_iadd C.1 C.2.1 hd (k _ _ _ _ _ _ _ _ ⟨mm_l.cons mm_v.i hst, ⟨lv, hls, hlo⟩, hR⟩)
  · cases h
theorem mi_isub (C : mm_C p l R s m args meth c xl A sc j d)  (hd : decode (md_mt j).2.1 pc = .ok (.isub, 1)) (hn : nx = pc + 1)  (h : mm_stepI (md_xa sc) j (.isub) nx r1 r2 r3 pc lo st W0 b0 c0 = some (.inl F')) (k : mm_G p l e R s m args below meth c xl D w0 A j bT cT Q F') : mm_G p l e R s m args below meth c xl D w0 A j bT cT Q (pc, lo, st, W0, b0, c0) := by
  subst hn
  simp only [mm_stepI] at h
  split at h
  · cases h
    intro ws tys H locs cells slots ls st' hR
    obtain ⟨hst, ⟨lv, hls, hlo⟩, hR⟩ := hR
    have hst0 := mm_l.un hst
    clear hst
    obtain ⟨_, _, rfl, hv, hst⟩ := hst0
    cases mm_v.ri hv
    have hst0 := mm_l.un hst
    clear hst
    obtain ⟨_, _, rfl, hv, hst⟩ := hst0
    cases mm_v.ri hv
    exact lv_isub C.1 C.2.1 hd (k _ _ _ _ _ _ _ _ ⟨mm_l.cons mm_v.i hst, ⟨lv, hls, hlo⟩, hR⟩)
  · cases h
theorem mi_imul (C : mm_C p l R s m args meth c xl A sc j d)  (hd : decode (md_mt j).2.1 pc = .ok (.imul, 1)) (hn : nx = pc + 1)  (h : mm_stepI (md_xa sc) j (.imul) nx r1 r2 r3 pc lo st W0 b0 c0 = some (.inl F')) (k : mm_G p l e R s m args below meth c xl D w0 A j bT cT Q F') : mm_G p l e R s m args below meth c xl D w0 A j bT cT Q (pc, lo, st, W0, b0, c0) := by
  subst hn
  simp only [mm_stepI] at h
  split at h
  · cases h
    intro ws tys H locs cells slots ls st' hR
    obtain ⟨hst, ⟨lv, hls, hlo⟩, hR⟩ := hR
    have hst0 := mm_l.un hst
    clear hst
    obtain ⟨_, _, rfl, hv, hst⟩ := hst0
    cases mm_v.ri hv
    have hst0 := mm_l.un hst
    clear hst
    obtain ⟨_, _, rfl, hv, hst⟩ := hst0
    cases mm_v.ri hv
    exact lv_imul C.1 C.2.1 hd (k _ _ _ _ _ _ _ _ ⟨mm_l.cons mm_v.i hst, ⟨lv, hls, hlo⟩, hR⟩)
  · cases h
theorem mi_iand (C : mm_C p l R s m args meth c xl A sc j d)  (hd : decode (md_mt j).2.1 pc = .ok (.iand, 1)) (hn : nx = pc + 1)  (h : mm_stepI (md_xa sc) j (.iand) nx r1 r2 r3 pc lo st W0 b0 c0 = some (.inl F')) (k : mm_G p l e R s m args below meth c xl D w0 A j bT cT Q F') : mm_G p l e R s m args below meth c xl D w0 A j bT cT Q (pc, lo, st, W0, b0, c0) := by
  subst hn
  simp only [mm_stepI] at h
  split at h
  · cases h
    intro ws tys H locs cells slots ls st' hR
    obtain ⟨hst, ⟨lv, hls, hlo⟩, hR⟩ := hR
    have hst0 := mm_l.un hst
    clear hst
    obtain ⟨_, _, rfl, hv, hst⟩ := hst0
    cases mm_v.ri hv
    have hst0 := mm_l.un hst
    clear hst
    obtain ⟨_, _, rfl, hv, hst⟩ := hst0
    cases mm_v.ri hv
    exact lv_iand C.1 C.2.1 hd (k _ _ _ _ _ _ _ _ ⟨mm_l.cons mm_v.i hst, ⟨lv, hls, hlo⟩, hR⟩)
  · cases h
theorem mi_ior (C : mm_C p l R s m args meth c xl A sc j d)  (hd : decode (md_mt j).2.1 pc = .ok (.ior, 1)) (hn : nx = pc + 1)  (h : mm_stepI (md_xa sc) j (.ior) nx r1 r2 r3 pc lo st W0 b0 c0 = some (.inl F')) (k : mm_G p l e R s m args below meth c xl D w0 A j bT cT Q F') : mm_G p l e R s m args below meth c xl D w0 A j bT cT Q (pc, lo, st, W0, b0, c0) := by
  subst hn
  simp only [mm_stepI] at h
  split at h
  · cases h
    intro ws tys H locs cells slots ls st' hR
    obtain ⟨hst, ⟨lv, hls, hlo⟩, hR⟩ := hR
    have hst0 := mm_l.un hst
    clear hst
    obtain ⟨_, _, rfl, hv, hst⟩ := hst0
    cases mm_v.ri hv
    have hst0 := mm_l.un hst
    clear hst
    obtain ⟨_, _, rfl, hv, hst⟩ := hst0
    cases mm_v.ri hv
    exact lv_ior C.1 C.2.1 hd (k _ _ _ _ _ _ _ _ ⟨mm_l.cons mm_v.i hst, ⟨lv, hls, hlo⟩, hR⟩)
  · cases h
theorem mi_ixor (C : mm_C p l R s m args meth c xl A sc j d)  (hd : decode (md_mt j).2.1 pc = .ok (.ixor, 1)) (hn : nx = pc + 1)  (h : mm_stepI (md_xa sc) j (.ixor) nx r1 r2 r3 pc lo st W0 b0 c0 = some (.inl F')) (k : mm_G p l e R s m args below meth c xl D w0 A j bT cT Q F') : mm_G p l e R s m args below meth c xl D w0 A j bT cT Q (pc, lo, st, W0, b0, c0) := by
  subst hn
  simp only [mm_stepI] at h
  split at h
  · cases h
    intro ws tys H locs cells slots ls st' hR
    obtain ⟨hst, ⟨lv, hls, hlo⟩, hR⟩ := hR
    have hst0 := mm_l.un hst
    clear hst
    obtain ⟨_, _, rfl, hv, hst⟩ := hst0
    cases mm_v.ri hv
    have hst0 := mm_l.un hst
    clear hst
    obtain ⟨_, _, rfl, hv, hst⟩ := hst0
    cases mm_v.ri hv
    exact lv_ixor C.1 C.2.1 hd (k _ _ _ _ _ _ _ _ ⟨mm_l.cons mm_v.i hst, ⟨lv, hls, hlo⟩, hR⟩)
  · cases h
theorem mi_ineg (C : mm_C p l R s m args meth c xl A sc j d)  (hd : decode (md_mt j).2.1 pc = .ok (.ineg, 1)) (hn : nx = pc + 1)  (h : mm_stepI (md_xa sc) j (.ineg) nx r1 r2 r3 pc lo st W0 b0 c0 = some (.inl F')) (k : mm_G p l e R s m args below meth c xl D w0 A j bT cT Q F') : mm_G p l e R s m args below meth c xl D w0 A j bT cT Q (pc, lo, st, W0, b0, c0) := by
  subst hn
  simp only [mm_stepI] at h
  split at h
  · cases h
    intro ws tys H locs cells slots ls st' hR
    obtain ⟨hst, ⟨lv, hls, hlo⟩, hR⟩ := hR
    have hst0 := mm_l.un hst
    clear hst
    obtain ⟨_, _, rfl, hv, hst⟩ := hst0
    cases mm_v.ri hv
    exact lv_ineg C.1 C.2.1 hd (k _ _ _ _ _ _ _ _ ⟨mm_l.cons mm_v.i hst, ⟨lv, hls, hlo⟩, hR⟩)
  · cases h
theorem mi_ishl (C : mm_C p l R s m args meth c xl A sc j d)  (hd : decode (md_mt j).2.1 pc = .ok (.ishl, 1)) (hn : nx = pc + 1)  (h : mm_stepI (md_xa sc) j (.ishl) nx r1 r2 r3 pc lo st W0 b0 c0 = some (.inl F')) (k : mm_G p l e R s m args below meth c xl D w0 A j bT cT Q F') : mm_G p l e R s m args below meth c xl D w0 A j bT cT Q (pc, lo, st, W0, b0, c0) := by
  subst hn
  simp only [mm_stepI] at h
  split at h
  · cases h
    intro ws tys H locs cells slots ls st' hR
    obtain ⟨hst, ⟨lv, hls, hlo⟩, hR⟩ := hR
    have hst0 := mm_l.un hst
    clear hst
    obtain ⟨_, _, rfl, hv, hst⟩ := hst0
    cases mm_v.ri hv
    have hst0 := mm_l.un hst
    clear hst
    obtain ⟨_, _, rfl, hv, hst⟩ := hst0
    cases mm_v.ri hv
    exact lv_ishl C.1 C.2.1 hd (k _ _ _ _ _ _ _ _ ⟨mm_l.cons mm_v.i hst, ⟨lv, hls, hlo⟩, hR⟩)
  · cases h
theorem mi_ishr (C : mm_C p l R s m args meth c xl A sc j d)  (hd : decode (md_mt j).2.1 pc = .ok (.ishr, 1)) (hn : nx = pc + 1)  (h : mm_stepI (md_xa sc) j (.ishr) nx r1 r2 r3 pc lo st W0 b0 c0 = some (.inl F')) (k : mm_G p l e R s m args below meth c xl D w0 A j bT cT Q F') : mm_G p l e R s m args below meth c xl D w0 A j bT cT Q (pc, lo, st, W0, b0, c0) := by
  subst hn
  simp only [mm_stepI] at h
  split at h
  · cases h
    intro ws tys H locs cells slots ls st' hR
    obtain ⟨hst, ⟨lv, hls, hlo⟩, hR⟩ := hR
    have hst0 := mm_l.un hst
    clear hst
    obtain ⟨_, _, rfl, hv, hst⟩ := hst0
    cases mm_v.ri hv
    have hst0 := mm_l.un hst
    clear hst
    obtain ⟨_, _, rfl, hv, hst⟩ := hst0
    cases mm_v.ri hv
    exact lv_ishr C.1 C.2.1 hd (k _ _ _ _ _ _ _ _ ⟨mm_l.cons mm_v.i hst, ⟨lv, hls, hlo⟩, hR⟩)
  · cases h
theorem mi_iushr (C : mm_C p l R s m args meth c xl A sc j d)  (hd : decode (md_mt j).2.1 pc = .ok (.iushr, 1)) (hn : nx = pc + 1)  (h : mm_stepI (md_xa sc) j (.iushr) nx r1 r2 r3 pc lo st W0 b0 c0 = some (.inl F')) (k : mm_G p l e R s m args below meth c xl D w0 A j bT cT Q F') : mm_G p l e R s m args below meth c xl D w0 A j bT cT Q (pc, lo, st, W0, b0, c0) := by
  subst hn
  simp only [mm_stepI] at h
  split at h
  · cases h
    intro ws tys H locs cells slots ls st' hR
    obtain ⟨hst, ⟨lv, hls, hlo⟩, hR⟩ := hR
    have hst0 := mm_l.un hst
    clear hst
    obtain ⟨_, _, rfl, hv, hst⟩ := hst0
    cases mm_v.ri hv
    have hst0 := mm_l.un hst
    clear hst
    obtain ⟨_, _, rfl, hv, hst⟩ := hst0
    cases mm_v.ri hv
    exact lv_iushr C.1 C.2.1 hd rfl (k _ _ _ _ _ _ _ _ ⟨mm_l.cons mm_v.i hst, ⟨lv, hls, hlo⟩, hR⟩)
  · cases h
theorem mi_land (C : mm_C p l R s m args meth c xl A sc j d)  (hd : decode (md_mt j).2.1 pc = .ok (.land, 1)) (hn : nx = pc + 1)  (h : mm_stepI (md_xa sc) j (.land) nx r1 r2 r3 pc lo st W0 b0 c0 = some (.inl F')) (k : mm_G p l e R s m args below meth c xl D w0 A j bT cT Q F') : mm_G p l e R s m args below meth c xl D w0 A j bT cT Q (pc, lo, st, W0, b0, c0) := by
  subst hn
  simp only [mm_stepI] at h
  split at h
  · cases h
    intro ws tys H locs cells slots ls st' hR
    obtain ⟨hst, ⟨lv, hls, hlo⟩, hR⟩ := hR
    have hst0 := mm_l.un hst
    clear hst
    obtain ⟨_, _, rfl, hv, hst⟩ := hst0
    cases mm_v.rj hv
    have hst0 := mm_l.un hst
    clear hst
    obtain ⟨_, _, rfl, hv, hst⟩ := hst0
    cases mm_v.rj hv
    exact lv_land C.1 C.2.1 hd (k _ _ _ _ _ _ _ _ ⟨mm_l.cons mm_v.j hst, ⟨lv, hls, hlo⟩, hR⟩)
  · cases h
theorem mi_lor (C : mm_C p l R s m args meth c xl A sc j d)  (hd : decode (md_mt j).2.1 pc = .ok (.lor, 1)) (hn : nx = pc + 1)  (h : mm_stepI (md_xa sc) j (.lor) nx r1 r2 r3 pc lo st W0 b0 c0 = some (.inl F')) (k : mm_G p l e R s m args below meth c xl D w0 A j bT cT Q F') : mm_G p l e R s m args below meth c xl D w0 A j bT cT Q (pc, lo, st, W0, b0, c0) := by
  subst hn
  simp only [mm_stepI] at h
  split at h
  · cases h
    intro ws tys H locs cells slots ls st' hR
    obtain ⟨hst, ⟨lv, hls, hlo⟩, hR⟩ := hR
    have hst0 := mm_l.un hst
    clear hst
    obtain ⟨_, _, rfl, hv, hst⟩ := hst0
    cases mm_v.rj hv
    have hst0 := mm_l.un hst
    clear hst
    obtain ⟨_, _, rfl, hv, hst⟩ := hst0
    cases mm_v.rj hv
    exact lv_lor C.1 C.2.1 hd (k _ _ _ _ _ _ _ _ ⟨mm_l.cons mm_v.j hst, ⟨lv, hls, hlo⟩, hR⟩)
  · cases h
theorem mi_lshl (C : mm_C p l R s m args meth c xl A sc j d)  (hd : decode (md_mt j).2.1 pc = .ok (.lshl, 1)) (hn : nx = pc + 1)  (h : mm_stepI (md_xa sc) j (.lshl) nx r1 r2 r3 pc lo st W0 b0 c0 = some (.inl F')) (k : mm_G p l e R s m args below meth c xl D w0 A j bT cT Q F') : mm_G p l e R s m args below meth c xl D w0 A j bT cT Q (pc, lo, st, W0, b0, c0) := by
  subst hn
  simp only [mm_stepI] at h
  split at h
  · cases h
    intro ws tys H locs cells slots ls st' hR
    obtain ⟨hst, ⟨lv, hls, hlo⟩, hR⟩ := hR
    have hst0 := mm_l.un hst
    clear hst
    obtain ⟨_, _, rfl, hv, hst⟩ := hst0
    cases mm_v.ri hv
    have hst0 := mm_l.un hst
    clear hst
    obtain ⟨_, _, rfl, hv, hst⟩ := hst0
    cases mm_v.rj hv
    exact lv_lshl C.1 C.2.1 hd rfl (k _ _ _ _ _ _ _ _ ⟨mm_l.cons mm_v.j hst, ⟨lv, hls, hlo⟩, hR⟩)
  · cases h
theorem mi_lshr (C : mm_C p l R s m args meth c xl A sc j d)  (hd : decode (md_mt j).2.1 pc = .ok (.lshr, 1)) (hn : nx = pc + 1)  (h : mm_stepI (md_xa sc) j (.lshr) nx r1 r2 r3 pc lo st W0 b0 c0 = some (.inl F')) (k : mm_G p l e R s m args below meth c xl D w0 A j bT cT Q F') : mm_G p l e R s m args below meth c xl D w0 A j bT cT Q (pc, lo, st, W0, b0, c0) := by
  subst hn
  simp only [mm_stepI] at h
  split at h
  · cases h
    intro ws tys H locs cells slots ls st' hR
    obtain ⟨hst, ⟨lv, hls, hlo⟩, hR⟩ := hR
    have hst0 := mm_l.un hst
    clear hst
    obtain ⟨_, _, rfl, hv, hst⟩ := hst0
    cases mm_v.ri hv
    have hst0 := mm_l.un hst
    clear hst
    obtain ⟨_, _, rfl, hv, hst⟩ := hst0
    cases mm_v.rj hv
    exact lv_lshr C.1 C.2.1 hd rfl (k _ _ _ _ _ _ _ _ ⟨mm_l.cons mm_v.j hst, ⟨lv, hls, hlo⟩, hR⟩)
  · cases h
theorem mi_lcmp (C : mm_C p l R s m args meth c xl A sc j d)  (hd : decode (md_mt j).2.1 pc = .ok (.lcmp, 1)) (hn : nx = pc + 1)  (h : mm_stepI (md_xa sc) j (.lcmp) nx r1 r2 r3 pc lo st W0 b0 c0 = some (.inl F')) (k : mm_G p l e R s m args below meth c xl D w0 A j bT cT Q F') : mm_G p l e R s m args below meth c xl D w0 A j bT cT Q (pc, lo, st, W0, b0, c0) := by
  subst hn
  simp only [mm_stepI] at h
  split at h
  · cases h
    intro ws tys H locs cells slots ls st' hR
    obtain ⟨hst, ⟨lv, hls, hlo⟩, hR⟩ := hR
    have hst0 := mm_l.un hst
    clear hst
    obtain ⟨_, _, rfl, hv, hst⟩ := hst0
    cases mm_v.rj hv
    have hst0 := mm_l.un hst
    clear hst
    obtain ⟨_, _, rfl, hv, hst⟩ := hst0
    cases mm_v.rj hv
    exact W.lcmp C.1 C.2.1 hd (k _ _ _ _ _ _ _ _ ⟨mm_l.cons mm_v.i hst, ⟨lv, hls, hlo⟩, hR⟩)
  · cases h
theorem mi_i2l (C : mm_C p l R s m args meth c xl A sc j d)  (hd : decode (md_mt j).2.1 pc = .ok (.i2l, 1)) (hn : nx = pc + 1)  (h : mm_stepI (md_xa sc) j (.i2l) nx r1 r2 r3 pc lo st W0 b0 c0 = some (.inl F')) (k : mm_G p l e R s m args below meth c xl D w0 A j bT cT Q F') : mm_G p l e R s m args below meth c xl D w0 A j bT cT Q (pc, lo, st, W0, b0, c0) := by
  subst hn
  simp only [mm_stepI] at h
  split at h
  · cases h
    intro ws tys H locs cells slots ls st' hR
    obtain ⟨hst, ⟨lv, hls, hlo⟩, hR⟩ := hR
    have hst0 := mm_l.un hst
    clear hst
    obtain ⟨_, _, rfl, hv, hst⟩ := hst0
    cases mm_v.ri hv
    exact lv_i2l C.1 C.2.1 hd rfl (k _ _ _ _ _ _ _ _ ⟨mm_l.cons mm_v.j hst, ⟨lv, hls, hlo⟩, hR⟩)
  · cases h
theorem mi_l2i (C : mm_C p l R s m args meth c xl A sc j d)  (hd : decode (md_mt j).2.1 pc = .ok (.l2i, 1)) (hn : nx = pc + 1)  (h : mm_stepI (md_xa sc) j (.l2i) nx r1 r2 r3 pc lo st W0 b0 c0 = some (.inl F')) (k : mm_G p l e R s m args below meth c xl D w0 A j bT cT Q F') : mm_G p l e R s m args below meth c xl D w0 A j bT cT Q (pc, lo, st, W0, b0, c0) := by
  subst hn
  simp only [mm_stepI] at h
  split at h
  · cases h
    intro ws tys H locs cells slots ls st' hR
    obtain ⟨hst, ⟨lv, hls, hlo⟩, hR⟩ := hR
    have hst0 := mm_l.un hst
    clear hst
    obtain ⟨_, _, rfl, hv, hst⟩ := hst0
    cases mm_v.rj hv
    exact lv_l2i C.1 C.2.1 hd rfl (k _ _ _ _ _ _ _ _ ⟨mm_l.cons mm_v.i hst, ⟨lv, hls, hlo⟩, hR⟩)
  · cases h
theorem mi_i2b (C : mm_C p l R s m args meth c xl A sc j d)  (hd : decode (md_mt j).2.1 pc = .ok (.i2b, 1)) (hn : nx = pc + 1)  (h : mm_stepI (md_xa sc) j (.i2b) nx r1 r2 r3 pc lo st W0 b0 c0 = some (.inl F')) (k : mm_G p l e R s m args below meth c xl D w0 A j bT cT Q F') : mm_G p l e R s m args below meth c xl D w0 A j bT cT Q (pc, lo, st, W0, b0, c0) := by
  subst hn
  simp only [mm_stepI] at h
  split at h
  · cases h
    intro ws tys H locs cells slots ls st' hR
    obtain ⟨hst, ⟨lv, hls, hlo⟩, hR⟩ := hR
    have hst0 := mm_l.un hst
    clear hst
    obtain ⟨_, _, rfl, hv, hst⟩ := hst0
    cases mm_v.ri hv
    exact lv_i2b C.1 C.2.1 hd rfl (k _ _ _ _ _ _ _ _ ⟨mm_l.cons mm_v.i hst, ⟨lv, hls, hlo⟩, hR⟩)
  · cases h
theorem mi_i2c (C : mm_C p l R s m args meth c xl A sc j d)  (hd : decode (md_mt j).2.1 pc = .ok (.i2c, 1)) (hn : nx = pc + 1)  (h : mm_stepI (md_xa sc) j (.i2c) nx r1 r2 r3 pc lo st W0 b0 c0 = some (.inl F')) (k : mm_G p l e R s m args below meth c xl D w0 A j bT cT Q F') : mm_G p l e R s m args below meth c xl D w0 A j bT cT Q (pc, lo, st, W0, b0, c0) := by
  subst hn
  simp only [mm_stepI] at h
  split at h
  · cases h
    intro ws tys H locs cells slots ls st' hR
    obtain ⟨hst, ⟨lv, hls, hlo⟩, hR⟩ := hR
    have hst0 := mm_l.un hst
    clear hst
    obtain ⟨_, _, rfl, hv, hst⟩ := hst0
    cases mm_v.ri hv
    exact lv_i2c C.1 C.2.1 hd rfl (k _ _ _ _ _ _ _ _ ⟨mm_l.cons mm_v.i hst, ⟨lv, hls, hlo⟩, hR⟩)
  · cases h
theorem mi_idiv (C : mm_C p l R s m args meth c xl A sc j d)  (hd : decode (md_mt j).2.1 pc = .ok (.idiv, 1)) (hn : nx = pc + 1)  (h : mm_stepI (md_xa sc) j (.idiv) nx r1 r2 r3 pc lo st W0 b0 c0 = some (.inl F')) (k : mm_G p l e R s m args below meth c xl D w0 A j bT cT Q F') : mm_G p l e R s m args below meth c xl D w0 A j bT cT Q (pc, lo, st, W0, b0, c0) := by
  subst hn
  simp only [mm_stepI] at h
  split at h
  · split at h
    · cases h
    · rename_i hz
      cases h
      intro ws tys H locs cells slots ls st' hR
      obtain ⟨hst, ⟨lv, hls, hlo⟩, hR⟩ := hR
      have hst0 := mm_l.un hst
      clear hst
      obtain ⟨_, _, rfl, hv, hst⟩ := hst0
      cases mm_v.ri hv
      have hst0 := mm_l.un hst
      clear hst
      obtain ⟨_, _, rfl, hv, hst⟩ := hst0
      cases mm_v.ri hv
      exact lv_idiv C.1 C.2.1 hd hz (k _ _ _ _ _ _ _ _ ⟨mm_l.cons mm_v.i hst, ⟨lv, hls, hlo⟩, hR⟩)
  · cases h
theorem mi_irem (C : mm_C p l R s m args meth c xl A sc j d)  (hd : decode (md_mt j).2.1 pc = .ok (.irem, 1)) (hn : nx = pc + 1)  (h : mm_stepI (md_xa sc) j (.irem) nx r1 r2 r3 pc lo st W0 b0 c0 = some (.inl F')) (k : mm_G p l e R s m args below meth c xl D w0 A j bT cT Q F') : mm_G p l e R s m args below meth c xl D w0 A j bT cT Q (pc, lo, st, W0, b0, c0) := by
  subst hn
  simp only [mm_stepI] at h
  split at h
  · split at h
    · cases h
    · rename_i hz
      cases h
      intro ws tys H locs cells slots ls st' hR
      obtain ⟨hst, ⟨lv, hls, hlo⟩, hR⟩ := hR
      have hst0 := mm_l.un hst
      clear hst
      obtain ⟨_, _, rfl, hv, hst⟩ := hst0
      cases mm_v.ri hv
      have hst0 := mm_l.un hst
      clear hst
      obtain ⟨_, _, rfl, hv, hst⟩ := hst0
      cases mm_v.ri hv
      exact lv_irem C.1 C.2.1 hd hz (k _ _ _ _ _ _ _ _ ⟨mm_l.cons mm_v.i hst, ⟨lv, hls, hlo⟩, hR⟩)
  · cases h
theorem mi_ifCond (C : mm_C p l R s m args meth c xl A sc j d) {cd : Jvm.ClassFile.Cond} {off : Int} (hd : decode (md_mt j).2.1 pc = .ok (.ifCond cd off, 3)) (hn : nx = pc + 3) (ht : (pc : Int) + off = (r1 : Int)) (h : mm_stepI (md_xa sc) j (.ifCond cd off) nx r1 r2 r3 pc lo st W0 b0 c0 = some (.inl F')) (k : mm_G p l e R s m args below meth c xl D w0 A j bT cT Q F') : mm_G p l e R s m args below meth c xl D w0 A j bT cT Q (pc, lo, st, W0, b0, c0) := by
  subst hn
  simp only [mm_stepI] at h
  split at h
  · cases h
    intro ws tys H locs cells slots ls st' hR
    obtain ⟨hst, ⟨lv, hls, hlo⟩, hR⟩ := hR
    have hst0 := mm_l.un hst
    clear hst
    obtain ⟨_, _, rfl, hv, hst⟩ := hst0
    cases mm_v.ri hv
    cases cd with
    | eq =>
      refine lv_if_eq C.1 C.2.1 hd ht (fun hc => ?_) (fun hc => ?_)
      · have k2 := k ws tys H locs cells slots ls _ ⟨hst, ⟨lv, hls, hlo⟩, hR⟩
        simp only [mm_cmp, hc, decide_true, decide_false, Bool.not_true, Bool.not_false, if_true, if_false] at k2
        simpa using k2
      · have k2 := k ws tys H locs cells slots ls _ ⟨hst, ⟨lv, hls, hlo⟩, hR⟩
        simp only [mm_cmp, hc, decide_true, decide_false, Bool.not_true, Bool.not_false, if_true, if_false] at k2
        simpa using k2
    | ne =>
      refine lv_if_ne C.1 C.2.1 hd ht (fun hc => ?_) (fun hc => ?_)
      · have k2 := k ws tys H locs cells slots ls _ ⟨hst, ⟨lv, hls, hlo⟩, hR⟩
        simp only [mm_cmp, hc, decide_true, decide_false, Bool.not_true, Bool.not_false, if_true, if_false] at k2
        simpa using k2
      · have k2 := k ws tys H locs cells slots ls _ ⟨hst, ⟨lv, hls, hlo⟩, hR⟩
        simp only [mm_cmp, hc, decide_true, decide_false, Bool.not_true, Bool.not_false, if_true, if_false] at k2
        simpa using k2
    | lt =>
      refine lv_if_lt C.1 C.2.1 hd ht (fun hc => ?_) (fun hc => ?_)
      · have k2 := k ws tys H locs cells slots ls _ ⟨hst, ⟨lv, hls, hlo⟩, hR⟩
        simp only [mm_cmp, hc, decide_true, decide_false, Bool.not_true, Bool.not_false, if_true, if_false] at k2
        simpa using k2
      · have k2 := k ws tys H locs cells slots ls _ ⟨hst, ⟨lv, hls, hlo⟩, hR⟩
        simp only [mm_cmp, hc, decide_true, decide_false, Bool.not_true, Bool.not_false, if_true, if_false] at k2
        simpa using k2
    | ge =>
      refine lv_if_ge C.1 C.2.1 hd ht (fun hc => ?_) (fun hc => ?_)
      · have k2 := k ws tys H locs cells slots ls _ ⟨hst, ⟨lv, hls, hlo⟩, hR⟩
        simp only [mm_cmp, hc, decide_true, decide_false, Bool.not_true, Bool.not_false, if_true, if_false] at k2
        simpa using k2
      · have k2 := k ws tys H locs cells slots ls _ ⟨hst, ⟨lv, hls, hlo⟩, hR⟩
        simp only [mm_cmp, hc, decide_true, decide_false, Bool.not_true, Bool.not_false, if_true, if_false] at k2
        simpa using k2
    | gt =>
      refine lv_if_gt C.1 C.2.1 hd ht (fun hc => ?_) (fun hc => ?_)
      · have k2 := k ws tys H locs cells slots ls _ ⟨hst, ⟨lv, hls, hlo⟩, hR⟩
        simp only [mm_cmp, hc, decide_true, decide_false, Bool.not_true, Bool.not_false, if_true, if_false] at k2
        simpa using k2
      · have k2 := k ws tys H locs cells slots ls _ ⟨hst, ⟨lv, hls, hlo⟩, hR⟩
        simp only [mm_cmp, hc, decide_true, decide_false, Bool.not_true, Bool.not_false, if_true, if_false] at k2
        simpa using k2
    | le =>
      refine lv_if_le C.1 C.2.1 hd ht (fun hc => ?_) (fun hc => ?_)
      · have k2 := k ws tys H locs cells slots ls _ ⟨hst, ⟨lv, hls, hlo⟩, hR⟩
        simp only [mm_cmp, hc, decide_true, decide_false, Bool.not_true, Bool.not_false, if_true, if_false] at k2
        simpa using k2
      · have k2 := k ws tys H locs cells slots ls _ ⟨hst, ⟨lv, hls, hlo⟩, hR⟩
        simp only [mm_cmp, hc, decide_true, decide_false, Bool.not_true, Bool.not_false, if_true, if_false] at k2
        simpa using k2
  · cases h
theorem mi_if_icmp (C : mm_C p l R s m args meth c xl A sc j d) {cd : Jvm.ClassFile.Cond} {off : Int} (hd : decode (md_mt j).2.1 pc = .ok (.if_icmp cd off, 3)) (hn : nx = pc + 3) (ht : (pc : Int) + off = (r1 : Int)) (h : mm_stepI (md_xa sc) j (.if_icmp cd off) nx r1 r2 r3 pc lo st W0 b0 c0 = some (.inl F')) (k : mm_G p l e R s m args below meth c xl D w0 A j bT cT Q F') : mm_G p l e R s m args below meth c xl D w0 A j bT cT Q (pc, lo, st, W0, b0, c0) := by
  subst hn
  simp only [mm_stepI] at h
  split at h
  · cases h
    intro ws tys H locs cells slots ls st' hR
    obtain ⟨hst, ⟨lv, hls, hlo⟩, hR⟩ := hR
    have hst0 := mm_l.un hst
    clear hst
    obtain ⟨_, _, rfl, hv, hst⟩ := hst0
    cases mm_v.ri hv
    have hst0 := mm_l.un hst
    clear hst
    obtain ⟨_, _, rfl, hv, hst⟩ := hst0
    cases mm_v.ri hv
    cases cd with
    | eq =>
      refine lv_icmp_eq C.1 C.2.1 hd ht (fun hc => ?_) (fun hc => ?_)
      · have k2 := k ws tys H locs cells slots ls _ ⟨hst, ⟨lv, hls, hlo⟩, hR⟩
        simp only [mm_cmp, hc, decide_true, decide_false, Bool.not_true, Bool.not_false, if_true, if_false] at k2
        simpa using k2
      · have k2 := k ws tys H locs cells slots ls _ ⟨hst, ⟨lv, hls, hlo⟩, hR⟩
        simp only [mm_cmp, hc, decide_true, decide_false, Bool.not_true, Bool.not_false, if_true, if_false] at k2
        simpa using k2
    | ne =>
      refine lv_icmp_ne C.1 C.2.1 hd ht (fun hc => ?_) (fun hc => ?_)
      · have k2 := k ws tys H locs cells slots ls _ ⟨hst, ⟨lv, hls, hlo⟩, hR⟩
        simp only [mm_cmp, hc, decide_true, decide_false, Bool.not_true, Bool.not_false, if_true, if_false] at k2
        simpa using k2
      · have k2 := k ws tys H locs cells slots ls _ ⟨hst, ⟨lv, hls, hlo⟩, hR⟩
        simp only [mm_cmp, hc, decide_true, decide_false, Bool.not_true, Bool.not_false, if_true, if_false] at k2
        simpa using k2
    | lt =>
      refine lv_icmp_lt C.1 C.2.1 hd ht (fun hc => ?_) (fun hc => ?_)
      · have k2 := k ws tys H locs cells slots ls _ ⟨hst, ⟨lv, hls, hlo⟩, hR⟩
        simp only [mm_cmp, hc, decide_true, decide_false, Bool.not_true, Bool.not_false, if_true, if_false] at k2
        simpa using k2
      · have k2 := k ws tys H locs cells slots ls _ ⟨hst, ⟨lv, hls, hlo⟩, hR⟩
        simp only [mm_cmp, hc, decide_true, decide_false, Bool.not_true, Bool.not_false, if_true, if_false] at k2
        simpa using k2
    | ge =>
      refine lv_icmp_ge C.1 C.2.1 hd ht (fun hc => ?_) (fun hc => ?_)
      · have k2 := k ws tys H locs cells slots ls _ ⟨hst, ⟨lv, hls, hlo⟩, hR⟩
        simp only [mm_cmp, hc, decide_true, decide_false, Bool.not_true, Bool.not_false, if_true, if_false] at k2
        simpa using k2
      · have k2 := k ws tys H locs cells slots ls _ ⟨hst, ⟨lv, hls, hlo⟩, hR⟩
        simp only [mm_cmp, hc, decide_true, decide_false, Bool.not_true, Bool.not_false, if_true, if_false] at k2
        simpa using k2
    | gt =>
      refine lv_icmp_gt C.1 C.2.1 hd ht (fun hc => ?_) (fun hc => ?_)
      · have k2 := k ws tys H locs cells slots ls _ ⟨hst, ⟨lv, hls, hlo⟩, hR⟩
        simp only [mm_cmp, hc, decide_true, decide_false, Bool.not_true, Bool.not_false, if_true, if_false] at k2
        simpa using k2
      · have k2 := k ws tys H locs cells slots ls _ ⟨hst, ⟨lv, hls, hlo⟩, hR⟩
        simp only [mm_cmp, hc, decide_true, decide_false, Bool.not_true, Bool.not_false, if_true, if_false] at k2
        simpa using k2
    | le =>
      refine lv_icmp_le C.1 C.2.1 hd ht (fun hc => ?_) (fun hc => ?_)
      · have k2 := k ws tys H locs cells slots ls _ ⟨hst, ⟨lv, hls, hlo⟩, hR⟩
        simp only [mm_cmp, hc, decide_true, decide_false, Bool.not_true, Bool.not_false, if_true, if_false] at k2
        simpa using k2
      · have k2 := k ws tys H locs cells slots ls _ ⟨hst, ⟨lv, hls, hlo⟩, hR⟩
        simp only [mm_cmp, hc, decide_true, decide_false, Bool.not_true, Bool.not_false, if_true, if_false] at k2
        simpa using k2
  · cases h
theorem mi_goto (C : mm_C p l R s m args meth c xl A sc j d) {off : Int} (hd : decode (md_mt j).2.1 pc = .ok (.goto off, 3)) (hn : nx = pc + 3) (ht : (pc : Int) + off = (r1 : Int)) (h : mm_stepI (md_xa sc) j (.goto off) nx r1 r2 r3 pc lo st W0 b0 c0 = some (.inl F')) (k : mm_G p l e R s m args below meth c xl D w0 A j bT cT Q F') : mm_G p l e R s m args below meth c xl D w0 A j bT cT Q (pc, lo, st, W0, b0, c0) := by
  subst hn
  simp only [mm_stepI] at h
  cases h
  intro ws tys H locs cells slots ls st' hR
  obtain ⟨hst, ⟨lv, hls, hlo⟩, hR⟩ := hR
  exact lv_goto C.1 C.2.1 hd ht (k _ _ _ _ _ _ _ _ ⟨hst, ⟨lv, hls, hlo⟩, hR⟩)
end MI
end
section
/-! ===== switches, arrays, fields, statics, new things ===== -/
section MJ
variable {p : Program} {l : Launch} {e : Env} {R : Room} {s : State} {m : MethodId} {args : Array Value} {below : List Frame} {meth : Method} {c : Code} {xl : Nat → Nat} {D : va_G} {w0 : va_W} {A : Nat → Prop} {sc : Nat × (Nat → Int32)} {j d bT cT : Nat} {Q : State → Prop} {nx r1 r2 r3 pc : Nat} {lo : List (Nat × Value)} {st : List Value} {W0 : mm_W} {b0 c0 : Nat} {F' : mm_F}
theorem mm_at_eq {pc t : Nat} {off : Int} (h : mm_at pc off = some t) : (pc : Int) + off = (t : Int) := by
  unfold mm_at at h
  split at h
  · rename_i hz
    have := Option.some.inj h
    omega
  · cases h
theorem mi_tableswitch (C : mm_C p l R s m args meth c xl A sc j d) {dflt lw hh : Int} {offs : Array Int} {len : Nat} (hd : decode (md_mt j).2.1 pc = .ok (.tableswitch dflt lw hh offs, len)) (h : mm_stepI (md_xa sc) j (.tableswitch dflt lw hh offs) nx r1 r2 r3 pc lo st W0 b0 c0 = some (.inl F')) (k : mm_G p l e R s m args below meth c xl D w0 A j bT cT Q F') : mm_G p l e R s m args below meth c xl D w0 A j bT cT Q (pc, lo, st, W0, b0, c0) := by
  simp only [mm_stepI] at h
  split at h
  · split at h
    · rename_i t hsw
      cases h
      intro ws tys H locs cells slots ls st' hR
      obtain ⟨hst, ⟨lv, hls, hlo⟩, hR⟩ := hR
      have hst0 := mm_l.un hst
      clear hst
      obtain ⟨_, _, rfl, hv, hst⟩ := hst0
      cases mm_v.ri hv
      unfold mm_tsw at hsw
      split at hsw
      · rename_i ho
        exact lv_tableOut C.1 C.2.1 hd ho (mm_at_eq hsw) (k _ _ _ _ _ _ _ _ ⟨hst, ⟨lv, hls, hlo⟩, hR⟩)
      · rename_i ho
        split at hsw
        · rename_i off hof
          exact lv_tableIn C.1 C.2.1 hd (fun z => ho (Or.inl z)) (fun z => ho (Or.inr z)) hof (mm_at_eq hsw) (k _ _ _ _ _ _ _ _ ⟨hst, ⟨lv, hls, hlo⟩, hR⟩)
        · cases hsw
    · cases h
  · cases h
theorem mi_lookupswitch (C : mm_C p l R s m args meth c xl A sc j d) {dflt : Int} {ps : Array (Int × Int)} {len : Nat} (hd : decode (md_mt j).2.1 pc = .ok (.lookupswitch dflt ps, len)) (hp : (ps.toList.zip (ps.toList.drop 1)).all (fun (a, next) => a.1 < next.1) = true) (h : mm_stepI (md_xa sc) j (.lookupswitch dflt ps) nx r1 r2 r3 pc lo st W0 b0 c0 = some (.inl F')) (k : mm_G p l e R s m args below meth c xl D w0 A j bT cT Q F') : mm_G p l e R s m args below meth c xl D w0 A j bT cT Q (pc, lo, st, W0, b0, c0) := by
  simp only [mm_stepI] at h
  split at h
  · split at h
    · rename_i t hsw
      cases h
      intro ws tys H locs cells slots ls st' hR
      obtain ⟨hst, ⟨lv, hls, hlo⟩, hR⟩ := hR
      have hst0 := mm_l.un hst
      clear hst
      obtain ⟨_, _, rfl, hv, hst⟩ := hst0
      cases mm_v.ri hv
      exact lv_lookup C.1 C.2.1 hd hp rfl (mm_at_eq hsw) (k _ _ _ _ _ _ _ _ ⟨hst, ⟨lv, hls, hlo⟩, hR⟩)
    · cases h
  · cases h
theorem mm_aget_in {xa : mm_Xa} {W : mm_W} {k : Nat} {i : Int32} {t : Nat} {v : Value} (h : mm_aget xa W k i = some (t, v)) :
    (k < mm_XB ∧ ((∃ n f, W[k]? = some (.inl (t, n, .inl f)) ∧ vp_in i n ∧ v = .int (f i.toNatClampNeg)) ∨ (∃ n f, W[k]? = some (.inl (t, n, .inr (.inl f))) ∧ vp_in i n ∧ v = .long (f i.toNatClampNeg)) ∨
      (∃ n f, W[k]? = some (.inl (t, n, .inr (.inr (.inr (.inr f))))) ∧ vp_in i n ∧ v = va_rf (f i.toNatClampNeg)))) ∨
    (¬ k < mm_XB ∧ ∃ n f, xa (k - mm_XB) = some (t, n, f) ∧ vp_in i n ∧ v = f i.toNatClampNeg) := by
  unfold mm_aget at h
  split at h
  · rename_i hk
    refine Or.inl ⟨hk, ?_⟩
    split at h
    · rename_i hw
      split at h
      · rename_i hi
        cases h
        exact Or.inl ⟨_, _, hw, mm_ib_in hi, rfl⟩
      · cases h
    · rename_i hw
      split at h
      · rename_i hi
        cases h
        exact Or.inr (Or.inl ⟨_, _, hw, mm_ib_in hi, rfl⟩)
      · cases h
    · rename_i hw
      split at h
      · rename_i hi
        cases h
        exact Or.inr (Or.inr ⟨_, _, hw, mm_ib_in hi, rfl⟩)
      · cases h
    · cases h
  · rename_i hk
    refine Or.inr ⟨hk, ?_⟩
    split at h
    · rename_i hw
      split at h
      · rename_i hi
        cases h
        exact ⟨_, _, hw, mm_ib_in hi, rfl⟩
      · cases h
    · cases h
/-- where a world's array lies -/
theorem mm_w.ai {tys : List (ClassId × FieldType)} {W : mm_W} {ws : va_W} (h : mm_w xl w0 tys W ws) {k a : Nat} (hx : k < mm_XB) (ha : mm_ad xl ws k = some a) {t n : Nat} {f : Nat → Int32} (hk : W[k]? = some (.inl (t, n, .inl f))) :
    ∃ (cA : ClassId) (t0 : Nat), ws[k]? = some (a, .inl (cA, n, .inl f)) ∧ tys[t0]? = some (cA, md_ty t) ∧ (t = 0 ∨ t = 2 ∨ t = 3) := by
  obtain ⟨a2, e', h1, cA, t0, h2, rfl, h3⟩ := h.2.1 k _ hk
  obtain ⟨e2, h4⟩ := mm_ad_in ha hx
  cases h1.symm.trans h4
  exact ⟨cA, t0, h1, h2, h3⟩
theorem mm_w.al {tys : List (ClassId × FieldType)} {W : mm_W} {ws : va_W} (h : mm_w xl w0 tys W ws) {k a : Nat} (hx : k < mm_XB) (ha : mm_ad xl ws k = some a) {t n : Nat} {f : Nat → Int64} (hk : W[k]? = some (.inl (t, n, .inr (.inl f)))) :
    ∃ (cA : ClassId) (t0 : Nat), ws[k]? = some (a, .inl (cA, n, .inr (.inl f))) ∧ tys[t0]? = some (cA, md_ty t) ∧ t = 1 := by
  obtain ⟨a2, e', h1, cA, t0, h2, rfl, h3⟩ := h.2.1 k _ hk
  obtain ⟨e2, h4⟩ := mm_ad_in ha hx
  cases h1.symm.trans h4
  exact ⟨cA, t0, h1, h2, h3⟩
theorem mm_w.ar {tys : List (ClassId × FieldType)} {W : mm_W} {ws : va_W} (h : mm_w xl w0 tys W ws) {k a : Nat} (hx : k < mm_XB) (ha : mm_ad xl ws k = some a) {t n : Nat} {f : Nat → Option Nat} (hk : W[k]? = some (.inl (t, n, .inr (.inr (.inr (.inr f)))))) :
    ∃ (cA : ClassId) (t0 : Nat) (f' : Nat → Option Nat), ws[k]? = some (a, .inl (cA, n, .inr (.inr (.inr (.inr f'))))) ∧ tys[t0]? = some (cA, md_ty t) ∧ (∀ q, mm_o xl ws (f q) (f' q)) ∧ 4 ≤ t := by
  obtain ⟨a2, e', h1, cA, t0, f', h2, rfl, h3, h5⟩ := h.2.1 k _ hk
  obtain ⟨e2, h4⟩ := mm_ad_in ha hx
  cases h1.symm.trans h4
  exact ⟨cA, t0, f', h1, h2, h3, h5⟩
theorem mm_w.ob {tys : List (ClassId × FieldType)} {W : mm_W} {ws : va_W} (h : mm_w xl w0 tys W ws) {k a : Nat} (hx : k < mm_XB) (ha : mm_ad xl ws k = some a) {ci : Nat} {fs : List Value} (hk : W[k]? = some (.inr (ci, fs))) :
    ∃ fs', ws[k]? = some (a, .inr (ci, fs')) ∧ mm_l xl ws fs fs' := by
  obtain ⟨a2, e', h1, fs', rfl, h3⟩ := h.2.1 k _ hk
  obtain ⟨e2, h4⟩ := mm_ad_in ha hx
  cases h1.symm.trans h4
  exact ⟨fs', h1, h3⟩
theorem mi_iaload (C : mm_C p l R s m args meth c xl A sc j d) (K : mm_dat) (hd : decode (md_mt j).2.1 pc = .ok (.iaload, 1)) (hn : nx = pc + 1) (h : mm_stepI (md_xa sc) j .iaload nx r1 r2 r3 pc lo st W0 b0 c0 = some (.inl F')) (k : mm_G p l e R s m args below meth c xl D w0 A j bT cT Q F') : mm_G p l e R s m args below meth c xl D w0 A j bT cT Q (pc, lo, st, W0, b0, c0) := by
  subst hn
  simp only [mm_stepI] at h
  split at h
  · split at h
    · rename_i hg
      split at h
      · rename_i ht
        subst ht
        cases h
        intro ws tys H locs cells slots ls st' hR
        obtain ⟨hst, ⟨lv, hls, hlo⟩, hw, hK, hP, hR⟩ := hR
        have hst0 := mm_l.un hst
        clear hst
        obtain ⟨_, _, rfl, hv, hst⟩ := hst0
        cases mm_v.ri hv
        have hst0 := mm_l.un hst
        clear hst
        obtain ⟨_, _, rfl, hv, hst⟩ := hst0
        obtain ⟨a, ha, rfl⟩ := mm_v.rr hv
        rcases mm_aget_in hg with ⟨hx, ⟨n, f, hk, hi, rfl⟩ | ⟨n, f, hk, hi, rfl⟩ | ⟨n, f, hk, hi, rfl⟩⟩ | ⟨hx, n, f, hk, hi, rfl⟩
        · obtain ⟨cA, t0, h1, h2, -⟩ := hw.ai hx ha hk
          rw [K.2.1] at h2
          exact va_iald C.1 C.2.1 hK hP _ _ h1 h2 hi hd (k _ _ _ _ _ _ _ _ ⟨mm_l.cons mm_v.i hst, ⟨lv, hls, hlo⟩, hw, hK, hP, hR⟩)
        · obtain ⟨cA, t0, h1, h2, h3⟩ := hw.al hx ha hk
          exact absurd h3 (by decide)
        · obtain ⟨cA, t0, f', h1, h2, h3, h4⟩ := hw.ar hx ha hk
          exact absurd h4 (by decide)
        · cases mm_ad_out ha hx
          obtain ⟨hT, hxx⟩ := C.2.2.2.2.2.1.2.2.2.1 _ _ _ _ hk
          rw [K.2.1] at hT
          exact va_ti C.1 C.2.1 hT hR.2.1 hi rfl hd (k _ _ _ _ _ _ _ _ ⟨mm_l.cons (mm_v.x (hxx _)) hst, ⟨lv, hls, hlo⟩, hw, hK, hP, hR⟩)
      · cases h
    · cases h
  · cases h
theorem mi_baload (C : mm_C p l R s m args meth c xl A sc j d) (K : mm_dat) (hd : decode (md_mt j).2.1 pc = .ok (.baload, 1)) (hn : nx = pc + 1) (h : mm_stepI (md_xa sc) j .baload nx r1 r2 r3 pc lo st W0 b0 c0 = some (.inl F')) (k : mm_G p l e R s m args below meth c xl D w0 A j bT cT Q F') : mm_G p l e R s m args below meth c xl D w0 A j bT cT Q (pc, lo, st, W0, b0, c0) := by
  subst hn
  simp only [mm_stepI] at h
  split at h
  · split at h
    · rename_i hg
      split at h
      · rename_i ht
        cases h
        intro ws tys H locs cells slots ls st' hR
        obtain ⟨hst, ⟨lv, hls, hlo⟩, hw, hK, hP, hR⟩ := hR
        have hst0 := mm_l.un hst
        clear hst
        obtain ⟨_, _, rfl, hv, hst⟩ := hst0
        cases mm_v.ri hv
        have hst0 := mm_l.un hst
        clear hst
        obtain ⟨_, _, rfl, hv, hst⟩ := hst0
        obtain ⟨a, ha, rfl⟩ := mm_v.rr hv
        rcases mm_aget_in hg with ⟨hx, ⟨n, f, hk, hi, rfl⟩ | ⟨n, f, hk, hi, rfl⟩ | ⟨n, f, hk, hi, rfl⟩⟩ | ⟨hx, n, f, hk, hi, rfl⟩
        · obtain ⟨cA, t0, h1, h2, -⟩ := hw.ai hx ha hk
          rcases ht with rfl | rfl
          · rw [K.2.2.2.1] at h2
            exact va_bald C.1 C.2.1 hK hP _ _ h1 h2 hi hd (k _ _ _ _ _ _ _ _ ⟨mm_l.cons mm_v.i hst, ⟨lv, hls, hlo⟩, hw, hK, hP, hR⟩)
          · rw [K.2.2.2.2.1] at h2
            exact va_zald C.1 C.2.1 hK hP _ _ h1 h2 hi hd (k _ _ _ _ _ _ _ _ ⟨mm_l.cons mm_v.i hst, ⟨lv, hls, hlo⟩, hw, hK, hP, hR⟩)
        · obtain ⟨cA, t0, h1, h2, h3⟩ := hw.al hx ha hk
          omega
        · obtain ⟨cA, t0, f', h1, h2, h3, h4⟩ := hw.ar hx ha hk
          omega
        · cases mm_ad_out ha hx
          obtain ⟨hT, hxx⟩ := C.2.2.2.2.2.1.2.2.2.1 _ _ _ _ hk
          rcases ht with rfl | rfl
          · rw [K.2.2.2.1] at hT
            exact va_tb C.1 C.2.1 hT hR.2.1 hi rfl hd (k _ _ _ _ _ _ _ _ ⟨mm_l.cons (mm_v.x (hxx _)) hst, ⟨lv, hls, hlo⟩, hw, hK, hP, hR⟩)
          · rw [K.2.2.2.2.1] at hT
            exact va_tz C.1 C.2.1 hT hR.2.1 hi rfl hd (k _ _ _ _ _ _ _ _ ⟨mm_l.cons (mm_v.x (hxx _)) hst, ⟨lv, hls, hlo⟩, hw, hK, hP, hR⟩)
      · cases h
    · cases h
  · cases h
theorem mi_laload (C : mm_C p l R s m args meth c xl A sc j d) (K : mm_dat) (hd : decode (md_mt j).2.1 pc = .ok (.laload, 1)) (hn : nx = pc + 1) (h : mm_stepI (md_xa sc) j .laload nx r1 r2 r3 pc lo st W0 b0 c0 = some (.inl F')) (k : mm_G p l e R s m args below meth c xl D w0 A j bT cT Q F') : mm_G p l e R s m args below meth c xl D w0 A j bT cT Q (pc, lo, st, W0, b0, c0) := by
  subst hn
  simp only [mm_stepI] at h
  split at h
  · split at h
    · rename_i hg
      split at h
      · rename_i ht
        subst ht
        cases h
        intro ws tys H locs cells slots ls st' hR
        obtain ⟨hst, ⟨lv, hls, hlo⟩, hw, hK, hP, hR⟩ := hR
        have hst0 := mm_l.un hst
        clear hst
        obtain ⟨_, _, rfl, hv, hst⟩ := hst0
        cases mm_v.ri hv
        have hst0 := mm_l.un hst
        clear hst
        obtain ⟨_, _, rfl, hv, hst⟩ := hst0
        obtain ⟨a, ha, rfl⟩ := mm_v.rr hv
        rcases mm_aget_in hg with ⟨hx, ⟨n, f, hk, hi, rfl⟩ | ⟨n, f, hk, hi, rfl⟩ | ⟨n, f, hk, hi, rfl⟩⟩ | ⟨hx, n, f, hk, hi, rfl⟩
        · obtain ⟨cA, t0, h1, h2, h3⟩ := hw.ai hx ha hk
          exact absurd h3 (by decide)
        · obtain ⟨cA, t0, h1, h2, h3⟩ := hw.al hx ha hk
          rw [K.2.2.1] at h2
          exact va_lald C.1 C.2.1 hK hP _ _ h1 h2 hi hd (k _ _ _ _ _ _ _ _ ⟨mm_l.cons mm_v.j hst, ⟨lv, hls, hlo⟩, hw, hK, hP, hR⟩)
        · obtain ⟨cA, t0, f', h1, h2, h3, h4⟩ := hw.ar hx ha hk
          exact absurd h4 (by decide)
        · cases mm_ad_out ha hx
          obtain ⟨hT, hxx⟩ := C.2.2.2.2.2.1.2.2.2.1 _ _ _ _ hk
          rw [K.2.2.1] at hT
          exact va_tl C.1 C.2.1 hT hR.2.1 hi rfl hd (k _ _ _ _ _ _ _ _ ⟨mm_l.cons (mm_v.x (hxx _)) hst, ⟨lv, hls, hlo⟩, hw, hK, hP, hR⟩)
      · cases h
    · cases h
  · cases h
theorem mi_aaload (C : mm_C p l R s m args meth c xl A sc j d) (K : mm_dat) (hd : decode (md_mt j).2.1 pc = .ok (.aaload, 1)) (hn : nx = pc + 1) (h : mm_stepI (md_xa sc) j .aaload nx r1 r2 r3 pc lo st W0 b0 c0 = some (.inl F')) (k : mm_G p l e R s m args below meth c xl D w0 A j bT cT Q F') : mm_G p l e R s m args below meth c xl D w0 A j bT cT Q (pc, lo, st, W0, b0, c0) := by
  subst hn
  simp only [mm_stepI] at h
  split at h
  · split at h
    · rename_i hg
      split at h
      · rename_i ht
        cases h
        intro ws tys H locs cells slots ls st' hR
        obtain ⟨hst, ⟨lv, hls, hlo⟩, hw, hK, hP, hR⟩ := hR
        have hst0 := mm_l.un hst
        clear hst
        obtain ⟨_, _, rfl, hv, hst⟩ := hst0
        cases mm_v.ri hv
        have hst0 := mm_l.un hst
        clear hst
        obtain ⟨_, _, rfl, hv, hst⟩ := hst0
        obtain ⟨a, ha, rfl⟩ := mm_v.rr hv
        obtain ⟨E, hE, -⟩ := K.2.2.2.2.2.1 _ ht
        rcases mm_aget_in hg with ⟨hx, ⟨n, f, hk, hi, rfl⟩ | ⟨n, f, hk, hi, rfl⟩ | ⟨n, f, hk, hi, rfl⟩⟩ | ⟨hx, n, f, hk, hi, rfl⟩
        · obtain ⟨cA, t0, h1, h2, h3⟩ := hw.ai hx ha hk
          omega
        · obtain ⟨cA, t0, h1, h2, h3⟩ := hw.al hx ha hk
          omega
        · obtain ⟨cA, t0, f', h1, h2, h3, h4⟩ := hw.ar hx ha hk
          rw [hE] at h2
          exact va_aldq C.1 C.2.1 hK hP _ _ h1 h2 hi hd (k _ _ _ _ _ _ _ _ ⟨mm_l.cons (mm_v.re (h3 _)) hst, ⟨lv, hls, hlo⟩, hw, hK, hP, hR⟩)
        · cases mm_ad_out ha hx
          obtain ⟨hT, hxx⟩ := C.2.2.2.2.2.1.2.2.2.1 _ _ _ _ hk
          rw [hE] at hT
          exact vb_tq C.1 C.2.1 hT hR.2.1 hi rfl hd (k _ _ _ _ _ _ _ _ ⟨mm_l.cons (mm_v.x (hxx _)) hst, ⟨lv, hls, hlo⟩, hw, hK, hP, hR⟩)
      · cases h
    · cases h
  · cases h
theorem mi_arraylength (C : mm_C p l R s m args meth c xl A sc j d) (hd : decode (md_mt j).2.1 pc = .ok (.arraylength, 1)) (hn : nx = pc + 1) (h : mm_stepI (md_xa sc) j .arraylength nx r1 r2 r3 pc lo st W0 b0 c0 = some (.inl F')) (k : mm_G p l e R s m args below meth c xl D w0 A j bT cT Q F') : mm_G p l e R s m args below meth c xl D w0 A j bT cT Q (pc, lo, st, W0, b0, c0) := by
  subst hn
  simp only [mm_stepI] at h
  split at h
  · obtain ⟨n, hg, h⟩ := Option.map_eq_some_iff.mp h
    cases h
    intro ws tys H locs cells slots ls st' hR
    obtain ⟨hst, ⟨lv, hls, hlo⟩, hw, hK, hP, hR⟩ := hR
    have hst0 := mm_l.un hst
    clear hst
    obtain ⟨_, _, rfl, hv, hst⟩ := hst0
    obtain ⟨a, ha, rfl⟩ := mm_v.rr hv
    unfold mm_alen at hg
    split at hg
    · rename_i hx
      split at hg
      · rename_i t n0 f hk
        cases hg
        rcases f with f | f | f | f | f
        · obtain ⟨cA, t0, h1, h2, -⟩ := hw.ai hx ha hk
          exact va_alen C.1 C.2.1 hK hP _ _ h1 h2 rfl hd (k _ _ _ _ _ _ _ _ ⟨mm_l.cons mm_v.i hst, ⟨lv, hls, hlo⟩, hw, hK, hP, hR⟩)
        · obtain ⟨cA, t0, h1, h2, -⟩ := hw.al hx ha hk
          exact va_alen C.1 C.2.1 hK hP _ _ h1 h2 rfl hd (k _ _ _ _ _ _ _ _ ⟨mm_l.cons mm_v.i hst, ⟨lv, hls, hlo⟩, hw, hK, hP, hR⟩)
        · obtain ⟨a2, e', -, h3⟩ := hw.2.1 _ _ hk
          exact False.elim h3
        · obtain ⟨a2, e', -, h3⟩ := hw.2.1 _ _ hk
          exact False.elim h3
        · obtain ⟨cA, t0, f', h1, h2, -⟩ := hw.ar hx ha hk
          exact va_alen C.1 C.2.1 hK hP _ _ h1 h2 rfl hd (k _ _ _ _ _ _ _ _ ⟨mm_l.cons mm_v.i hst, ⟨lv, hls, hlo⟩, hw, hK, hP, hR⟩)
      · cases hg
    · rename_i hx
      split at hg
      · rename_i hk
        cases hg
        cases mm_ad_out ha hx
        obtain ⟨hT, -⟩ := C.2.2.2.2.2.1.2.2.2.1 _ _ _ _ hk
        exact va_tlen C.1 C.2.1 hT hR.2.1 rfl hd (k _ _ _ _ _ _ _ _ ⟨mm_l.cons mm_v.i hst, ⟨lv, hls, hlo⟩, hw, hK, hP, hR⟩)
      · cases hg
  · cases h
theorem mm_lset {tys : List (ClassId × FieldType)} {ws : va_W} {H H1 : Heap} {locs locs1 : List Loc} {cells slots : Nat} {ls : Array Slot} {st' : List Value} {q a : Nat} {e0 e e' : va_E} {F : mm_F} (hR : mm_R xl D w0 s A (md_mt j).2.2.1 bT cT F ws tys H locs cells slots ls st') (hq : ws[q]? = some (a, e0)) (he : mm_e xl ws tys e e')
    (hP1 : va_P D md_cl (ws.set q (a, e')) H1) (hD1 : va_D A (ws.set q (a, e'))) (hS1 : va_S A s.heap H1 locs1) {pc2 : Nat} {st2 : List Value} (hst2 : mm_l xl ws F.2.2.1 st' → True) {stA stA' : List Value} (hA : mm_l xl ws stA stA') :
    mm_R xl D w0 s A (md_mt j).2.2.1 bT cT (pc2, F.2.1, stA, F.2.2.2.1.set q e, F.2.2.2.2.1, F.2.2.2.2.2) (ws.set q (a, e')) tys H1 locs1 cells slots ls stA' := by
  obtain ⟨-, ⟨lv, hls, hlo⟩, hw, hK, -, -, -, hb, hc⟩ := hR
  exact ⟨hA.mono (mm_le_set hq), ⟨lv, hls, hlo.mono (mm_le_set hq)⟩, hw.set hq he, hK, hP1, hD1, hS1, hb, hc⟩
theorem mi_iastore (C : mm_C p l R s m args meth c xl A sc j d) (K : mm_dat) (hd : decode (md_mt j).2.1 pc = .ok (.iastore, 1)) (hn : nx = pc + 1) (h : mm_stepI (md_xa sc) j .iastore nx r1 r2 r3 pc lo st W0 b0 c0 = some (.inl F')) (k : mm_G p l e R s m args below meth c xl D w0 A j bT cT Q F') : mm_G p l e R s m args below meth c xl D w0 A j bT cT Q (pc, lo, st, W0, b0, c0) := by
  subst hn
  simp only [mm_stepI] at h
  split at h
  · split at h
    · rename_i hx
      split at h
      · rename_i hg
        split at h
        · rename_i ht
          subst ht
          cases h
          intro ws tys H locs cells slots ls st' hR0
          obtain ⟨hst, ⟨lv, hls, hlo⟩, hw, hK, hP, hD, hS, hR⟩ := id hR0
          have hst0 := mm_l.un hst
          clear hst
          obtain ⟨_, _, rfl, hv, hst⟩ := hst0
          cases mm_v.ri hv
          have hst0 := mm_l.un hst
          clear hst
          obtain ⟨_, _, rfl, hv, hst⟩ := hst0
          cases mm_v.ri hv
          have hst0 := mm_l.un hst
          clear hst
          obtain ⟨_, _, rfl, hv, hst⟩ := hst0
          obtain ⟨a, ha, rfl⟩ := mm_v.rr hv
          unfold mm_aputi at hg
          split at hg
          · rename_i hk
            split at hg
            · rename_i hi
              cases hg
              obtain ⟨cA, t0, h1, h2, -⟩ := hw.ai hx ha hk
              have h2' := h2
              rw [K.2.1] at h2
              exact va_iast C.1 C.2.1 hK hP hD hS _ _ h1 h2 (mm_ib_in hi) hd (fun H1 locs1 hP1 hD1 hS1 => k _ _ _ _ _ _ _ _ (mm_lset hR0 h1 (mm_e.i h2' (Or.inl rfl)) hP1 hD1 hS1 (fun _ => trivial) hst (st2 := [])))
            · cases hg
          · cases hg
        · cases h
      · cases h
    · cases h
  · cases h
theorem mi_bastore (C : mm_C p l R s m args meth c xl A sc j d) (K : mm_dat) (hd : decode (md_mt j).2.1 pc = .ok (.bastore, 1)) (hn : nx = pc + 1) (h : mm_stepI (md_xa sc) j .bastore nx r1 r2 r3 pc lo st W0 b0 c0 = some (.inl F')) (k : mm_G p l e R s m args below meth c xl D w0 A j bT cT Q F') : mm_G p l e R s m args below meth c xl D w0 A j bT cT Q (pc, lo, st, W0, b0, c0) := by
  subst hn
  simp only [mm_stepI] at h
  split at h
  · split at h
    · rename_i hx
      split at h
      · rename_i hg
        split at h
        · rename_i ht
          cases h
          intro ws tys H locs cells slots ls st' hR0
          obtain ⟨hst, ⟨lv, hls, hlo⟩, hw, hK, hP, hD, hS, hR⟩ := id hR0
          have hst0 := mm_l.un hst
          clear hst
          obtain ⟨_, _, rfl, hv, hst⟩ := hst0
          cases mm_v.ri hv
          have hst0 := mm_l.un hst
          clear hst
          obtain ⟨_, _, rfl, hv, hst⟩ := hst0
          cases mm_v.ri hv
          have hst0 := mm_l.un hst
          clear hst
          obtain ⟨_, _, rfl, hv, hst⟩ := hst0
          obtain ⟨a, ha, rfl⟩ := mm_v.rr hv
          unfold mm_aputi at hg
          split at hg
          · rename_i hk
            split at hg
            · rename_i hi
              cases hg
              obtain ⟨cA, t0, h1, h2, -⟩ := hw.ai hx ha hk
              have h2' := h2
              rcases ht with rfl | rfl
              · rw [K.2.2.2.1] at h2
                exact va_bast C.1 C.2.1 hK hP hD hS _ _ h1 h2 (mm_ib_in hi) hd (fun H1 locs1 hP1 hD1 hS1 => k _ _ _ _ _ _ _ _ (mm_lset hR0 h1 (mm_e.i h2' (Or.inr (Or.inl rfl))) hP1 hD1 hS1 (fun _ => trivial) hst (st2 := [])))
              · rw [K.2.2.2.2.1] at h2
                exact va_zast C.1 C.2.1 hK hP hD hS _ _ h1 h2 (mm_ib_in hi) hd (fun H1 locs1 hP1 hD1 hS1 => k _ _ _ _ _ _ _ _ (mm_lset hR0 h1 (mm_e.i h2' (Or.inr (Or.inr rfl))) hP1 hD1 hS1 (fun _ => trivial) hst (st2 := [])))
            · cases hg
          · cases hg
        · cases h
      · cases h
    · cases h
  · cases h
theorem mi_lastore (C : mm_C p l R s m args meth c xl A sc j d) (K : mm_dat) (hd : decode (md_mt j).2.1 pc = .ok (.lastore, 1)) (hn : nx = pc + 1) (h : mm_stepI (md_xa sc) j .lastore nx r1 r2 r3 pc lo st W0 b0 c0 = some (.inl F')) (k : mm_G p l e R s m args below meth c xl D w0 A j bT cT Q F') : mm_G p l e R s m args below meth c xl D w0 A j bT cT Q (pc, lo, st, W0, b0, c0) := by
  subst hn
  simp only [mm_stepI] at h
  split at h
  · split at h
    · rename_i hx
      split at h
      · rename_i hg
        split at h
        · rename_i ht
          subst ht
          cases h
          intro ws tys H locs cells slots ls st' hR0
          obtain ⟨hst, ⟨lv, hls, hlo⟩, hw, hK, hP, hD, hS, hR⟩ := id hR0
          have hst0 := mm_l.un hst
          clear hst
          obtain ⟨_, _, rfl, hv, hst⟩ := hst0
          cases mm_v.rj hv
          have hst0 := mm_l.un hst
          clear hst
          obtain ⟨_, _, rfl, hv, hst⟩ := hst0
          cases mm_v.ri hv
          have hst0 := mm_l.un hst
          clear hst
          obtain ⟨_, _, rfl, hv, hst⟩ := hst0
          obtain ⟨a, ha, rfl⟩ := mm_v.rr hv
          unfold mm_aputl at hg
          split at hg
          · rename_i hk
            split at hg
            · rename_i hi
              cases hg
              obtain ⟨cA, t0, h1, h2, -⟩ := hw.al hx ha hk
              have h2' := h2
              rw [K.2.2.1] at h2
              exact va_last C.1 C.2.1 hK hP hD hS _ _ h1 h2 (mm_ib_in hi) hd (fun H1 locs1 hP1 hD1 hS1 => k _ _ _ _ _ _ _ _ (mm_lset hR0 h1 (mm_e.j h2' rfl) hP1 hD1 hS1 (fun _ => trivial) hst (st2 := [])))
            · cases hg
          · cases hg
        · cases h
      · cases h
    · cases h
  · cases h
theorem mm_cls_in {W : mm_W} {v n : Nat} (h : mm_cls W v = some n) : (v < mm_XB ∧ ∃ fs, W[v]? = some (.inr (n, fs))) ∨ (¬ v < mm_XB ∧ ∃ q, md_xc (v - mm_XB) = some q ∧ n = 1000 + q) := by
  unfold mm_cls at h
  split at h
  · rename_i hx
    split at h
    · rename_i hk
      cases h
      exact Or.inl ⟨hx, _, hk⟩
    · cases h
  · rename_i hx
    obtain ⟨q, h1, h2⟩ := Option.map_eq_some_iff.mp h
    exact Or.inr ⟨hx, q, h1, h2.symm⟩
theorem mi_aastore (C : mm_C p l R s m args meth c xl A sc j d) (K : mm_dat) (hd : decode (md_mt j).2.1 pc = .ok (.aastore, 1)) (hn : nx = pc + 1) (h : mm_stepI (md_xa sc) j .aastore nx r1 r2 r3 pc lo st W0 b0 c0 = some (.inl F')) (k : mm_G p l e R s m args below meth c xl D w0 A j bT cT Q F') : mm_G p l e R s m args below meth c xl D w0 A j bT cT Q (pc, lo, st, W0, b0, c0) := by
  subst hn
  simp only [mm_stepI] at h
  split at h
  · rename_i v0 i0 k0 st0
    split at h
    · rename_i hx
      obtain ⟨W2, hg, h⟩ := Option.map_eq_some_iff.mp h
      cases h
      intro ws tys H locs cells slots ls st' hR0
      obtain ⟨hst, ⟨lv, hls, hlo⟩, hw, hK, hP, hD, hS, hR⟩ := id hR0
      have hst0 := mm_l.un hst
      clear hst
      obtain ⟨_, _, rfl, hv, hst⟩ := hst0
      obtain ⟨av, hav, rfl⟩ := mm_v.rr hv
      have hst0 := mm_l.un hst
      clear hst
      obtain ⟨_, _, rfl, hv, hst⟩ := hst0
      cases mm_v.ri hv
      have hst0 := mm_l.un hst
      clear hst
      obtain ⟨_, _, rfl, hv, hst⟩ := hst0
      obtain ⟨a, ha, rfl⟩ := mm_v.rr hv
      unfold mm_aputr at hg
      split at hg
      · rename_i t n f hk
        split at hg
        · rename_i hi
          cases hg
          simp only [Bool.and_eq_true, decide_eq_true_eq] at hi
          obtain ⟨⟨hi, ht⟩, hc⟩ := hi
          obtain ⟨cA, t0, f', h1, h2, h3, h4⟩ := hw.ar hx ha hk
          have h2' := h2
          obtain ⟨E, hE, hE1, hE2⟩ := K.2.2.2.2.2.1 _ ht
          rw [hE] at h2
          have hnew : ∀ q, mm_o xl ws (va_up f i0.toNatClampNeg (some v0) q) (va_up f' i0.toNatClampNeg (some av) q) := fun q => by
            unfold va_up
            split
            · exact ⟨av, hav, rfl⟩
            · exact h3 q
          rcases mm_cls_in hc with ⟨hvx, fs, hkv⟩ | ⟨hvx, q, hq, hn⟩
          · obtain ⟨fs', h5, -⟩ := hw.ob hvx hav hkv
            by_cases hlt : md_ac t < 1000
            · obtain ⟨r, hr, hrE⟩ := hE1 hlt
              subst hrE
              exact va_astq C.1 C.2.1 hK hP hD hS _ _ _ _ h1 h2 h5 hr (mm_ib_in hi) hd (fun H1 locs1 hP1 hD1 hS1 => k _ _ _ _ _ _ _ _ (mm_lset hR0 h1 (mm_e.r h2' hnew h4) hP1 hD1 hS1 (fun _ => trivial) hst (st2 := [])))
            · exfalso
              have h6 := hP _ _ h5
              obtain ⟨r, hr, -⟩ := h6
              exact hlt (K.2.2.2.2.2.2.2.2 _ _ hr)
          · have hge : 1000 ≤ md_ac t := by omega
            have hEq := hE2 hge
            have hq2 : md_ac t - 1000 = q := by omega
            rw [hq2] at hEq
            cases mm_ad_out hav hvx
            have hO := C.2.2.2.2.2.1.2.1 _ _ hq
            rw [hEq] at hO
            obtain ⟨cellV, hV1, hV2, hV3⟩ := va_Orecv hO hS
            have hAny : va_Any E s H (xl (v0 - mm_XB)) := by
              refine ⟨cellV, hV1, hV2, ?_, ?_⟩
              · obtain ⟨k9, h9, -⟩ := Vm.findClass_spec hV3; exact ⟨k9, h9⟩
              · intro comp hcomp
                cases Option.some.inj (hcomp.symm.trans hV3)
                exact va_asg _ _
            exact va_astqM C.1 C.2.1 hK hP hD hS _ _ h1 h2 hAny (mm_ib_in hi) hd (fun H1 locs1 hP1 hD1 hS1 => k _ _ _ _ _ _ _ _ (mm_lset hR0 h1 (mm_e.r h2' hnew h4) hP1 hD1 hS1 (fun _ => trivial) hst (st2 := [])))
        · cases hg
      · cases hg
    · cases h
  · cases h
end MJ
end
section
section MK
variable {p : Program} {l : Launch} {e : Env} {R : Room} {s : State} {m : MethodId} {args : Array Value} {below : List Frame} {meth : Method} {c : Code} {xl : Nat → Nat} {D : va_G} {w0 : va_W} {A : Nat → Prop} {sc : Nat × (Nat → Int32)} {j d bT cT : Nat} {Q : State → Prop} {nx r1 r2 r3 pc : Nat} {lo : List (Nat × Value)} {st : List Value} {W0 : mm_W} {b0 c0 : Nat} {F' : mm_F}
theorem mi_ldc (C : mm_C p l R s m args meth c xl A sc j d) {i : Nat} (hd : decode (md_mt j).2.1 pc = .ok (.ldc i, 2)) (hn : nx = pc + 2) (ho0 : r1 = 0 → Jvm.Cond.constant (md_mt j).1.cls i (Int32.ofNat r2) ∈ md_Tg) (ho1 : r1 ≠ 0 → ∃ tx, ((md_mt j).1.cls, i, tx, r2) ∈ md_sr) (h : mm_stepI (md_xa sc) j (.ldc i) nx r1 r2 r3 pc lo st W0 b0 c0 = some (.inl F')) (k : mm_G p l e R s m args below meth c xl D w0 A j bT cT Q F') : mm_G p l e R s m args below meth c xl D w0 A j bT cT Q (pc, lo, st, W0, b0, c0) := by
  subst hn
  simp only [mm_stepI] at h
  split at h
  · rename_i hz
    cases h
    intro ws tys H locs cells slots ls st' hR
    obtain ⟨hst, ⟨lv, hls, hlo⟩, hR⟩ := hR
    exact lv_ldc C.1 C.2.1 C.2.2.2.1 (C.2.2.2.2.1 _ (ho0 hz)) hd (k _ _ _ _ _ _ _ _ ⟨mm_l.cons mm_v.i hst, ⟨lv, hls, hlo⟩, hR⟩)
  · rename_i hz
    cases h
    intro ws tys H locs cells slots ls st' hR
    obtain ⟨hst, ⟨lv, hls, hlo⟩, hR⟩ := hR
    obtain ⟨tx, htx⟩ := ho1 hz
    have hv : mm_v xl ws (.ref (mm_XB + r2)) (.ref (xl r2)) := ⟨xl r2, by unfold mm_ad; rw [if_neg (by omega), Nat.add_sub_cancel_left], rfl⟩
    exact va_ldcS C.1 C.2.1 C.2.2.2.1 (C.2.2.2.2.2.1.2.2.2.2.1 _ htx) hd (k _ _ _ _ _ _ _ _ ⟨mm_l.cons hv hst, ⟨lv, hls, hlo⟩, hR⟩)
theorem mi_ldc_w (C : mm_C p l R s m args meth c xl A sc j d) {i : Nat} (hd : decode (md_mt j).2.1 pc = .ok (.ldc_w i, 3)) (hn : nx = pc + 3) (ho : Jvm.Cond.constant (md_mt j).1.cls i (Int32.ofNat r2) ∈ md_Tg) (h : mm_stepI (md_xa sc) j (.ldc_w i) nx r1 r2 r3 pc lo st W0 b0 c0 = some (.inl F')) (k : mm_G p l e R s m args below meth c xl D w0 A j bT cT Q F') : mm_G p l e R s m args below meth c xl D w0 A j bT cT Q (pc, lo, st, W0, b0, c0) := by
  subst hn
  simp only [mm_stepI] at h
  cases h
  intro ws tys H locs cells slots ls st' hR
  obtain ⟨hst, ⟨lv, hls, hlo⟩, hR⟩ := hR
  exact lv_ldcw C.1 C.2.1 C.2.2.2.1 (C.2.2.2.2.1 _ ho) hd (k _ _ _ _ _ _ _ _ ⟨mm_l.cons mm_v.i hst, ⟨lv, hls, hlo⟩, hR⟩)
theorem mi_ldc2_w (C : mm_C p l R s m args meth c xl A sc j d) {i : Nat} (hd : decode (md_mt j).2.1 pc = .ok (.ldc2_w i, 3)) (hn : nx = pc + 3) (ho : Jvm.Cond.constantLong (md_mt j).1.cls i (Int64.ofNat r1) ∈ md_Tg) (h : mm_stepI (md_xa sc) j (.ldc2_w i) nx r1 r2 r3 pc lo st W0 b0 c0 = some (.inl F')) (k : mm_G p l e R s m args below meth c xl D w0 A j bT cT Q F') : mm_G p l e R s m args below meth c xl D w0 A j bT cT Q (pc, lo, st, W0, b0, c0) := by
  subst hn
  simp only [mm_stepI] at h
  cases h
  intro ws tys H locs cells slots ls st' hR
  obtain ⟨hst, ⟨lv, hls, hlo⟩, hR⟩ := hR
  exact lv_ldc2 C.1 C.2.1 C.2.2.2.1 (C.2.2.2.2.1 _ ho) hd (k _ _ _ _ _ _ _ _ ⟨mm_l.cons mm_v.j hst, ⟨lv, hls, hlo⟩, hR⟩)
theorem mi_getstatic (C : mm_C p l R s m args meth c xl A sc j d) {i : Nat} (hd : decode (md_mt j).2.1 pc = .ok (.getstatic i, 3)) (hn : nx = pc + 3) (ho : r3 = 0 → r1 < md_nst ∧ Jvm.Cond.fieldLink (md_mt j).1.cls i (md_stn r1).1 (md_stn r1).2.1 (md_stn r1).2.2 ∈ md_Tg) (ho1 : r3 ≠ 0 → ∃ q ∈ md_sq, Jvm.Cond.fieldLink (md_mt j).1.cls i q.1 q.2.1 q.2.2 ∈ md_Tg) (h : mm_stepI (md_xa sc) j (.getstatic i) nx r1 r2 r3 pc lo st W0 b0 c0 = some (.inl F')) (k : mm_G p l e R s m args below meth c xl D w0 A j bT cT Q F') : mm_G p l e R s m args below meth c xl D w0 A j bT cT Q (pc, lo, st, W0, b0, c0) := by
  subst hn
  simp only [mm_stepI] at h
  split at h
  · rename_i hz
    cases h
    intro ws tys H locs cells slots ls st' hR
    obtain ⟨hst, ⟨lv, hls, hlo⟩, hw, hK, hP, hD, hS, hR⟩ := hR
    obtain ⟨h1, h2⟩ := ho hz
    obtain ⟨hZ, hx⟩ := C.2.2.2.2.2.1.1 _ h1
    exact va_gets C.1 C.2.1 hZ hS C.2.2.2.1 (C.2.2.2.2.1 _ h2) (fun _ z => z) hd (k _ _ _ _ _ _ _ _ ⟨mm_l.cons (mm_v.x hx) hst, ⟨lv, hls, hlo⟩, hw, hK, hP, hD, hS, hR⟩)
  · rename_i hz
    cases h
    intro ws tys H locs cells slots ls st' hR
    obtain ⟨hst, ⟨lv, hls, hlo⟩, hw, hK, hP, hD, hS, hR⟩ := hR
    obtain ⟨q, hq, h2⟩ := ho1 hz
    rcases C.2.2.2.2.2.1.2.2.2.2.2.2.2.2.2.2.2.2 q hq with hZ | ⟨t, hZ⟩
    · exact va_gets C.1 C.2.1 hZ hS C.2.2.2.1 (C.2.2.2.2.1 _ h2) (fun _ z => z) hd (k _ _ _ _ _ _ _ _ ⟨mm_l.cons (Or.inl rfl) hst, ⟨lv, hls, hlo⟩, hw, hK, hP, hD, hS, hR⟩)
    · exact va_gets C.1 C.2.1 hZ hS C.2.2.2.1 (C.2.2.2.2.1 _ h2) (fun _ z => z) hd (k _ _ _ _ _ _ _ _ ⟨mm_l.cons (Or.inr ⟨t, rfl⟩) hst, ⟨lv, hls, hlo⟩, hw, hK, hP, hD, hS, hR⟩)
theorem mi_getfield (C : mm_C p l R s m args meth c xl A sc j d) (K : mm_dat) {i : Nat} (hd : decode (md_mt j).2.1 pc = .ok (.getfield i, 3)) (hn : nx = pc + 3) (ho0 : r3 = 0 → ∃ C T N, md_cl[r1]? = some (C, T, N) ∧ r2 < N ∧ Jvm.Cond.fieldLink (md_mt j).1.cls i (T r2).1 (T r2).2.1 (T r2).2.2.1 ∈ md_Tg) (ho1 : r3 ≠ 0 → Jvm.Cond.fieldLink (md_mt j).1.cls i (md_xf r1).1 (md_xf r1).2.1 (md_xf r1).2.2 ∈ md_Tg) (h : mm_stepI (md_xa sc) j (.getfield i) nx r1 r2 r3 pc lo st W0 b0 c0 = some (.inl F')) (k : mm_G p l e R s m args below meth c xl D w0 A j bT cT Q F') : mm_G p l e R s m args below meth c xl D w0 A j bT cT Q (pc, lo, st, W0, b0, c0) := by
  subst hn
  simp only [mm_stepI] at h
  split at h
  · split at h
    · rename_i hz
      split at h
      · rename_i hx
        obtain ⟨v, hg, h⟩ := Option.map_eq_some_iff.mp h
        cases h
        intro ws tys H locs cells slots ls st' hR
        obtain ⟨hst, ⟨lv, hls, hlo⟩, hw, hK, hP, hD, hS, hR⟩ := hR
        have hst0 := mm_l.un hst
        clear hst
        obtain ⟨_, _, rfl, hv, hst⟩ := hst0
        obtain ⟨a, ha, rfl⟩ := mm_v.rr hv
        obtain ⟨C0, T, N, hc, hk, hl⟩ := ho0 hz
        unfold mm_getf at hg
        split at hg
        · rename_i hkw
          split at hg
          · rename_i hce
            subst hce
            obtain ⟨fs', h1, h2⟩ := hw.ob hx ha hkw
            obtain ⟨v', hv', hvv⟩ := h2.at hg
            exact va_get C.1 C.2.1 C.2.2.2.2.1 (K.1 _ _ _ _ hc).1 C.2.2.2.1 hK hP _ h1 hc r2 hk (C.2.2.2.2.1 _ hl) (fun _ z => z) hv' hd (k _ _ _ _ _ _ _ _ ⟨mm_l.cons hvv hst, ⟨lv, hls, hlo⟩, hw, hK, hP, hD, hS, hR⟩)
          · cases hg
        · cases hg
      · cases h
    · rename_i hz
      split at h
      · cases h
      · rename_i hx
        obtain ⟨v, hg, h⟩ := Option.map_eq_some_iff.mp h
        cases h
        intro ws tys H locs cells slots ls st' hR
        obtain ⟨hst, ⟨lv, hls, hlo⟩, hw, hK, hP, hD, hS, hR⟩ := hR
        have hst0 := mm_l.un hst
        clear hst
        obtain ⟨_, _, rfl, hv, hst⟩ := hst0
        obtain ⟨a, ha, rfl⟩ := mm_v.rr hv
        cases mm_ad_out ha hx
        obtain ⟨hF, hxx⟩ := C.2.2.2.2.2.1.2.2.1 _ _ _ hg
        exact vk_getf C.1 C.2.1 hF hS C.2.2.2.1 (C.2.2.2.2.1 _ (ho1 hz)) (fun _ z => z) hd (k _ _ _ _ _ _ _ _ ⟨mm_l.cons (mm_v.x hxx) hst, ⟨lv, hls, hlo⟩, hw, hK, hP, hD, hS, hR⟩)
  · cases h
/-- a type of its number: 0 int, 1 long, 2 boolean, 3 a reference -/
def mm_tyc (r3 : Nat) (ty : FieldType) : Prop := (r3 = 0 ∧ ty = .int) ∨ (r3 = 1 ∧ ty = .long) ∨ (r3 = 2 ∧ ty = .boolean) ∨ (r3 = 3 ∧ ((∃ n, ty = .object n) ∨ ∃ t, ty = .array t))
theorem mm_nf_ok {ws : va_W} {t : Nat} {ty : FieldType} {v v' : Value} (ht : mm_tyc t ty) (h : mm_nf t v = true) (hv : mm_v xl ws v v') : narrow ty v' = v' ∧ fits ty v' = true := by
  rcases ht with ⟨rfl, rfl⟩ | ⟨rfl, rfl⟩ | ⟨rfl, rfl⟩ | ⟨rfl, ht⟩
  · cases v <;> first | (cases h; done) | (cases mm_v.ri hv; exact ⟨rfl, rfl⟩)
  · cases v <;> first | (cases h; done) | (cases mm_v.rj hv; exact ⟨rfl, rfl⟩)
  · cases v with
    | int x =>
      cases mm_v.ri hv
      have h2 : x = 0 ∨ x = 1 := by simpa [mm_nf] using h
      rcases h2 with rfl | rfl <;> exact ⟨by decide +kernel, by decide +kernel⟩
    | _ => cases h
  · cases v with
    | ref q =>
      obtain ⟨a, -, rfl⟩ := mm_v.rr hv
      rcases ht with ⟨n, rfl⟩ | ⟨n, rfl⟩ <;> exact ⟨rfl, rfl⟩
    | null =>
      cases mm_v.rn hv
      rcases ht with ⟨n, rfl⟩ | ⟨n, rfl⟩ <;> exact ⟨rfl, rfl⟩
    | _ => cases h
theorem mi_putfield (C : mm_C p l R s m args meth c xl A sc j d) (K : mm_dat) {i : Nat} (hd : decode (md_mt j).2.1 pc = .ok (.putfield i, 3)) (hn : nx = pc + 3)
    (ho : ∃ C T N ty, md_cl[r1]? = some (C, T, N) ∧ r2 < N ∧ Jvm.Cond.fieldLink (md_mt j).1.cls i (T r2).1 (T r2).2.1 (T r2).2.2.1 ∈ md_Tg ∧ parseFieldDescriptor (T r2).2.2.1 = some ty ∧ mm_tyc r3 ty ∧ ((T r2).2.2.2 = true → (md_mt j).1.name = "<init>" ∧ (T r2).1 = (md_mt j).1.cls))
    (h : mm_stepI (md_xa sc) j (.putfield i) nx r1 r2 r3 pc lo st W0 b0 c0 = some (.inl F')) (k : mm_G p l e R s m args below meth c xl D w0 A j bT cT Q F') : mm_G p l e R s m args below meth c xl D w0 A j bT cT Q (pc, lo, st, W0, b0, c0) := by
  subst hn
  simp only [mm_stepI] at h
  split at h
  · split at h
    · rename_i hx
      obtain ⟨W2, hg, h⟩ := Option.map_eq_some_iff.mp h
      cases h
      intro ws tys H locs cells slots ls st' hR0
      obtain ⟨hst, ⟨lv, hls, hlo⟩, hw, hK, hP, hD, hS, hR⟩ := id hR0
      have hst0 := mm_l.un hst
      clear hst
      obtain ⟨v', _, rfl, hv, hst⟩ := hst0
      have hst0 := mm_l.un hst
      clear hst
      obtain ⟨_, _, rfl, hvo, hst⟩ := hst0
      obtain ⟨a, ha, rfl⟩ := mm_v.rr hvo
      obtain ⟨C0, T, N, ty, hc, hk, hl, hpd, htc, hfin⟩ := ho
      unfold mm_put at hg
      split at hg
      · rename_i hkw
        split at hg
        · rename_i hce
          obtain ⟨rfl, hlt, hnf⟩ := hce
          cases hg
          obtain ⟨fs', h1, h2⟩ := hw.ob hx ha hkw
          obtain ⟨hnar, hfit⟩ := mm_nf_ok htc hnf hv
          obtain ⟨hin, ⟨ty0, hty0, -⟩, hnm, -⟩ := K.1 _ _ _ _ hc
          have hlt' : r2 < fs'.length := by rw [h2.len]; exact hlt
          have key : ∀ (H1 : Heap) (locs1 : List Loc), va_P D md_cl (ws.set _ (a, .inr (_, fs'.set r2 v'))) H1 → va_D A (ws.set _ (a, .inr (_, fs'.set r2 v'))) → va_S A s.heap H1 locs1 → W p l e R s m args below meth c H1 locs1 cells slots Q (F0 m (pc + 3) ls _) := fun H1 locs1 hP1 hD1 hS1 =>
            k _ _ _ _ _ _ _ _ (mm_lset hR0 h1 (mm_e.o (h2.set r2 hv)) hP1 hD1 hS1 (fun _ => trivial) hst (st2 := []))
          by_cases hf : (T r2).2.2.2 = true
          · obtain ⟨hi1, hi2⟩ := hfin hf
            exact va_putF C.1 C.2.1 C.2.2.2.2.1 hin ty0 hty0 hnm C.2.2.2.1 hK hP hD hS _ h1 hc r2 hk (C.2.2.2.2.1 _ hl) (fun _ z => z) hf (C.2.2.2.2.2.2.2.2.2.1.trans hi1) hi2 hpd hnar hfit hlt' hd key
          · exact va_put C.1 C.2.1 C.2.2.2.2.1 hin ty0 hty0 hnm C.2.2.2.1 hK hP hD hS _ h1 hc r2 hk (C.2.2.2.2.1 _ hl) (fun _ z => z) (by simpa using hf) hpd hnar hfit hlt' hd key
        · cases hg
      · cases hg
    · cases h
  · cases h
theorem mi_if_acmp (C : mm_C p l R s m args meth c xl A sc j d) {cd : Jvm.ClassFile.ACond} {off : Int} (hd : decode (md_mt j).2.1 pc = .ok (.if_acmp cd off, 3)) (hn : nx = pc + 3) (ht : (pc : Int) + off = (r1 : Int)) (h : mm_stepI (md_xa sc) j (.if_acmp cd off) nx r1 r2 r3 pc lo st W0 b0 c0 = some (.inl F')) (k : mm_G p l e R s m args below meth c xl D w0 A j bT cT Q F') : mm_G p l e R s m args below meth c xl D w0 A j bT cT Q (pc, lo, st, W0, b0, c0) := by
  subst hn
  simp only [mm_stepI] at h
  split at h
  · rename_i y x st0
    split at h
    · rename_i hxy
      obtain ⟨hx1, hy1, hx2, hy2⟩ := hxy
      have hx1 : @LT.lt Nat instLTNat mm_XB x := hx1
      have hy1 : @LT.lt Nat instLTNat mm_XB y := hy1
      have hx2 : @LE.le Nat instLENat x (mm_XB + md_ne) := hx2
      have hy2 : @LE.le Nat instLENat y (mm_XB + md_ne) := hy2
      cases h
      intro ws tys H locs cells slots ls st' hR
      obtain ⟨hst, ⟨lv, hls, hlo⟩, hR⟩ := hR
      have hst0 := mm_l.un hst
      clear hst
      obtain ⟨_, _, rfl, hv, hst⟩ := hst0
      obtain ⟨ay, hay, rfl⟩ := mm_v.rr hv
      have hst0 := mm_l.un hst
      clear hst
      obtain ⟨_, _, rfl, hv, hst⟩ := hst0
      obtain ⟨ax, hax, rfl⟩ := mm_v.rr hv
      cases mm_ad_out hay (by omega)
      cases mm_ad_out hax (by omega)
      have hinj : xl (x - mm_XB) = xl (y - mm_XB) ↔ x = y := by
        refine ⟨fun z => ?_, fun z => by rw [z]⟩
        have h1 := C.2.2.2.2.2.1.2.2.2.2.2.2.2.2.2.2.2.1 (x - mm_XB) (y - mm_XB) (by omega) (by omega) (by omega) (by omega) z
        have h2 : @Eq Nat x y := by omega
        exact h2
      cases cd with
      | eq =>
        refine lv_acmp_eq (rx := some (xl (x - mm_XB))) (ry := some (xl (y - mm_XB))) C.1 C.2.1 hd ht (fun hc => ?_) (fun hc => ?_)
        · have hc2 : x = y := hinj.mp (Option.some.inj hc)
          have k2 := k ws tys H locs cells slots ls _ ⟨hst, ⟨lv, hls, hlo⟩, hR⟩
          simpa [hc2] using k2
        · have hc2 : ¬ x = y := fun z => hc (by rw [z])
          have k2 := k ws tys H locs cells slots ls _ ⟨hst, ⟨lv, hls, hlo⟩, hR⟩
          simpa [hc2] using k2
      | ne =>
        refine lv_acmp_ne (rx := some (xl (x - mm_XB))) (ry := some (xl (y - mm_XB))) C.1 C.2.1 hd ht (fun hc => ?_) (fun hc => ?_)
        · have hc2 : ¬ x = y := fun z => hc (by rw [z])
          have k2 := k ws tys H locs cells slots ls _ ⟨hst, ⟨lv, hls, hlo⟩, hR⟩
          simpa [hc2] using k2
        · have hc2 : x = y := hinj.mp (Option.some.inj hc)
          have k2 := k ws tys H locs cells slots ls _ ⟨hst, ⟨lv, hls, hlo⟩, hR⟩
          simpa [hc2] using k2
    · cases h
  · cases h
theorem mm_isx_l {ws : va_W} : ∀ {vs : List Value}, (∀ v ∈ vs, mm_isx v = true ∧ v.isRef = false) → mm_l xl ws vs vs
  | [], _ => mm_l.nil
  | v :: vs, h => by
    refine mm_l.cons ?_ (mm_isx_l fun z hz => h z (List.mem_cons_of_mem _ hz))
    obtain ⟨h1, h2⟩ := h v List.mem_cons_self
    have h3 := mm_v.x (xl := xl) (ws := ws) h1
    cases v with
    | ref k => cases h2
    | _ => exact h3
/-- b0 counts what may still be made; bT is what the room has, and what is left at the end -/
theorem mi_new (C : mm_C p l R s m args meth c xl A sc j d) (K : mm_dat) {i : Nat} (hd : decode (md_mt j).2.1 pc = .ok (.new i, 3)) (hn : nx = pc + 3) (h3 : r3 = 0)
    (ho : ∃ C T N, md_cl[r1]? = some (C, T, N) ∧ (md_df r1).length = N ∧ Jvm.Cond.classLink (md_mt j).1.cls i C ∈ md_Tg ∧ Jvm.Cond.instantiable C N ∈ md_Tg ∧ Jvm.Cond.initialized C ∈ md_Tg)
    (h : mm_stepI (md_xa sc) j (.new i) nx r1 r2 r3 pc lo st W0 b0 c0 = some (.inl F')) (hb : bT ≤ R.cells + F'.2.2.2.2.1) (hc : cT ≤ R.slots + F'.2.2.2.2.2) (k : mm_G p l e R s m args below meth c xl D w0 A j bT cT Q F') : mm_G p l e R s m args below meth c xl D w0 A j bT cT Q (pc, lo, st, W0, b0, c0) := by
  subst hn
  simp only [mm_stepI] at h
  rw [if_pos h3] at h
  split at h
  · rename_i hr
    obtain ⟨hr1, hr2, hr3⟩ := hr
    cases h
    intro ws tys H locs cells slots ls st' hR
    obtain ⟨hst, ⟨lv, hls, hlo⟩, hw, hK, hP, hD, hS, hbb, hcc⟩ := hR
    obtain ⟨C0, T, N, hci, hN, hl1, hl2, hl3⟩ := ho
    obtain ⟨hin, ⟨ty0, hty0, hdf⟩, -, hxs⟩ := K.1 _ _ _ _ hci
    dsimp only at hb hc hbb hcc
    refine va_new C.1 C.2.1 C.2.2.2.2.1 hin ty0 hty0 C.2.2.2.1 (C.2.2.2.2.1 _ hl1) (C.2.2.2.2.1 _ hl2) (C.2.2.2.2.1 _ hl3) hK hP hD hS C.2.2.2.2.2.2.1 hci hdf (by omega) (by omega) hd (fun q H1 hP1 hD1 hS1 => ?_)
    refine k _ _ _ _ _ _ _ _ ⟨mm_l.cons ⟨q, mm_ad_new hw.1.symm hr3, rfl⟩ (hst.mono mm_le_app), ⟨lv, hls, hlo.mono mm_le_app⟩, hw.app mm_tle.rf (mm_e.o (mm_isx_l hxs)), hK, hP1, hD1, hS1, ?_, ?_⟩
    · show cells + 1 + (b0 - 1) = bT
      omega
    · show slots + N + (c0 - (md_df r1).length) = cT
      omega
  · cases h
theorem mi_newarray (C : mm_C p l R s m args meth c xl A sc j d) (K : mm_dat) {at0 : ArrayType} (hd : decode (md_mt j).2.1 pc = .ok (.newarray at0, 2)) (hn : nx = pc + 2)
    (ho : newarray.typeOf at0 = md_ty r1 ∧ r1 ≤ 3 ∧ Jvm.Cond.arrayClass (md_ty r1) ∈ md_Tg)
    (h : mm_stepI (md_xa sc) j (.newarray at0) nx r1 r2 r3 pc lo st W0 b0 c0 = some (.inl F')) (hb : bT ≤ R.cells + F'.2.2.2.2.1) (hc : cT ≤ R.slots + F'.2.2.2.2.2) (k : mm_G p l e R s m args below meth c xl D w0 A j bT cT Q F') : mm_G p l e R s m args below meth c xl D w0 A j bT cT Q (pc, lo, st, W0, b0, c0) := by
  subst hn
  simp only [mm_stepI] at h
  split at h
  · split at h
    · rename_i n st0 hr
      obtain ⟨hn0, hr1, hr2, hr3, hr4⟩ := hr
      cases h
      intro ws tys H locs cells slots ls st' hR
      obtain ⟨hst, ⟨lv, hls, hlo⟩, hw, hK, hP, hD, hS, hbb, hcc⟩ := hR
      have hst0 := mm_l.un hst
      clear hst
      obtain ⟨_, _, rfl, hv, hst⟩ := hst0
      cases mm_v.ri hv
      obtain ⟨hty, hr5, hac⟩ := ho
      dsimp only at hb hc hbb hcc
      have hcell : ∀ cA : ClassId, vp_cell cA (n.toNatClampNeg, if r1 = 1 then .inr (.inl (fun _ => 0)) else .inl (fun _ => 0)) = arrV cA n.toNatClampNeg (fun _ => defaultValue (md_ty r1)) := by
        intro cA
        rcases (show r1 = 0 ∨ r1 = 1 ∨ r1 = 2 ∨ r1 = 3 by omega) with rfl | rfl | rfl | rfl
        · rw [K.2.1]; rfl
        · rw [K.2.2.1]; rfl
        · rw [K.2.2.2.1]; rfl
        · rw [K.2.2.2.2.1]; rfl
      have hbytes : n.toNatClampNeg * componentBytes (md_ty r1) ≤ 536870912 := by
        have hcb : componentBytes (md_ty r1) ≤ 8 := by
          rcases (show r1 = 0 ∨ r1 = 1 ∨ r1 = 2 ∨ r1 = 3 by omega) with rfl | rfl | rfl | rfl
          · rw [K.2.1]; decide
          · rw [K.2.2.1]; decide
          · rw [K.2.2.2.1]; decide
          · rw [K.2.2.2.2.1]; decide
        calc n.toNatClampNeg * componentBytes (md_ty r1) ≤ 1000000 * 8 := Nat.mul_le_mul hr4 hcb
          _ ≤ 536870912 := Nat.le_of_ble_eq_true rfl
      refine va_newa (ty := md_ty r1) C.1 C.2.1 (by rw [hty]; exact C.2.2.2.2.1 _ hac) hty hK hP hD hS C.2.2.2.2.2.2.1 hcell hn0 rfl hbytes (by omega) (by omega) hd (fun q cA H1 hK1 hP1 hD1 hS1 => ?_)
      refine k _ _ _ _ _ _ _ _ ⟨mm_l.cons ⟨q, mm_ad_new hw.1.symm hr3, rfl⟩ (hst.mono mm_le_app), ⟨lv, hls, hlo.mono mm_le_app⟩, hw.app mm_tle.app ?_, hK1, hP1, hD1, hS1, ?_, ?_⟩
      · have ht0 : (tys ++ [(cA, md_ty r1)])[tys.length]? = some (cA, md_ty r1) := by rw [List.getElem?_append_right (Nat.le_refl _), Nat.sub_self]; rfl
        rcases (show r1 = 1 ∨ (r1 = 0 ∨ r1 = 2 ∨ r1 = 3) by omega) with h1 | h1
        · subst h1
          exact mm_e.j ht0 rfl
        · have h2 : ¬ r1 = 1 := by omega
          simp only [if_neg h2]
          exact mm_e.i ht0 h1
      · show cells + 1 + (b0 - 1) = bT
        omega
      · show slots + n.toNatClampNeg + (c0 - n.toNatClampNeg) = cT
        omega
    · cases h
  · cases h
theorem mi_anewarray (C : mm_C p l R s m args meth c xl A sc j d) {i : Nat} (hd : decode (md_mt j).2.1 pc = .ok (.anewarray i, 3)) (hn : nx = pc + 3)
    (ho : 4 ≤ r1 ∧ ∃ E, md_ty r1 = .object E ∧ Jvm.Cond.classLink (md_mt j).1.cls i E ∈ md_Tg ∧ E ∈ md_ao)
    (h : mm_stepI (md_xa sc) j (.anewarray i) nx r1 r2 r3 pc lo st W0 b0 c0 = some (.inl F')) (hb : bT ≤ R.cells + F'.2.2.2.2.1) (hc : cT ≤ R.slots + F'.2.2.2.2.2) (k : mm_G p l e R s m args below meth c xl D w0 A j bT cT Q F') : mm_G p l e R s m args below meth c xl D w0 A j bT cT Q (pc, lo, st, W0, b0, c0) := by
  subst hn
  simp only [mm_stepI] at h
  split at h
  · split at h
    · rename_i n st0 hr
      obtain ⟨hn0, hr1, hr2, hr3, hr4⟩ := hr
      cases h
      intro ws tys H locs cells slots ls st' hR
      obtain ⟨hst, ⟨lv, hls, hlo⟩, hw, hK, hP, hD, hS, hbb, hcc⟩ := hR
      have hst0 := mm_l.un hst
      clear hst
      obtain ⟨_, _, rfl, hv, hst⟩ := hst0
      cases mm_v.ri hv
      obtain ⟨hge, E, hE, hl, hao⟩ := ho
      dsimp only at hb hc hbb hcc
      refine va_newq C.1 C.2.1 C.2.2.2.1 (C.2.2.2.2.1 _ hl) (C.2.2.2.2.2.1.2.2.2.2.2.2.2.1 _ hao) hK hP hD hS C.2.2.2.2.2.2.1 hn0 rfl (by omega) (by omega) (by omega) hd (fun q cA H1 hK1 hP1 hD1 hS1 => ?_)
      refine k _ _ _ _ _ _ _ _ ⟨mm_l.cons ⟨q, mm_ad_new hw.1.symm hr3, rfl⟩ (hst.mono mm_le_app), ⟨lv, hls, hlo.mono mm_le_app⟩, hw.app mm_tle.app ?_, hK1, hP1, hD1, hS1, ?_, ?_⟩
      · have ht0 : (tys ++ [(cA, FieldType.object E)])[tys.length]? = some (cA, md_ty r1) := by rw [List.getElem?_append_right (Nat.le_refl _), Nat.sub_self, hE]; rfl
        exact mm_e.r ht0 (fun _ => rfl) hge
      · show cells + 1 + (b0 - 1) = bT
        omega
      · show slots + n.toNatClampNeg + (c0 - n.toNatClampNeg) = cT
        omega
    · cases h
  · cases h
end MK
end
section
/-! ===== calls ===== -/
def mm_vo (xl : Nat → Nat) (ws : va_W) : Option Value → Option Value → Prop
  | none, r => r = none
  | some v, r => ∃ v', r = some v' ∧ mm_v xl ws v v'
def mm_End (xl : Nat → Nat) (D : va_G) (ws : va_W) (sz : Nat) (W2 : mm_W) (t : State) (ws2 : va_W) (tys2 : List (ClassId × FieldType)) : Prop :=
  mm_w xl ws tys2 W2 ws2 ∧ va_K D md_cl tys2 t ∧ va_P D md_cl ws2 t.heap ∧ va_D (va_A ws sz) ws2
def mm_Qr (xl : Nat → Nat) (D : va_G) (ws : va_W) (sz : Nat) (o : mm_O) : Array Value → State → Outcome → State → Prop := fun _ st oc t =>
  (∃ (v v' : Option Value) (ws2 : va_W) (tys2 : List (ClassId × FieldType)), o.1 = .inl v ∧ oc = .returned v' ∧ mm_vo xl ws2 v v' ∧ mm_End xl D ws sz o.2.1 t ws2 tys2) ∧ va_F (va_A ws sz) st t
def mm_Qx (xl : Nat → Nat) (D : va_G) (ws : va_W) (sz : Nat) (o : mm_O) : String → State → State → Prop := fun E st t =>
  (∃ (n : Nat) (ws2 : va_W) (tys2 : List (ClassId × FieldType)), o.1 = .inr n ∧ E = md_en n ∧ mm_End xl D ws sz o.2.1 t ws2 tys2) ∧ va_F (va_A ws sz) st t
def mm_Pc (xl : Nat → Nat) (D : va_G) (sc : Nat × (Nat → Int32)) (ws : va_W) (tys : List (ClassId × FieldType)) (sz : Nat) (U : State) : Prop :=
  U.heap.size = sz ∧ va_K D md_cl tys U ∧ va_P D md_cl ws U.heap ∧ va_D (fun _ => True) ws ∧ mm_X xl (va_A ws sz) sc U
/-- method j, called with these arguments in this world, ends as o says -/
def mm_M (l : Launch) (sc : Nat × (Nat → Int32)) (d j : Nat) (as : List Value) (W0 : mm_W) (b0 c0 : Nat) (o : mm_O) : Prop :=
  ∀ (xl : Nat → Nat) (D : va_G) (ws : va_W) (tys : List (ClassId × FieldType)) (as' : List Value) (sz : Nat), mm_l xl ws as as' → mm_w xl ws tys W0 ws →
    vx_Met l (md_mt j).1 (mm_ws j) (mm_rm d (b0 - o.2.2.1) (c0 - o.2.2.2)) (va_Pc as' (mm_Pc xl D sc ws tys sz)) (mm_Qr xl D ws sz o) (mm_Qx xl D ws sz o) (b0 - o.2.2.1) (c0 - o.2.2.2) (va_A ws sz)
theorem mm_blind (K : mm_dat) {xl : Nat → Nat} {D : va_G} {sc : Nat × (Nat → Int32)} {ws : va_W} {tys : List (ClassId × FieldType)} {sz : Nat} {as' : List Value} : FrameBlind (va_Pc as' (mm_Pc xl D sc ws tys sz)) :=
  fun a U g mk q => ⟨q.1, q.2.1, va_K.moved (u := U) (U := U.calling g mk a) (Vm.Alike.refl U.vm) q.2.2.1, q.2.2.2.1, q.2.2.2.2.1, mm_X.same (u := U) (U := U.calling g mk a) K rfl rfl q.2.2.2.2.2⟩
theorem mm_toMet {l : Launch} {y : MethodName} {ws : List Jvm.Cond} {rm : Room} {Pc : Array Value → State → Prop} {Qc : Array Value → State → Outcome → State → Prop} {XC : String → State → State → Prop} {mc ms : Nat} {free : Addr → Prop}
    (h : vx_Met l y ws rm Pc Qc XC mc ms free) (hX : ∀ E st t, ¬ XC E st t) : Met l y ws rm Pc Qc mc ms free := by
  intro p e h1 h2 h3 s m args below hf happ hP hK
  obtain ⟨n, o, a1, a2, a3, a4⟩ := h p e h1 h2 h3 s m args below hf happ hP hK
  refine ⟨n, o, a1, a2, a3, ?_⟩
  rcases a4 with a4 | ⟨q, -, E, ce, L, hx, -⟩
  · exact a4
  · exact absurd hx (hX _ _ _)
section MC
variable {p : Program} {l : Launch} {e : Env} {R : Room} {s : State} {m : MethodId} {args : Array Value} {below : List Frame} {meth : Method} {c : Code} {xl : Nat → Nat} {D : va_G} {w0 : va_W} {A : Nat → Prop} {sc : Nat × (Nat → Int32)} {j d bT cT : Nat} {Q : State → Prop} {nx r1 r2 r3 pc : Nat} {lo : List (Nat × Value)} {st : List Value} {W0 : mm_W} {b0 c0 : Nat} {F' : mm_F}
variable {ws : va_W} {tys : List (ClassId × FieldType)} {H : Heap} {locs : List Loc} {cells slots : Nat} {ls : Array Slot} {st' rest' st0 : List Value} {G : mm_F} {o : mm_O} {a : Array Value}
theorem mm_hA (hD : va_D A ws) (hS : va_S A s.heap H locs) (hall : ∀ q, s.heap.size ≤ q → A q) : ∀ q, va_A ws H.size q → A q := by
  intro q h
  rcases h with ⟨k, e, h⟩ | h
  · exact hD.2 k (q, e) h
  · exact hall q (Nat.le_trans hS.1 h)
/-- behind a call -/
theorem mm_run (C : mm_C p l R s m args meth c xl A sc j d) (hR : mm_R xl D w0 s A (md_mt j).2.2.1 bT cT G ws tys H locs cells slots ls rest')
    (hr : vx_Run p l e R s m args below meth c H locs cells slots (G.2.2.2.2.1 - o.2.2.1) (G.2.2.2.2.2 - o.2.2.2) (F0 m pc ls st0) rest' (mm_Qr xl D ws H.size o a) (mm_Qx xl D ws H.size o) (va_A ws H.size))
    (hb : o.2.2.1 ≤ G.2.2.2.2.1) (hc : o.2.2.2 ≤ G.2.2.2.2.2) (hpc : G.1 = pc)
    (k : ∀ v, o.1 = .inl v → mm_G p l e R s m args below meth c xl D w0 A j bT cT Q (pc + 3, G.2.1, v.toList ++ G.2.2.1, o.2.1, o.2.2.1, o.2.2.2))
    (kx : ∀ n, o.1 = .inr n → mm_Gx p l e R s m args below meth c xl D w0 A j bT cT Q n (G.1, G.2.1, G.2.2.1, o.2.1, o.2.2.1, o.2.2.2)) :
    W p l e R s m args below meth c H locs cells slots Q (F0 m pc ls st0) := by
  subst hpc
  obtain ⟨hst, ⟨lv, hls, hlo⟩, hw, hK, hP, hD, hS, hbb, hcc⟩ := hR
  have hA := mm_hA hD hS C.2.2.2.2.2.2.1
  intro T hT X
  rcases hr T hT X with ⟨v, st₀, t, T', L, h0, X', hL, e1, e2, ⟨⟨v0, v', ws2, tys2, ho, hv, hvo, hw2, hK2, hP2, hD2⟩, hF⟩, hgo⟩ | ⟨q, st₀, t, T', L, E, ce, h0, X', hL, e1, e2, ⟨⟨n, ws2, tys2, ho, hE, hw2, hK2, hP2, hD2⟩, hF⟩, hce, hcv, hcl, hgo⟩
  · cases hv
    have hle := hw2.2.2
    have hw2 : mm_w xl w0 tys2 o.2.1 ws2 := ⟨hw2.1, hw2.2.1, hw.2.2.tr hle⟩
    obtain ⟨k1, k2, k3⟩ := vx_keep h0 e1 hS (fun q _ z => hA q z) hA hL hF
    have hvm : s.vm.Alike t.vm := by rw [← e2]; exact X'.warmed.alike
    have hstv : mm_l xl ws2 (v0.toList ++ G.2.2.1) (v.toList ++ rest') := by
      refine mm_l.app ?_ (hst.mono hle)
      cases v0 with
      | none => rw [show v = none from hvo]; exact mm_l.nil
      | some z => obtain ⟨z', rfl, hz⟩ := hvo; exact mm_l.cons hz mm_l.nil
    obtain ⟨t2, a1, b1⟩ := k v0 ho ws2 tys2 T'.heap (locs ++ L) _ _ ls _ ⟨hstv, ⟨lv, hls, hlo.mono hle⟩, hw2, hK2.moved hvm.symm, by rw [e1]; exact hP2, hD2.weaken (fun _ _ _ z => hA _ z), k3, by show cells + (G.2.2.2.2.1 - o.2.2.1) + o.2.2.1 = bT; omega, by show slots + (G.2.2.2.2.2 - o.2.2.2) + o.2.2.2 = cT; omega⟩ T' rfl X'
    exact ⟨t2, hgo t2 a1, b1⟩
  · have hle := hw2.2.2
    have hw2 : mm_w xl w0 tys2 o.2.1 ws2 := ⟨hw2.1, hw2.2.1, hw.2.2.tr hle⟩
    obtain ⟨k1, k2, k3⟩ := vx_keep h0 e1 hS (fun q _ z => hA q z) hA hL hF
    have hvm : s.vm.Alike t.vm := by rw [← e2]; exact X'.warmed.alike
    subst hE
    obtain ⟨t2, a1, b1⟩ := kx n ho ws2 tys2 T'.heap (locs ++ L) _ _ ls _ q ce ⟨hst.mono hle, ⟨lv, hls, hlo.mono hle⟩, hw2, hK2.moved hvm.symm, by rw [e1]; exact hP2, hD2.weaken (fun _ _ _ z => hA _ z), k3, by show cells + (G.2.2.2.2.1 - o.2.2.1) + o.2.2.1 = bT; omega, by show slots + (G.2.2.2.2.2 - o.2.2.2) + o.2.2.2 = cT; omega⟩ (by rw [e1]; exact hce) hcv hcl T' rfl X'
    exact ⟨t2, hgo.trans a1, b1⟩
/-- a callee's own tables -/
def mm_cal (r1 n : Nat) : Prop :=
  (if (md_mt r1).2.2.2.2 = [] then Jvm.Cond.code (md_mt r1).1 (md_mt r1).2.1 (md_mt r1).2.2.1 (md_mt r1).2.2.2.1 else Jvm.Cond.codeWith (md_mt r1).1 (md_mt r1).2.1 (md_mt r1).2.2.1 (md_mt r1).2.2.2.1 (md_mt r1).2.2.2.2) ∈ md_Tg ∧
  (md_mt r1).2.2.1 ≤ 21 ∧ ((md_mt r1).1.cls ≠ "java/lang/invoke/MethodHandle" ∧ (md_mt r1).1.cls ≠ "java/lang/invoke/VarHandle" ∧ (parseMethodDescriptor (md_mt r1).1.desc).map (fun d => d.parameters.length) = some n)
def mm_rcv (r3 : Nat) (E : String) : Prop := (r3 < 1000 ∧ ∃ T N, md_cl[r3]? = some (E, T, N)) ∨ (1000 ≤ r3 ∧ md_xcn (r3 - 1000) = E)
theorem mm_recv (C : mm_C p l R s m args meth c xl A sc j d) (K : mm_dat) (hw : mm_w xl w0 tys W0 ws) (hK : va_K D md_cl tys s) (hP : va_P D md_cl ws H) (hS : va_S A s.heap H locs) {k av : Nat} (ha : mm_ad xl ws k = some av) (hc : mm_cls W0 k = some r3) {E : String} (hr : mm_rcv r3 E) :
    ∃ cell : Cell, H[av]? = some cell ∧ cell.vm.isStatics = false ∧ s.vm.findClass E = some cell.cls := by
  rcases mm_cls_in hc with ⟨hx, fs, hk⟩ | ⟨hx, q, hq, hn⟩
  · obtain ⟨fs', h1, -⟩ := hw.ob hx ha hk
    rcases hr with ⟨-, T, N, hcl⟩ | ⟨hge, -⟩
    · exact va_recv hK hP hcl h1
    · obtain ⟨r, hr2, -⟩ := hP _ _ h1
      exact absurd (K.2.2.2.2.2.2.2.2 _ _ hr2) (by omega)
  · rcases hr with ⟨hlt, -⟩ | ⟨hge, hE⟩
    · omega
    · have hq2 : r3 - 1000 = q := by omega
      rw [hq2] at hE
      cases mm_ad_out ha hx
      have hO := C.2.2.2.2.2.1.2.1 _ _ hq
      rw [hE] at hO
      exact va_Orecv hO hS
theorem mm_good (K : mm_dat) {L : List Jvm.Cond} (hL : ∀ w ∈ L, w ∈ md_Tg) {n : Nat} (hc : mm_cal r1 n) : GoodIn md_Tg (L ++ mm_ws r1) := by
  intro w hw
  rcases List.mem_append.mp hw with h | h
  · exact ⟨hL w h, good_of_word (K.2.2.2.2.2.2.2.1 w (hL w h))⟩
  · rcases List.mem_cons.mp h with rfl | h
    · exact ⟨hc.1, good_of_word (K.2.2.2.2.2.2.2.1 _ hc.1)⟩
    · exact ⟨h, good_of_word (K.2.2.2.2.2.2.2.1 w h)⟩
theorem mm_ws0 (h : (md_mt r1).2.2.2.2 = []) : mm_ws r1 = Jvm.Cond.code (md_mt r1).1 (md_mt r1).2.1 (md_mt r1).2.2.1 (md_mt r1).2.2.2.1 :: md_Tg := by unfold mm_ws; rw [if_pos h]
theorem mm_ws1 (h : ¬ (md_mt r1).2.2.2.2 = []) : mm_ws r1 = Jvm.Cond.codeWith (md_mt r1).1 (md_mt r1).2.1 (md_mt r1).2.2.1 (md_mt r1).2.2.2.1 (md_mt r1).2.2.2.2 :: md_Tg := by unfold mm_ws; rw [if_neg h]
/-- what the callee's start needs -/
theorem mm_PS (C : mm_C p l R s m args meth c xl A sc j d) (K : mm_dat) (hK : va_K D md_cl tys s) (hP : va_P D md_cl ws H) (hD : va_D A ws) (hS : va_S A s.heap H locs) {As : List Value} : PreS s H (va_Pc As (mm_Pc xl D sc ws tys H.size)) As :=
  ⟨mm_blind K, fun U hU hW => ⟨rfl, by rw [hU], hK.moved hW.alike, by rw [hU]; exact hP, hD.weaken (fun _ _ _ _ => trivial), mm_X.call K hS hU hW (mm_hA hD hS C.2.2.2.2.2.2.1) C.2.2.2.2.2.1⟩⟩
theorem mm_PV (C : mm_C p l R s m args meth c xl A sc j d) (K : mm_dat) (hK : va_K D md_cl tys s) (hP : va_P D md_cl ws H) (hD : va_D A ws) (hS : va_S A s.heap H locs) {As : List Value} {av : Nat} {E : String} (hrc : ∃ cell : Cell, H[av]? = some cell ∧ cell.vm.isStatics = false ∧ s.vm.findClass E = some cell.cls) : PreV s H E av (va_Pc (.ref av :: As) (mm_Pc xl D sc ws tys H.size)) As :=
  ⟨mm_blind K, hrc, fun U hU hW => ⟨rfl, by rw [hU], hK.moved hW.alike, by rw [hU]; exact hP, hD.weaken (fun _ _ _ _ => trivial), mm_X.call K hS hU hW (mm_hA hD hS C.2.2.2.2.2.2.1) C.2.2.2.2.2.1⟩⟩
theorem mm_fix (C : mm_C p l R s m args meth c xl A sc j d) : CallFix p m c (md_mt j).2.1 (md_mt j).2.2.1 s args md_Tg (md_mt j).1.cls := ⟨C.1, C.2.1, C.2.2.1, C.2.2.2.1, C.2.2.2.2.1⟩
set_option maxRecDepth 100000 in
theorem mm_arith {x y z : Nat} (h : x ≤ 21) (h2 : 40 * (y + 1) + 300 ≤ z) : 8 + (x + 11) + (40 * y + 300) ≤ z := by omega
theorem mm_room (C : mm_C p l R s m args meth c xl A sc j (d + 1)) {n mc ms : Nat} (hc : mm_cal r1 n) : (mm_rm d mc ms).frames + 1 ≤ R.frames ∧ 8 + ((md_mt r1).2.2.1 + 11) + (mm_rm d mc ms).locals ≤ R.locals := by
  obtain ⟨-, -, -, -, -, -, -, -, -, -, -, h1, h2, -⟩ := C
  have h3 := hc.2.1
  constructor
  · have h4 : (mm_rm d mc ms).frames = d + 12 := rfl
    rw [h4]
    omega
  · exact mm_arith h3 h2
theorem mm_cut {n : Nat} (hst : mm_l xl ws st st') (hlen : ¬ st.length < n) : mm_l xl ws (st.take n).reverse (st'.take n).reverse ∧ mm_l xl ws (st.drop n) (st'.drop n) ∧ (st'.take n).reverse.length = n ∧ st' = (st'.take n).reverse.reverse ++ st'.drop n := by
  obtain ⟨h1, h2⟩ := hst.split n
  have hl := hst.len
  refine ⟨h1.rev, h2, ?_, ?_⟩
  · rw [List.length_reverse, List.length_take]; omega
  · rw [List.reverse_reverse, List.take_append_drop]
/-- what a call's step was -/
theorem mm_call0 {nx2 : Nat} {as : List Value} {fl : Bool} {j2 : Nat} (h : mm_call r1 r2 r3 pc nx lo st W0 b0 c0 = some (.inr (.inr (j2, as, nx2, fl, G)))) :
    ¬ st.length < r2 % 16 ∧ j2 = r1 ∧ nx2 = nx ∧
    ((r2 / 16 = 1 ∧ fl = true ∧ as = (st.take (r2 % 16)).reverse ∧ G = (pc, lo, st.drop (r2 % 16), W0, b0, c0) ∧ ((st.drop (r2 % 16)).map fun v => v.category).sum ≤ 8) ∨
     (∃ k rest, ((r2 / 16 = 0 ∧ fl = true) ∨ (r2 / 16 = 2 ∧ fl = false)) ∧ st.drop (r2 % 16) = .ref k :: rest ∧ mm_cls W0 k = some r3 ∧ as = .ref k :: (st.take (r2 % 16)).reverse ∧ G = (pc, lo, rest, W0, b0, c0) ∧ (rest.map fun v => v.category).sum ≤ 8)) := by
  unfold mm_call at h
  split at h
  · cases h
  · rename_i hl
    refine ⟨hl, ?_⟩
    dsimp only at h
    split at h
    · rename_i hk
      split at h
      · rename_i k rest hrest
        split at h
        · rename_i hc
          cases h
          exact ⟨rfl, rfl, Or.inr ⟨k, rest, Or.inl ⟨hk, rfl⟩, hrest, hc.1, rfl, rfl, hc.2⟩⟩
        · cases h
      · cases h
    · rename_i hk
      split at h
      · rename_i k rest hrest
        split at h
        · rename_i hc
          cases h
          exact ⟨rfl, rfl, Or.inr ⟨k, rest, Or.inr ⟨hk, rfl⟩, hrest, hc.1, rfl, rfl, hc.2⟩⟩
        · cases h
      · cases h
    · rename_i hk
      split at h
      · rename_i hc
        cases h
        exact ⟨rfl, rfl, Or.inl ⟨hk, rfl, rfl, rfl, hc⟩⟩
      · cases h
    · split at h
      · split at h <;> cases h
      · cases h
    · split at h
      · split at h
        · obtain ⟨W2, -, h⟩ := Option.map_eq_some_iff.mp h
          cases h
        · cases h
      · cases h
    · cases h
/-- invokevirtual: the method itself (may throw), or one that is inherited -/
theorem mi_callV (C : mm_C p l R s m args meth c xl A sc j (d + 1)) (K : mm_dat) {i : Nat} (hd : decode (md_mt j).2.1 pc = .ok (.invokevirtual i, 3)) (hn : nx = pc + 3) (hcal : mm_cal r1 (r2 % 16)) (hh : (md_mt r1).2.2.2.2 = []) (hk1 : r2 / 16 ≠ 1)
    (ho0 : r2 / 16 = 0 → mm_rcv r3 (md_mt r1).1.cls ∧ (∀ w ∈ ([.methodLink (md_mt j).1.cls i (md_mt r1).1, .instanceMethod (md_mt r1).1, .selects (md_mt r1).1.cls (md_mt r1).1 (md_mt r1).1, .initialized (md_mt r1).1.cls] : List Jvm.Cond), w ∈ md_Tg))
    (ho2 : r2 / 16 = 2 → ∃ x : MethodName, (md_mt r1).1 = ⟨(md_mt r1).1.cls, x.name, x.desc⟩ ∧ mm_rcv r3 x.cls ∧ (∀ w ∈ ([.methodLink (md_mt j).1.cls i x, .sameMethod x.cls (md_mt r1).1.cls x.name x.desc, .selects x.cls x (md_mt r1).1, .instanceMethod (md_mt r1).1, .initialized (md_mt r1).1.cls] : List Jvm.Cond), w ∈ md_Tg))
    {nx2 : Nat} {as : List Value} {fl : Bool} {j2 : Nat} (h : mm_stepI (md_xa sc) j (.invokevirtual i) nx r1 r2 r3 pc lo st W0 b0 c0 = some (.inr (.inr (j2, as, nx2, fl, G))))
    (hM : mm_M l sc d j2 as G.2.2.2.1 G.2.2.2.2.1 G.2.2.2.2.2 o) (hfl : fl = false → ∃ v, o.1 = .inl v) (hb : o.2.2.1 ≤ G.2.2.2.2.1) (hc : o.2.2.2 ≤ G.2.2.2.2.2) (hbR : bT ≤ R.cells + o.2.2.1) (hcR : cT ≤ R.slots + o.2.2.2)
    (k : ∀ v, o.1 = .inl v → mm_G p l e R s m args below meth c xl D w0 A j bT cT Q (nx2, G.2.1, v.toList ++ G.2.2.1, o.2.1, o.2.2.1, o.2.2.2))
    (kx : ∀ n, o.1 = .inr n → mm_Gx p l e R s m args below meth c xl D w0 A j bT cT Q n (G.1, G.2.1, G.2.2.1, o.2.1, o.2.2.1, o.2.2.2)) :
    mm_G p l e R s m args below meth c xl D w0 A j bT cT Q (pc, lo, st, W0, b0, c0) := by
  subst hn
  simp only [mm_stepI] at h
  have h9 := mm_call0 h
  clear h
  obtain ⟨hlen, rfl, rfl, h⟩ := h9
  intro ws tys H locs cells slots ls st' hR
  obtain ⟨hst, ⟨lv, hls, hlo⟩, hw, hK, hP, hD, hS, hbb, hcc⟩ := hR
  dsimp only at hst hlo hw hbb hcc
  obtain ⟨hAs, hrs, hlenA, hsplit⟩ := mm_cut hst hlen
  rcases h with ⟨hk, -⟩ | ⟨kr, rest, hkind, hdrop, hcls, rfl, rfl, hsum⟩
  · exact absurd hk hk1
  · rw [hdrop] at hrs
    obtain ⟨_, rest', hrest', hv, hrs⟩ := mm_l.un hrs
    obtain ⟨av, hav, rfl⟩ := mm_v.rr hv
    rw [hrest'] at hsplit
    dsimp only at hM hb hc k kx
    have hsum' : 2 * (F0 m pc ls st').monitorRoom + (rest'.map fun v => v.category).sum ≤ 8 := by
      rw [hrs.cats]
      show 2 * 0 + _ ≤ 8
      omega
    have hMM := hM xl D ws tys (.ref av :: (st'.take (r2 % 16)).reverse) H.size (mm_l.cons hv hAs) ⟨hw.1, hw.2.1, mm_le.rf⟩
    have hf : cells + (b0 - o.2.2.1) ≤ R.cells ∧ slots + (c0 - o.2.2.2) ≤ R.slots := by constructor <;> omega
    have hRG : mm_R xl D w0 s A (md_mt j).2.2.1 bT cT (pc, lo, rest, W0, b0, c0) ws tys H locs cells slots ls rest' := ⟨hrs, ⟨lv, hls, hlo⟩, hw, hK, hP, hD, hS, hbb, hcc⟩
    rcases hkind with ⟨h0, -⟩ | ⟨h2, rfl⟩
    · obtain ⟨hrc, hws⟩ := ho0 h0
      exact mm_run (G := (pc, lo, rest, W0, b0, c0)) (o := o) C hRG (vx_runV (As := (st'.take (r2 % 16)).reverse) (mm_fix C) hMM (cwV (r2 % 16) C.2.2.2.2.1 (mm_good K hws hcal) (mm_ws0 hh) rfl rfl ⟨rfl, hcal.2.2⟩ (mm_room C hcal)) (mm_PV C K hK hP hD hS (mm_recv C K hw hK hP hS hav hcls hrc)) rfl hlenA hls.1 hsplit hsum' hd hf) hb hc rfl k kx
    · obtain ⟨x, hxy, hrc, hws⟩ := ho2 h2
      obtain ⟨v, hv⟩ := hfl rfl
      have hMet := mm_toMet hMM (fun E st t z => by obtain ⟨⟨n, _, _, hz, -⟩, -⟩ := z; rw [hv] at hz; cases hz)
      have hdesc : (md_mt j2).1.desc = x.desc := by rw [hxy]
      exact mm_run (G := (pc, lo, rest, W0, b0, c0)) (o := o) C hRG (fun T hT X => Or.inl (va_runU (As := (st'.take (r2 % 16)).reverse) (mm_fix C) hMet (va_cwU (C := x.cls) (x := x) (r2 % 16) C.2.2.2.2.1 (mm_good K hws hcal) (mm_ws0 hh) rfl rfl hxy ⟨hcal.2.2.1, hcal.2.2.2.1, hdesc ▸ hcal.2.2.2.2⟩ (mm_room C hcal)) (mm_PV C K hK hP hD hS (mm_recv C K hw hK hP hS hav hcls hrc)) rfl hlenA hls.1 hsplit hsum' hd hf T hT X)) hb hc rfl k kx
/-- invokestatic -/
theorem mi_callS (C : mm_C p l R s m args meth c xl A sc j (d + 1)) (K : mm_dat) {i : Nat} (hd : decode (md_mt j).2.1 pc = .ok (.invokestatic i, 3)) (hn : nx = pc + 3) (hk1 : r2 / 16 = 1) (hcal : mm_cal r1 (r2 % 16))
    (hws : ∀ w ∈ ([.methodLink (md_mt j).1.cls i (md_mt r1).1, .static (md_mt r1).1, .initialized (md_mt r1).1.cls] : List Jvm.Cond), w ∈ md_Tg)
    {nx2 : Nat} {as : List Value} {fl : Bool} {j2 : Nat} (h : mm_stepI (md_xa sc) j (.invokestatic i) nx r1 r2 r3 pc lo st W0 b0 c0 = some (.inr (.inr (j2, as, nx2, fl, G))))
    (hM : mm_M l sc d j2 as G.2.2.2.1 G.2.2.2.2.1 G.2.2.2.2.2 o) (hb : o.2.2.1 ≤ G.2.2.2.2.1) (hc : o.2.2.2 ≤ G.2.2.2.2.2) (hbR : bT ≤ R.cells + o.2.2.1) (hcR : cT ≤ R.slots + o.2.2.2)
    (k : ∀ v, o.1 = .inl v → mm_G p l e R s m args below meth c xl D w0 A j bT cT Q (nx2, G.2.1, v.toList ++ G.2.2.1, o.2.1, o.2.2.1, o.2.2.2))
    (kx : ∀ n, o.1 = .inr n → mm_Gx p l e R s m args below meth c xl D w0 A j bT cT Q n (G.1, G.2.1, G.2.2.1, o.2.1, o.2.2.1, o.2.2.2)) :
    mm_G p l e R s m args below meth c xl D w0 A j bT cT Q (pc, lo, st, W0, b0, c0) := by
  subst hn
  simp only [mm_stepI] at h
  have h9 := mm_call0 h
  clear h
  obtain ⟨hlen, rfl, rfl, h⟩ := h9
  intro ws tys H locs cells slots ls st' hR
  obtain ⟨hst, ⟨lv, hls, hlo⟩, hw, hK, hP, hD, hS, hbb, hcc⟩ := hR
  dsimp only at hst hlo hw hbb hcc
  obtain ⟨hAs, hrs, hlenA, hsplit⟩ := mm_cut hst hlen
  rcases h with ⟨-, -, rfl, rfl, hsum⟩ | ⟨kr, rest, hkind, -⟩
  · dsimp only at hM hb hc k kx
    have hsum' : 2 * (F0 m pc ls st').monitorRoom + ((st'.drop (r2 % 16)).map fun v => v.category).sum ≤ 8 := by
      rw [hrs.cats]
      show 2 * 0 + _ ≤ 8
      omega
    have hMM := hM xl D ws tys (st'.take (r2 % 16)).reverse H.size hAs ⟨hw.1, hw.2.1, mm_le.rf⟩
    have hf : cells + (b0 - o.2.2.1) ≤ R.cells ∧ slots + (c0 - o.2.2.2) ≤ R.slots := by constructor <;> omega
    have hRG : mm_R xl D w0 s A (md_mt j).2.2.1 bT cT (pc, lo, st.drop (r2 % 16), W0, b0, c0) ws tys H locs cells slots ls (st'.drop (r2 % 16)) := ⟨hrs, ⟨lv, hls, hlo⟩, hw, hK, hP, hD, hS, hbb, hcc⟩
    by_cases hh : (md_mt j2).2.2.2.2 = []
    · exact mm_run (G := (pc, lo, st.drop (r2 % 16), W0, b0, c0)) (o := o) C hRG (vx_runS (As := (st'.take (r2 % 16)).reverse) (mm_fix C) hMM (va_cwS (r2 % 16) C.2.2.2.2.1 (mm_good K hws hcal) (mm_ws0 hh) rfl rfl hcal.2.2 (mm_room C hcal)) (mm_PS C K hK hP hD hS) rfl hlenA hls.1 hsplit hsum' hd hf) hb hc rfl k kx
    · exact mm_run (G := (pc, lo, st.drop (r2 % 16), W0, b0, c0)) (o := o) C hRG (vx_runSX (As := (st'.take (r2 % 16)).reverse) (mm_fix C) hMM (vx_cwSW (r2 % 16) C.2.2.2.2.1 (mm_good K hws hcal) (mm_ws1 hh) rfl rfl hcal.2.2 (mm_room C hcal)) (mm_PS C K hK hP hD hS) rfl hlenA hls.1 hsplit hsum' hd hf) hb hc rfl k kx
  · exfalso
    omega
/-- invokespecial of a constructor -/
theorem mi_callI (C : mm_C p l R s m args meth c xl A sc j (d + 1)) (K : mm_dat) {i : Nat} (hd : decode (md_mt j).2.1 pc = .ok (.invokespecial i, 3)) (hn : nx = pc + 3) (hk2 : r2 / 16 = 2) (hcal : mm_cal r1 (r2 % 16)) (hh : (md_mt r1).2.2.2.2 = []) (hret : (md_mt r1).2.2.2.1 = none) (hnm : (md_mt r1).1.name = "<init>")
    (hws : ∀ w ∈ ([.instanceMethod (md_mt r1).1, .initialized (md_mt r1).1.cls] : List Jvm.Cond), w ∈ md_Tg)
    (hlk : Jvm.Cond.methodLink (md_mt j).1.cls i (md_mt r1).1 ∈ md_Tg ∨ ∃ host, ((md_mt j).1.cls, i, (md_mt r1).1, host) ∈ md_nw)
    {nx2 : Nat} {as : List Value} {fl : Bool} {j2 : Nat} (h : mm_stepI (md_xa sc) j (.invokespecial i) nx r1 r2 r3 pc lo st W0 b0 c0 = some (.inr (.inr (j2, as, nx2, fl, G))))
    (hM : mm_M l sc d j2 as G.2.2.2.1 G.2.2.2.2.1 G.2.2.2.2.2 o) (hfl : fl = false → ∃ v, o.1 = .inl v) (hb : o.2.2.1 ≤ G.2.2.2.2.1) (hc : o.2.2.2 ≤ G.2.2.2.2.2) (hbR : bT ≤ R.cells + o.2.2.1) (hcR : cT ≤ R.slots + o.2.2.2)
    (k : ∀ v, o.1 = .inl v → mm_G p l e R s m args below meth c xl D w0 A j bT cT Q (nx2, G.2.1, v.toList ++ G.2.2.1, o.2.1, o.2.2.1, o.2.2.2))
    (kx : ∀ n, o.1 = .inr n → mm_Gx p l e R s m args below meth c xl D w0 A j bT cT Q n (G.1, G.2.1, G.2.2.1, o.2.1, o.2.2.1, o.2.2.2)) :
    mm_G p l e R s m args below meth c xl D w0 A j bT cT Q (pc, lo, st, W0, b0, c0) := by
  subst hn
  simp only [mm_stepI] at h
  have h9 := mm_call0 h
  clear h
  obtain ⟨hlen, rfl, rfl, h⟩ := h9
  intro ws tys H locs cells slots ls st' hR
  obtain ⟨hst, ⟨lv, hls, hlo⟩, hw, hK, hP, hD, hS, hbb, hcc⟩ := hR
  dsimp only at hst hlo hw hbb hcc
  obtain ⟨hAs, hrs, hlenA, hsplit⟩ := mm_cut hst hlen
  rcases h with ⟨hk, -⟩ | ⟨kr, rest, hkind, hdrop, hcls, rfl, rfl, hsum⟩
  · exfalso
    omega
  · rw [hdrop] at hrs
    obtain ⟨_, rest', hrest', hv, hrs⟩ := mm_l.un hrs
    obtain ⟨av, hav, rfl⟩ := mm_v.rr hv
    rw [hrest'] at hsplit
    dsimp only at hM hb hc k kx
    have hsum' : 2 * (F0 m pc ls st').monitorRoom + (rest'.map fun v => v.category).sum ≤ 8 := by
      rw [hrs.cats]
      show 2 * 0 + _ ≤ 8
      omega
    have hMM := hM xl D ws tys (.ref av :: (st'.take (r2 % 16)).reverse) H.size (mm_l.cons hv hAs) ⟨hw.1, hw.2.1, mm_le.rf⟩
    have hf : cells + (b0 - o.2.2.1) ≤ R.cells ∧ slots + (c0 - o.2.2.2) ≤ R.slots := by constructor <;> omega
    have hRG : mm_R xl D w0 s A (md_mt j).2.2.1 bT cT (pc, lo, rest, W0, b0, c0) ws tys H locs cells slots ls rest' := ⟨hrs, ⟨lv, hls, hlo⟩, hw, hK, hP, hD, hS, hbb, hcc⟩
    have hfl0 : fl = false := by
      rcases hkind with ⟨h0, -⟩ | ⟨-, h2⟩
      · omega
      · exact h2
    obtain ⟨v, hv⟩ := hfl hfl0
    have hMet := mm_toMet hMM (fun E st t z => by obtain ⟨⟨n, _, _, hz, -⟩, -⟩ := z; rw [hv] at hz; cases hz)
    have hwsr : mm_ws j2 = Jvm.Cond.code (md_mt j2).1 (md_mt j2).2.1 (md_mt j2).2.2.1 none :: md_Tg := by rw [mm_ws0 hh, hret]
    have hG : GoodIn md_Tg (mm_ws j2) := fun w hw => mm_good K hws hcal w (List.mem_append_right _ hw)
    have t1 : (Jvm.Cond.initialized (md_mt j2).1.cls).before args s = true := C.2.2.2.2.1 _ (hws _ (by simp))
    have t2 : (Jvm.Cond.instanceMethod (md_mt j2).1).before args s = true := C.2.2.2.2.1 _ (hws _ (by simp))
    rcases hlk with hlk | ⟨host, hlk⟩
    · exact mm_run (G := (pc, lo, rest, W0, b0, c0)) (o := o) C hRG (fun T hT X => Or.inl (va_runI (As := (st'.take (r2 % 16)).reverse) (mm_fix C) hMet (cwI (r2 % 16) C.2.2.2.2.1 hG hwsr rfl rfl t1 (C.2.2.2.2.1 _ hlk) t2 hnm hcal.2.2 (mm_room C hcal)) (mm_PS C K hK hP hD hS) rfl hlenA hls.1 hsplit hsum' hd hf T hT X)) hb hc rfl k kx
    · exact mm_run (G := (pc, lo, rest, W0, b0, c0)) (o := o) C hRG (fun T hT X => Or.inl (va_runIN (As := (st'.take (r2 % 16)).reverse) (mm_fix C) hMet ⟨va_cnB (r2 % 16) C.2.2.2.2.1 hG hwsr rfl rfl (C.2.2.2.2.2.1.2.2.2.2.2.2.1 _ hlk) t1 hcal.2.2 (mm_room C hcal), hnm, t2⟩ (mm_PS C K hK hP hD hS) rfl hlenA hls.1 hsplit hsum' hd hf T hT X)) hb hc rfl k kx
/-- invokespecial of Object's constructor -/
theorem mi_objInit (C : mm_C p l R s m args meth c xl A sc j d) {i : Nat} (hd : decode (md_mt j).2.1 pc = .ok (.invokespecial i, 3)) (hn : nx = pc + 3)
    (hws : ∀ w ∈ ([.methodLink (md_mt j).1.cls i Lib.objectInit, .instanceMethod Lib.objectInit, .code Lib.objectInit ⟨#[0xb1]⟩ 1 none] : List Jvm.Cond), w ∈ md_Tg) (h5 : r2 / 16 = 5)
    (h : mm_stepI (md_xa sc) j (.invokespecial i) nx r1 r2 r3 pc lo st W0 b0 c0 = some (.inl F')) (k : mm_G p l e R s m args below meth c xl D w0 A j bT cT Q F') : mm_G p l e R s m args below meth c xl D w0 A j bT cT Q (pc, lo, st, W0, b0, c0) := by
  subst hn
  simp only [mm_stepI, mm_call, h5] at h
  split at h
  · cases h
  · split at h
    · split at h
      · rename_i hsum
        cases h
        intro ws tys H locs cells slots ls st' hR
        obtain ⟨hst, ⟨lv, hls, hlo⟩, hR⟩ := hR
        have hst0 := mm_l.un hst
        clear hst
        obtain ⟨_, rest', rfl, hv, hst⟩ := hst0
        obtain ⟨a, ha, rfl⟩ := mm_v.rr hv
        refine W.objInit C.1 C.2.1 C.2.2.2.1 (C.2.2.2.2.1 _ (hws _ (by simp))) (C.2.2.2.2.1 _ (hws _ (by simp))) (C.2.2.2.2.1 _ (hws _ (by simp))) rfl (hls.1.trans C.2.2.1.symm) rfl hd ?_ ?_ (k _ _ _ _ _ _ _ _ ⟨hst, ⟨lv, hls, hlo⟩, hR⟩)
        · have := C.2.2.2.2.2.2.2.2.2.2.2.1
          omega
        · have := C.2.2.2.2.2.2.2.2.2.2.2.2.1
          have h9 := hst.cats
          show 2 * 0 + (rest'.map fun v => v.category).sum + 12 ≤ R.locals
          omega
      · cases h
    · cases h
/-- System.arraycopy -/
theorem mi_copy (C : mm_C p l R s m args meth c xl A sc j d) (K : mm_dat) {i : Nat} (hd : decode (md_mt j).2.1 pc = .ok (.invokestatic i, 3)) (hn : nx = pc + 3)
    (hws : ∀ w ∈ ([.methodLink (md_mt j).1.cls i arraycopyName, .native arraycopyName, .static arraycopyName, .initialized "java/lang/System"] : List Jvm.Cond), w ∈ md_Tg) (h6 : r2 / 16 = 6)
    (h : mm_stepI (md_xa sc) j (.invokestatic i) nx r1 r2 r3 pc lo st W0 b0 c0 = some (.inl F')) (k : mm_G p l e R s m args below meth c xl D w0 A j bT cT Q F') : mm_G p l e R s m args below meth c xl D w0 A j bT cT Q (pc, lo, st, W0, b0, c0) := by
  subst hn
  simp only [mm_stepI, mm_call, h6] at h
  split at h
  · cases h
  · split at h
    · split at h
      · rename_i hsum
        obtain ⟨W2, hg, h⟩ := Option.map_eq_some_iff.mp h
        cases h
        intro ws tys H locs cells slots ls st' hR0
        obtain ⟨hst, ⟨lv, hls, hlo⟩, hw, hK, hP, hD, hS, hR⟩ := id hR0
        have hst0 := mm_l.un hst
        clear hst
        obtain ⟨_, _, rfl, hv, hst⟩ := hst0
        cases mm_v.ri hv
        have hst0 := mm_l.un hst
        clear hst
        obtain ⟨_, _, rfl, hv, hst⟩ := hst0
        cases mm_v.ri hv
        have hst0 := mm_l.un hst
        clear hst
        obtain ⟨_, _, rfl, hv, hst⟩ := hst0
        obtain ⟨ad, had, rfl⟩ := mm_v.rr hv
        have hst0 := mm_l.un hst
        clear hst
        obtain ⟨_, _, rfl, hv, hst⟩ := hst0
        cases mm_v.ri hv
        have hst0 := mm_l.un hst
        clear hst
        obtain ⟨_, rest', rfl, hv, hst⟩ := hst0
        obtain ⟨as, has, rfl⟩ := mm_v.rr hv
        have hfr : 1 ≤ R.frames := by
          have := C.2.2.2.2.2.2.2.2.2.2.2.1
          omega
        have hloc : (rest'.map fun v => v.category).sum + (nativeFrameWords "java/lang/System" "arraycopy" 5 + 11) ≤ R.locals := by
          have h8 := C.2.2.2.2.2.2.2.2.2.2.2.2.1
          have h9 := hst.cats
          have h10 : nativeFrameWords "java/lang/System" "arraycopy" 5 ≤ 100 := by decide +kernel
          omega
        have t1 := C.2.2.2.2.1 _ (hws (.methodLink (md_mt j).1.cls i arraycopyName) (by simp))
        have t2 := C.2.2.2.2.1 _ (hws (.native arraycopyName) (by simp))
        have t3 := C.2.2.2.2.1 _ (hws (.static arraycopyName) (by simp))
        have t4 := C.2.2.2.2.1 _ (hws (.initialized "java/lang/System") (by simp))
        have hml : c.maxLocals = ls.size := C.2.2.1.trans hls.1.symm
        unfold mm_cpy at hg
        split at hg
        · cases hg
        · rename_i hneg
          have n1 : ¬ _ := fun z => hneg (Or.inl z)
          have n2 : ¬ _ := fun z => hneg (Or.inr (Or.inl z))
          have n3 : ¬ _ := fun z => hneg (Or.inr (Or.inr (Or.inl z)))
          have n4 : _ := Decidable.byContradiction (fun z => hneg (Or.inr (Or.inr (Or.inr (Or.inl z)))))
          have n5 : _ := Decidable.byContradiction (fun z => hneg (Or.inr (Or.inr (Or.inr (Or.inr z)))))
          split at hg
          · rename_i n0 f n9 g hks hkd
            split at hg
            · rename_i hlen
              cases hg
              obtain ⟨cA, t0, q1, q2, -⟩ := hw.ai n4 has hks
              obtain ⟨cB, t5, q3, q4, -⟩ := hw.ai n5 had hkd
              have q4' := q4
              rw [K.2.1] at q2 q4
              exact va_copyi C.1 C.2.1 hml C.2.2.2.1 t1 t2 t3 t4 hK hP hD hS _ _ _ _ q1 q3 q2 q4 rfl n1 n2 n3 hlen.1 hlen.2 (fun _ _ => rfl) hfr hloc hd (fun H1 locs1 hP1 hD1 hS1 => k _ _ _ _ _ _ _ _ (mm_lset hR0 q3 (mm_e.i q4' (Or.inl rfl)) hP1 hD1 hS1 (fun _ => trivial) hst (st2 := [])))
            · cases hg
          · rename_i n0 f n9 g hks hkd
            split at hg
            · rename_i hlen
              cases hg
              obtain ⟨cA, t0, q1, q2, -⟩ := hw.al n4 has hks
              obtain ⟨cB, t5, q3, q4, -⟩ := hw.al n5 had hkd
              have q4' := q4
              rw [K.2.2.1] at q2 q4
              exact va_copyl C.1 C.2.1 hml C.2.2.2.1 t1 t2 t3 t4 hK hP hD hS _ _ _ _ q1 q3 q2 q4 rfl n1 n2 n3 hlen.1 hlen.2 (fun _ _ => rfl) hfr hloc hd (fun H1 locs1 hP1 hD1 hS1 => k _ _ _ _ _ _ _ _ (mm_lset hR0 q3 (mm_e.j q4' rfl) hP1 hD1 hS1 (fun _ => trivial) hst (st2 := [])))
            · cases hg
          · cases hg
      · cases h
    · cases h
end MC
end
section
/-! ===== a run of the mini machine is a run of the machine ===== -/
def mm_dc (j pc : Nat) (e : mm_Ent) : Prop := decode (md_mt j).2.1 pc = .ok (e.1, mm_len e.1) ∧ e.2.1 = pc + mm_len e.1
/-- a place where the class throws: new; dup; ldc; invokespecial; athrow -/
def mm_thr (j pc ik r1 : Nat) : Prop := ∃ (text : String) (names : List String) (is ic q : Nat),
  decode (md_mt j).2.1 (pc + 3) = .ok (.dup, 1) ∧ decode (md_mt j).2.1 (pc + 4) = .ok (.ldc is, 2) ∧ decode (md_mt j).2.1 (pc + 6) = .ok (.invokespecial ic, 3) ∧ decode (md_mt j).2.1 (pc + 9) = .ok (.athrow, 1) ∧
  Bundle.fit (md_en r1) = true ∧ (∀ n ∈ names, Bundle.fit n = true) ∧ (∀ w ∈ Jvm.Cond.classLink (md_mt j).1.cls ik (md_en r1) :: Jvm.Cond.initialized (md_en r1) :: vx_atS (md_mt j).1.cls ic (md_en r1) names, w ∈ md_Tg ∨ w ∈ md_gw) ∧
  (∀ w ∈ Jvm.Cond.classLink (md_mt j).1.cls ik (md_en r1) :: Jvm.Cond.initialized (md_en r1) :: vx_atS (md_mt j).1.cls ic (md_en r1) names, vx_ot w = true) ∧ ((md_mt j).1.cls, is, text, q) ∈ md_sr ∧ names.length ≤ 5 ∧ (md_mt j).2.2.2.2 = []
def mm_ok (j pc : Nat) (e : mm_Ent) : Prop :=
  match e.1 with
  | .tableswitch a b c d => decode (md_mt j).2.1 pc = .ok (.tableswitch a b c d, e.2.1)
  | .lookupswitch a ps => decode (md_mt j).2.1 pc = .ok (.lookupswitch a ps, e.2.1) ∧ (ps.toList.zip (ps.toList.drop 1)).all (fun (a, next) => a.1 < next.1) = true
  | .istore i => mm_dc j pc e ∧ i < (md_mt j).2.2.1
  | .istore_n i => mm_dc j pc e ∧ (i : Nat) < (md_mt j).2.2.1
  | .lstore i => mm_dc j pc e ∧ i + 1 < (md_mt j).2.2.1
  | .lstore_n i => mm_dc j pc e ∧ (i : Nat) + 1 < (md_mt j).2.2.1
  | .astore i => mm_dc j pc e ∧ i < (md_mt j).2.2.1
  | .astore_n i => mm_dc j pc e ∧ (i : Nat) < (md_mt j).2.2.1
  | .iinc i _ => mm_dc j pc e ∧ i < (md_mt j).2.2.1
  | .ifCond _ off => mm_dc j pc e ∧ (pc : Int) + off = (e.2.2.1 : Int)
  | .if_icmp _ off => mm_dc j pc e ∧ (pc : Int) + off = (e.2.2.1 : Int)
  | .if_acmp _ off => mm_dc j pc e ∧ (pc : Int) + off = (e.2.2.1 : Int)
  | .goto off => mm_dc j pc e ∧ (pc : Int) + off = (e.2.2.1 : Int)
  | .ldc i => mm_dc j pc e ∧ (e.2.2.1 = 0 → Jvm.Cond.constant (md_mt j).1.cls i (Int32.ofNat e.2.2.2.1) ∈ md_Tg) ∧ (e.2.2.1 ≠ 0 → ∃ tx, ((md_mt j).1.cls, i, tx, e.2.2.2.1) ∈ md_sr)
  | .ldc_w i => mm_dc j pc e ∧ Jvm.Cond.constant (md_mt j).1.cls i (Int32.ofNat e.2.2.2.1) ∈ md_Tg
  | .ldc2_w i => mm_dc j pc e ∧ Jvm.Cond.constantLong (md_mt j).1.cls i (Int64.ofNat e.2.2.1) ∈ md_Tg
  | .getstatic i => mm_dc j pc e ∧ (e.2.2.2.2 = 0 → e.2.2.1 < md_nst ∧ Jvm.Cond.fieldLink (md_mt j).1.cls i (md_stn e.2.2.1).1 (md_stn e.2.2.1).2.1 (md_stn e.2.2.1).2.2 ∈ md_Tg) ∧ (e.2.2.2.2 ≠ 0 → ∃ q ∈ md_sq, Jvm.Cond.fieldLink (md_mt j).1.cls i q.1 q.2.1 q.2.2 ∈ md_Tg)
  | .getfield i => mm_dc j pc e ∧ (e.2.2.2.2 = 0 → ∃ C T N, md_cl[e.2.2.1]? = some (C, T, N) ∧ e.2.2.2.1 < N ∧ Jvm.Cond.fieldLink (md_mt j).1.cls i (T e.2.2.2.1).1 (T e.2.2.2.1).2.1 (T e.2.2.2.1).2.2.1 ∈ md_Tg) ∧ (e.2.2.2.2 ≠ 0 → Jvm.Cond.fieldLink (md_mt j).1.cls i (md_xf e.2.2.1).1 (md_xf e.2.2.1).2.1 (md_xf e.2.2.1).2.2 ∈ md_Tg)
  | .putfield i => mm_dc j pc e ∧ ∃ C T N ty, md_cl[e.2.2.1]? = some (C, T, N) ∧ e.2.2.2.1 < N ∧ Jvm.Cond.fieldLink (md_mt j).1.cls i (T e.2.2.2.1).1 (T e.2.2.2.1).2.1 (T e.2.2.2.1).2.2.1 ∈ md_Tg ∧ parseFieldDescriptor (T e.2.2.2.1).2.2.1 = some ty ∧ mm_tyc e.2.2.2.2 ty ∧ ((T e.2.2.2.1).2.2.2 = true → (md_mt j).1.name = "<init>" ∧ (T e.2.2.2.1).1 = (md_mt j).1.cls)
  | .new i => mm_dc j pc e ∧ (e.2.2.2.2 = 0 → ∃ C T N, md_cl[e.2.2.1]? = some (C, T, N) ∧ (md_df e.2.2.1).length = N ∧ Jvm.Cond.classLink (md_mt j).1.cls i C ∈ md_Tg ∧ Jvm.Cond.instantiable C N ∈ md_Tg ∧ Jvm.Cond.initialized C ∈ md_Tg) ∧ (e.2.2.2.2 ≠ 0 → mm_thr j pc i e.2.2.1)
  | .newarray a => mm_dc j pc e ∧ newarray.typeOf a = md_ty e.2.2.1 ∧ e.2.2.1 ≤ 3 ∧ Jvm.Cond.arrayClass (md_ty e.2.2.1) ∈ md_Tg
  | .anewarray i => mm_dc j pc e ∧ 4 ≤ e.2.2.1 ∧ ∃ E, md_ty e.2.2.1 = .object E ∧ Jvm.Cond.classLink (md_mt j).1.cls i E ∈ md_Tg ∧ E ∈ md_ao
  | .invokevirtual i => mm_dc j pc e ∧ mm_cal e.2.2.1 (e.2.2.2.1 % 16) ∧ (md_mt e.2.2.1).2.2.2.2 = [] ∧ (e.2.2.2.1 / 16 = 0 ∨ e.2.2.2.1 / 16 = 2) ∧
    (e.2.2.2.1 / 16 = 0 → mm_rcv e.2.2.2.2 (md_mt e.2.2.1).1.cls ∧ (∀ w ∈ ([.methodLink (md_mt j).1.cls i (md_mt e.2.2.1).1, .instanceMethod (md_mt e.2.2.1).1, .selects (md_mt e.2.2.1).1.cls (md_mt e.2.2.1).1 (md_mt e.2.2.1).1, .initialized (md_mt e.2.2.1).1.cls] : List Jvm.Cond), w ∈ md_Tg)) ∧
    (e.2.2.2.1 / 16 = 2 → ∃ x : MethodName, (md_mt e.2.2.1).1 = ⟨(md_mt e.2.2.1).1.cls, x.name, x.desc⟩ ∧ mm_rcv e.2.2.2.2 x.cls ∧ (∀ w ∈ ([.methodLink (md_mt j).1.cls i x, .sameMethod x.cls (md_mt e.2.2.1).1.cls x.name x.desc, .selects x.cls x (md_mt e.2.2.1).1, .instanceMethod (md_mt e.2.2.1).1, .initialized (md_mt e.2.2.1).1.cls] : List Jvm.Cond), w ∈ md_Tg))
  | .invokestatic i => mm_dc j pc e ∧
    ((e.2.2.2.1 / 16 = 1 ∧ mm_cal e.2.2.1 (e.2.2.2.1 % 16) ∧ (∀ w ∈ ([.methodLink (md_mt j).1.cls i (md_mt e.2.2.1).1, .static (md_mt e.2.2.1).1, .initialized (md_mt e.2.2.1).1.cls] : List Jvm.Cond), w ∈ md_Tg)) ∨
     (e.2.2.2.1 / 16 = 6 ∧ (∀ w ∈ ([.methodLink (md_mt j).1.cls i arraycopyName, .native arraycopyName, .static arraycopyName, .initialized "java/lang/System"] : List Jvm.Cond), w ∈ md_Tg)))
  | .invokespecial i => mm_dc j pc e ∧
    ((e.2.2.2.1 / 16 = 2 ∧ mm_cal e.2.2.1 (e.2.2.2.1 % 16) ∧ (md_mt e.2.2.1).2.2.2.2 = [] ∧ (md_mt e.2.2.1).2.2.2.1 = none ∧ (md_mt e.2.2.1).1.name = "<init>" ∧ (∀ w ∈ ([.instanceMethod (md_mt e.2.2.1).1, .initialized (md_mt e.2.2.1).1.cls] : List Jvm.Cond), w ∈ md_Tg) ∧
       (Jvm.Cond.methodLink (md_mt j).1.cls i (md_mt e.2.2.1).1 ∈ md_Tg ∨ ∃ host, ((md_mt j).1.cls, i, (md_mt e.2.2.1).1, host) ∈ md_nw)) ∨
     (e.2.2.2.1 / 16 = 5 ∧ (∀ w ∈ ([.methodLink (md_mt j).1.cls i Lib.objectInit, .instanceMethod Lib.objectInit, .code Lib.objectInit ⟨#[0xb1]⟩ 1 none] : List Jvm.Cond), w ∈ md_Tg)))
  | _ => mm_dc j pc e
section MS
variable {p : Program} {l : Launch} {e : Env} {R : Room} {s : State} {m : MethodId} {args : Array Value} {below : List Frame} {meth : Method} {c : Code} {xl : Nat → Nat} {D : va_G} {w0 : va_W} {A : Nat → Prop} {sc : Nat × (Nat → Int32)} {j d bT cT : Nat} {Q : State → Prop} {nx r1 r2 r3 pc : Nat} {lo : List (Nat × Value)} {st : List Value} {W0 : mm_W} {b0 c0 : Nat} {F' : mm_F}
theorem mm_next (C : mm_C p l R s m args meth c xl A sc j d) (K : mm_dat) (ins : Instr) (hok : mm_ok j pc (ins, nx, r1, r2, r3)) (h : mm_stepI (md_xa sc) j ins nx r1 r2 r3 pc lo st W0 b0 c0 = some (.inl F')) (hb : bT ≤ R.cells + F'.2.2.2.2.1) (hc : cT ≤ R.slots + F'.2.2.2.2.2) (k : mm_G p l e R s m args below meth c xl D w0 A j bT cT Q F') : mm_G p l e R s m args below meth c xl D w0 A j bT cT Q (pc, lo, st, W0, b0, c0) := by
  cases ins with
  | iconst n => obtain ⟨hd, hn⟩ := hok; exact mi_iconst C hd hn h k
  | bipush n => obtain ⟨hd, hn⟩ := hok; exact mi_bipush C hd hn h k
  | sipush n => obtain ⟨hd, hn⟩ := hok; exact mi_sipush C hd hn h k
  | lconst n => obtain ⟨hd, hn⟩ := hok; exact mi_lconst C hd hn h k
  | aconst_null => obtain ⟨hd, hn⟩ := hok; exact mi_aconst_null C hd hn h k
  | iload i => obtain ⟨hd, hn⟩ := hok; exact mi_iload C hd hn h k
  | iload_n i => obtain ⟨hd, hn⟩ := hok; exact mi_iload_n C hd hn h k
  | lload i => obtain ⟨hd, hn⟩ := hok; exact mi_lload C hd hn h k
  | lload_n i => obtain ⟨hd, hn⟩ := hok; exact mi_lload_n C hd hn h k
  | aload i => obtain ⟨hd, hn⟩ := hok; exact mi_aload C hd hn h k
  | aload_n i => obtain ⟨hd, hn⟩ := hok; exact mi_aload_n C hd hn h k
  | dup => obtain ⟨hd, hn⟩ := hok; exact mi_dup C hd hn h k
  | pop => obtain ⟨hd, hn⟩ := hok; exact mi_pop C hd hn h k
  | dup2 => obtain ⟨hd, hn⟩ := hok; exact mi_dup2 C hd hn h k
  | iadd => obtain ⟨hd, hn⟩ := hok; exact mi_iadd C hd hn h k
  | isub => obtain ⟨hd, hn⟩ := hok; exact mi_isub C hd hn h k
  | imul => obtain ⟨hd, hn⟩ := hok; exact mi_imul C hd hn h k
  | iand => obtain ⟨hd, hn⟩ := hok; exact mi_iand C hd hn h k
  | ior => obtain ⟨hd, hn⟩ := hok; exact mi_ior C hd hn h k
  | ixor => obtain ⟨hd, hn⟩ := hok; exact mi_ixor C hd hn h k
  | ineg => obtain ⟨hd, hn⟩ := hok; exact mi_ineg C hd hn h k
  | ishl => obtain ⟨hd, hn⟩ := hok; exact mi_ishl C hd hn h k
  | ishr => obtain ⟨hd, hn⟩ := hok; exact mi_ishr C hd hn h k
  | iushr => obtain ⟨hd, hn⟩ := hok; exact mi_iushr C hd hn h k
  | land => obtain ⟨hd, hn⟩ := hok; exact mi_land C hd hn h k
  | lor => obtain ⟨hd, hn⟩ := hok; exact mi_lor C hd hn h k
  | lshl => obtain ⟨hd, hn⟩ := hok; exact mi_lshl C hd hn h k
  | lshr => obtain ⟨hd, hn⟩ := hok; exact mi_lshr C hd hn h k
  | lcmp => obtain ⟨hd, hn⟩ := hok; exact mi_lcmp C hd hn h k
  | i2l => obtain ⟨hd, hn⟩ := hok; exact mi_i2l C hd hn h k
  | l2i => obtain ⟨hd, hn⟩ := hok; exact mi_l2i C hd hn h k
  | i2b => obtain ⟨hd, hn⟩ := hok; exact mi_i2b C hd hn h k
  | i2c => obtain ⟨hd, hn⟩ := hok; exact mi_i2c C hd hn h k
  | idiv => obtain ⟨hd, hn⟩ := hok; exact mi_idiv C hd hn h k
  | irem => obtain ⟨hd, hn⟩ := hok; exact mi_irem C hd hn h k
  | iaload => obtain ⟨hd, hn⟩ := hok; exact mi_iaload C K hd hn h k
  | baload => obtain ⟨hd, hn⟩ := hok; exact mi_baload C K hd hn h k
  | laload => obtain ⟨hd, hn⟩ := hok; exact mi_laload C K hd hn h k
  | aaload => obtain ⟨hd, hn⟩ := hok; exact mi_aaload C K hd hn h k
  | iastore => obtain ⟨hd, hn⟩ := hok; exact mi_iastore C K hd hn h k
  | bastore => obtain ⟨hd, hn⟩ := hok; exact mi_bastore C K hd hn h k
  | lastore => obtain ⟨hd, hn⟩ := hok; exact mi_lastore C K hd hn h k
  | aastore => obtain ⟨hd, hn⟩ := hok; exact mi_aastore C K hd hn h k
  | arraylength => obtain ⟨hd, hn⟩ := hok; exact mi_arraylength C hd hn h k
  | istore i => obtain ⟨⟨hd, hn⟩, hi⟩ := hok; exact mi_istore C hd hn hi h k
  | istore_n i => obtain ⟨⟨hd, hn⟩, hi⟩ := hok; exact mi_istore_n C hd hn hi h k
  | lstore i => obtain ⟨⟨hd, hn⟩, hi⟩ := hok; exact mi_lstore C hd hn hi h k
  | lstore_n i => obtain ⟨⟨hd, hn⟩, hi⟩ := hok; exact mi_lstore_n C hd hn hi h k
  | astore i => obtain ⟨⟨hd, hn⟩, hi⟩ := hok; exact mi_astore C hd hn hi h k
  | astore_n i => obtain ⟨⟨hd, hn⟩, hi⟩ := hok; exact mi_astore_n C hd hn hi h k
  | iinc i n => obtain ⟨⟨hd, hn⟩, hi⟩ := hok; exact mi_iinc C hd hn hi h k
  | ifCond cd off => obtain ⟨⟨hd, hn⟩, hi⟩ := hok; exact mi_ifCond C hd hn hi h k
  | if_icmp cd off => obtain ⟨⟨hd, hn⟩, hi⟩ := hok; exact mi_if_icmp C hd hn hi h k
  | if_acmp cd off => obtain ⟨⟨hd, hn⟩, hi⟩ := hok; exact mi_if_acmp C hd hn hi h k
  | goto off => obtain ⟨⟨hd, hn⟩, hi⟩ := hok; exact mi_goto C hd hn hi h k
  | ldc_w i => obtain ⟨⟨hd, hn⟩, hi⟩ := hok; exact mi_ldc_w C hd hn hi h k
  | ldc2_w i => obtain ⟨⟨hd, hn⟩, hi⟩ := hok; exact mi_ldc2_w C hd hn hi h k
  | tableswitch a b u v => exact mi_tableswitch C hok h k
  | lookupswitch a ps => obtain ⟨hd, hp⟩ := hok; exact mi_lookupswitch C hd hp h k
  | ldc i => obtain ⟨⟨hd, hn⟩, h0, h1⟩ := hok; exact mi_ldc C hd hn h0 h1 h k
  | getstatic i => obtain ⟨⟨hd, hn⟩, h0, h1⟩ := hok; exact mi_getstatic C hd hn h0 h1 h k
  | getfield i => obtain ⟨⟨hd, hn⟩, h0, h1⟩ := hok; exact mi_getfield C K hd hn h0 h1 h k
  | putfield i => obtain ⟨⟨hd, hn⟩, ho⟩ := hok; exact mi_putfield C K hd hn ho h k
  | new i =>
    obtain ⟨⟨hd, hn⟩, h0, h1⟩ := hok
    by_cases h3 : r3 = 0
    · exact mi_new C K hd hn h3 (h0 h3) h hb hc k
    · exfalso
      simp only [mm_stepI, if_neg h3] at h
      split at h <;> cases h
  | newarray a => obtain ⟨⟨hd, hn⟩, ho⟩ := hok; exact mi_newarray C K hd hn ho h hb hc k
  | anewarray i => obtain ⟨⟨hd, hn⟩, ho⟩ := hok; exact mi_anewarray C hd hn ho h hb hc k
  | invokespecial i =>
    obtain ⟨⟨hd, hn⟩, ⟨h2, -⟩ | ⟨h5, hws⟩⟩ := hok
    · exfalso
      have h2' : r2 / 16 = 2 := h2
      simp only [mm_stepI, mm_call, h2'] at h
      repeat' split at h
      all_goals cases h
    · exact mi_objInit C hd hn hws h5 h k
  | invokestatic i =>
    obtain ⟨⟨hd, hn⟩, ⟨h1, -⟩ | ⟨h6, hws⟩⟩ := hok
    · exfalso
      have h1' : r2 / 16 = 1 := h1
      simp only [mm_stepI, mm_call, h1'] at h
      repeat' split at h
      all_goals cases h
    · exact mi_copy C K hd hn hws h6 h k
  | invokevirtual i =>
    obtain ⟨⟨hd, hn⟩, -, -, h02, -⟩ := hok
    exfalso
    have h02' : r2 / 16 = 0 ∨ r2 / 16 = 2 := h02
    rcases h02' with h0 | h0 <;>
      (simp only [mm_stepI, mm_call, h0] at h
       repeat' split at h
       all_goals cases h)
  | ireturn =>
    exfalso
    simp only [mm_stepI] at h
    repeat' split at h
    all_goals cases h
  | lreturn =>
    exfalso
    simp only [mm_stepI] at h
    repeat' split at h
    all_goals cases h
  | areturn =>
    exfalso
    simp only [mm_stepI] at h
    repeat' split at h
    all_goals cases h
  | return_ =>
    exfalso
    simp only [mm_stepI] at h
    repeat' split at h
    all_goals cases h
  | _ => cases (show (none : Option mm_T) = some (.inl F') from h)
end MS
end
section
/-- what a step leaves of the room -/
def mm_bd : mm_T → Nat × Nat
  | .inl F => (F.2.2.2.2.1, F.2.2.2.2.2)
  | .inr (.inl o) => (o.2.2.1, o.2.2.2)
  | .inr (.inr q) => (q.2.2.2.2.2.2.2.2.1, q.2.2.2.2.2.2.2.2.2)
theorem mm_call_bd {r1 r2 r3 pc nx : Nat} {lo : List (Nat × Value)} {st : List Value} {W0 : mm_W} {b0 c0 : Nat} {T : mm_T} (h : mm_call r1 r2 r3 pc nx lo st W0 b0 c0 = some T) : mm_bd T = (b0, c0) := by
  unfold mm_call at h
  split at h
  · cases h
  · dsimp only at h
    split at h
    · split at h
      · split at h
        · cases h; rfl
        · cases h
      · cases h
    · split at h
      · split at h
        · cases h; rfl
        · cases h
      · cases h
    · split at h
      · cases h; rfl
      · cases h
    · split at h
      · split at h
        · cases h; rfl
        · cases h
      · cases h
    · split at h
      · split at h
        · obtain ⟨W2, -, h⟩ := Option.map_eq_some_iff.mp h
          cases h; rfl
        · cases h
      · cases h
    · cases h
theorem mm_stepI_bd {xa : mm_Xa} {j : Nat} (ins : Instr) {nx r1 r2 r3 pc : Nat} {lo : List (Nat × Value)} {st : List Value} {W0 : mm_W} {b0 c0 : Nat} {T : mm_T} (h : mm_stepI xa j ins nx r1 r2 r3 pc lo st W0 b0 c0 = some T) : (mm_bd T).1 ≤ b0 ∧ (mm_bd T).2 ≤ c0 := by
  cases ins with
  | invokevirtual i => rw [mm_call_bd h]; exact ⟨Nat.le_refl _, Nat.le_refl _⟩
  | invokestatic i => rw [mm_call_bd h]; exact ⟨Nat.le_refl _, Nat.le_refl _⟩
  | invokespecial i => rw [mm_call_bd h]; exact ⟨Nat.le_refl _, Nat.le_refl _⟩
  | arraylength =>
    simp only [mm_stepI] at h
    split at h
    · obtain ⟨n, -, h⟩ := Option.map_eq_some_iff.mp h
      cases h; exact ⟨Nat.le_refl _, Nat.le_refl _⟩
    · cases h
  | getfield i =>
    simp only [mm_stepI] at h
    split at h
    · split at h
      · split at h
        · obtain ⟨n, -, h⟩ := Option.map_eq_some_iff.mp h
          cases h; exact ⟨Nat.le_refl _, Nat.le_refl _⟩
        · cases h
      · split at h
        · cases h
        · obtain ⟨n, -, h⟩ := Option.map_eq_some_iff.mp h
          cases h; exact ⟨Nat.le_refl _, Nat.le_refl _⟩
    · cases h
  | putfield i =>
    simp only [mm_stepI] at h
    split at h
    · split at h
      · obtain ⟨n, -, h⟩ := Option.map_eq_some_iff.mp h
        cases h; exact ⟨Nat.le_refl _, Nat.le_refl _⟩
      · cases h
    · cases h
  | aastore =>
    simp only [mm_stepI] at h
    split at h
    · split at h
      · obtain ⟨n, -, h⟩ := Option.map_eq_some_iff.mp h
        cases h; exact ⟨Nat.le_refl _, Nat.le_refl _⟩
      · cases h
    · cases h
  | new i =>
    simp only [mm_stepI] at h
    split at h
    · split at h
      · cases h; exact ⟨Nat.sub_le _ _, Nat.sub_le _ _⟩
      · cases h
    · split at h
      · cases h; exact ⟨Nat.sub_le _ _, Nat.sub_le _ _⟩
      · cases h
  | newarray a =>
    simp only [mm_stepI] at h
    split at h
    · split at h
      · cases h; exact ⟨Nat.sub_le _ _, Nat.sub_le _ _⟩
      · cases h
    · cases h
  | anewarray i =>
    simp only [mm_stepI] at h
    split at h
    · split at h
      · cases h; exact ⟨Nat.sub_le _ _, Nat.sub_le _ _⟩
      · cases h
    · cases h
  | _ =>
    first
    | (cases (show (none : Option mm_T) = some T from h); done)
    | (simp only [mm_stepI] at h
       (repeat' split at h) <;> first | (cases h; done) | (cases h; exact ⟨Nat.le_refl _, Nat.le_refl _⟩))
theorem mm_step_bd {xa : mm_Xa} {j : Nat} {F : mm_F} {T : mm_T} (h : mm_step xa j F = some T) : (mm_bd T).1 ≤ F.2.2.2.2.1 ∧ (mm_bd T).2 ≤ F.2.2.2.2.2 := by
  unfold mm_step at h
  split at h
  · cases h
  · exact mm_stepI_bd _ h
theorem mm_ex_bd {xa : mm_Xa} : ∀ (f d j : Nat) (F : mm_F) (o : mm_O), mm_ex xa f d j F = some o → o.2.2.1 ≤ F.2.2.2.2.1 ∧ o.2.2.2 ≤ F.2.2.2.2.2
  | 0, _, _, _, _, h => by cases h
  | f + 1, d, j, F, o, h => by
    unfold mm_ex at h
    split at h
    · cases h
    · rename_i F' hs
      have h1 := mm_step_bd hs
      have h2 := mm_ex_bd f d j F' o h
      exact ⟨Nat.le_trans h2.1 h1.1, Nat.le_trans h2.2 h1.2⟩
    · rename_i o' hs
      have h1 := mm_step_bd hs
      cases h
      exact h1
    · rename_i j' as nx fl G hs
      have h1 := mm_step_bd hs
      split at h
      · cases h
      · rename_i d'
        split at h
        · cases h
        · split at h
          · cases h
          · rename_i v W2 b2 c2 hc
            have h2 := mm_ex_bd f d' j' _ _ hc
            have h3 := mm_ex_bd f (d' + 1) j _ _ h
            exact ⟨Nat.le_trans h3.1 (Nat.le_trans h2.1 h1.1), Nat.le_trans h3.2 (Nat.le_trans h2.2 h1.2)⟩
          · rename_i E W2 b2 c2 hc
            have h2 := mm_ex_bd f d' j' _ _ hc
            split at h
            · cases h
            · split at h
              · cases h
                exact ⟨Nat.le_trans h2.1 h1.1, Nat.le_trans h2.2 h1.2⟩
              · split at h
                · cases h
                · have h3 := mm_ex_bd f (d' + 1) j _ _ h
                  exact ⟨Nat.le_trans h3.1 (Nat.le_trans h2.1 h1.1), Nat.le_trans h3.2 (Nat.le_trans h2.2 h1.2)⟩
end
section
/-! ===== ends, calls, catches; then whole runs ===== -/
def mm_hok (j pc n h : Nat) : Prop := ∃ (pre : List ExceptionTableEntry) (x : ExceptionTableEntry) (suf : List ExceptionTableEntry) (name : String),
  Jvm.tableOf (md_mt j).2.2.2.2 = pre ++ x :: suf ∧ covers x pc = true ∧ x.catchType ≠ 0 ∧ x.handlerPc = h ∧ Jvm.Cond.classLink (md_mt j).1.cls x.catchType name ∈ md_Tg ∧ Jvm.Cond.castable (md_en n) name ∈ md_gw ∧
  ∀ z ∈ pre, covers z pc = false ∨ (z.catchType ≠ 0 ∧ ∃ nm, Jvm.Cond.classLink (md_mt j).1.cls z.catchType nm ∈ md_Tg ∧ (md_en n, nm) ∈ md_nc)
section MT
variable {p : Program} {l : Launch} {e : Env} {R : Room} {s : State} {m : MethodId} {args : Array Value} {below : List Frame} {meth : Method} {c : Code} {xl : Nat → Nat} {D : va_G} {w0 : va_W} {A : Nat → Prop} {sc : Nat × (Nat → Int32)} {j d bT cT : Nat} {Q : State → Prop} {nx r1 r2 r3 pc : Nat} {lo : List (Nat × Value)} {st : List Value} {W0 : mm_W} {b0 c0 : Nat} {F' : mm_F}
variable {G : mm_F} {o : mm_O} {sz mc ms : Nat}
theorem mm_gw_use (C : mm_C p l R s m args meth c xl A sc j d) (K : mm_dat) {w : Jvm.Cond} (h : w ∈ md_gw) : w.before args s = true := va_Nw.use (K.2.2.2.2.2.2.1 w h).1 (C.2.2.2.2.2.1.2.2.2.2.2.1 w h)
theorem mm_catch (C : mm_C p l R s m args meth c xl A sc j d) (K : mm_dat) {n h : Nat} (hok : mm_hok j pc n h) (k : mm_G p l e R s m args below meth c xl D w0 A j bT cT Q (h, lo, [.retAddr 0], W0, b0, c0)) : mm_Gx p l e R s m args below meth c xl D w0 A j bT cT Q n (pc, lo, st, W0, b0, c0) := by
  intro ws tys H locs cells slots ls st' q ce hR hce hcv hcl
  obtain ⟨hst, hlo, hR⟩ := hR
  obtain ⟨pre, x, suf, name, h1, h2, h3, rfl, h5, h6, h7⟩ := hok
  refine vx_catch (name := name) C.2.2.2.1 pre x suf (C.2.2.2.2.2.2.2.2.2.2.1.trans h1) (fun z hz => ?_) h2 h3 (C.2.2.2.2.1 _ h5) (mm_gw_use C K h6) hce hcv hcl (k _ _ _ _ _ _ _ _ ⟨mm_l.cons (Or.inr ⟨q, rfl⟩) mm_l.nil, hlo, hR⟩)
  rcases h7 z hz with h8 | ⟨h8, nm, h9, h10⟩
  · exact Or.inl h8
  · exact Or.inr ⟨h8, nm, C.2.2.2.2.1 _ h9, C.2.2.2.2.2.1.2.2.2.2.2.2.2.2.1 _ h10⟩
theorem mm_uncaught (C : mm_C p l R s m args meth c xl A sc j d) (hh : (md_mt j).2.2.2.2 = []) (hA : A = va_A w0 sz) {n : Nat} (ho : o.1 = .inr n) (hW : o.2.1 = F'.2.2.2.1) (hb : o.2.2.1 = F'.2.2.2.2.1) (hc : o.2.2.2 = F'.2.2.2.2.2) (hmc : mc + o.2.2.1 = bT) (hms : ms + o.2.2.2 = cT) :
    mm_Gx p l e R s m args below meth c xl D w0 A j bT cT (vx_MQ below (mm_Qr xl D w0 sz o) (mm_Qx xl D w0 sz o) args s mc ms A) n F' := by
  subst hA
  intro ws tys H locs cells slots ls st' q ce hR hce hcv hcl
  obtain ⟨hst, hlo, hw, hK, hP, hD, hS, hbb, hcc⟩ := hR
  have ht : ∀ x ∈ c.exceptionTable.toList, covers x F'.1 = false := by
    intro x hx
    rw [C.2.2.2.2.2.2.2.2.2.2.1, hh] at hx
    cases hx
  refine vx_out ht C.2.2.2.2.2.2.2.1 hce hcv hcl (fun t ht hal => ⟨⟨n, ws, tys, ho, rfl, ?_, hK.moved hal, by rw [ht]; exact hP, hD⟩, hS.F ht⟩) hS.2.2 (by omega) (by omega)
  rw [hW]
  exact hw
set_option maxRecDepth 100000 in
theorem mm_fin (C : mm_C p l R s m args meth c xl A sc j d) (K : mm_dat) (ins : Instr) (hok : mm_ok j pc (ins, nx, r1, r2, r3)) (h : mm_stepI (md_xa sc) j ins nx r1 r2 r3 pc lo st W0 b0 c0 = some (.inr (.inl o))) (hA : A = va_A w0 sz) (hmc : mc + o.2.2.1 = bT) (hms : ms + o.2.2.2 = cT) (hRc : mc ≤ R.cells) (hRs : ms ≤ R.slots) :
    mm_G p l e R s m args below meth c xl D w0 A j bT cT (vx_MQ below (mm_Qr xl D w0 sz o) (mm_Qx xl D w0 sz o) args s mc ms A) (pc, lo, st, W0, b0, c0) := by
  subst hA
  have hlocks : meth.locks = false := C.2.2.2.2.2.2.2.1
  cases ins with
  | ireturn =>
    obtain ⟨hd, hn⟩ := hok
    simp only [mm_stepI] at h
    split at h
    · split at h
      · rename_i ty hty
        split at h
        · rename_i hnar
          cases h
          intro ws tys H locs cells slots ls st' hR
          obtain ⟨hst, hlo, hw, hK, hP, hD, hS, hbb, hcc⟩ := hR
          have hst0 := mm_l.un hst
          clear hst
          obtain ⟨_, _, rfl, hv, hst⟩ := hst0
          cases mm_v.ri hv
          cases mm_l.un0 hst
          dsimp only at hmc hms hbb hcc
          obtain rfl : cells = mc := by omega
          obtain rfl : slots = ms := by omega
          exact vx_ret (W.zret C.1 C.2.1 (C.2.2.2.2.2.2.2.2.1.trans hty) hnar (fun t ht hW => ⟨⟨_, _, ws, tys, rfl, rfl, ⟨_, rfl, mm_v.i⟩, hw, hK.moved hW.alike, by rw [ht]; exact hP, hD⟩, hS.F ht⟩) hS.2.2 hd)
        · cases h
      · cases h
    · cases h
  | lreturn =>
    obtain ⟨hd, hn⟩ := hok
    simp only [mm_stepI] at h
    split at h
    · split at h
      · rename_i hty
        cases h
        intro ws tys H locs cells slots ls st' hR
        obtain ⟨hst, hlo, hw, hK, hP, hD, hS, hbb, hcc⟩ := hR
        have hst0 := mm_l.un hst
        clear hst
        obtain ⟨_, _, rfl, hv, hst⟩ := hst0
        cases mm_v.rj hv
        cases mm_l.un0 hst
        dsimp only at hmc hms hbb hcc
        obtain rfl : cells = mc := by omega
        obtain rfl : slots = ms := by omega
        exact vx_ret (W.lret C.1 C.2.1 (C.2.2.2.2.2.2.2.2.1.trans hty) (fun t ht hW => ⟨⟨_, _, ws, tys, rfl, rfl, ⟨_, rfl, mm_v.j⟩, hw, hK.moved hW.alike, by rw [ht]; exact hP, hD⟩, hS.F ht⟩) hS.2.2 hd)
      · cases h
    · cases h
  | areturn =>
    obtain ⟨hd, hn⟩ := hok
    simp only [mm_stepI] at h
    split at h
    · split at h
      · rename_i nm hty
        cases h
        intro ws tys H locs cells slots ls st' hR
        obtain ⟨hst, hlo, hw, hK, hP, hD, hS, hbb, hcc⟩ := hR
        have hst0 := mm_l.un hst
        clear hst
        obtain ⟨_, _, rfl, hv, hst⟩ := hst0
        obtain ⟨a, ha, rfl⟩ := mm_v.rr hv
        cases mm_l.un0 hst
        dsimp only at hmc hms hbb hcc
        obtain rfl : cells = mc := by omega
        obtain rfl : slots = ms := by omega
        exact vx_ret (W.aret C.1 C.2.1 (C.2.2.2.2.2.2.2.2.1.trans hty) (Or.inl ⟨_, rfl⟩) (Or.inr ⟨_, rfl⟩) (fun t ht hW => ⟨⟨_, _, ws, tys, rfl, rfl, ⟨_, rfl, hv⟩, hw, hK.moved hW.alike, by rw [ht]; exact hP, hD⟩, hS.F ht⟩) hS.2.2 hd)
      · rename_i nm hty
        cases h
        intro ws tys H locs cells slots ls st' hR
        obtain ⟨hst, hlo, hw, hK, hP, hD, hS, hbb, hcc⟩ := hR
        have hst0 := mm_l.un hst
        clear hst
        obtain ⟨_, _, rfl, hv, hst⟩ := hst0
        obtain ⟨a, ha, rfl⟩ := mm_v.rr hv
        cases mm_l.un0 hst
        dsimp only at hmc hms hbb hcc
        obtain rfl : cells = mc := by omega
        obtain rfl : slots = ms := by omega
        exact vx_ret (W.aret C.1 C.2.1 (C.2.2.2.2.2.2.2.2.1.trans hty) (Or.inr ⟨_, rfl⟩) (Or.inr ⟨_, rfl⟩) (fun t ht hW => ⟨⟨_, _, ws, tys, rfl, rfl, ⟨_, rfl, hv⟩, hw, hK.moved hW.alike, by rw [ht]; exact hP, hD⟩, hS.F ht⟩) hS.2.2 hd)
      · cases h
    · cases h
  | return_ =>
    obtain ⟨hd, hn⟩ := hok
    simp only [mm_stepI] at h
    split at h
    · split at h
      · rename_i hty
        cases h
        intro ws tys H locs cells slots ls st' hR
        obtain ⟨hst, hlo, hw, hK, hP, hD, hS, hbb, hcc⟩ := hR
        cases mm_l.un0 hst
        dsimp only at hmc hms hbb hcc
        obtain rfl : cells = mc := by omega
        obtain rfl : slots = ms := by omega
        exact vx_ret (W.vret C.1 C.2.1 (C.2.2.2.2.2.2.2.2.1.trans hty) (fun t ht hW => ⟨⟨_, _, ws, tys, rfl, rfl, rfl, hw, hK.moved hW.alike, by rw [ht]; exact hP, hD⟩, hS.F ht⟩) hS.2.2 hd)
      · cases h
    · cases h
  | new i =>
    obtain ⟨⟨hd, hn⟩, h0, h1⟩ := hok
    by_cases h3 : r3 = 0
    · exfalso
      simp only [mm_stepI, if_pos h3] at h
      split at h <;> cases h
    · simp only [mm_stepI, if_neg h3] at h
      split at h
      · rename_i hr
        obtain ⟨hr1, hr2, hr3⟩ := hr
        cases h
        intro ws tys H locs cells slots ls st' hR
        obtain ⟨hst, ⟨lv, hls, hlo⟩, hw, hK, hP, hD, hS, hbb, hcc⟩ := hR
        obtain ⟨text, names, is, ic, q, d3, d4, d6, d9, hf1, hf2, hat, hot, hsr, hnl, hh⟩ := h1 h3
        have hx : ∀ w ∈ Jvm.Cond.classLink (md_mt j).1.cls i (md_en r1) :: Jvm.Cond.initialized (md_en r1) :: vx_atS (md_mt j).1.cls ic (md_en r1) names, w.before args s = true := fun w hw => by
          rcases hat w hw with z | z
          · exact C.2.2.2.2.1 w z
          · exact mm_gw_use C K z
        have hcats := hst.cats
        dsimp only at hmc hms hbb hcc hcats
        have g1 := C.2.2.2.2.2.2.2.2.2.2.2.1
        have g2 := C.2.2.2.2.2.2.2.2.2.2.2.2.1
        refine vx_throwS (text := text) (names := names) (sa := xl q) C.1 C.2.1 C.2.2.2.2.2.2.2.2.2.2.2.2.2 C.2.2.2.1 hf1 hf2 (hx _ List.mem_cons_self) (hx _ (List.mem_cons_of_mem _ List.mem_cons_self)) (C.2.2.2.2.2.1.2.2.2.2.1 _ hsr) (fun w hw => hx w (List.mem_cons_of_mem _ (List.mem_cons_of_mem _ hw))) hot (C.2.2.2.2.2.1.2.2.2.2.2.2.2.2.2.1) (C.2.2.2.2.2.1.2.2.2.2.2.2.2.2.2.2.1) hS (hls.1.trans C.2.2.1.symm) hd d3 d4 d6 d9 (fun x hx => by rw [C.2.2.2.2.2.2.2.2.2.2.1, hh] at hx; cases hx) (by omega) (by omega) (by omega) (by omega) hlocks (fun t hal hsz hq => ?_) hS.2.2 (by omega) (by omega)
        refine ⟨⟨r1, ws, tys, rfl, rfl, hw, hK.moved hal, hP.kept (fun k z hz => hq _ (hP k z hz).lt), hD⟩, Nat.le_trans hS.1 hsz, fun z z1 z2 => ?_⟩
        rw [hq z (Nat.lt_of_lt_of_le z1 hS.1)]
        exact hS.2.1 z z1 z2
      · cases h
  | invokevirtual i =>
    exfalso
    simp only [mm_stepI, mm_call] at h
    (repeat' split at h) <;> first | (cases h; done) | (obtain ⟨_, _, h⟩ := Option.map_eq_some_iff.mp h; cases h)
  | invokestatic i =>
    exfalso
    simp only [mm_stepI, mm_call] at h
    (repeat' split at h) <;> first | (cases h; done) | (obtain ⟨_, _, h⟩ := Option.map_eq_some_iff.mp h; cases h)
  | invokespecial i =>
    exfalso
    simp only [mm_stepI, mm_call] at h
    (repeat' split at h) <;> first | (cases h; done) | (obtain ⟨_, _, h⟩ := Option.map_eq_some_iff.mp h; cases h)
  | _ =>
    exfalso
    first
    | (cases (show (none : Option mm_T) = some (.inr (.inl o)) from h); done)
    | (simp only [mm_stepI] at h
       (repeat' split at h) <;> first | (cases h; done) | (obtain ⟨_, _, h⟩ := Option.map_eq_some_iff.mp h; cases h))
theorem mm_calls (C : mm_C p l R s m args meth c xl A sc j (d + 1)) (K : mm_dat) (ins : Instr) (hok : mm_ok j pc (ins, nx, r1, r2, r3))
    {nx2 : Nat} {as : List Value} {fl : Bool} {j2 : Nat} (h : mm_stepI (md_xa sc) j ins nx r1 r2 r3 pc lo st W0 b0 c0 = some (.inr (.inr (j2, as, nx2, fl, G))))
    (hM : mm_M l sc d j2 as G.2.2.2.1 G.2.2.2.2.1 G.2.2.2.2.2 o) (hfl : fl = false → ∃ v, o.1 = .inl v) (hb : o.2.2.1 ≤ G.2.2.2.2.1) (hc : o.2.2.2 ≤ G.2.2.2.2.2) (hbR : bT ≤ R.cells + o.2.2.1) (hcR : cT ≤ R.slots + o.2.2.2)
    (k : ∀ v, o.1 = .inl v → mm_G p l e R s m args below meth c xl D w0 A j bT cT Q (nx2, G.2.1, v.toList ++ G.2.2.1, o.2.1, o.2.2.1, o.2.2.2))
    (kx : ∀ n, o.1 = .inr n → mm_Gx p l e R s m args below meth c xl D w0 A j bT cT Q n (G.1, G.2.1, G.2.2.1, o.2.1, o.2.2.1, o.2.2.2)) :
    mm_G p l e R s m args below meth c xl D w0 A j bT cT Q (pc, lo, st, W0, b0, c0) := by
  cases ins with
  | invokevirtual i =>
    obtain ⟨⟨hd, hn⟩, h1, h2, h3, h4, h5⟩ := hok
    exact mi_callV C K hd hn h1 h2 (fun z => by
      have z2 : r2 / 16 = 1 := z
      have h32 : r2 / 16 = 0 ∨ r2 / 16 = 2 := h3
      omega) h4 h5 h hM hfl hb hc hbR hcR k kx
  | invokestatic i =>
    obtain ⟨⟨hd, hn⟩, ⟨h1, h2, h3⟩ | ⟨h1, -⟩⟩ := hok
    · exact mi_callS C K hd hn h1 h2 h3 h hM hb hc hbR hcR k kx
    · exfalso
      have h1' : r2 / 16 = 6 := h1
      simp only [mm_stepI, mm_call, h1'] at h
      (repeat' split at h) <;> first | (cases h; done) | (obtain ⟨_, _, h⟩ := Option.map_eq_some_iff.mp h; cases h)
  | invokespecial i =>
    obtain ⟨⟨hd, hn⟩, ⟨h1, h2, h3, h4, h5, h6, h7⟩ | ⟨h1, -⟩⟩ := hok
    · exact mi_callI C K hd hn h1 h2 h3 h4 h5 h6 h7 h hM hfl hb hc hbR hcR k kx
    · exfalso
      have h1' : r2 / 16 = 5 := h1
      simp only [mm_stepI, mm_call, h1'] at h
      (repeat' split at h) <;> first | (cases h; done) | (obtain ⟨_, _, h⟩ := Option.map_eq_some_iff.mp h; cases h)
  | _ =>
    exfalso
    first
    | (cases (show (none : Option mm_T) = some (.inr (.inr (j2, as, nx2, fl, G))) from h); done)
    | (simp only [mm_stepI] at h
       (repeat' split at h) <;> first | (cases h; done) | (obtain ⟨_, _, h⟩ := Option.map_eq_some_iff.mp h; cases h))
end MT
end
section
/-- what the program's listing is, by program -/
def mm_prog : Prop := mm_dat ∧ (∀ j pc e, md_cd j pc = some e → mm_ok j pc e) ∧ (∀ j, plainName (md_mt j).1.cls = true) ∧ (∀ j pc n h, md_hd j pc n = some h → mm_hok j pc n h)
def mm_S (l : Launch) (sc : Nat × (Nat → Int32)) (f : Nat) : Prop :=
  ∀ (p : Program) (e : Env) (R : Room) (s : State) (m : MethodId) (args : Array Value) (below : List Frame) (meth : Method) (c : Code) (xl : Nat → Nat) (D : va_G) (w0 : va_W) (A : Nat → Prop) (j d bT cT : Nat) (Q : State → Prop) (F : mm_F) (o : mm_O),
    mm_C p l R s m args meth c xl A sc j d → mm_ex (md_xa sc) f d j F = some o → bT ≤ R.cells + o.2.2.1 → cT ≤ R.slots + o.2.2.2 →
    (∀ F' : mm_F, mm_step (md_xa sc) j F' = some (.inr (.inl o)) → mm_G p l e R s m args below meth c xl D w0 A j bT cT Q F') →
    (∀ (n : Nat) (F' : mm_F), o = (.inr n, F'.2.2.2.1, F'.2.2.2.2.1, F'.2.2.2.2.2) → (md_mt j).2.2.2.2 = [] → mm_Gx p l e R s m args below meth c xl D w0 A j bT cT Q n F') →
    mm_G p l e R s m args below meth c xl D w0 A j bT cT Q F
theorem mm_slots : ∀ (vs : List Value), (lg_sl vs).length = (vs.map fun v => v.category).sum
  | [] => rfl
  | v :: vs => by
    have ih := mm_slots vs
    unfold lg_sl at ih ⊢
    rw [List.flatMap_cons, List.length_append, ih, List.map_cons, List.sum_cons]
    rcases lv_cat v with h | h <;> simp [h]
theorem mm_fin0 {p : Program} {l : Launch} {e : Env} {R : Room} {s : State} {m : MethodId} {args : Array Value} {below : List Frame} {meth : Method} {c : Code} {xl : Nat → Nat} {D : va_G} {w0 : va_W} {A : Nat → Prop} {sc : Nat × (Nat → Int32)} {j d bT cT sz mc ms : Nat} {o : mm_O} (P : mm_prog) (C : mm_C p l R s m args meth c xl A sc j d) (F' : mm_F) (h : mm_step (md_xa sc) j F' = some (.inr (.inl o))) (hA : A = va_A w0 sz) (hmc : mc + o.2.2.1 = bT) (hms : ms + o.2.2.2 = cT) (hRc : mc ≤ R.cells) (hRs : ms ≤ R.slots) :
    mm_G p l e R s m args below meth c xl D w0 A j bT cT (vx_MQ below (mm_Qr xl D w0 sz o) (mm_Qx xl D w0 sz o) args s mc ms A) F' := by
  unfold mm_step at h
  split at h
  · cases h
  · rename_i en hen
    obtain ⟨pc, lo, st, W0, b0, c0⟩ := F'
    obtain ⟨ins, nx, r1, r2, r3⟩ := en
    exact mm_fin C P.1 ins (P.2.1 _ _ _ hen) h hA hmc hms hRc hRs
theorem mm_meth {l : Launch} {sc : Nat × (Nat → Int32)} {f d j : Nat} {as : List Value} {W0 : mm_W} {b0 c0 : Nat} {o : mm_O} (P : mm_prog) (hl : l.stackTraces = false) (hS : mm_S l sc f) (h : mm_ex (md_xa sc) f d j (0, lv_args 0 as, [], W0, b0, c0) = some o) (hlen : ¬ (md_mt j).2.2.1 < (as.map fun v => v.category).sum) : mm_M l sc d j as W0 b0 c0 o := by
  intro xl D ws tys as' sz has hw
  have hbd := mm_ex_bd _ _ _ _ _ h
  dsimp only at hbd
  have key : ∀ (p : Program) (e : Env) (s : State) (m : MethodId) (args : Array Value) (below : List Frame) (meth : Method) (c : Code) (s₁ : State), BodyLoose p l (md_mt j).1 (headSpec (mm_ws j) (mm_rm d (b0 - o.2.2.1) (c0 - o.2.2.2))) (md_mt j).2.1 (md_mt j).2.2.1 (md_mt j).2.2.2.1 e s m args below meth c s₁ → c.maxLocals = (md_mt j).2.2.1 → c.exceptionTable.toList = Jvm.tableOf (md_mt j).2.2.2.2 → va_Pc as' (mm_Pc xl D sc ws tys sz) args s →
      W p l e (mm_rm d (b0 - o.2.2.1) (c0 - o.2.2.2)) s m args below meth c s.heap [] 0 0 (vx_MQ below (mm_Qr xl D ws sz o) (mm_Qx xl D ws sz o) args s (b0 - o.2.2.1) (c0 - o.2.2.2) (va_A ws sz)) (entryFrame m args (md_mt j).2.2.1) := by
    intro p e s m args below meth c s₁ B hml htab hv
    obtain ⟨rfl, hsz, hK, hP, hD0, hX⟩ := hv
    have hts := atoms_spec (ws := mm_ws j) B.pre
    have C : mm_C p l (mm_rm d (b0 - o.2.2.1) (c0 - o.2.2.2)) s m as'.toArray meth c xl (va_A ws sz) sc j d :=
      ⟨B.exec, B.bytes, hml, findClass_of_methodNamed B.named, fun w hw => hts w (List.mem_cons_of_mem _ hw), hX, fun q hq => Or.inr (by rw [← hsz]; exact hq), B.notSynchronized, B.returns, (name_of_methodNamed B.named B.method).1, htab, Nat.le_refl _, Nat.le_refl _, hl⟩
    have hlen' : (lg_sl as').length ≤ (md_mt j).2.2.1 := by
      rw [mm_slots, has.cats]
      omega
    have hlv := lv_entry as' hlen'
    rw [lg_entry_eq]
    generalize (lg_sl as' ++ List.replicate ((md_mt j).2.2.1 - (lg_sl as').length) Slot.unset).toArray = ls at hlv ⊢
    have hG := hS p e (mm_rm d (b0 - o.2.2.1) (c0 - o.2.2.2)) s m as'.toArray below meth c xl D ws (va_A ws sz) j d b0 c0 (vx_MQ below (mm_Qr xl D ws sz o) (mm_Qx xl D ws sz o) as'.toArray s (b0 - o.2.2.1) (c0 - o.2.2.2) (va_A ws sz)) _ o C h (by show b0 ≤ b0 - o.2.2.1 + o.2.2.1; omega) (by show c0 ≤ c0 - o.2.2.2 + o.2.2.2; omega)
      (fun F' hF => mm_fin0 P C F' hF rfl (by omega) (by omega) (Nat.le_refl _) (Nat.le_refl _))
      (fun n F' ho hh => mm_uncaught C hh rfl (by rw [ho]) (by rw [ho]) (by rw [ho]) (by rw [ho]) (by omega) (by omega))
    exact hG ws tys s.heap [] 0 0 ls [] ⟨mm_l.nil, ⟨_, hlv, mm_lo.args 0 has⟩, ⟨hw.1, hw.2.1, mm_le.rf⟩, hK, hP, hD0.self, va_S.rf, Nat.zero_add _, Nat.zero_add _⟩
  by_cases hh : (md_mt j).2.2.2.2 = []
  · refine vx_ofW (cc := (md_mt j).2.1) (maxL := (md_mt j).2.2.1) (ret := (md_mt j).2.2.2.1) (P.2.2.1 j) (mm_ws0 hh) ?_
    intro p e s m args below meth c s₁ B hml htab hv
    refine key p e s m args below meth c s₁ B hml ?_ hv
    rw [hh]
    exact List.eq_nil_iff_forall_not_mem.mpr fun x hx => htab x hx
  · refine vx_ofWH (cc := (md_mt j).2.1) (maxL := (md_mt j).2.2.1) (ret := (md_mt j).2.2.2.1) (hh := (md_mt j).2.2.2.2) (P.2.2.1 j) (mm_ws1 hh) ?_
    intro p e s m args below meth c s₁ B hml hv
    refine key p e s m args below meth c s₁ B hml ?_ hv
    have hts := atoms_spec (ws := mm_ws j) B.pre
    exact vx_table (x := (md_mt j).1) B (hts _ (by rw [mm_ws1 hh]; exact List.mem_cons_self))
theorem mm_sim {l : Launch} {sc : Nat × (Nat → Int32)} (P : mm_prog) (hl : l.stackTraces = false) : ∀ f, mm_S l sc f
  | 0 => fun _ _ _ _ _ _ _ _ _ _ _ _ _ _ _ _ _ _ _ _ _ h => by cases h
  | f + 1 => by
    have IH := mm_sim (sc := sc) P hl f
    intro p e R s m args below meth c xl D w0 A j d bT cT Q F o C h hb hc hterm hthrow
    obtain ⟨pc, lo, st, W0, b0, c0⟩ := F
    have h0 := h
    unfold mm_ex at h
    split at h
    · cases h
    · rename_i F' hs
      have h1 := mm_ex_bd _ _ _ _ _ h
      have k := IH p e R s m args below meth c xl D w0 A j d bT cT Q F' o C h hb hc hterm hthrow
      unfold mm_step at hs
      split at hs
      · cases hs
      · rename_i en hen
        obtain ⟨ins, nx, r1, r2, r3⟩ := en
        exact mm_next C P.1 ins (P.2.1 _ _ _ hen) hs (by omega) (by omega) k
    · rename_i o' hs
      cases h
      exact hterm _ hs
    · rename_i j' as nx fl G hs
      split at h
      · cases h
      · rename_i d'
        split at h
        · cases h
        · rename_i hlen
          have hsb := mm_step_bd hs
          split at h
          · cases h
          · rename_i v W2 b2 c2 hcall
            have hM := mm_meth P hl IH hcall hlen
            have h2 := mm_ex_bd _ _ _ _ _ hcall
            have h3 := mm_ex_bd _ _ _ _ _ h
            have k := IH p e R s m args below meth c xl D w0 A j (d' + 1) bT cT Q _ o C h hb hc hterm hthrow
            unfold mm_step at hs
            split at hs
            · cases hs
            · rename_i en hen
              obtain ⟨ins, nx0, r1, r2, r3⟩ := en
              refine mm_calls C P.1 ins (P.2.1 _ _ _ hen) hs hM (fun _ => ⟨v, rfl⟩) h2.1 h2.2 (Nat.le_trans hb (Nat.add_le_add_left h3.1 _)) (Nat.le_trans hc (Nat.add_le_add_left h3.2 _)) (fun v1 hv1 => ?_) (fun n hn => by cases hn)
              cases hv1
              exact k
          · rename_i E W2 b2 c2 hcall
            have hM := mm_meth P hl IH hcall hlen
            have h2 := mm_ex_bd _ _ _ _ _ hcall
            split at h
            · cases h
            · rename_i hfl
              unfold mm_step at hs
              split at hs
              · cases hs
              · rename_i en hen
                obtain ⟨ins, nx0, r1, r2, r3⟩ := en
                split at h
                · rename_i hh
                  cases h
                  refine mm_calls C P.1 ins (P.2.1 _ _ _ hen) hs hM (fun z => absurd z hfl) h2.1 h2.2 hb hc (fun v1 hv1 => by cases hv1) (fun n hn => ?_)
                  cases hn
                  exact hthrow E (G.1, G.2.1, G.2.2.1, W2, b2, c2) rfl hh
                · split at h
                  · cases h
                  · rename_i hp hhd
                    have h3 := mm_ex_bd _ _ _ _ _ h
                    have k := IH p e R s m args below meth c xl D w0 A j (d' + 1) bT cT Q _ o C h hb hc hterm hthrow
                    refine mm_calls C P.1 ins (P.2.1 _ _ _ hen) hs hM (fun z => absurd z hfl) h2.1 h2.2 (Nat.le_trans hb (Nat.add_le_add_left h3.1 _)) (Nat.le_trans hc (Nat.add_le_add_left h3.2 _)) (fun v1 hv1 => by cases hv1) (fun n hn => ?_)
                    cases hn
                    exact mm_catch C P.1 (P.2.2.2 _ _ _ _ hhd) k
end
