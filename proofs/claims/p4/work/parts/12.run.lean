/-! ===== ends, calls, catches; then whole runs ===== -/
def mm_hok (j pc n h : Nat) : Prop := ∃ (pre : List ExceptionTableEntry) (x : ExceptionTableEntry) (suf : List ExceptionTableEntry) (name : String),
  Jvm.tableOf (md_mt j).2.2.2.2 = pre ++ x :: suf ∧ covers x pc = true ∧ x.catchType ≠ 0 ∧ x.handlerPc = h ∧ Jvm.Cond.classLink (md_mt j).1.cls x.catchType name ∈ md_Tg ∧ Jvm.Cond.castable (md_en n) name ∈ md_gw ∧
  ∀ z ∈ pre, covers z pc = false ∨ (z.catchType ≠ 0 ∧ ∃ nm, Jvm.Cond.classLink (md_mt j).1.cls z.catchType nm ∈ md_Tg ∧ (md_en n, nm) ∈ md_nc)
section MT
variable {p : Program} {l : Launch} {e : Env} {R : Room} {s : State} {m : MethodId} {args : Array Value} {below : List Frame} {meth : Method} {c : Code} {xl : Nat → Nat} {D : va_G} {w0 : va_W} {A : Nat → Prop} {sc : Nat × (Nat → Int32)} {j d bT cT : Nat} {Q : State → Prop} {nx r1 r2 r3 pc : Nat} {lo : List (Nat × Value)} {st : List Value} {W0 : mm_W} {b0 c0 : Nat} {F' : mm_F}
variable {G : mm_F} {o : mm_O} {sz mc ms : Nat}
theorem mm_gw_use (C : mm_C p l R s m args meth c xl A sc j d) (K : mm_dat) {w : Jvm.Cond} (h : w ∈ md_gw) : w.before args s = true := va_Nw.use (K.2.2.2.2.2.2.1 w h).1 (C.2.2.2.2.2.1.2.2.2.2.2.1 w h)
theorem mm_catch (C : mm_C p l R s m args meth c xl A sc j d) (K : mm_dat) {n h : Nat} (hok : mm_hok j pc n h) (k : mm_G p l e R s m args below meth c xl D w0 A j bT cT Q (h, lo, [.retAddr 0], W0, b0, c0)) : mm_Gx p l e R s m args below meth c xl D w0 A j bT cT Q n (pc, lo, st, W0, b0, c0) := by
  intro ws tys H locs cells slots ls st' q ce hR hce hcv hcl
  obtain ⟨hst, hlo, hR⟩ := hR
  obtain ⟨pre, x, suf, name, h1, h2, h3, rfl, h5, h6, h7⟩ := hok
  refine vx_catch (name := name) C.2.2.2.1 pre x suf (C.2.2.2.2.2.2.2.2.2.2.1.trans h1) (fun z hz => ?_) h2 h3 (C.2.2.2.2.1 _ h5) (mm_gw_use C K h6) hce hcv hcl (k _ _ _ _ _ _ _ _ ⟨mm_l.cons (Or.inr ⟨q, rfl⟩) mm_l.nil, hlo, hR⟩)
  rcases h7 z hz with h8 | ⟨h8, nm, h9, h10⟩
  · exact Or.inl h8
  · exact Or.inr ⟨h8, nm, C.2.2.2.2.1 _ h9, C.2.2.2.2.2.1.2.2.2.2.2.2.2.2.1 _ h10⟩
theorem mm_uncaught (C : mm_C p l R s m args meth c xl A sc j d) (hh : (md_mt j).2.2.2.2 = []) (hA : A = va_A w0 sz) {n : Nat} (ho : o.1 = .inr n) (hW : o.2.1 = F'.2.2.2.1) (hb : o.2.2.1 = F'.2.2.2.2.1) (hc : o.2.2.2 = F'.2.2.2.2.2) (hmc : mc + o.2.2.1 = bT) (hms : ms + o.2.2.2 = cT) :
    mm_Gx p l e R s m args below meth c xl D w0 A j bT cT (vx_MQ below (mm_Qr xl D w0 sz o) (mm_Qx xl D w0 sz o) args s mc ms A) n F' := by
  subst hA
  intro ws tys H locs cells slots ls st' q ce hR hce hcv hcl
  obtain ⟨hst, hlo, hw, hK, hP, hD, hS, hbb, hcc⟩ := hR
  have ht : ∀ x ∈ c.exceptionTable.toList, covers x F'.1 = false := by
    intro x hx
    rw [C.2.2.2.2.2.2.2.2.2.2.1, hh] at hx
    cases hx
  refine vx_out ht C.2.2.2.2.2.2.2.1 hce hcv hcl (fun t ht hal => ⟨⟨n, ws, tys, ho, rfl, ?_, hK.moved hal, by rw [ht]; exact hP, hD⟩, hS.F ht⟩) hS.2.2 (by omega) (by omega)
  rw [hW]
  exact hw
set_option maxRecDepth 100000 in
theorem mm_fin (C : mm_C p l R s m args meth c xl A sc j d) (K : mm_dat) (ins : Instr) (hok : mm_ok j pc (ins, nx, r1, r2, r3)) (h : mm_stepI (md_xa sc) j ins nx r1 r2 r3 pc lo st W0 b0 c0 = some (.inr (.inl o))) (hA : A = va_A w0 sz) (hmc : mc + o.2.2.1 = bT) (hms : ms + o.2.2.2 = cT) (hRc : mc ≤ R.cells) (hRs : ms ≤ R.slots) :
    mm_G p l e R s m args below meth c xl D w0 A j bT cT (vx_MQ below (mm_Qr xl D w0 sz o) (mm_Qx xl D w0 sz o) args s mc ms A) (pc, lo, st, W0, b0, c0) := by
  subst hA
  have hlocks : meth.locks = false := C.2.2.2.2.2.2.2.1
  cases ins with
  | ireturn =>
    obtain ⟨hd, hn⟩ := hok
    simp only [mm_stepI] at h
    split at h
    · split at h
      · rename_i ty hty
        split at h
        · rename_i hnar
          cases h
          intro ws tys H locs cells slots ls st' hR
          obtain ⟨hst, hlo, hw, hK, hP, hD, hS, hbb, hcc⟩ := hR
          have hst0 := mm_l.un hst
          clear hst
          obtain ⟨_, _, rfl, hv, hst⟩ := hst0
          cases mm_v.ri hv
          cases mm_l.un0 hst
          dsimp only at hmc hms hbb hcc
          obtain rfl : cells = mc := by omega
          obtain rfl : slots = ms := by omega
          exact vx_ret (W.zret C.1 C.2.1 (C.2.2.2.2.2.2.2.2.1.trans hty) hnar (fun t ht hW => ⟨⟨_, _, ws, tys, rfl, rfl, ⟨_, rfl, mm_v.i⟩, hw, hK.moved hW.alike, by rw [ht]; exact hP, hD⟩, hS.F ht⟩) hS.2.2 hd)
        · cases h
      · cases h
    · cases h
  | lreturn =>
    obtain ⟨hd, hn⟩ := hok
    simp only [mm_stepI] at h
    split at h
    · split at h
      · rename_i hty
        cases h
        intro ws tys H locs cells slots ls st' hR
        obtain ⟨hst, hlo, hw, hK, hP, hD, hS, hbb, hcc⟩ := hR
        have hst0 := mm_l.un hst
        clear hst
        obtain ⟨_, _, rfl, hv, hst⟩ := hst0
        cases mm_v.rj hv
        cases mm_l.un0 hst
        dsimp only at hmc hms hbb hcc
        obtain rfl : cells = mc := by omega
        obtain rfl : slots = ms := by omega
        exact vx_ret (W.lret C.1 C.2.1 (C.2.2.2.2.2.2.2.2.1.trans hty) (fun t ht hW => ⟨⟨_, _, ws, tys, rfl, rfl, ⟨_, rfl, mm_v.j⟩, hw, hK.moved hW.alike, by rw [ht]; exact hP, hD⟩, hS.F ht⟩) hS.2.2 hd)
      · cases h
    · cases h
  | areturn =>
    obtain ⟨hd, hn⟩ := hok
    simp only [mm_stepI] at h
    split at h
    · split at h
      · rename_i nm hty
        cases h
        intro ws tys H locs cells slots ls st' hR
        obtain ⟨hst, hlo, hw, hK, hP, hD, hS, hbb, hcc⟩ := hR
        have hst0 := mm_l.un hst
        clear hst
        obtain ⟨_, _, rfl, hv, hst⟩ := hst0
        obtain ⟨a, ha, rfl⟩ := mm_v.rr hv
        cases mm_l.un0 hst
        dsimp only at hmc hms hbb hcc
        obtain rfl : cells = mc := by omega
        obtain rfl : slots = ms := by omega
        exact vx_ret (W.aret C.1 C.2.1 (C.2.2.2.2.2.2.2.2.1.trans hty) (Or.inl ⟨_, rfl⟩) (Or.inr ⟨_, rfl⟩) (fun t ht hW => ⟨⟨_, _, ws, tys, rfl, rfl, ⟨_, rfl, hv⟩, hw, hK.moved hW.alike, by rw [ht]; exact hP, hD⟩, hS.F ht⟩) hS.2.2 hd)
      · rename_i nm hty
        cases h
        intro ws tys H locs cells slots ls st' hR
        obtain ⟨hst, hlo, hw, hK, hP, hD, hS, hbb, hcc⟩ := hR
        have hst0 := mm_l.un hst
        clear hst
        obtain ⟨_, _, rfl, hv, hst⟩ := hst0
        obtain ⟨a, ha, rfl⟩ := mm_v.rr hv
        cases mm_l.un0 hst
        dsimp only at hmc hms hbb hcc
        obtain rfl : cells = mc := by omega
        obtain rfl : slots = ms := by omega
        exact vx_ret (W.aret C.1 C.2.1 (C.2.2.2.2.2.2.2.2.1.trans hty) (Or.inr ⟨_, rfl⟩) (Or.inr ⟨_, rfl⟩) (fun t ht hW => ⟨⟨_, _, ws, tys, rfl, rfl, ⟨_, rfl, hv⟩, hw, hK.moved hW.alike, by rw [ht]; exact hP, hD⟩, hS.F ht⟩) hS.2.2 hd)
      · cases h
    · cases h
  | return_ =>
    obtain ⟨hd, hn⟩ := hok
    simp only [mm_stepI] at h
    split at h
    · split at h
      · rename_i hty
        cases h
        intro ws tys H locs cells slots ls st' hR
        obtain ⟨hst, hlo, hw, hK, hP, hD, hS, hbb, hcc⟩ := hR
        cases mm_l.un0 hst
        dsimp only at hmc hms hbb hcc
        obtain rfl : cells = mc := by omega
        obtain rfl : slots = ms := by omega
        exact vx_ret (W.vret C.1 C.2.1 (C.2.2.2.2.2.2.2.2.1.trans hty) (fun t ht hW => ⟨⟨_, _, ws, tys, rfl, rfl, rfl, hw, hK.moved hW.alike, by rw [ht]; exact hP, hD⟩, hS.F ht⟩) hS.2.2 hd)
      · cases h
    · cases h
  | new i =>
    obtain ⟨⟨hd, hn⟩, h0, h1⟩ := hok
    by_cases h3 : r3 = 0
    · exfalso
      simp only [mm_stepI, if_pos h3] at h
      split at h <;> cases h
    · simp only [mm_stepI, if_neg h3] at h
      split at h
      · rename_i hr
        obtain ⟨hr1, hr2, hr3⟩ := hr
        cases h
        intro ws tys H locs cells slots ls st' hR
        obtain ⟨hst, ⟨lv, hls, hlo⟩, hw, hK, hP, hD, hS, hbb, hcc⟩ := hR
        obtain ⟨text, names, is, ic, q, d3, hds, hf1, hf2, hat, hot, hsr, hnl, hh⟩ := h1 h3
        have hx : ∀ w ∈ Jvm.Cond.classLink (md_mt j).1.cls i (md_en r1) :: Jvm.Cond.initialized (md_en r1) :: vx_atS (md_mt j).1.cls ic (md_en r1) names, w.before args s = true := fun w hw => by
          rcases hat w hw with z | z
          · exact C.2.2.2.2.1 w z
          · exact mm_gw_use C K z
        have hcats := hst.cats
        dsimp only at hmc hms hbb hcc hcats
        have hZ : vk_R (md_mt j).1.cls is text (xl q) s := C.2.2.2.2.2.1.2.2.2.2.1 ((md_mt j).1.cls, is, text, q) hsr
        have g1 := C.2.2.2.2.2.2.2.2.2.2.2.1
        have g2 := C.2.2.2.2.2.2.2.2.2.2.2.2.1
        rcases hds with ⟨d4, d6, d9⟩ | ⟨d4, d6, d9⟩
        · refine vx_throwS (own := (md_mt j).1.cls) (cls := md_en r1) (text := text) (names := names) (sa := xl q) C.1 C.2.1 C.2.2.2.2.2.2.2.2.2.2.2.2.2 C.2.2.2.1 hf1 hf2 (hx _ List.mem_cons_self) (hx _ (List.mem_cons_of_mem _ List.mem_cons_self)) hZ (fun w hw => hx w (List.mem_cons_of_mem _ (List.mem_cons_of_mem _ hw))) hot (C.2.2.2.2.2.1.2.2.2.2.2.2.2.2.2.1) (C.2.2.2.2.2.1.2.2.2.2.2.2.2.2.2.2.1) hS (hls.1.trans C.2.2.1.symm) hd d3 d4 d6 d9 (fun x hx => by rw [C.2.2.2.2.2.2.2.2.2.2.1, hh] at hx; cases hx) (by omega) (by omega) (by omega) (by omega) hlocks (fun t hal hsz hq => ?_) hS.2.2 (by omega) (by omega)
          refine ⟨⟨r1, ws, tys, rfl, rfl, hw, hK.moved hal, hP.kept (fun k z hz => hq _ (hP k z hz).lt), hD⟩, Nat.le_trans hS.1 hsz, fun z z1 z2 => ?_⟩
          rw [hq z (Nat.lt_of_lt_of_le z1 hS.1)]
          exact hS.2.1 z z1 z2
        · refine vx_throwSW (own := (md_mt j).1.cls) (cls := md_en r1) (text := text) (names := names) (sa := xl q) C.1 C.2.1 C.2.2.2.2.2.2.2.2.2.2.2.2.2 C.2.2.2.1 hf1 hf2 (hx _ List.mem_cons_self) (hx _ (List.mem_cons_of_mem _ List.mem_cons_self)) hZ (fun w hw => hx w (List.mem_cons_of_mem _ (List.mem_cons_of_mem _ hw))) hot (C.2.2.2.2.2.1.2.2.2.2.2.2.2.2.2.1) (C.2.2.2.2.2.1.2.2.2.2.2.2.2.2.2.2.1) hS (hls.1.trans C.2.2.1.symm) hd d3 d4 d6 d9 (fun x hx => by rw [C.2.2.2.2.2.2.2.2.2.2.1, hh] at hx; cases hx) (by omega) (by omega) (by omega) (by omega) hlocks (fun t hal hsz hq => ?_) hS.2.2 (by omega) (by omega)
          refine ⟨⟨r1, ws, tys, rfl, rfl, hw, hK.moved hal, hP.kept (fun k z hz => hq _ (hP k z hz).lt), hD⟩, Nat.le_trans hS.1 hsz, fun z z1 z2 => ?_⟩
          rw [hq z (Nat.lt_of_lt_of_le z1 hS.1)]
          exact hS.2.1 z z1 z2
      · cases h
  | invokevirtual i =>
    exfalso
    simp only [mm_stepI, mm_call] at h
    (repeat' split at h) <;> first | (obtain ⟨_, _, h⟩ := Option.map_eq_some_iff.mp h; first | exact absurd h Sum.inl_ne_inr | exact absurd (Sum.inr.inj h) Sum.inl_ne_inr) | exact absurd h.symm (Option.some_ne_none _) | exact absurd (Option.some.inj h) Sum.inl_ne_inr | exact absurd (Option.some.inj h) Sum.inr_ne_inl | exact absurd (Sum.inr.inj (Option.some.inj h)) Sum.inl_ne_inr | exact absurd (Sum.inr.inj (Option.some.inj h)) Sum.inr_ne_inl
  | invokestatic i =>
    exfalso
    simp only [mm_stepI, mm_call] at h
    (repeat' split at h) <;> first | (obtain ⟨_, _, h⟩ := Option.map_eq_some_iff.mp h; first | exact absurd h Sum.inl_ne_inr | exact absurd (Sum.inr.inj h) Sum.inl_ne_inr) | exact absurd h.symm (Option.some_ne_none _) | exact absurd (Option.some.inj h) Sum.inl_ne_inr | exact absurd (Option.some.inj h) Sum.inr_ne_inl | exact absurd (Sum.inr.inj (Option.some.inj h)) Sum.inl_ne_inr | exact absurd (Sum.inr.inj (Option.some.inj h)) Sum.inr_ne_inl
  | invokespecial i =>
    exfalso
    simp only [mm_stepI, mm_call] at h
    (repeat' split at h) <;> first | (obtain ⟨_, _, h⟩ := Option.map_eq_some_iff.mp h; first | exact absurd h Sum.inl_ne_inr | exact absurd (Sum.inr.inj h) Sum.inl_ne_inr) | exact absurd h.symm (Option.some_ne_none _) | exact absurd (Option.some.inj h) Sum.inl_ne_inr | exact absurd (Option.some.inj h) Sum.inr_ne_inl | exact absurd (Sum.inr.inj (Option.some.inj h)) Sum.inl_ne_inr | exact absurd (Sum.inr.inj (Option.some.inj h)) Sum.inr_ne_inl
  | _ =>
    exfalso
    first
    | (cases (show (none : Option mm_T) = some (.inr (.inl o)) from h); done)
    | (simp only [mm_stepI] at h
       (repeat' split at h) <;> first | (obtain ⟨_, _, h⟩ := Option.map_eq_some_iff.mp h; first | exact absurd h Sum.inl_ne_inr | exact absurd (Sum.inr.inj h) Sum.inl_ne_inr) | exact absurd h.symm (Option.some_ne_none _) | exact absurd (Option.some.inj h) Sum.inl_ne_inr | exact absurd (Option.some.inj h) Sum.inr_ne_inl | exact absurd (Sum.inr.inj (Option.some.inj h)) Sum.inl_ne_inr | exact absurd (Sum.inr.inj (Option.some.inj h)) Sum.inr_ne_inl)
set_option maxRecDepth 100000 in
theorem mm_calls (C : mm_C p l R s m args meth c xl A sc j (d + 1)) (K : mm_dat) (ins : Instr) (hok : mm_ok j pc (ins, nx, r1, r2, r3))
    {nx2 : Nat} {as : List Value} {fl : Bool} {j2 : Nat} (h : mm_stepI (md_xa sc) j ins nx r1 r2 r3 pc lo st W0 b0 c0 = some (.inr (.inr (j2, as, nx2, fl, G))))
    (hM : mm_M l sc d j2 as G.2.2.2.1 G.2.2.2.2.1 G.2.2.2.2.2 o) (hfl : fl = false → ∃ v, o.1 = .inl v) (hb : o.2.2.1 ≤ G.2.2.2.2.1) (hc : o.2.2.2 ≤ G.2.2.2.2.2) (hbR : bT ≤ R.cells + o.2.2.1) (hcR : cT ≤ R.slots + o.2.2.2)
    (k : ∀ v, o.1 = .inl v → mm_G p l e R s m args below meth c xl D w0 A j bT cT Q (nx2, G.2.1, v.toList ++ G.2.2.1, o.2.1, o.2.2.1, o.2.2.2))
    (kx : ∀ n, o.1 = .inr n → mm_Gx p l e R s m args below meth c xl D w0 A j bT cT Q n (G.1, G.2.1, G.2.2.1, o.2.1, o.2.2.1, o.2.2.2)) :
    mm_G p l e R s m args below meth c xl D w0 A j bT cT Q (pc, lo, st, W0, b0, c0) := by
  cases ins with
  | invokevirtual i =>
    obtain ⟨⟨hd, hn⟩, h1, h2, h3, h4, h5⟩ := hok
    exact mi_callV C K hd hn h1 h2 (fun z => by
      have z2 : r2 / 16 = 1 := z
      have h32 : r2 / 16 = 0 ∨ r2 / 16 = 2 := h3
      omega) h4 h5 h hM hfl hb hc hbR hcR k kx
  | invokestatic i =>
    obtain ⟨⟨hd, hn⟩, ⟨h1, h2, h3⟩ | ⟨h1, -⟩⟩ := hok
    · exact mi_callS C K hd hn h1 h2 h3 h hM hb hc hbR hcR k kx
    · exfalso
      have h1' : r2 / 16 = 6 := h1
      simp only [mm_stepI, mm_call, h1'] at h
      (repeat' split at h) <;> first | (obtain ⟨_, _, h⟩ := Option.map_eq_some_iff.mp h; first | exact absurd h Sum.inl_ne_inr | exact absurd (Sum.inr.inj h) Sum.inl_ne_inr) | exact absurd h.symm (Option.some_ne_none _) | exact absurd (Option.some.inj h) Sum.inl_ne_inr | exact absurd (Option.some.inj h) Sum.inr_ne_inl | exact absurd (Sum.inr.inj (Option.some.inj h)) Sum.inl_ne_inr | exact absurd (Sum.inr.inj (Option.some.inj h)) Sum.inr_ne_inl
  | invokespecial i =>
    obtain ⟨⟨hd, hn⟩, ⟨h1, h2, h3, h4, h5, h6, h7⟩ | ⟨h1, -⟩⟩ := hok
    · exact mi_callI C K hd hn h1 h2 h3 h4 h5 h6 h7 h hM hfl hb hc hbR hcR k kx
    · exfalso
      have h1' : r2 / 16 = 5 := h1
      simp only [mm_stepI, mm_call, h1'] at h
      (repeat' split at h) <;> first | (obtain ⟨_, _, h⟩ := Option.map_eq_some_iff.mp h; first | exact absurd h Sum.inl_ne_inr | exact absurd (Sum.inr.inj h) Sum.inl_ne_inr) | exact absurd h.symm (Option.some_ne_none _) | exact absurd (Option.some.inj h) Sum.inl_ne_inr | exact absurd (Option.some.inj h) Sum.inr_ne_inl | exact absurd (Sum.inr.inj (Option.some.inj h)) Sum.inl_ne_inr | exact absurd (Sum.inr.inj (Option.some.inj h)) Sum.inr_ne_inl
  | _ =>
    exfalso
    first
    | (cases (show (none : Option mm_T) = some (.inr (.inr (j2, as, nx2, fl, G))) from h); done)
    | (simp only [mm_stepI] at h
       (repeat' split at h) <;> first | (obtain ⟨_, _, h⟩ := Option.map_eq_some_iff.mp h; first | exact absurd h Sum.inl_ne_inr | exact absurd (Sum.inr.inj h) Sum.inl_ne_inr) | exact absurd h.symm (Option.some_ne_none _) | exact absurd (Option.some.inj h) Sum.inl_ne_inr | exact absurd (Option.some.inj h) Sum.inr_ne_inl | exact absurd (Sum.inr.inj (Option.some.inj h)) Sum.inl_ne_inr | exact absurd (Sum.inr.inj (Option.some.inj h)) Sum.inr_ne_inl)
end MT
