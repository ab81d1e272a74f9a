/-! ===== switches, arrays, fields, statics, new things ===== -/
section MJ
variable {p : Program} {l : Launch} {e : Env} {R : Room} {s : State} {m : MethodId} {args : Array Value} {below : List Frame} {meth : Method} {c : Code} {xl : Nat → Nat} {D : va_G} {w0 : va_W} {A : Nat → Prop} {sc : Nat × (Nat → Int32)} {j d bT cT : Nat} {Q : State → Prop} {nx r1 r2 r3 pc : Nat} {lo : List (Nat × Value)} {st : List Value} {W0 : mm_W} {b0 c0 : Nat} {F' : mm_F}
theorem mm_at_eq {pc t : Nat} {off : Int} (h : mm_at pc off = some t) : (pc : Int) + off = (t : Int) := by
  unfold mm_at at h
  split at h
  · rename_i hz
    have := Option.some.inj h
    omega
  · cases h
theorem mi_tableswitch (C : mm_C p l R s m args meth c xl A sc j d) {dflt lw hh : Int} {offs : Array Int} {len : Nat} (hd : decode (md_mt j).2.1 pc = .ok (.tableswitch dflt lw hh offs, len)) (h : mm_stepI (md_xa sc) j (.tableswitch dflt lw hh offs) nx r1 r2 r3 pc lo st W0 b0 c0 = some (.inl F')) (k : mm_G p l e R s m args below meth c xl D w0 A j bT cT Q F') : mm_G p l e R s m args below meth c xl D w0 A j bT cT Q (pc, lo, st, W0, b0, c0) := by
  simp only [mm_stepI] at h
  split at h
  · split at h
    · rename_i t hsw
      cases h
      intro ws tys H locs cells slots ls st' hR
      obtain ⟨hst, ⟨lv, hls, hlo⟩, hR⟩ := hR
      have hst0 := mm_l.un hst
      clear hst
      obtain ⟨_, _, rfl, hv, hst⟩ := hst0
      cases mm_v.ri hv
      unfold mm_tsw at hsw
      split at hsw
      · rename_i ho
        exact lv_tableOut C.1 C.2.1 hd ho (mm_at_eq hsw) (k _ _ _ _ _ _ _ _ ⟨hst, ⟨lv, hls, hlo⟩, hR⟩)
      · rename_i ho
        split at hsw
        · rename_i off hof
          exact lv_tableIn C.1 C.2.1 hd (fun z => ho (Or.inl z)) (fun z => ho (Or.inr z)) hof (mm_at_eq hsw) (k _ _ _ _ _ _ _ _ ⟨hst, ⟨lv, hls, hlo⟩, hR⟩)
        · cases hsw
    · cases h
  · cases h
theorem mi_lookupswitch (C : mm_C p l R s m args meth c xl A sc j d) {dflt : Int} {ps : Array (Int × Int)} {len : Nat} (hd : decode (md_mt j).2.1 pc = .ok (.lookupswitch dflt ps, len)) (hp : (ps.toList.zip (ps.toList.drop 1)).all (fun (a, next) => a.1 < next.1) = true) (h : mm_stepI (md_xa sc) j (.lookupswitch dflt ps) nx r1 r2 r3 pc lo st W0 b0 c0 = some (.inl F')) (k : mm_G p l e R s m args below meth c xl D w0 A j bT cT Q F') : mm_G p l e R s m args below meth c xl D w0 A j bT cT Q (pc, lo, st, W0, b0, c0) := by
  simp only [mm_stepI] at h
  split at h
  · split at h
    · rename_i t hsw
      cases h
      intro ws tys H locs cells slots ls st' hR
      obtain ⟨hst, ⟨lv, hls, hlo⟩, hR⟩ := hR
      have hst0 := mm_l.un hst
      clear hst
      obtain ⟨_, _, rfl, hv, hst⟩ := hst0
      cases mm_v.ri hv
      exact lv_lookup C.1 C.2.1 hd hp rfl (mm_at_eq hsw) (k _ _ _ _ _ _ _ _ ⟨hst, ⟨lv, hls, hlo⟩, hR⟩)
    · cases h
  · cases h
theorem mm_aget_in {xa : mm_Xa} {W : mm_W} {k : Nat} {i : Int32} {t : Nat} {v : Value} (h : mm_aget xa W k i = some (t, v)) :
    (k < mm_XB ∧ ((∃ n f, W[k]? = some (.inl (t, n, .inl f)) ∧ vp_in i n ∧ v = .int (f i.toNatClampNeg)) ∨ (∃ n f, W[k]? = some (.inl (t, n, .inr (.inl f))) ∧ vp_in i n ∧ v = .long (f i.toNatClampNeg)) ∨
      (∃ n f, W[k]? = some (.inl (t, n, .inr (.inr (.inr (.inr f))))) ∧ vp_in i n ∧ v = va_rf (f i.toNatClampNeg)))) ∨
    (¬ k < mm_XB ∧ ∃ n f, xa (k - mm_XB) = some (t, n, f) ∧ vp_in i n ∧ v = f i.toNatClampNeg) := by
  unfold mm_aget at h
  split at h
  · rename_i hk
    refine Or.inl ⟨hk, ?_⟩
    split at h
    · rename_i hw
      split at h
      · rename_i hi
        cases h
        exact Or.inl ⟨_, _, hw, mm_ib_in hi, rfl⟩
      · cases h
    · rename_i hw
      split at h
      · rename_i hi
        cases h
        exact Or.inr (Or.inl ⟨_, _, hw, mm_ib_in hi, rfl⟩)
      · cases h
    · rename_i hw
      split at h
      · rename_i hi
        cases h
        exact Or.inr (Or.inr ⟨_, _, hw, mm_ib_in hi, rfl⟩)
      · cases h
    · cases h
  · rename_i hk
    refine Or.inr ⟨hk, ?_⟩
    split at h
    · rename_i hw
      split at h
      · rename_i hi
        cases h
        exact ⟨_, _, hw, mm_ib_in hi, rfl⟩
      · cases h
    · cases h
/-- where a world's array lies -/
theorem mm_w.ai {tys : List (ClassId × FieldType)} {W : mm_W} {ws : va_W} (h : mm_w xl w0 tys W ws) {k a : Nat} (hx : k < mm_XB) (ha : mm_ad xl ws k = some a) {t n : Nat} {f : Nat → Int32} (hk : W[k]? = some (.inl (t, n, .inl f))) :
    ∃ (cA : ClassId) (t0 : Nat), ws[k]? = some (a, .inl (cA, n, .inl f)) ∧ tys[t0]? = some (cA, md_ty t) ∧ (t = 0 ∨ t = 2 ∨ t = 3) := by
  obtain ⟨a2, e', h1, cA, t0, h2, rfl, h3⟩ := h.2.1 k _ hk
  obtain ⟨e2, h4⟩ := mm_ad_in ha hx
  cases h1.symm.trans h4
  exact ⟨cA, t0, h1, h2, h3⟩
theorem mm_w.al {tys : List (ClassId × FieldType)} {W : mm_W} {ws : va_W} (h : mm_w xl w0 tys W ws) {k a : Nat} (hx : k < mm_XB) (ha : mm_ad xl ws k = some a) {t n : Nat} {f : Nat → Int64} (hk : W[k]? = some (.inl (t, n, .inr (.inl f)))) :
    ∃ (cA : ClassId) (t0 : Nat), ws[k]? = some (a, .inl (cA, n, .inr (.inl f))) ∧ tys[t0]? = some (cA, md_ty t) ∧ t = 1 := by
  obtain ⟨a2, e', h1, cA, t0, h2, rfl, h3⟩ := h.2.1 k _ hk
  obtain ⟨e2, h4⟩ := mm_ad_in ha hx
  cases h1.symm.trans h4
  exact ⟨cA, t0, h1, h2, h3⟩
theorem mm_w.ar {tys : List (ClassId × FieldType)} {W : mm_W} {ws : va_W} (h : mm_w xl w0 tys W ws) {k a : Nat} (hx : k < mm_XB) (ha : mm_ad xl ws k = some a) {t n : Nat} {f : Nat → Option Nat} (hk : W[k]? = some (.inl (t, n, .inr (.inr (.inr (.inr f)))))) :
    ∃ (cA : ClassId) (t0 : Nat) (f' : Nat → Option Nat), ws[k]? = some (a, .inl (cA, n, .inr (.inr (.inr (.inr f'))))) ∧ tys[t0]? = some (cA, md_ty t) ∧ (∀ q, mm_o xl ws (f q) (f' q)) ∧ 4 ≤ t := by
  obtain ⟨a2, e', h1, cA, t0, f', h2, rfl, h3, h5⟩ := h.2.1 k _ hk
  obtain ⟨e2, h4⟩ := mm_ad_in ha hx
  cases h1.symm.trans h4
  exact ⟨cA, t0, f', h1, h2, h3, h5⟩
theorem mm_w.ob {tys : List (ClassId × FieldType)} {W : mm_W} {ws : va_W} (h : mm_w xl w0 tys W ws) {k a : Nat} (hx : k < mm_XB) (ha : mm_ad xl ws k = some a) {ci : Nat} {fs : List Value} (hk : W[k]? = some (.inr (ci, fs))) :
    ∃ fs', ws[k]? = some (a, .inr (ci, fs')) ∧ mm_l xl ws fs fs' := by
  obtain ⟨a2, e', h1, fs', rfl, h3⟩ := h.2.1 k _ hk
  obtain ⟨e2, h4⟩ := mm_ad_in ha hx
  cases h1.symm.trans h4
  exact ⟨fs', h1, h3⟩
theorem mi_iaload (C : mm_C p l R s m args meth c xl A sc j d) (K : mm_dat) (hd : decode (md_mt j).2.1 pc = .ok (.iaload, 1)) (hn : nx = pc + 1) (h : mm_stepI (md_xa sc) j .iaload nx r1 r2 r3 pc lo st W0 b0 c0 = some (.inl F')) (k : mm_G p l e R s m args below meth c xl D w0 A j bT cT Q F') : mm_G p l e R s m args below meth c xl D w0 A j bT cT Q (pc, lo, st, W0, b0, c0) := by
  subst hn
  simp only [mm_stepI] at h
  split at h
  · split at h
    · rename_i hg
      split at h
      · rename_i ht
        subst ht
        cases h
        intro ws tys H locs cells slots ls st' hR
        obtain ⟨hst, ⟨lv, hls, hlo⟩, hw, hK, hP, hR⟩ := hR
        have hst0 := mm_l.un hst
        clear hst
        obtain ⟨_, _, rfl, hv, hst⟩ := hst0
        cases mm_v.ri hv
        have hst0 := mm_l.un hst
        clear hst
        obtain ⟨_, _, rfl, hv, hst⟩ := hst0
        obtain ⟨a, ha, rfl⟩ := mm_v.rr hv
        rcases mm_aget_in hg with ⟨hx, ⟨n, f, hk, hi, rfl⟩ | ⟨n, f, hk, hi, rfl⟩ | ⟨n, f, hk, hi, rfl⟩⟩ | ⟨hx, n, f, hk, hi, rfl⟩
        · obtain ⟨cA, t0, h1, h2, -⟩ := hw.ai hx ha hk
          rw [K.2.1] at h2
          exact va_iald C.1 C.2.1 hK hP _ _ h1 h2 hi hd (k _ _ _ _ _ _ _ _ ⟨mm_l.cons mm_v.i hst, ⟨lv, hls, hlo⟩, hw, hK, hP, hR⟩)
        · obtain ⟨cA, t0, h1, h2, h3⟩ := hw.al hx ha hk
          exact absurd h3 (by decide)
        · obtain ⟨cA, t0, f', h1, h2, h3, h4⟩ := hw.ar hx ha hk
          exact absurd h4 (by decide)
        · cases mm_ad_out ha hx
          obtain ⟨hT, hxx⟩ := C.2.2.2.2.2.1.2.2.2.1 _ _ _ _ hk
          rw [K.2.1] at hT
          exact va_ti C.1 C.2.1 hT hR.2.1 hi rfl hd (k _ _ _ _ _ _ _ _ ⟨mm_l.cons (mm_v.x (hxx _)) hst, ⟨lv, hls, hlo⟩, hw, hK, hP, hR⟩)
      · cases h
    · cases h
  · cases h
theorem mi_baload (C : mm_C p l R s m args meth c xl A sc j d) (K : mm_dat) (hd : decode (md_mt j).2.1 pc = .ok (.baload, 1)) (hn : nx = pc + 1) (h : mm_stepI (md_xa sc) j .baload nx r1 r2 r3 pc lo st W0 b0 c0 = some (.inl F')) (k : mm_G p l e R s m args below meth c xl D w0 A j bT cT Q F') : mm_G p l e R s m args below meth c xl D w0 A j bT cT Q (pc, lo, st, W0, b0, c0) := by
  subst hn
  simp only [mm_stepI] at h
  split at h
  · split at h
    · rename_i hg
      split at h
      · rename_i ht
        cases h
        intro ws tys H locs cells slots ls st' hR
        obtain ⟨hst, ⟨lv, hls, hlo⟩, hw, hK, hP, hR⟩ := hR
        have hst0 := mm_l.un hst
        clear hst
        obtain ⟨_, _, rfl, hv, hst⟩ := hst0
        cases mm_v.ri hv
        have hst0 := mm_l.un hst
        clear hst
        obtain ⟨_, _, rfl, hv, hst⟩ := hst0
        obtain ⟨a, ha, rfl⟩ := mm_v.rr hv
        rcases mm_aget_in hg with ⟨hx, ⟨n, f, hk, hi, rfl⟩ | ⟨n, f, hk, hi, rfl⟩ | ⟨n, f, hk, hi, rfl⟩⟩ | ⟨hx, n, f, hk, hi, rfl⟩
        · obtain ⟨cA, t0, h1, h2, -⟩ := hw.ai hx ha hk
          rcases ht with rfl | rfl
          · rw [K.2.2.2.1] at h2
            exact va_bald C.1 C.2.1 hK hP _ _ h1 h2 hi hd (k _ _ _ _ _ _ _ _ ⟨mm_l.cons mm_v.i hst, ⟨lv, hls, hlo⟩, hw, hK, hP, hR⟩)
          · rw [K.2.2.2.2.1] at h2
            exact va_zald C.1 C.2.1 hK hP _ _ h1 h2 hi hd (k _ _ _ _ _ _ _ _ ⟨mm_l.cons mm_v.i hst, ⟨lv, hls, hlo⟩, hw, hK, hP, hR⟩)
        · obtain ⟨cA, t0, h1, h2, h3⟩ := hw.al hx ha hk
          omega
        · obtain ⟨cA, t0, f', h1, h2, h3, h4⟩ := hw.ar hx ha hk
          omega
        · cases mm_ad_out ha hx
          obtain ⟨hT, hxx⟩ := C.2.2.2.2.2.1.2.2.2.1 _ _ _ _ hk
          rcases ht with rfl | rfl
          · rw [K.2.2.2.1] at hT
            exact va_tb C.1 C.2.1 hT hR.2.1 hi rfl hd (k _ _ _ _ _ _ _ _ ⟨mm_l.cons (mm_v.x (hxx _)) hst, ⟨lv, hls, hlo⟩, hw, hK, hP, hR⟩)
          · rw [K.2.2.2.2.1] at hT
            exact va_tz C.1 C.2.1 hT hR.2.1 hi rfl hd (k _ _ _ _ _ _ _ _ ⟨mm_l.cons (mm_v.x (hxx _)) hst, ⟨lv, hls, hlo⟩, hw, hK, hP, hR⟩)
      · cases h
    · cases h
  · cases h
theorem mi_laload (C : mm_C p l R s m args meth c xl A sc j d) (K : mm_dat) (hd : decode (md_mt j).2.1 pc = .ok (.laload, 1)) (hn : nx = pc + 1) (h : mm_stepI (md_xa sc) j .laload nx r1 r2 r3 pc lo st W0 b0 c0 = some (.inl F')) (k : mm_G p l e R s m args below meth c xl D w0 A j bT cT Q F') : mm_G p l e R s m args below meth c xl D w0 A j bT cT Q (pc, lo, st, W0, b0, c0) := by
  subst hn
  simp only [mm_stepI] at h
  split at h
  · split at h
    · rename_i hg
      split at h
      · rename_i ht
        subst ht
        cases h
        intro ws tys H locs cells slots ls st' hR
        obtain ⟨hst, ⟨lv, hls, hlo⟩, hw, hK, hP, hR⟩ := hR
        have hst0 := mm_l.un hst
        clear hst
        obtain ⟨_, _, rfl, hv, hst⟩ := hst0
        cases mm_v.ri hv
        have hst0 := mm_l.un hst
        clear hst
        obtain ⟨_, _, rfl, hv, hst⟩ := hst0
        obtain ⟨a, ha, rfl⟩ := mm_v.rr hv
        rcases mm_aget_in hg with ⟨hx, ⟨n, f, hk, hi, rfl⟩ | ⟨n, f, hk, hi, rfl⟩ | ⟨n, f, hk, hi, rfl⟩⟩ | ⟨hx, n, f, hk, hi, rfl⟩
        · obtain ⟨cA, t0, h1, h2, h3⟩ := hw.ai hx ha hk
          exact absurd h3 (by decide)
        · obtain ⟨cA, t0, h1, h2, h3⟩ := hw.al hx ha hk
          rw [K.2.2.1] at h2
          exact va_lald C.1 C.2.1 hK hP _ _ h1 h2 hi hd (k _ _ _ _ _ _ _ _ ⟨mm_l.cons mm_v.j hst, ⟨lv, hls, hlo⟩, hw, hK, hP, hR⟩)
        · obtain ⟨cA, t0, f', h1, h2, h3, h4⟩ := hw.ar hx ha hk
          exact absurd h4 (by decide)
        · cases mm_ad_out ha hx
          obtain ⟨hT, hxx⟩ := C.2.2.2.2.2.1.2.2.2.1 _ _ _ _ hk
          rw [K.2.2.1] at hT
          exact va_tl C.1 C.2.1 hT hR.2.1 hi rfl hd (k _ _ _ _ _ _ _ _ ⟨mm_l.cons (mm_v.x (hxx _)) hst, ⟨lv, hls, hlo⟩, hw, hK, hP, hR⟩)
      · cases h
    · cases h
  · cases h
theorem mi_aaload (C : mm_C p l R s m args meth c xl A sc j d) (K : mm_dat) (hd : decode (md_mt j).2.1 pc = .ok (.aaload, 1)) (hn : nx = pc + 1) (h : mm_stepI (md_xa sc) j .aaload nx r1 r2 r3 pc lo st W0 b0 c0 = some (.inl F')) (k : mm_G p l e R s m args below meth c xl D w0 A j bT cT Q F') : mm_G p l e R s m args below meth c xl D w0 A j bT cT Q (pc, lo, st, W0, b0, c0) := by
  subst hn
  simp only [mm_stepI] at h
  split at h
  · split at h
    · rename_i hg
      split at h
      · rename_i ht
        cases h
        intro ws tys H locs cells slots ls st' hR
        obtain ⟨hst, ⟨lv, hls, hlo⟩, hw, hK, hP, hR⟩ := hR
        have hst0 := mm_l.un hst
        clear hst
        obtain ⟨_, _, rfl, hv, hst⟩ := hst0
        cases mm_v.ri hv
        have hst0 := mm_l.un hst
        clear hst
        obtain ⟨_, _, rfl, hv, hst⟩ := hst0
        obtain ⟨a, ha, rfl⟩ := mm_v.rr hv
        obtain ⟨E, hE, -⟩ := K.2.2.2.2.2.1 _ ht
        rcases mm_aget_in hg with ⟨hx, ⟨n, f, hk, hi, rfl⟩ | ⟨n, f, hk, hi, rfl⟩ | ⟨n, f, hk, hi, rfl⟩⟩ | ⟨hx, n, f, hk, hi, rfl⟩
        · obtain ⟨cA, t0, h1, h2, h3⟩ := hw.ai hx ha hk
          omega
        · obtain ⟨cA, t0, h1, h2, h3⟩ := hw.al hx ha hk
          omega
        · obtain ⟨cA, t0, f', h1, h2, h3, h4⟩ := hw.ar hx ha hk
          rw [hE] at h2
          exact va_aldq C.1 C.2.1 hK hP _ _ h1 h2 hi hd (k _ _ _ _ _ _ _ _ ⟨mm_l.cons (mm_v.re (h3 _)) hst, ⟨lv, hls, hlo⟩, hw, hK, hP, hR⟩)
        · cases mm_ad_out ha hx
          obtain ⟨hT, hxx⟩ := C.2.2.2.2.2.1.2.2.2.1 _ _ _ _ hk
          rw [hE] at hT
          exact vb_tq C.1 C.2.1 hT hR.2.1 hi rfl hd (k _ _ _ _ _ _ _ _ ⟨mm_l.cons (mm_v.x (hxx _)) hst, ⟨lv, hls, hlo⟩, hw, hK, hP, hR⟩)
      · cases h
    · cases h
  · cases h
theorem mi_arraylength (C : mm_C p l R s m args meth c xl A sc j d) (hd : decode (md_mt j).2.1 pc = .ok (.arraylength, 1)) (hn : nx = pc + 1) (h : mm_stepI (md_xa sc) j .arraylength nx r1 r2 r3 pc lo st W0 b0 c0 = some (.inl F')) (k : mm_G p l e R s m args below meth c xl D w0 A j bT cT Q F') : mm_G p l e R s m args below meth c xl D w0 A j bT cT Q (pc, lo, st, W0, b0, c0) := by
  subst hn
  simp only [mm_stepI] at h
  split at h
  · obtain ⟨n, hg, h⟩ := Option.map_eq_some_iff.mp h
    cases h
    intro ws tys H locs cells slots ls st' hR
    obtain ⟨hst, ⟨lv, hls, hlo⟩, hw, hK, hP, hR⟩ := hR
    have hst0 := mm_l.un hst
    clear hst
    obtain ⟨_, _, rfl, hv, hst⟩ := hst0
    obtain ⟨a, ha, rfl⟩ := mm_v.rr hv
    unfold mm_alen at hg
    split at hg
    · rename_i hx
      split at hg
      · rename_i t n0 f hk
        cases hg
        rcases f with f | f | f | f | f
        · obtain ⟨cA, t0, h1, h2, -⟩ := hw.ai hx ha hk
          exact va_alen C.1 C.2.1 hK hP _ _ h1 h2 rfl hd (k _ _ _ _ _ _ _ _ ⟨mm_l.cons mm_v.i hst, ⟨lv, hls, hlo⟩, hw, hK, hP, hR⟩)
        · obtain ⟨cA, t0, h1, h2, -⟩ := hw.al hx ha hk
          exact va_alen C.1 C.2.1 hK hP _ _ h1 h2 rfl hd (k _ _ _ _ _ _ _ _ ⟨mm_l.cons mm_v.i hst, ⟨lv, hls, hlo⟩, hw, hK, hP, hR⟩)
        · obtain ⟨a2, e', -, h3⟩ := hw.2.1 _ _ hk
          exact False.elim h3
        · obtain ⟨a2, e', -, h3⟩ := hw.2.1 _ _ hk
          exact False.elim h3
        · obtain ⟨cA, t0, f', h1, h2, -⟩ := hw.ar hx ha hk
          exact va_alen C.1 C.2.1 hK hP _ _ h1 h2 rfl hd (k _ _ _ _ _ _ _ _ ⟨mm_l.cons mm_v.i hst, ⟨lv, hls, hlo⟩, hw, hK, hP, hR⟩)
      · cases hg
    · rename_i hx
      split at hg
      · rename_i hk
        cases hg
        cases mm_ad_out ha hx
        obtain ⟨hT, -⟩ := C.2.2.2.2.2.1.2.2.2.1 _ _ _ _ hk
        exact va_tlen C.1 C.2.1 hT hR.2.1 rfl hd (k _ _ _ _ _ _ _ _ ⟨mm_l.cons mm_v.i hst, ⟨lv, hls, hlo⟩, hw, hK, hP, hR⟩)
      · cases hg
  · cases h
theorem mm_lset {tys : List (ClassId × FieldType)} {ws : va_W} {H H1 : Heap} {locs locs1 : List Loc} {cells slots : Nat} {ls : Array Slot} {st' : List Value} {q a : Nat} {e0 e e' : va_E} {F : mm_F} (hR : mm_R xl D w0 s A (md_mt j).2.2.1 bT cT F ws tys H locs cells slots ls st') (hq : ws[q]? = some (a, e0)) (he : mm_e xl ws tys e e')
    (hP1 : va_P D md_cl (ws.set q (a, e')) H1) (hD1 : va_D A (ws.set q (a, e'))) (hS1 : va_S A s.heap H1 locs1) {pc2 : Nat} {st2 : List Value} (hst2 : mm_l xl ws F.2.2.1 st' → True) {stA stA' : List Value} (hA : mm_l xl ws stA stA') :
    mm_R xl D w0 s A (md_mt j).2.2.1 bT cT (pc2, F.2.1, stA, F.2.2.2.1.set q e, F.2.2.2.2.1, F.2.2.2.2.2) (ws.set q (a, e')) tys H1 locs1 cells slots ls stA' := by
  obtain ⟨-, ⟨lv, hls, hlo⟩, hw, hK, -, -, -, hb, hc⟩ := hR
  exact ⟨hA.mono (mm_le_set hq), ⟨lv, hls, hlo.mono (mm_le_set hq)⟩, hw.set hq he, hK, hP1, hD1, hS1, hb, hc⟩
theorem mi_iastore (C : mm_C p l R s m args meth c xl A sc j d) (K : mm_dat) (hd : decode (md_mt j).2.1 pc = .ok (.iastore, 1)) (hn : nx = pc + 1) (h : mm_stepI (md_xa sc) j .iastore nx r1 r2 r3 pc lo st W0 b0 c0 = some (.inl F')) (k : mm_G p l e R s m args below meth c xl D w0 A j bT cT Q F') : mm_G p l e R s m args below meth c xl D w0 A j bT cT Q (pc, lo, st, W0, b0, c0) := by
  subst hn
  simp only [mm_stepI] at h
  split at h
  · split at h
    · rename_i hx
      split at h
      · rename_i hg
        split at h
        · rename_i ht
          subst ht
          cases h
          intro ws tys H locs cells slots ls st' hR0
          obtain ⟨hst, ⟨lv, hls, hlo⟩, hw, hK, hP, hD, hS, hR⟩ := id hR0
          have hst0 := mm_l.un hst
          clear hst
          obtain ⟨_, _, rfl, hv, hst⟩ := hst0
          cases mm_v.ri hv
          have hst0 := mm_l.un hst
          clear hst
          obtain ⟨_, _, rfl, hv, hst⟩ := hst0
          cases mm_v.ri hv
          have hst0 := mm_l.un hst
          clear hst
          obtain ⟨_, _, rfl, hv, hst⟩ := hst0
          obtain ⟨a, ha, rfl⟩ := mm_v.rr hv
          unfold mm_aputi at hg
          split at hg
          · rename_i hk
            split at hg
            · rename_i hi
              cases hg
              obtain ⟨cA, t0, h1, h2, -⟩ := hw.ai hx ha hk
              have h2' := h2
              rw [K.2.1] at h2
              exact va_iast C.1 C.2.1 hK hP hD hS _ _ h1 h2 (mm_ib_in hi) hd (fun H1 locs1 hP1 hD1 hS1 => k _ _ _ _ _ _ _ _ (mm_lset hR0 h1 (mm_e.i h2' (Or.inl rfl)) hP1 hD1 hS1 (fun _ => trivial) hst (st2 := [])))
            · cases hg
          · cases hg
        · cases h
      · cases h
    · cases h
  · cases h
theorem mi_bastore (C : mm_C p l R s m args meth c xl A sc j d) (K : mm_dat) (hd : decode (md_mt j).2.1 pc = .ok (.bastore, 1)) (hn : nx = pc + 1) (h : mm_stepI (md_xa sc) j .bastore nx r1 r2 r3 pc lo st W0 b0 c0 = some (.inl F')) (k : mm_G p l e R s m args below meth c xl D w0 A j bT cT Q F') : mm_G p l e R s m args below meth c xl D w0 A j bT cT Q (pc, lo, st, W0, b0, c0) := by
  subst hn
  simp only [mm_stepI] at h
  split at h
  · split at h
    · rename_i hx
      split at h
      · rename_i hg
        split at h
        · rename_i ht
          cases h
          intro ws tys H locs cells slots ls st' hR0
          obtain ⟨hst, ⟨lv, hls, hlo⟩, hw, hK, hP, hD, hS, hR⟩ := id hR0
          have hst0 := mm_l.un hst
          clear hst
          obtain ⟨_, _, rfl, hv, hst⟩ := hst0
          cases mm_v.ri hv
          have hst0 := mm_l.un hst
          clear hst
          obtain ⟨_, _, rfl, hv, hst⟩ := hst0
          cases mm_v.ri hv
          have hst0 := mm_l.un hst
          clear hst
          obtain ⟨_, _, rfl, hv, hst⟩ := hst0
          obtain ⟨a, ha, rfl⟩ := mm_v.rr hv
          unfold mm_aputi at hg
          split at hg
          · rename_i hk
            split at hg
            · rename_i hi
              cases hg
              obtain ⟨cA, t0, h1, h2, -⟩ := hw.ai hx ha hk
              have h2' := h2
              rcases ht with rfl | rfl
              · rw [K.2.2.2.1] at h2
                exact va_bast C.1 C.2.1 hK hP hD hS _ _ h1 h2 (mm_ib_in hi) hd (fun H1 locs1 hP1 hD1 hS1 => k _ _ _ _ _ _ _ _ (mm_lset hR0 h1 (mm_e.i h2' (Or.inr (Or.inl rfl))) hP1 hD1 hS1 (fun _ => trivial) hst (st2 := [])))
              · rw [K.2.2.2.2.1] at h2
                exact va_zast C.1 C.2.1 hK hP hD hS _ _ h1 h2 (mm_ib_in hi) hd (fun H1 locs1 hP1 hD1 hS1 => k _ _ _ _ _ _ _ _ (mm_lset hR0 h1 (mm_e.i h2' (Or.inr (Or.inr rfl))) hP1 hD1 hS1 (fun _ => trivial) hst (st2 := [])))
            · cases hg
          · cases hg
        · cases h
      · cases h
    · cases h
  · cases h
theorem mi_lastore (C : mm_C p l R s m args meth c xl A sc j d) (K : mm_dat) (hd : decode (md_mt j).2.1 pc = .ok (.lastore, 1)) (hn : nx = pc + 1) (h : mm_stepI (md_xa sc) j .lastore nx r1 r2 r3 pc lo st W0 b0 c0 = some (.inl F')) (k : mm_G p l e R s m args below meth c xl D w0 A j bT cT Q F') : mm_G p l e R s m args below meth c xl D w0 A j bT cT Q (pc, lo, st, W0, b0, c0) := by
  subst hn
  simp only [mm_stepI] at h
  split at h
  · split at h
    · rename_i hx
      split at h
      · rename_i hg
        split at h
        · rename_i ht
          subst ht
          cases h
          intro ws tys H locs cells slots ls st' hR0
          obtain ⟨hst, ⟨lv, hls, hlo⟩, hw, hK, hP, hD, hS, hR⟩ := id hR0
          have hst0 := mm_l.un hst
          clear hst
          obtain ⟨_, _, rfl, hv, hst⟩ := hst0
          cases mm_v.rj hv
          have hst0 := mm_l.un hst
          clear hst
          obtain ⟨_, _, rfl, hv, hst⟩ := hst0
          cases mm_v.ri hv
          have hst0 := mm_l.un hst
          clear hst
          obtain ⟨_, _, rfl, hv, hst⟩ := hst0
          obtain ⟨a, ha, rfl⟩ := mm_v.rr hv
          unfold mm_aputl at hg
          split at hg
          · rename_i hk
            split at hg
            · rename_i hi
              cases hg
              obtain ⟨cA, t0, h1, h2, -⟩ := hw.al hx ha hk
              have h2' := h2
              rw [K.2.2.1] at h2
              exact va_last C.1 C.2.1 hK hP hD hS _ _ h1 h2 (mm_ib_in hi) hd (fun H1 locs1 hP1 hD1 hS1 => k _ _ _ _ _ _ _ _ (mm_lset hR0 h1 (mm_e.j h2' rfl) hP1 hD1 hS1 (fun _ => trivial) hst (st2 := [])))
            · cases hg
          · cases hg
        · cases h
      · cases h
    · cases h
  · cases h
theorem mm_cls_in {W : mm_W} {v n : Nat} (h : mm_cls W v = some n) : (v < mm_XB ∧ ∃ fs, W[v]? = some (.inr (n, fs))) ∨ (¬ v < mm_XB ∧ ∃ q, md_xc (v - mm_XB) = some q ∧ n = 1000 + q) := by
  unfold mm_cls at h
  split at h
  · rename_i hx
    split at h
    · rename_i hk
      cases h
      exact Or.inl ⟨hx, _, hk⟩
    · cases h
  · rename_i hx
    obtain ⟨q, h1, h2⟩ := Option.map_eq_some_iff.mp h
    exact Or.inr ⟨hx, q, h1, h2.symm⟩
theorem mi_aastore (C : mm_C p l R s m args meth c xl A sc j d) (K : mm_dat) (hd : decode (md_mt j).2.1 pc = .ok (.aastore, 1)) (hn : nx = pc + 1) (h : mm_stepI (md_xa sc) j .aastore nx r1 r2 r3 pc lo st W0 b0 c0 = some (.inl F')) (k : mm_G p l e R s m args below meth c xl D w0 A j bT cT Q F') : mm_G p l e R s m args below meth c xl D w0 A j bT cT Q (pc, lo, st, W0, b0, c0) := by
  subst hn
  simp only [mm_stepI] at h
  split at h
  · rename_i v0 i0 k0 st0
    split at h
    · rename_i hx
      obtain ⟨W2, hg, h⟩ := Option.map_eq_some_iff.mp h
      cases h
      intro ws tys H locs cells slots ls st' hR0
      obtain ⟨hst, ⟨lv, hls, hlo⟩, hw, hK, hP, hD, hS, hR⟩ := id hR0
      have hst0 := mm_l.un hst
      clear hst
      obtain ⟨_, _, rfl, hv, hst⟩ := hst0
      obtain ⟨av, hav, rfl⟩ := mm_v.rr hv
      have hst0 := mm_l.un hst
      clear hst
      obtain ⟨_, _, rfl, hv, hst⟩ := hst0
      cases mm_v.ri hv
      have hst0 := mm_l.un hst
      clear hst
      obtain ⟨_, _, rfl, hv, hst⟩ := hst0
      obtain ⟨a, ha, rfl⟩ := mm_v.rr hv
      unfold mm_aputr at hg
      split at hg
      · rename_i t n f hk
        split at hg
        · rename_i hi
          cases hg
          simp only [Bool.and_eq_true, decide_eq_true_eq] at hi
          obtain ⟨⟨hi, ht⟩, hc⟩ := hi
          obtain ⟨cA, t0, f', h1, h2, h3, h4⟩ := hw.ar hx ha hk
          have h2' := h2
          obtain ⟨E, hE, hE1, hE2⟩ := K.2.2.2.2.2.1 _ ht
          rw [hE] at h2
          have hnew : ∀ q, mm_o xl ws (va_up f i0.toNatClampNeg (some v0) q) (va_up f' i0.toNatClampNeg (some av) q) := fun q => by
            unfold va_up
            split
            · exact ⟨av, hav, rfl⟩
            · exact h3 q
          rcases mm_cls_in hc with ⟨hvx, fs, hkv⟩ | ⟨hvx, q, hq, hn⟩
          · obtain ⟨fs', h5, -⟩ := hw.ob hvx hav hkv
            by_cases hlt : md_ac t < 1000
            · obtain ⟨r, hr, hrE⟩ := hE1 hlt
              subst hrE
              exact va_astq C.1 C.2.1 hK hP hD hS _ _ _ _ h1 h2 h5 hr (mm_ib_in hi) hd (fun H1 locs1 hP1 hD1 hS1 => k _ _ _ _ _ _ _ _ (mm_lset hR0 h1 (mm_e.r h2' hnew h4) hP1 hD1 hS1 (fun _ => trivial) hst (st2 := [])))
            · exfalso
              have h6 := hP _ _ h5
              obtain ⟨r, hr, -⟩ := h6
              exact hlt (K.2.2.2.2.2.2.2.2 _ _ hr)
          · have hge : 1000 ≤ md_ac t := by omega
            have hEq := hE2 hge
            have hq2 : md_ac t - 1000 = q := by omega
            rw [hq2] at hEq
            cases mm_ad_out hav hvx
            have hO := C.2.2.2.2.2.1.2.1 _ _ hq
            rw [hEq] at hO
            obtain ⟨cellV, hV1, hV2, hV3⟩ := va_Orecv hO hS
            have hAny : va_Any E s H (xl (v0 - mm_XB)) := by
              refine ⟨cellV, hV1, hV2, ?_, ?_⟩
              · obtain ⟨k9, h9, -⟩ := Vm.findClass_spec hV3; exact ⟨k9, h9⟩
              · intro comp hcomp
                cases Option.some.inj (hcomp.symm.trans hV3)
                exact va_asg _ _
            exact va_astqM C.1 C.2.1 hK hP hD hS _ _ h1 h2 hAny (mm_ib_in hi) hd (fun H1 locs1 hP1 hD1 hS1 => k _ _ _ _ _ _ _ _ (mm_lset hR0 h1 (mm_e.r h2' hnew h4) hP1 hD1 hS1 (fun _ => trivial) hst (st2 := [])))
        · cases hg
      · cases hg
    · cases h
  · cases h
end MJ
