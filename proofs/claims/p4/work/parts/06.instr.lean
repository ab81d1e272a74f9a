/-! ===== one instruction: from the mini machine's step to the machine's (laid by wip/mm/gen06.py) ===== -/
section MI
variable {p : Program} {l : Launch} {e : Env} {R : Room} {s : State} {m : MethodId} {args : Array Value} {below : List Frame} {meth : Method} {c : Code} {xl : Nat → Nat} {D : va_G} {w0 : va_W} {A : Nat → Prop} {sc : Nat × (Nat → Int32)} {j d bT cT : Nat} {Q : State → Prop} {nx r1 r2 r3 pc : Nat} {lo : List (Nat × Value)} {st : List Value} {W0 : mm_W} {b0 c0 : Nat} {F' : mm_F}
theorem mi_iconst (C : mm_C p l R s m args meth c xl A sc j d) {n : Int} (hd : decode (md_mt j).2.1 pc = .ok (.iconst n, 1)) (hn : nx = pc + 1)  (h : mm_stepI (md_xa sc) j (.iconst n) nx r1 r2 r3 pc lo st W0 b0 c0 = some (.inl F')) (k : mm_G p l e R s m args below meth c xl D w0 A j bT cT Q F') : mm_G p l e R s m args below meth c xl D w0 A j bT cT Q (pc, lo, st, W0, b0, c0) := by
  subst hn
  simp only [mm_stepI] at h
  cases h
  intro ws tys H locs cells slots ls st' hR
  obtain ⟨hst, ⟨lv, hls, hlo⟩, hR⟩ := hR
  exact lv_iconst C.1 C.2.1 hd rfl (k _ _ _ _ _ _ _ _ ⟨mm_l.cons mm_v.i hst, ⟨lv, hls, hlo⟩, hR⟩)
theorem mi_bipush (C : mm_C p l R s m args meth c xl A sc j d) {n : Int} (hd : decode (md_mt j).2.1 pc = .ok (.bipush n, 2)) (hn : nx = pc + 2)  (h : mm_stepI (md_xa sc) j (.bipush n) nx r1 r2 r3 pc lo st W0 b0 c0 = some (.inl F')) (k : mm_G p l e R s m args below meth c xl D w0 A j bT cT Q F') : mm_G p l e R s m args below meth c xl D w0 A j bT cT Q (pc, lo, st, W0, b0, c0) := by
  subst hn
  simp only [mm_stepI] at h
  cases h
  intro ws tys H locs cells slots ls st' hR
  obtain ⟨hst, ⟨lv, hls, hlo⟩, hR⟩ := hR
  exact lv_bipush C.1 C.2.1 hd rfl (k _ _ _ _ _ _ _ _ ⟨mm_l.cons mm_v.i hst, ⟨lv, hls, hlo⟩, hR⟩)
theorem mi_sipush (C : mm_C p l R s m args meth c xl A sc j d) {n : Int} (hd : decode (md_mt j).2.1 pc = .ok (.sipush n, 3)) (hn : nx = pc + 3)  (h : mm_stepI (md_xa sc) j (.sipush n) nx r1 r2 r3 pc lo st W0 b0 c0 = some (.inl F')) (k : mm_G p l e R s m args below meth c xl D w0 A j bT cT Q F') : mm_G p l e R s m args below meth c xl D w0 A j bT cT Q (pc, lo, st, W0, b0, c0) := by
  subst hn
  simp only [mm_stepI] at h
  cases h
  intro ws tys H locs cells slots ls st' hR
  obtain ⟨hst, ⟨lv, hls, hlo⟩, hR⟩ := hR
  exact lv_sipush C.1 C.2.1 hd rfl (k _ _ _ _ _ _ _ _ ⟨mm_l.cons mm_v.i hst, ⟨lv, hls, hlo⟩, hR⟩)
theorem mi_lconst (C : mm_C p l R s m args meth c xl A sc j d) {n : Fin 2} (hd : decode (md_mt j).2.1 pc = .ok (.lconst n, 1)) (hn : nx = pc + 1)  (h : mm_stepI (md_xa sc) j (.lconst n) nx r1 r2 r3 pc lo st W0 b0 c0 = some (.inl F')) (k : mm_G p l e R s m args below meth c xl D w0 A j bT cT Q F') : mm_G p l e R s m args below meth c xl D w0 A j bT cT Q (pc, lo, st, W0, b0, c0) := by
  subst hn
  simp only [mm_stepI] at h
  cases h
  intro ws tys H locs cells slots ls st' hR
  obtain ⟨hst, ⟨lv, hls, hlo⟩, hR⟩ := hR
  exact lv_lconst C.1 C.2.1 hd rfl (k _ _ _ _ _ _ _ _ ⟨mm_l.cons mm_v.j hst, ⟨lv, hls, hlo⟩, hR⟩)
theorem mi_aconst_null (C : mm_C p l R s m args meth c xl A sc j d)  (hd : decode (md_mt j).2.1 pc = .ok (.aconst_null, 1)) (hn : nx = pc + 1)  (h : mm_stepI (md_xa sc) j (.aconst_null) nx r1 r2 r3 pc lo st W0 b0 c0 = some (.inl F')) (k : mm_G p l e R s m args below meth c xl D w0 A j bT cT Q F') : mm_G p l e R s m args below meth c xl D w0 A j bT cT Q (pc, lo, st, W0, b0, c0) := by
  subst hn
  simp only [mm_stepI] at h
  cases h
  intro ws tys H locs cells slots ls st' hR
  obtain ⟨hst, ⟨lv, hls, hlo⟩, hR⟩ := hR
  exact lv_null C.1 C.2.1 hd (k _ _ _ _ _ _ _ _ ⟨mm_l.cons mm_v.n hst, ⟨lv, hls, hlo⟩, hR⟩)
theorem mi_iload (C : mm_C p l R s m args meth c xl A sc j d) {i : Nat} (hd : decode (md_mt j).2.1 pc = .ok (.iload i, 2)) (hn : nx = pc + 2)  (h : mm_stepI (md_xa sc) j (.iload i) nx r1 r2 r3 pc lo st W0 b0 c0 = some (.inl F')) (k : mm_G p l e R s m args below meth c xl D w0 A j bT cT Q F') : mm_G p l e R s m args below meth c xl D w0 A j bT cT Q (pc, lo, st, W0, b0, c0) := by
  subst hn
  simp only [mm_stepI] at h
  split at h
  · rename_i x hg
    cases h
    intro ws tys H locs cells slots ls st' hR
    obtain ⟨hst, ⟨lv, hls, hlo⟩, hR⟩ := hR
    obtain ⟨v', hm, hv⟩ := hlo.get hg
    cases mm_v.ri hv
    exact lv_iload C.1 C.2.1 hd (mm_lvat hls hm) (k _ _ _ _ _ _ _ _ ⟨mm_l.cons mm_v.i hst, ⟨lv, hls, hlo⟩, hR⟩)
  · cases h
theorem mi_iload_n (C : mm_C p l R s m args meth c xl A sc j d) {i : Fin 4} (hd : decode (md_mt j).2.1 pc = .ok (.iload_n i, 1)) (hn : nx = pc + 1)  (h : mm_stepI (md_xa sc) j (.iload_n i) nx r1 r2 r3 pc lo st W0 b0 c0 = some (.inl F')) (k : mm_G p l e R s m args below meth c xl D w0 A j bT cT Q F') : mm_G p l e R s m args below meth c xl D w0 A j bT cT Q (pc, lo, st, W0, b0, c0) := by
  subst hn
  simp only [mm_stepI] at h
  split at h
  · rename_i x hg
    cases h
    intro ws tys H locs cells slots ls st' hR
    obtain ⟨hst, ⟨lv, hls, hlo⟩, hR⟩ := hR
    obtain ⟨v', hm, hv⟩ := hlo.get hg
    cases mm_v.ri hv
    exact lv_iload_n C.1 C.2.1 hd rfl (mm_lvat hls hm) (k _ _ _ _ _ _ _ _ ⟨mm_l.cons mm_v.i hst, ⟨lv, hls, hlo⟩, hR⟩)
  · cases h
theorem mi_lload (C : mm_C p l R s m args meth c xl A sc j d) {i : Nat} (hd : decode (md_mt j).2.1 pc = .ok (.lload i, 2)) (hn : nx = pc + 2)  (h : mm_stepI (md_xa sc) j (.lload i) nx r1 r2 r3 pc lo st W0 b0 c0 = some (.inl F')) (k : mm_G p l e R s m args below meth c xl D w0 A j bT cT Q F') : mm_G p l e R s m args below meth c xl D w0 A j bT cT Q (pc, lo, st, W0, b0, c0) := by
  subst hn
  simp only [mm_stepI] at h
  split at h
  · rename_i x hg
    cases h
    intro ws tys H locs cells slots ls st' hR
    obtain ⟨hst, ⟨lv, hls, hlo⟩, hR⟩ := hR
    obtain ⟨v', hm, hv⟩ := hlo.get hg
    cases mm_v.rj hv
    exact lv_lload C.1 C.2.1 hd (mm_lvat hls hm) (k _ _ _ _ _ _ _ _ ⟨mm_l.cons mm_v.j hst, ⟨lv, hls, hlo⟩, hR⟩)
  · cases h
theorem mi_lload_n (C : mm_C p l R s m args meth c xl A sc j d) {i : Fin 4} (hd : decode (md_mt j).2.1 pc = .ok (.lload_n i, 1)) (hn : nx = pc + 1)  (h : mm_stepI (md_xa sc) j (.lload_n i) nx r1 r2 r3 pc lo st W0 b0 c0 = some (.inl F')) (k : mm_G p l e R s m args below meth c xl D w0 A j bT cT Q F') : mm_G p l e R s m args below meth c xl D w0 A j bT cT Q (pc, lo, st, W0, b0, c0) := by
  subst hn
  simp only [mm_stepI] at h
  split at h
  · rename_i x hg
    cases h
    intro ws tys H locs cells slots ls st' hR
    obtain ⟨hst, ⟨lv, hls, hlo⟩, hR⟩ := hR
    obtain ⟨v', hm, hv⟩ := hlo.get hg
    cases mm_v.rj hv
    exact lv_lload_n C.1 C.2.1 hd rfl (mm_lvat hls hm) (k _ _ _ _ _ _ _ _ ⟨mm_l.cons mm_v.j hst, ⟨lv, hls, hlo⟩, hR⟩)
  · cases h
theorem mi_aload (C : mm_C p l R s m args meth c xl A sc j d) {i : Nat} (hd : decode (md_mt j).2.1 pc = .ok (.aload i, 2)) (hn : nx = pc + 2)  (h : mm_stepI (md_xa sc) j (.aload i) nx r1 r2 r3 pc lo st W0 b0 c0 = some (.inl F')) (k : mm_G p l e R s m args below meth c xl D w0 A j bT cT Q F') : mm_G p l e R s m args below meth c xl D w0 A j bT cT Q (pc, lo, st, W0, b0, c0) := by
  subst hn
  simp only [mm_stepI] at h
  split at h
  · rename_i x hg
    cases h
    intro ws tys H locs cells slots ls st' hR
    obtain ⟨hst, ⟨lv, hls, hlo⟩, hR⟩ := hR
    obtain ⟨v', hm, hv⟩ := hlo.get hg
    obtain ⟨a, ha, rfl⟩ := mm_v.rr hv
    exact lv_aload C.1 C.2.1 hd (mm_lvat hls hm) (k _ _ _ _ _ _ _ _ ⟨mm_l.cons hv hst, ⟨lv, hls, hlo⟩, hR⟩)
  · cases h
theorem mi_aload_n (C : mm_C p l R s m args meth c xl A sc j d) {i : Fin 4} (hd : decode (md_mt j).2.1 pc = .ok (.aload_n i, 1)) (hn : nx = pc + 1)  (h : mm_stepI (md_xa sc) j (.aload_n i) nx r1 r2 r3 pc lo st W0 b0 c0 = some (.inl F')) (k : mm_G p l e R s m args below meth c xl D w0 A j bT cT Q F') : mm_G p l e R s m args below meth c xl D w0 A j bT cT Q (pc, lo, st, W0, b0, c0) := by
  subst hn
  simp only [mm_stepI] at h
  split at h
  · rename_i x hg
    cases h
    intro ws tys H locs cells slots ls st' hR
    obtain ⟨hst, ⟨lv, hls, hlo⟩, hR⟩ := hR
    obtain ⟨v', hm, hv⟩ := hlo.get hg
    obtain ⟨a, ha, rfl⟩ := mm_v.rr hv
    exact lv_aload_n C.1 C.2.1 hd rfl (mm_lvat hls hm) (k _ _ _ _ _ _ _ _ ⟨mm_l.cons hv hst, ⟨lv, hls, hlo⟩, hR⟩)
  · cases h
theorem mi_istore (C : mm_C p l R s m args meth c xl A sc j d) {i : Nat} (hd : decode (md_mt j).2.1 pc = .ok (.istore i, 2)) (hn : nx = pc + 2) (hi : i < (md_mt j).2.2.1) (h : mm_stepI (md_xa sc) j (.istore i) nx r1 r2 r3 pc lo st W0 b0 c0 = some (.inl F')) (k : mm_G p l e R s m args below meth c xl D w0 A j bT cT Q F') : mm_G p l e R s m args below meth c xl D w0 A j bT cT Q (pc, lo, st, W0, b0, c0) := by
  subst hn
  simp only [mm_stepI] at h
  split at h
  · cases h
    intro ws tys H locs cells slots ls st' hR
    obtain ⟨hst, ⟨lv, hls, hlo⟩, hR⟩ := hR
    have hst0 := mm_l.un hst
    clear hst
    obtain ⟨v', l2, rfl, hv, hst⟩ := hst0
    cases mm_v.ri hv
    exact lv_istore C.1 C.2.1 hd hls hi rfl (fun ls2 hl2 => k _ _ _ _ _ _ _ _ ⟨hst, ⟨_, hl2, hlo.sto _ mm_v.i⟩, hR⟩)
  · cases h
theorem mi_istore_n (C : mm_C p l R s m args meth c xl A sc j d) {i : Fin 4} (hd : decode (md_mt j).2.1 pc = .ok (.istore_n i, 1)) (hn : nx = pc + 1) (hi : (i : Nat) < (md_mt j).2.2.1) (h : mm_stepI (md_xa sc) j (.istore_n i) nx r1 r2 r3 pc lo st W0 b0 c0 = some (.inl F')) (k : mm_G p l e R s m args below meth c xl D w0 A j bT cT Q F') : mm_G p l e R s m args below meth c xl D w0 A j bT cT Q (pc, lo, st, W0, b0, c0) := by
  subst hn
  simp only [mm_stepI] at h
  split at h
  · cases h
    intro ws tys H locs cells slots ls st' hR
    obtain ⟨hst, ⟨lv, hls, hlo⟩, hR⟩ := hR
    have hst0 := mm_l.un hst
    clear hst
    obtain ⟨v', l2, rfl, hv, hst⟩ := hst0
    cases mm_v.ri hv
    exact lv_istore_n C.1 C.2.1 hd rfl hls hi rfl (fun ls2 hl2 => k _ _ _ _ _ _ _ _ ⟨hst, ⟨_, hl2, hlo.sto _ mm_v.i⟩, hR⟩)
  · cases h
theorem mi_lstore (C : mm_C p l R s m args meth c xl A sc j d) {i : Nat} (hd : decode (md_mt j).2.1 pc = .ok (.lstore i, 2)) (hn : nx = pc + 2) (hi : i + 1 < (md_mt j).2.2.1) (h : mm_stepI (md_xa sc) j (.lstore i) nx r1 r2 r3 pc lo st W0 b0 c0 = some (.inl F')) (k : mm_G p l e R s m args below meth c xl D w0 A j bT cT Q F') : mm_G p l e R s m args below meth c xl D w0 A j bT cT Q (pc, lo, st, W0, b0, c0) := by
  subst hn
  simp only [mm_stepI] at h
  split at h
  · cases h
    intro ws tys H locs cells slots ls st' hR
    obtain ⟨hst, ⟨lv, hls, hlo⟩, hR⟩ := hR
    have hst0 := mm_l.un hst
    clear hst
    obtain ⟨v', l2, rfl, hv, hst⟩ := hst0
    cases mm_v.rj hv
    exact lv_lstore C.1 C.2.1 hd hls hi rfl (fun ls2 hl2 => k _ _ _ _ _ _ _ _ ⟨hst, ⟨_, hl2, hlo.stl _ mm_v.j⟩, hR⟩)
  · cases h
theorem mi_lstore_n (C : mm_C p l R s m args meth c xl A sc j d) {i : Fin 4} (hd : decode (md_mt j).2.1 pc = .ok (.lstore_n i, 1)) (hn : nx = pc + 1) (hi : (i : Nat) + 1 < (md_mt j).2.2.1) (h : mm_stepI (md_xa sc) j (.lstore_n i) nx r1 r2 r3 pc lo st W0 b0 c0 = some (.inl F')) (k : mm_G p l e R s m args below meth c xl D w0 A j bT cT Q F') : mm_G p l e R s m args below meth c xl D w0 A j bT cT Q (pc, lo, st, W0, b0, c0) := by
  subst hn
  simp only [mm_stepI] at h
  split at h
  · cases h
    intro ws tys H locs cells slots ls st' hR
    obtain ⟨hst, ⟨lv, hls, hlo⟩, hR⟩ := hR
    have hst0 := mm_l.un hst
    clear hst
    obtain ⟨v', l2, rfl, hv, hst⟩ := hst0
    cases mm_v.rj hv
    exact lv_lstore_n C.1 C.2.1 hd rfl hls hi rfl (fun ls2 hl2 => k _ _ _ _ _ _ _ _ ⟨hst, ⟨_, hl2, hlo.stl _ mm_v.j⟩, hR⟩)
  · cases h
theorem mi_astore (C : mm_C p l R s m args meth c xl A sc j d) {i : Nat} (hd : decode (md_mt j).2.1 pc = .ok (.astore i, 2)) (hn : nx = pc + 2) (hi : i < (md_mt j).2.2.1) (h : mm_stepI (md_xa sc) j (.astore i) nx r1 r2 r3 pc lo st W0 b0 c0 = some (.inl F')) (k : mm_G p l e R s m args below meth c xl D w0 A j bT cT Q F') : mm_G p l e R s m args below meth c xl D w0 A j bT cT Q (pc, lo, st, W0, b0, c0) := by
  subst hn
  simp only [mm_stepI] at h
  split at h
  · cases h
    intro ws tys H locs cells slots ls st' hR
    obtain ⟨hst, ⟨lv, hls, hlo⟩, hR⟩ := hR
    have hst0 := mm_l.un hst
    clear hst
    obtain ⟨v', l2, rfl, hv, hst⟩ := hst0
    obtain ⟨a, ha, rfl⟩ := mm_v.rr hv
    exact lv_astore C.1 C.2.1 hd hls hi rfl (fun ls2 hl2 => k _ _ _ _ _ _ _ _ ⟨hst, ⟨_, hl2, hlo.sto _ hv⟩, hR⟩)
  · cases h
    intro ws tys H locs cells slots ls st' hR
    obtain ⟨hst, ⟨lv, hls, hlo⟩, hR⟩ := hR
    have hst0 := mm_l.un hst
    clear hst
    obtain ⟨v', l2, rfl, hv, hst⟩ := hst0
    rcases mm_v.rt hv with rfl | ⟨a, rfl⟩
    · exact lv_astoreN C.1 C.2.1 hd hls hi rfl (fun ls2 hl2 => k _ _ _ _ _ _ _ _ ⟨hst, ⟨_, hl2, hlo.sto _ hv⟩, hR⟩)
    · exact lv_astore C.1 C.2.1 hd hls hi rfl (fun ls2 hl2 => k _ _ _ _ _ _ _ _ ⟨hst, ⟨_, hl2, hlo.sto _ hv⟩, hR⟩)
  · cases h
theorem mi_astore_n (C : mm_C p l R s m args meth c xl A sc j d) {i : Fin 4} (hd : decode (md_mt j).2.1 pc = .ok (.astore_n i, 1)) (hn : nx = pc + 1) (hi : (i : Nat) < (md_mt j).2.2.1) (h : mm_stepI (md_xa sc) j (.astore_n i) nx r1 r2 r3 pc lo st W0 b0 c0 = some (.inl F')) (k : mm_G p l e R s m args below meth c xl D w0 A j bT cT Q F') : mm_G p l e R s m args below meth c xl D w0 A j bT cT Q (pc, lo, st, W0, b0, c0) := by
  subst hn
  simp only [mm_stepI] at h
  split at h
  · cases h
    intro ws tys H locs cells slots ls st' hR
    obtain ⟨hst, ⟨lv, hls, hlo⟩, hR⟩ := hR
    have hst0 := mm_l.un hst
    clear hst
    obtain ⟨v', l2, rfl, hv, hst⟩ := hst0
    obtain ⟨a, ha, rfl⟩ := mm_v.rr hv
    exact lv_astore_n C.1 C.2.1 hd rfl hls hi rfl (fun ls2 hl2 => k _ _ _ _ _ _ _ _ ⟨hst, ⟨_, hl2, hlo.sto _ hv⟩, hR⟩)
  · cases h
    intro ws tys H locs cells slots ls st' hR
    obtain ⟨hst, ⟨lv, hls, hlo⟩, hR⟩ := hR
    have hst0 := mm_l.un hst
    clear hst
    obtain ⟨v', l2, rfl, hv, hst⟩ := hst0
    rcases mm_v.rt hv with rfl | ⟨a, rfl⟩
    · exact lv_astore_nN C.1 C.2.1 hd rfl hls hi rfl (fun ls2 hl2 => k _ _ _ _ _ _ _ _ ⟨hst, ⟨_, hl2, hlo.sto _ hv⟩, hR⟩)
    · exact lv_astore_n C.1 C.2.1 hd rfl hls hi rfl (fun ls2 hl2 => k _ _ _ _ _ _ _ _ ⟨hst, ⟨_, hl2, hlo.sto _ hv⟩, hR⟩)
  · cases h
theorem mi_iinc (C : mm_C p l R s m args meth c xl A sc j d) {i : Nat} {n : Int} (hd : decode (md_mt j).2.1 pc = .ok (.iinc i n, 3)) (hn : nx = pc + 3) (hi : i < (md_mt j).2.2.1) (h : mm_stepI (md_xa sc) j (.iinc i n) nx r1 r2 r3 pc lo st W0 b0 c0 = some (.inl F')) (k : mm_G p l e R s m args below meth c xl D w0 A j bT cT Q F') : mm_G p l e R s m args below meth c xl D w0 A j bT cT Q (pc, lo, st, W0, b0, c0) := by
  subst hn
  simp only [mm_stepI] at h
  split at h
  · rename_i x hg
    cases h
    intro ws tys H locs cells slots ls st' hR
    obtain ⟨hst, ⟨lv, hls, hlo⟩, hR⟩ := hR
    obtain ⟨v', hm, hv⟩ := hlo.get hg
    cases mm_v.ri hv
    obtain ⟨q, hq⟩ := List.getElem?_of_mem hm
    exact lv_iinc C.1 C.2.1 hd hls hq rfl hi rfl (fun ls2 hl2 => k _ _ _ _ _ _ _ _ ⟨hst, ⟨_, hl2, hlo.sto _ mm_v.i⟩, hR⟩)
  · cases h
theorem mi_dup (C : mm_C p l R s m args meth c xl A sc j d)  (hd : decode (md_mt j).2.1 pc = .ok (.dup, 1)) (hn : nx = pc + 1)  (h : mm_stepI (md_xa sc) j (.dup) nx r1 r2 r3 pc lo st W0 b0 c0 = some (.inl F')) (k : mm_G p l e R s m args below meth c xl D w0 A j bT cT Q F') : mm_G p l e R s m args below meth c xl D w0 A j bT cT Q (pc, lo, st, W0, b0, c0) := by
  subst hn
  simp only [mm_stepI] at h
  split at h
  · split at h
    · rename_i hc
      cases h
      intro ws tys H locs cells slots ls st' hR
      obtain ⟨hst, ⟨lv, hls, hlo⟩, hR⟩ := hR
      have hst0 := mm_l.un hst
      clear hst
      obtain ⟨v', l2, rfl, hv, hst⟩ := hst0
      exact lv_dup C.1 C.2.1 hd (hv.cat.trans hc) (k _ _ _ _ _ _ _ _ ⟨mm_l.cons hv (mm_l.cons hv hst), ⟨lv, hls, hlo⟩, hR⟩)
    · cases h
  · cases h
theorem mi_pop (C : mm_C p l R s m args meth c xl A sc j d)  (hd : decode (md_mt j).2.1 pc = .ok (.pop, 1)) (hn : nx = pc + 1)  (h : mm_stepI (md_xa sc) j (.pop) nx r1 r2 r3 pc lo st W0 b0 c0 = some (.inl F')) (k : mm_G p l e R s m args below meth c xl D w0 A j bT cT Q F') : mm_G p l e R s m args below meth c xl D w0 A j bT cT Q (pc, lo, st, W0, b0, c0) := by
  subst hn
  simp only [mm_stepI] at h
  split at h
  · split at h
    · rename_i hc
      cases h
      intro ws tys H locs cells slots ls st' hR
      obtain ⟨hst, ⟨lv, hls, hlo⟩, hR⟩ := hR
      have hst0 := mm_l.un hst
      clear hst
      obtain ⟨v', l2, rfl, hv, hst⟩ := hst0
      exact lv_pop C.1 C.2.1 hd (hv.cat.trans hc) (k _ _ _ _ _ _ _ _ ⟨hst, ⟨lv, hls, hlo⟩, hR⟩)
    · cases h
  · cases h
theorem mi_dup2 (C : mm_C p l R s m args meth c xl A sc j d)  (hd : decode (md_mt j).2.1 pc = .ok (.dup2, 1)) (hn : nx = pc + 1)  (h : mm_stepI (md_xa sc) j (.dup2) nx r1 r2 r3 pc lo st W0 b0 c0 = some (.inl F')) (k : mm_G p l e R s m args below meth c xl D w0 A j bT cT Q F') : mm_G p l e R s m args below meth c xl D w0 A j bT cT Q (pc, lo, st, W0, b0, c0) := by
  subst hn
  simp only [mm_stepI] at h
  split at h
  · split at h
    · rename_i hc
      cases h
      intro ws tys H locs cells slots ls st' hR
      obtain ⟨hst, ⟨lv, hls, hlo⟩, hR⟩ := hR
      have hst0 := mm_l.un hst
      clear hst
      obtain ⟨v', l2, rfl, hv, hst⟩ := hst0
      have hst0 := mm_l.un hst
      clear hst
      obtain ⟨w', l3, rfl, hw, hst⟩ := hst0
      exact lv_dup2_11 C.1 C.2.1 hd (hv.cat.trans hc.1) (hw.cat.trans hc.2) (k _ _ _ _ _ _ _ _ ⟨mm_l.cons hv (mm_l.cons hw (mm_l.cons hv (mm_l.cons hw hst))), ⟨lv, hls, hlo⟩, hR⟩)
    · cases h
  · cases h
theorem mi_iadd (C : mm_C p l R s m args meth c xl A sc j d)  (hd : decode (md_mt j).2.1 pc = .ok (.iadd, 1)) (hn : nx = pc + 1)  (h : mm_stepI (md_xa sc) j (.iadd) nx r1 r2 r3 pc lo st W0 b0 c0 = some (.inl F')) (k : mm_G p l e R s m args below meth c xl D w0 A j bT cT Q F') : mm_G p l e R s m args below meth c xl D w0 A j bT cT Q (pc, lo, st, W0, b0, c0) := by
  subst hn
  simp only [mm_stepI] at h
  split at h
  · cases h
    intro ws tys H locs cells slots ls st' hR
    obtain ⟨hst, ⟨lv, hls, hlo⟩, hR⟩ := hR
    have hst0 := mm_l.un hst
    clear hst
    obtain ⟨_, _, rfl, hv, hst⟩ := hst0
    cases mm_v.ri hv
    have hst0 := mm_l.un hst
    clear hst
    obtain ⟨_, _, rfl, hv, hst⟩ := hst0
    cases mm_v.ri hv
    exact lv_iadd C.1 C.2.1 hd (k _ _ _ _ _ _ _ _ ⟨mm_l.cons mm_v.i hst, ⟨lv, hls, hlo⟩, hR⟩)
  · cases h
theorem mi_isub (C : mm_C p l R s m args meth c xl A sc j d)  (hd : decode (md_mt j).2.1 pc = .ok (.isub, 1)) (hn : nx = pc + 1)  (h : mm_stepI (md_xa sc) j (.isub) nx r1 r2 r3 pc lo st W0 b0 c0 = some (.inl F')) (k : mm_G p l e R s m args below meth c xl D w0 A j bT cT Q F') : mm_G p l e R s m args below meth c xl D w0 A j bT cT Q (pc, lo, st, W0, b0, c0) := by
  subst hn
  simp only [mm_stepI] at h
  split at h
  · cases h
    intro ws tys H locs cells slots ls st' hR
    obtain ⟨hst, ⟨lv, hls, hlo⟩, hR⟩ := hR
    have hst0 := mm_l.un hst
    clear hst
    obtain ⟨_, _, rfl, hv, hst⟩ := hst0
    cases mm_v.ri hv
    have hst0 := mm_l.un hst
    clear hst
    obtain ⟨_, _, rfl, hv, hst⟩ := hst0
    cases mm_v.ri hv
    exact lv_isub C.1 C.2.1 hd (k _ _ _ _ _ _ _ _ ⟨mm_l.cons mm_v.i hst, ⟨lv, hls, hlo⟩, hR⟩)
  · cases h
theorem mi_imul (C : mm_C p l R s m args meth c xl A sc j d)  (hd : decode (md_mt j).2.1 pc = .ok (.imul, 1)) (hn : nx = pc + 1)  (h : mm_stepI (md_xa sc) j (.imul) nx r1 r2 r3 pc lo st W0 b0 c0 = some (.inl F')) (k : mm_G p l e R s m args below meth c xl D w0 A j bT cT Q F') : mm_G p l e R s m args below meth c xl D w0 A j bT cT Q (pc, lo, st, W0, b0, c0) := by
  subst hn
  simp only [mm_stepI] at h
  split at h
  · cases h
    intro ws tys H locs cells slots ls st' hR
    obtain ⟨hst, ⟨lv, hls, hlo⟩, hR⟩ := hR
    have hst0 := mm_l.un hst
    clear hst
    obtain ⟨_, _, rfl, hv, hst⟩ := hst0
    cases mm_v.ri hv
    have hst0 := mm_l.un hst
    clear hst
    obtain ⟨_, _, rfl, hv, hst⟩ := hst0
    cases mm_v.ri hv
    exact lv_imul C.1 C.2.1 hd (k _ _ _ _ _ _ _ _ ⟨mm_l.cons mm_v.i hst, ⟨lv, hls, hlo⟩, hR⟩)
  · cases h
theorem mi_iand (C : mm_C p l R s m args meth c xl A sc j d)  (hd : decode (md_mt j).2.1 pc = .ok (.iand, 1)) (hn : nx = pc + 1)  (h : mm_stepI (md_xa sc) j (.iand) nx r1 r2 r3 pc lo st W0 b0 c0 = some (.inl F')) (k : mm_G p l e R s m args below meth c xl D w0 A j bT cT Q F') : mm_G p l e R s m args below meth c xl D w0 A j bT cT Q (pc, lo, st, W0, b0, c0) := by
  subst hn
  simp only [mm_stepI] at h
  split at h
  · cases h
    intro ws tys H locs cells slots ls st' hR
    obtain ⟨hst, ⟨lv, hls, hlo⟩, hR⟩ := hR
    have hst0 := mm_l.un hst
    clear hst
    obtain ⟨_, _, rfl, hv, hst⟩ := hst0
    cases mm_v.ri hv
    have hst0 := mm_l.un hst
    clear hst
    obtain ⟨_, _, rfl, hv, hst⟩ := hst0
    cases mm_v.ri hv
    exact lv_iand C.1 C.2.1 hd (k _ _ _ _ _ _ _ _ ⟨mm_l.cons mm_v.i hst, ⟨lv, hls, hlo⟩, hR⟩)
  · cases h
theorem mi_ior (C : mm_C p l R s m args meth c xl A sc j d)  (hd : decode (md_mt j).2.1 pc = .ok (.ior, 1)) (hn : nx = pc + 1)  (h : mm_stepI (md_xa sc) j (.ior) nx r1 r2 r3 pc lo st W0 b0 c0 = some (.inl F')) (k : mm_G p l e R s m args below meth c xl D w0 A j bT cT Q F') : mm_G p l e R s m args below meth c xl D w0 A j bT cT Q (pc, lo, st, W0, b0, c0) := by
  subst hn
  simp only [mm_stepI] at h
  split at h
  · cases h
    intro ws tys H locs cells slots ls st' hR
    obtain ⟨hst, ⟨lv, hls, hlo⟩, hR⟩ := hR
    have hst0 := mm_l.un hst
    clear hst
    obtain ⟨_, _, rfl, hv, hst⟩ := hst0
    cases mm_v.ri hv
    have hst0 := mm_l.un hst
    clear hst
    obtain ⟨_, _, rfl, hv, hst⟩ := hst0
    cases mm_v.ri hv
    exact lv_ior C.1 C.2.1 hd (k _ _ _ _ _ _ _ _ ⟨mm_l.cons mm_v.i hst, ⟨lv, hls, hlo⟩, hR⟩)
  · cases h
theorem mi_ixor (C : mm_C p l R s m args meth c xl A sc j d)  (hd : decode (md_mt j).2.1 pc = .ok (.ixor, 1)) (hn : nx = pc + 1)  (h : mm_stepI (md_xa sc) j (.ixor) nx r1 r2 r3 pc lo st W0 b0 c0 = some (.inl F')) (k : mm_G p l e R s m args below meth c xl D w0 A j bT cT Q F') : mm_G p l e R s m args below meth c xl D w0 A j bT cT Q (pc, lo, st, W0, b0, c0) := by
  subst hn
  simp only [mm_stepI] at h
  split at h
  · cases h
    intro ws tys H locs cells slots ls st' hR
    obtain ⟨hst, ⟨lv, hls, hlo⟩, hR⟩ := hR
    have hst0 := mm_l.un hst
    clear hst
    obtain ⟨_, _, rfl, hv, hst⟩ := hst0
    cases mm_v.ri hv
    have hst0 := mm_l.un hst
    clear hst
    obtain ⟨_, _, rfl, hv, hst⟩ := hst0
    cases mm_v.ri hv
    exact lv_ixor C.1 C.2.1 hd (k _ _ _ _ _ _ _ _ ⟨mm_l.cons mm_v.i hst, ⟨lv, hls, hlo⟩, hR⟩)
  · cases h
theorem mi_ineg (C : mm_C p l R s m args meth c xl A sc j d)  (hd : decode (md_mt j).2.1 pc = .ok (.ineg, 1)) (hn : nx = pc + 1)  (h : mm_stepI (md_xa sc) j (.ineg) nx r1 r2 r3 pc lo st W0 b0 c0 = some (.inl F')) (k : mm_G p l e R s m args below meth c xl D w0 A j bT cT Q F') : mm_G p l e R s m args below meth c xl D w0 A j bT cT Q (pc, lo, st, W0, b0, c0) := by
  subst hn
  simp only [mm_stepI] at h
  split at h
  · cases h
    intro ws tys H locs cells slots ls st' hR
    obtain ⟨hst, ⟨lv, hls, hlo⟩, hR⟩ := hR
    have hst0 := mm_l.un hst
    clear hst
    obtain ⟨_, _, rfl, hv, hst⟩ := hst0
    cases mm_v.ri hv
    exact lv_ineg C.1 C.2.1 hd (k _ _ _ _ _ _ _ _ ⟨mm_l.cons mm_v.i hst, ⟨lv, hls, hlo⟩, hR⟩)
  · cases h
theorem mi_ishl (C : mm_C p l R s m args meth c xl A sc j d)  (hd : decode (md_mt j).2.1 pc = .ok (.ishl, 1)) (hn : nx = pc + 1)  (h : mm_stepI (md_xa sc) j (.ishl) nx r1 r2 r3 pc lo st W0 b0 c0 = some (.inl F')) (k : mm_G p l e R s m args below meth c xl D w0 A j bT cT Q F') : mm_G p l e R s m args below meth c xl D w0 A j bT cT Q (pc, lo, st, W0, b0, c0) := by
  subst hn
  simp only [mm_stepI] at h
  split at h
  · cases h
    intro ws tys H locs cells slots ls st' hR
    obtain ⟨hst, ⟨lv, hls, hlo⟩, hR⟩ := hR
    have hst0 := mm_l.un hst
    clear hst
    obtain ⟨_, _, rfl, hv, hst⟩ := hst0
    cases mm_v.ri hv
    have hst0 := mm_l.un hst
    clear hst
    obtain ⟨_, _, rfl, hv, hst⟩ := hst0
    cases mm_v.ri hv
    exact lv_ishl C.1 C.2.1 hd (k _ _ _ _ _ _ _ _ ⟨mm_l.cons mm_v.i hst, ⟨lv, hls, hlo⟩, hR⟩)
  · cases h
theorem mi_ishr (C : mm_C p l R s m args meth c xl A sc j d)  (hd : decode (md_mt j).2.1 pc = .ok (.ishr, 1)) (hn : nx = pc + 1)  (h : mm_stepI (md_xa sc) j (.ishr) nx r1 r2 r3 pc lo st W0 b0 c0 = some (.inl F')) (k : mm_G p l e R s m args below meth c xl D w0 A j bT cT Q F') : mm_G p l e R s m args below meth c xl D w0 A j bT cT Q (pc, lo, st, W0, b0, c0) := by
  subst hn
  simp only [mm_stepI] at h
  split at h
  · cases h
    intro ws tys H locs cells slots ls st' hR
    obtain ⟨hst, ⟨lv, hls, hlo⟩, hR⟩ := hR
    have hst0 := mm_l.un hst
    clear hst
    obtain ⟨_, _, rfl, hv, hst⟩ := hst0
    cases mm_v.ri hv
    have hst0 := mm_l.un hst
    clear hst
    obtain ⟨_, _, rfl, hv, hst⟩ := hst0
    cases mm_v.ri hv
    exact lv_ishr C.1 C.2.1 hd (k _ _ _ _ _ _ _ _ ⟨mm_l.cons mm_v.i hst, ⟨lv, hls, hlo⟩, hR⟩)
  · cases h
theorem mi_iushr (C : mm_C p l R s m args meth c xl A sc j d)  (hd : decode (md_mt j).2.1 pc = .ok (.iushr, 1)) (hn : nx = pc + 1)  (h : mm_stepI (md_xa sc) j (.iushr) nx r1 r2 r3 pc lo st W0 b0 c0 = some (.inl F')) (k : mm_G p l e R s m args below meth c xl D w0 A j bT cT Q F') : mm_G p l e R s m args below meth c xl D w0 A j bT cT Q (pc, lo, st, W0, b0, c0) := by
  subst hn
  simp only [mm_stepI] at h
  split at h
  · cases h
    intro ws tys H locs cells slots ls st' hR
    obtain ⟨hst, ⟨lv, hls, hlo⟩, hR⟩ := hR
    have hst0 := mm_l.un hst
    clear hst
    obtain ⟨_, _, rfl, hv, hst⟩ := hst0
    cases mm_v.ri hv
    have hst0 := mm_l.un hst
    clear hst
    obtain ⟨_, _, rfl, hv, hst⟩ := hst0
    cases mm_v.ri hv
    exact lv_iushr C.1 C.2.1 hd rfl (k _ _ _ _ _ _ _ _ ⟨mm_l.cons mm_v.i hst, ⟨lv, hls, hlo⟩, hR⟩)
  · cases h
theorem mi_land (C : mm_C p l R s m args meth c xl A sc j d)  (hd : decode (md_mt j).2.1 pc = .ok (.land, 1)) (hn : nx = pc + 1)  (h : mm_stepI (md_xa sc) j (.land) nx r1 r2 r3 pc lo st W0 b0 c0 = some (.inl F')) (k : mm_G p l e R s m args below meth c xl D w0 A j bT cT Q F') : mm_G p l e R s m args below meth c xl D w0 A j bT cT Q (pc, lo, st, W0, b0, c0) := by
  subst hn
  simp only [mm_stepI] at h
  split at h
  · cases h
    intro ws tys H locs cells slots ls st' hR
    obtain ⟨hst, ⟨lv, hls, hlo⟩, hR⟩ := hR
    have hst0 := mm_l.un hst
    clear hst
    obtain ⟨_, _, rfl, hv, hst⟩ := hst0
    cases mm_v.rj hv
    have hst0 := mm_l.un hst
    clear hst
    obtain ⟨_, _, rfl, hv, hst⟩ := hst0
    cases mm_v.rj hv
    exact lv_land C.1 C.2.1 hd (k _ _ _ _ _ _ _ _ ⟨mm_l.cons mm_v.j hst, ⟨lv, hls, hlo⟩, hR⟩)
  · cases h
theorem mi_lor (C : mm_C p l R s m args meth c xl A sc j d)  (hd : decode (md_mt j).2.1 pc = .ok (.lor, 1)) (hn : nx = pc + 1)  (h : mm_stepI (md_xa sc) j (.lor) nx r1 r2 r3 pc lo st W0 b0 c0 = some (.inl F')) (k : mm_G p l e R s m args below meth c xl D w0 A j bT cT Q F') : mm_G p l e R s m args below meth c xl D w0 A j bT cT Q (pc, lo, st, W0, b0, c0) := by
  subst hn
  simp only [mm_stepI] at h
  split at h
  · cases h
    intro ws tys H locs cells slots ls st' hR
    obtain ⟨hst, ⟨lv, hls, hlo⟩, hR⟩ := hR
    have hst0 := mm_l.un hst
    clear hst
    obtain ⟨_, _, rfl, hv, hst⟩ := hst0
    cases mm_v.rj hv
    have hst0 := mm_l.un hst
    clear hst
    obtain ⟨_, _, rfl, hv, hst⟩ := hst0
    cases mm_v.rj hv
    exact lv_lor C.1 C.2.1 hd (k _ _ _ _ _ _ _ _ ⟨mm_l.cons mm_v.j hst, ⟨lv, hls, hlo⟩, hR⟩)
  · cases h
theorem mi_lshl (C : mm_C p l R s m args meth c xl A sc j d)  (hd : decode (md_mt j).2.1 pc = .ok (.lshl, 1)) (hn : nx = pc + 1)  (h : mm_stepI (md_xa sc) j (.lshl) nx r1 r2 r3 pc lo st W0 b0 c0 = some (.inl F')) (k : mm_G p l e R s m args below meth c xl D w0 A j bT cT Q F') : mm_G p l e R s m args below meth c xl D w0 A j bT cT Q (pc, lo, st, W0, b0, c0) := by
  subst hn
  simp only [mm_stepI] at h
  split at h
  · cases h
    intro ws tys H locs cells slots ls st' hR
    obtain ⟨hst, ⟨lv, hls, hlo⟩, hR⟩ := hR
    have hst0 := mm_l.un hst
    clear hst
    obtain ⟨_, _, rfl, hv, hst⟩ := hst0
    cases mm_v.ri hv
    have hst0 := mm_l.un hst
    clear hst
    obtain ⟨_, _, rfl, hv, hst⟩ := hst0
    cases mm_v.rj hv
    exact lv_lshl C.1 C.2.1 hd rfl (k _ _ _ _ _ _ _ _ ⟨mm_l.cons mm_v.j hst, ⟨lv, hls, hlo⟩, hR⟩)
  · cases h
theorem mi_lshr (C : mm_C p l R s m args meth c xl A sc j d)  (hd : decode (md_mt j).2.1 pc = .ok (.lshr, 1)) (hn : nx = pc + 1)  (h : mm_stepI (md_xa sc) j (.lshr) nx r1 r2 r3 pc lo st W0 b0 c0 = some (.inl F')) (k : mm_G p l e R s m args below meth c xl D w0 A j bT cT Q F') : mm_G p l e R s m args below meth c xl D w0 A j bT cT Q (pc, lo, st, W0, b0, c0) := by
  subst hn
  simp only [mm_stepI] at h
  split at h
  · cases h
    intro ws tys H locs cells slots ls st' hR
    obtain ⟨hst, ⟨lv, hls, hlo⟩, hR⟩ := hR
    have hst0 := mm_l.un hst
    clear hst
    obtain ⟨_, _, rfl, hv, hst⟩ := hst0
    cases mm_v.ri hv
    have hst0 := mm_l.un hst
    clear hst
    obtain ⟨_, _, rfl, hv, hst⟩ := hst0
    cases mm_v.rj hv
    exact lv_lshr C.1 C.2.1 hd rfl (k _ _ _ _ _ _ _ _ ⟨mm_l.cons mm_v.j hst, ⟨lv, hls, hlo⟩, hR⟩)
  · cases h
theorem mi_lcmp (C : mm_C p l R s m args meth c xl A sc j d)  (hd : decode (md_mt j).2.1 pc = .ok (.lcmp, 1)) (hn : nx = pc + 1)  (h : mm_stepI (md_xa sc) j (.lcmp) nx r1 r2 r3 pc lo st W0 b0 c0 = some (.inl F')) (k : mm_G p l e R s m args below meth c xl D w0 A j bT cT Q F') : mm_G p l e R s m args below meth c xl D w0 A j bT cT Q (pc, lo, st, W0, b0, c0) := by
  subst hn
  simp only [mm_stepI] at h
  split at h
  · cases h
    intro ws tys H locs cells slots ls st' hR
    obtain ⟨hst, ⟨lv, hls, hlo⟩, hR⟩ := hR
    have hst0 := mm_l.un hst
    clear hst
    obtain ⟨_, _, rfl, hv, hst⟩ := hst0
    cases mm_v.rj hv
    have hst0 := mm_l.un hst
    clear hst
    obtain ⟨_, _, rfl, hv, hst⟩ := hst0
    cases mm_v.rj hv
    exact W.lcmp C.1 C.2.1 hd (k _ _ _ _ _ _ _ _ ⟨mm_l.cons mm_v.i hst, ⟨lv, hls, hlo⟩, hR⟩)
  · cases h
theorem mi_i2l (C : mm_C p l R s m args meth c xl A sc j d)  (hd : decode (md_mt j).2.1 pc = .ok (.i2l, 1)) (hn : nx = pc + 1)  (h : mm_stepI (md_xa sc) j (.i2l) nx r1 r2 r3 pc lo st W0 b0 c0 = some (.inl F')) (k : mm_G p l e R s m args below meth c xl D w0 A j bT cT Q F') : mm_G p l e R s m args below meth c xl D w0 A j bT cT Q (pc, lo, st, W0, b0, c0) := by
  subst hn
  simp only [mm_stepI] at h
  split at h
  · cases h
    intro ws tys H locs cells slots ls st' hR
    obtain ⟨hst, ⟨lv, hls, hlo⟩, hR⟩ := hR
    have hst0 := mm_l.un hst
    clear hst
    obtain ⟨_, _, rfl, hv, hst⟩ := hst0
    cases mm_v.ri hv
    exact lv_i2l C.1 C.2.1 hd rfl (k _ _ _ _ _ _ _ _ ⟨mm_l.cons mm_v.j hst, ⟨lv, hls, hlo⟩, hR⟩)
  · cases h
theorem mi_l2i (C : mm_C p l R s m args meth c xl A sc j d)  (hd : decode (md_mt j).2.1 pc = .ok (.l2i, 1)) (hn : nx = pc + 1)  (h : mm_stepI (md_xa sc) j (.l2i) nx r1 r2 r3 pc lo st W0 b0 c0 = some (.inl F')) (k : mm_G p l e R s m args below meth c xl D w0 A j bT cT Q F') : mm_G p l e R s m args below meth c xl D w0 A j bT cT Q (pc, lo, st, W0, b0, c0) := by
  subst hn
  simp only [mm_stepI] at h
  split at h
  · cases h
    intro ws tys H locs cells slots ls st' hR
    obtain ⟨hst, ⟨lv, hls, hlo⟩, hR⟩ := hR
    have hst0 := mm_l.un hst
    clear hst
    obtain ⟨_, _, rfl, hv, hst⟩ := hst0
    cases mm_v.rj hv
    exact lv_l2i C.1 C.2.1 hd rfl (k _ _ _ _ _ _ _ _ ⟨mm_l.cons mm_v.i hst, ⟨lv, hls, hlo⟩, hR⟩)
  · cases h
theorem mi_i2b (C : mm_C p l R s m args meth c xl A sc j d)  (hd : decode (md_mt j).2.1 pc = .ok (.i2b, 1)) (hn : nx = pc + 1)  (h : mm_stepI (md_xa sc) j (.i2b) nx r1 r2 r3 pc lo st W0 b0 c0 = some (.inl F')) (k : mm_G p l e R s m args below meth c xl D w0 A j bT cT Q F') : mm_G p l e R s m args below meth c xl D w0 A j bT cT Q (pc, lo, st, W0, b0, c0) := by
  subst hn
  simp only [mm_stepI] at h
  split at h
  · cases h
    intro ws tys H locs cells slots ls st' hR
    obtain ⟨hst, ⟨lv, hls, hlo⟩, hR⟩ := hR
    have hst0 := mm_l.un hst
    clear hst
    obtain ⟨_, _, rfl, hv, hst⟩ := hst0
    cases mm_v.ri hv
    exact lv_i2b C.1 C.2.1 hd rfl (k _ _ _ _ _ _ _ _ ⟨mm_l.cons mm_v.i hst, ⟨lv, hls, hlo⟩, hR⟩)
  · cases h
theorem mi_i2c (C : mm_C p l R s m args meth c xl A sc j d)  (hd : decode (md_mt j).2.1 pc = .ok (.i2c, 1)) (hn : nx = pc + 1)  (h : mm_stepI (md_xa sc) j (.i2c) nx r1 r2 r3 pc lo st W0 b0 c0 = some (.inl F')) (k : mm_G p l e R s m args below meth c xl D w0 A j bT cT Q F') : mm_G p l e R s m args below meth c xl D w0 A j bT cT Q (pc, lo, st, W0, b0, c0) := by
  subst hn
  simp only [mm_stepI] at h
  split at h
  · cases h
    intro ws tys H locs cells slots ls st' hR
    obtain ⟨hst, ⟨lv, hls, hlo⟩, hR⟩ := hR
    have hst0 := mm_l.un hst
    clear hst
    obtain ⟨_, _, rfl, hv, hst⟩ := hst0
    cases mm_v.ri hv
    exact lv_i2c C.1 C.2.1 hd rfl (k _ _ _ _ _ _ _ _ ⟨mm_l.cons mm_v.i hst, ⟨lv, hls, hlo⟩, hR⟩)
  · cases h
theorem mi_idiv (C : mm_C p l R s m args meth c xl A sc j d)  (hd : decode (md_mt j).2.1 pc = .ok (.idiv, 1)) (hn : nx = pc + 1)  (h : mm_stepI (md_xa sc) j (.idiv) nx r1 r2 r3 pc lo st W0 b0 c0 = some (.inl F')) (k : mm_G p l e R s m args below meth c xl D w0 A j bT cT Q F') : mm_G p l e R s m args below meth c xl D w0 A j bT cT Q (pc, lo, st, W0, b0, c0) := by
  subst hn
  simp only [mm_stepI] at h
  split at h
  · split at h
    · cases h
    · rename_i hz
      cases h
      intro ws tys H locs cells slots ls st' hR
      obtain ⟨hst, ⟨lv, hls, hlo⟩, hR⟩ := hR
      have hst0 := mm_l.un hst
      clear hst
      obtain ⟨_, _, rfl, hv, hst⟩ := hst0
      cases mm_v.ri hv
      have hst0 := mm_l.un hst
      clear hst
      obtain ⟨_, _, rfl, hv, hst⟩ := hst0
      cases mm_v.ri hv
      exact lv_idiv C.1 C.2.1 hd hz (k _ _ _ _ _ _ _ _ ⟨mm_l.cons mm_v.i hst, ⟨lv, hls, hlo⟩, hR⟩)
  · cases h
theorem mi_irem (C : mm_C p l R s m args meth c xl A sc j d)  (hd : decode (md_mt j).2.1 pc = .ok (.irem, 1)) (hn : nx = pc + 1)  (h : mm_stepI (md_xa sc) j (.irem) nx r1 r2 r3 pc lo st W0 b0 c0 = some (.inl F')) (k : mm_G p l e R s m args below meth c xl D w0 A j bT cT Q F') : mm_G p l e R s m args below meth c xl D w0 A j bT cT Q (pc, lo, st, W0, b0, c0) := by
  subst hn
  simp only [mm_stepI] at h
  split at h
  · split at h
    · cases h
    · rename_i hz
      cases h
      intro ws tys H locs cells slots ls st' hR
      obtain ⟨hst, ⟨lv, hls, hlo⟩, hR⟩ := hR
      have hst0 := mm_l.un hst
      clear hst
      obtain ⟨_, _, rfl, hv, hst⟩ := hst0
      cases mm_v.ri hv
      have hst0 := mm_l.un hst
      clear hst
      obtain ⟨_, _, rfl, hv, hst⟩ := hst0
      cases mm_v.ri hv
      exact lv_irem C.1 C.2.1 hd hz (k _ _ _ _ _ _ _ _ ⟨mm_l.cons mm_v.i hst, ⟨lv, hls, hlo⟩, hR⟩)
  · cases h
theorem mi_ifCond (C : mm_C p l R s m args meth c xl A sc j d) {cd : Jvm.ClassFile.Cond} {off : Int} (hd : decode (md_mt j).2.1 pc = .ok (.ifCond cd off, 3)) (hn : nx = pc + 3) (ht : (pc : Int) + off = (r1 : Int)) (h : mm_stepI (md_xa sc) j (.ifCond cd off) nx r1 r2 r3 pc lo st W0 b0 c0 = some (.inl F')) (k : mm_G p l e R s m args below meth c xl D w0 A j bT cT Q F') : mm_G p l e R s m args below meth c xl D w0 A j bT cT Q (pc, lo, st, W0, b0, c0) := by
  subst hn
  simp only [mm_stepI] at h
  split at h
  · cases h
    intro ws tys H locs cells slots ls st' hR
    obtain ⟨hst, ⟨lv, hls, hlo⟩, hR⟩ := hR
    have hst0 := mm_l.un hst
    clear hst
    obtain ⟨_, _, rfl, hv, hst⟩ := hst0
    cases mm_v.ri hv
    cases cd with
    | eq =>
      refine lv_if_eq C.1 C.2.1 hd ht (fun hc => ?_) (fun hc => ?_)
      · have k2 := k ws tys H locs cells slots ls _ ⟨hst, ⟨lv, hls, hlo⟩, hR⟩
        simp only [mm_cmp, hc, decide_true, decide_false, Bool.not_true, Bool.not_false, if_true, if_false] at k2
        simpa using k2
      · have k2 := k ws tys H locs cells slots ls _ ⟨hst, ⟨lv, hls, hlo⟩, hR⟩
        simp only [mm_cmp, hc, decide_true, decide_false, Bool.not_true, Bool.not_false, if_true, if_false] at k2
        simpa using k2
    | ne =>
      refine lv_if_ne C.1 C.2.1 hd ht (fun hc => ?_) (fun hc => ?_)
      · have k2 := k ws tys H locs cells slots ls _ ⟨hst, ⟨lv, hls, hlo⟩, hR⟩
        simp only [mm_cmp, hc, decide_true, decide_false, Bool.not_true, Bool.not_false, if_true, if_false] at k2
        simpa using k2
      · have k2 := k ws tys H locs cells slots ls _ ⟨hst, ⟨lv, hls, hlo⟩, hR⟩
        simp only [mm_cmp, hc, decide_true, decide_false, Bool.not_true, Bool.not_false, if_true, if_false] at k2
        simpa using k2
    | lt =>
      refine lv_if_lt C.1 C.2.1 hd ht (fun hc => ?_) (fun hc => ?_)
      · have k2 := k ws tys H locs cells slots ls _ ⟨hst, ⟨lv, hls, hlo⟩, hR⟩
        simp only [mm_cmp, hc, decide_true, decide_false, Bool.not_true, Bool.not_false, if_true, if_false] at k2
        simpa using k2
      · have k2 := k ws tys H locs cells slots ls _ ⟨hst, ⟨lv, hls, hlo⟩, hR⟩
        simp only [mm_cmp, hc, decide_true, decide_false, Bool.not_true, Bool.not_false, if_true, if_false] at k2
        simpa using k2
    | ge =>
      refine lv_if_ge C.1 C.2.1 hd ht (fun hc => ?_) (fun hc => ?_)
      · have k2 := k ws tys H locs cells slots ls _ ⟨hst, ⟨lv, hls, hlo⟩, hR⟩
        simp only [mm_cmp, hc, decide_true, decide_false, Bool.not_true, Bool.not_false, if_true, if_false] at k2
        simpa using k2
      · have k2 := k ws tys H locs cells slots ls _ ⟨hst, ⟨lv, hls, hlo⟩, hR⟩
        simp only [mm_cmp, hc, decide_true, decide_false, Bool.not_true, Bool.not_false, if_true, if_false] at k2
        simpa using k2
    | gt =>
      refine lv_if_gt C.1 C.2.1 hd ht (fun hc => ?_) (fun hc => ?_)
      · have k2 := k ws tys H locs cells slots ls _ ⟨hst, ⟨lv, hls, hlo⟩, hR⟩
        simp only [mm_cmp, hc, decide_true, decide_false, Bool.not_true, Bool.not_false, if_true, if_false] at k2
        simpa using k2
      · have k2 := k ws tys H locs cells slots ls _ ⟨hst, ⟨lv, hls, hlo⟩, hR⟩
        simp only [mm_cmp, hc, decide_true, decide_false, Bool.not_true, Bool.not_false, if_true, if_false] at k2
        simpa using k2
    | le =>
      refine lv_if_le C.1 C.2.1 hd ht (fun hc => ?_) (fun hc => ?_)
      · have k2 := k ws tys H locs cells slots ls _ ⟨hst, ⟨lv, hls, hlo⟩, hR⟩
        simp only [mm_cmp, hc, decide_true, decide_false, Bool.not_true, Bool.not_false, if_true, if_false] at k2
        simpa using k2
      · have k2 := k ws tys H locs cells slots ls _ ⟨hst, ⟨lv, hls, hlo⟩, hR⟩
        simp only [mm_cmp, hc, decide_true, decide_false, Bool.not_true, Bool.not_false, if_true, if_false] at k2
        simpa using k2
  · cases h
theorem mi_if_icmp (C : mm_C p l R s m args meth c xl A sc j d) {cd : Jvm.ClassFile.Cond} {off : Int} (hd : decode (md_mt j).2.1 pc = .ok (.if_icmp cd off, 3)) (hn : nx = pc + 3) (ht : (pc : Int) + off = (r1 : Int)) (h : mm_stepI (md_xa sc) j (.if_icmp cd off) nx r1 r2 r3 pc lo st W0 b0 c0 = some (.inl F')) (k : mm_G p l e R s m args below meth c xl D w0 A j bT cT Q F') : mm_G p l e R s m args below meth c xl D w0 A j bT cT Q (pc, lo, st, W0, b0, c0) := by
  subst hn
  simp only [mm_stepI] at h
  split at h
  · cases h
    intro ws tys H locs cells slots ls st' hR
    obtain ⟨hst, ⟨lv, hls, hlo⟩, hR⟩ := hR
    have hst0 := mm_l.un hst
    clear hst
    obtain ⟨_, _, rfl, hv, hst⟩ := hst0
    cases mm_v.ri hv
    have hst0 := mm_l.un hst
    clear hst
    obtain ⟨_, _, rfl, hv, hst⟩ := hst0
    cases mm_v.ri hv
    cases cd with
    | eq =>
      refine lv_icmp_eq C.1 C.2.1 hd ht (fun hc => ?_) (fun hc => ?_)
      · have k2 := k ws tys H locs cells slots ls _ ⟨hst, ⟨lv, hls, hlo⟩, hR⟩
        simp only [mm_cmp, hc, decide_true, decide_false, Bool.not_true, Bool.not_false, if_true, if_false] at k2
        simpa using k2
      · have k2 := k ws tys H locs cells slots ls _ ⟨hst, ⟨lv, hls, hlo⟩, hR⟩
        simp only [mm_cmp, hc, decide_true, decide_false, Bool.not_true, Bool.not_false, if_true, if_false] at k2
        simpa using k2
    | ne =>
      refine lv_icmp_ne C.1 C.2.1 hd ht (fun hc => ?_) (fun hc => ?_)
      · have k2 := k ws tys H locs cells slots ls _ ⟨hst, ⟨lv, hls, hlo⟩, hR⟩
        simp only [mm_cmp, hc, decide_true, decide_false, Bool.not_true, Bool.not_false, if_true, if_false] at k2
        simpa using k2
      · have k2 := k ws tys H locs cells slots ls _ ⟨hst, ⟨lv, hls, hlo⟩, hR⟩
        simp only [mm_cmp, hc, decide_true, decide_false, Bool.not_true, Bool.not_false, if_true, if_false] at k2
        simpa using k2
    | lt =>
      refine lv_icmp_lt C.1 C.2.1 hd ht (fun hc => ?_) (fun hc => ?_)
      · have k2 := k ws tys H locs cells slots ls _ ⟨hst, ⟨lv, hls, hlo⟩, hR⟩
        simp only [mm_cmp, hc, decide_true, decide_false, Bool.not_true, Bool.not_false, if_true, if_false] at k2
        simpa using k2
      · have k2 := k ws tys H locs cells slots ls _ ⟨hst, ⟨lv, hls, hlo⟩, hR⟩
        simp only [mm_cmp, hc, decide_true, decide_false, Bool.not_true, Bool.not_false, if_true, if_false] at k2
        simpa using k2
    | ge =>
      refine lv_icmp_ge C.1 C.2.1 hd ht (fun hc => ?_) (fun hc => ?_)
      · have k2 := k ws tys H locs cells slots ls _ ⟨hst, ⟨lv, hls, hlo⟩, hR⟩
        simp only [mm_cmp, hc, decide_true, decide_false, Bool.not_true, Bool.not_false, if_true, if_false] at k2
        simpa using k2
      · have k2 := k ws tys H locs cells slots ls _ ⟨hst, ⟨lv, hls, hlo⟩, hR⟩
        simp only [mm_cmp, hc, decide_true, decide_false, Bool.not_true, Bool.not_false, if_true, if_false] at k2
        simpa using k2
    | gt =>
      refine lv_icmp_gt C.1 C.2.1 hd ht (fun hc => ?_) (fun hc => ?_)
      · have k2 := k ws tys H locs cells slots ls _ ⟨hst, ⟨lv, hls, hlo⟩, hR⟩
        simp only [mm_cmp, hc, decide_true, decide_false, Bool.not_true, Bool.not_false, if_true, if_false] at k2
        simpa using k2
      · have k2 := k ws tys H locs cells slots ls _ ⟨hst, ⟨lv, hls, hlo⟩, hR⟩
        simp only [mm_cmp, hc, decide_true, decide_false, Bool.not_true, Bool.not_false, if_true, if_false] at k2
        simpa using k2
    | le =>
      refine lv_icmp_le C.1 C.2.1 hd ht (fun hc => ?_) (fun hc => ?_)
      · have k2 := k ws tys H locs cells slots ls _ ⟨hst, ⟨lv, hls, hlo⟩, hR⟩
        simp only [mm_cmp, hc, decide_true, decide_false, Bool.not_true, Bool.not_false, if_true, if_false] at k2
        simpa using k2
      · have k2 := k ws tys H locs cells slots ls _ ⟨hst, ⟨lv, hls, hlo⟩, hR⟩
        simp only [mm_cmp, hc, decide_true, decide_false, Bool.not_true, Bool.not_false, if_true, if_false] at k2
        simpa using k2
  · cases h
theorem mi_goto (C : mm_C p l R s m args meth c xl A sc j d) {off : Int} (hd : decode (md_mt j).2.1 pc = .ok (.goto off, 3)) (hn : nx = pc + 3) (ht : (pc : Int) + off = (r1 : Int)) (h : mm_stepI (md_xa sc) j (.goto off) nx r1 r2 r3 pc lo st W0 b0 c0 = some (.inl F')) (k : mm_G p l e R s m args below meth c xl D w0 A j bT cT Q F') : mm_G p l e R s m args below meth c xl D w0 A j bT cT Q (pc, lo, st, W0, b0, c0) := by
  subst hn
  simp only [mm_stepI] at h
  cases h
  intro ws tys H locs cells slots ls st' hR
  obtain ⟨hst, ⟨lv, hls, hlo⟩, hR⟩ := hR
  exact lv_goto C.1 C.2.1 hd ht (k _ _ _ _ _ _ _ _ ⟨hst, ⟨lv, hls, hlo⟩, hR⟩)
end MI
