section MK
variable {p : Program} {l : Launch} {e : Env} {R : Room} {s : State} {m : MethodId} {args : Array Value} {below : List Frame} {meth : Method} {c : Code} {xl : Nat → Nat} {D : va_G} {w0 : va_W} {A : Nat → Prop} {sc : Nat × (Nat → Int32)} {j d bT cT : Nat} {Q : State → Prop} {nx r1 r2 r3 pc : Nat} {lo : List (Nat × Value)} {st : List Value} {W0 : mm_W} {b0 c0 : Nat} {F' : mm_F}
theorem mi_ldc (C : mm_C p l R s m args meth c xl A sc j d) {i : Nat} (hd : decode (md_mt j).2.1 pc = .ok (.ldc i, 2)) (hn : nx = pc + 2) (ho0 : r1 = 0 → Jvm.Cond.constant (md_mt j).1.cls i (Int32.ofNat r2) ∈ md_Tg) (ho1 : r1 ≠ 0 → ∃ tx, ((md_mt j).1.cls, i, tx, r2) ∈ md_sr) (h : mm_stepI (md_xa sc) j (.ldc i) nx r1 r2 r3 pc lo st W0 b0 c0 = some (.inl F')) (k : mm_G p l e R s m args below meth c xl D w0 A j bT cT Q F') : mm_G p l e R s m args below meth c xl D w0 A j bT cT Q (pc, lo, st, W0, b0, c0) := by
  subst hn
  simp only [mm_stepI] at h
  split at h
  · rename_i hz
    cases h
    intro ws tys H locs cells slots ls st' hR
    obtain ⟨hst, ⟨lv, hls, hlo⟩, hR⟩ := hR
    exact lv_ldc C.1 C.2.1 C.2.2.2.1 (C.2.2.2.2.1 _ (ho0 hz)) hd (k _ _ _ _ _ _ _ _ ⟨mm_l.cons mm_v.i hst, ⟨lv, hls, hlo⟩, hR⟩)
  · rename_i hz
    cases h
    intro ws tys H locs cells slots ls st' hR
    obtain ⟨hst, ⟨lv, hls, hlo⟩, hR⟩ := hR
    obtain ⟨tx, htx⟩ := ho1 hz
    have hv : mm_v xl ws (.ref (mm_XB + r2)) (.ref (xl r2)) := ⟨xl r2, by unfold mm_ad; rw [if_neg (by omega), Nat.add_sub_cancel_left], rfl⟩
    have hZ : vk_R (md_mt j).1.cls i tx (xl r2) s := C.2.2.2.2.2.1.2.2.2.2.1 ((md_mt j).1.cls, i, tx, r2) htx
    exact va_ldcS (own := (md_mt j).1.cls) (tx := tx) (index := i) (q := xl r2) C.1 C.2.1 C.2.2.2.1 hZ hd (k _ _ _ _ _ _ _ _ ⟨mm_l.cons hv hst, ⟨lv, hls, hlo⟩, hR⟩)
theorem mi_ldc_w (C : mm_C p l R s m args meth c xl A sc j d) {i : Nat} (hd : decode (md_mt j).2.1 pc = .ok (.ldc_w i, 3)) (hn : nx = pc + 3) (ho : Jvm.Cond.constant (md_mt j).1.cls i (Int32.ofNat r2) ∈ md_Tg) (h : mm_stepI (md_xa sc) j (.ldc_w i) nx r1 r2 r3 pc lo st W0 b0 c0 = some (.inl F')) (k : mm_G p l e R s m args below meth c xl D w0 A j bT cT Q F') : mm_G p l e R s m args below meth c xl D w0 A j bT cT Q (pc, lo, st, W0, b0, c0) := by
  subst hn
  simp only [mm_stepI] at h
  cases h
  intro ws tys H locs cells slots ls st' hR
  obtain ⟨hst, ⟨lv, hls, hlo⟩, hR⟩ := hR
  exact lv_ldcw C.1 C.2.1 C.2.2.2.1 (C.2.2.2.2.1 _ ho) hd (k _ _ _ _ _ _ _ _ ⟨mm_l.cons mm_v.i hst, ⟨lv, hls, hlo⟩, hR⟩)
theorem mi_ldc2_w (C : mm_C p l R s m args meth c xl A sc j d) {i : Nat} (hd : decode (md_mt j).2.1 pc = .ok (.ldc2_w i, 3)) (hn : nx = pc + 3) (ho : Jvm.Cond.constantLong (md_mt j).1.cls i (Int64.ofNat r1) ∈ md_Tg) (h : mm_stepI (md_xa sc) j (.ldc2_w i) nx r1 r2 r3 pc lo st W0 b0 c0 = some (.inl F')) (k : mm_G p l e R s m args below meth c xl D w0 A j bT cT Q F') : mm_G p l e R s m args below meth c xl D w0 A j bT cT Q (pc, lo, st, W0, b0, c0) := by
  subst hn
  simp only [mm_stepI] at h
  cases h
  intro ws tys H locs cells slots ls st' hR
  obtain ⟨hst, ⟨lv, hls, hlo⟩, hR⟩ := hR
  exact lv_ldc2 C.1 C.2.1 C.2.2.2.1 (C.2.2.2.2.1 _ ho) hd (k _ _ _ _ _ _ _ _ ⟨mm_l.cons mm_v.j hst, ⟨lv, hls, hlo⟩, hR⟩)
theorem mi_getstatic (C : mm_C p l R s m args meth c xl A sc j d) {i : Nat} (hd : decode (md_mt j).2.1 pc = .ok (.getstatic i, 3)) (hn : nx = pc + 3) (ho : r3 = 0 → r1 < md_nst ∧ Jvm.Cond.fieldLink (md_mt j).1.cls i (md_stn r1).1 (md_stn r1).2.1 (md_stn r1).2.2 ∈ md_Tg) (ho1 : r3 ≠ 0 → ∃ q ∈ md_sq, Jvm.Cond.fieldLink (md_mt j).1.cls i q.1 q.2.1 q.2.2 ∈ md_Tg) (h : mm_stepI (md_xa sc) j (.getstatic i) nx r1 r2 r3 pc lo st W0 b0 c0 = some (.inl F')) (k : mm_G p l e R s m args below meth c xl D w0 A j bT cT Q F') : mm_G p l e R s m args below meth c xl D w0 A j bT cT Q (pc, lo, st, W0, b0, c0) := by
  subst hn
  simp only [mm_stepI] at h
  split at h
  · rename_i hz
    cases h
    intro ws tys H locs cells slots ls st' hR
    obtain ⟨hst, ⟨lv, hls, hlo⟩, hw, hK, hP, hD, hS, hR⟩ := hR
    obtain ⟨h1, h2⟩ := ho hz
    obtain ⟨hZ, hx⟩ := C.2.2.2.2.2.1.1 _ h1
    exact va_gets C.1 C.2.1 hZ hS C.2.2.2.1 (C.2.2.2.2.1 _ h2) (fun _ z => z) hd (k _ _ _ _ _ _ _ _ ⟨mm_l.cons (mm_v.x hx) hst, ⟨lv, hls, hlo⟩, hw, hK, hP, hD, hS, hR⟩)
  · rename_i hz
    cases h
    intro ws tys H locs cells slots ls st' hR
    obtain ⟨hst, ⟨lv, hls, hlo⟩, hw, hK, hP, hD, hS, hR⟩ := hR
    obtain ⟨q, hq, h2⟩ := ho1 hz
    rcases C.2.2.2.2.2.1.2.2.2.2.2.2.2.2.2.2.2.2 q hq with hZ | ⟨t, hZ⟩
    · exact va_gets C.1 C.2.1 hZ hS C.2.2.2.1 (C.2.2.2.2.1 _ h2) (fun _ z => z) hd (k _ _ _ _ _ _ _ _ ⟨mm_l.cons (Or.inl rfl) hst, ⟨lv, hls, hlo⟩, hw, hK, hP, hD, hS, hR⟩)
    · exact va_gets C.1 C.2.1 hZ hS C.2.2.2.1 (C.2.2.2.2.1 _ h2) (fun _ z => z) hd (k _ _ _ _ _ _ _ _ ⟨mm_l.cons (Or.inr ⟨t, rfl⟩) hst, ⟨lv, hls, hlo⟩, hw, hK, hP, hD, hS, hR⟩)
theorem mi_getfield (C : mm_C p l R s m args meth c xl A sc j d) (K : mm_dat) {i : Nat} (hd : decode (md_mt j).2.1 pc = .ok (.getfield i, 3)) (hn : nx = pc + 3) (ho0 : r3 = 0 → ∃ C T N, md_cl[r1]? = some (C, T, N) ∧ r2 < N ∧ Jvm.Cond.fieldLink (md_mt j).1.cls i (T r2).1 (T r2).2.1 (T r2).2.2.1 ∈ md_Tg) (ho1 : r3 ≠ 0 → Jvm.Cond.fieldLink (md_mt j).1.cls i (md_xf r1).1 (md_xf r1).2.1 (md_xf r1).2.2 ∈ md_Tg) (h : mm_stepI (md_xa sc) j (.getfield i) nx r1 r2 r3 pc lo st W0 b0 c0 = some (.inl F')) (k : mm_G p l e R s m args below meth c xl D w0 A j bT cT Q F') : mm_G p l e R s m args below meth c xl D w0 A j bT cT Q (pc, lo, st, W0, b0, c0) := by
  subst hn
  simp only [mm_stepI] at h
  split at h
  · split at h
    · rename_i hz
      split at h
      · rename_i hx
        obtain ⟨v, hg, h⟩ := Option.map_eq_some_iff.mp h
        cases h
        intro ws tys H locs cells slots ls st' hR
        obtain ⟨hst, ⟨lv, hls, hlo⟩, hw, hK, hP, hD, hS, hR⟩ := hR
        have hst0 := mm_l.un hst
        clear hst
        obtain ⟨_, _, rfl, hv, hst⟩ := hst0
        obtain ⟨a, ha, rfl⟩ := mm_v.rr hv
        obtain ⟨C0, T, N, hc, hk, hl⟩ := ho0 hz
        unfold mm_getf at hg
        split at hg
        · rename_i hkw
          split at hg
          · rename_i hce
            subst hce
            obtain ⟨fs', h1, h2⟩ := hw.ob hx ha hkw
            obtain ⟨v', hv', hvv⟩ := h2.at hg
            exact va_get C.1 C.2.1 C.2.2.2.2.1 (K.1 _ _ _ _ hc).1 C.2.2.2.1 hK hP _ h1 hc r2 hk (C.2.2.2.2.1 _ hl) (fun _ z => z) hv' hd (k _ _ _ _ _ _ _ _ ⟨mm_l.cons hvv hst, ⟨lv, hls, hlo⟩, hw, hK, hP, hD, hS, hR⟩)
          · cases hg
        · cases hg
      · cases h
    · rename_i hz
      split at h
      · cases h
      · rename_i hx
        obtain ⟨v, hg, h⟩ := Option.map_eq_some_iff.mp h
        cases h
        intro ws tys H locs cells slots ls st' hR
        obtain ⟨hst, ⟨lv, hls, hlo⟩, hw, hK, hP, hD, hS, hR⟩ := hR
        have hst0 := mm_l.un hst
        clear hst
        obtain ⟨_, _, rfl, hv, hst⟩ := hst0
        obtain ⟨a, ha, rfl⟩ := mm_v.rr hv
        cases mm_ad_out ha hx
        obtain ⟨hF, hxx⟩ := C.2.2.2.2.2.1.2.2.1 _ _ _ hg
        exact vk_getf C.1 C.2.1 hF hS C.2.2.2.1 (C.2.2.2.2.1 _ (ho1 hz)) (fun _ z => z) hd (k _ _ _ _ _ _ _ _ ⟨mm_l.cons (mm_v.x hxx) hst, ⟨lv, hls, hlo⟩, hw, hK, hP, hD, hS, hR⟩)
  · cases h
/-- a type of its number: 0 int, 1 long, 2 boolean, 3 a reference -/
def mm_tyc (r3 : Nat) (ty : FieldType) : Prop := (r3 = 0 ∧ ty = .int) ∨ (r3 = 1 ∧ ty = .long) ∨ (r3 = 2 ∧ ty = .boolean) ∨ (r3 = 3 ∧ ((∃ n, ty = .object n) ∨ ∃ t, ty = .array t))
theorem mm_nf_ok {ws : va_W} {t : Nat} {ty : FieldType} {v v' : Value} (ht : mm_tyc t ty) (h : mm_nf t v = true) (hv : mm_v xl ws v v') : narrow ty v' = v' ∧ fits ty v' = true := by
  rcases ht with ⟨rfl, rfl⟩ | ⟨rfl, rfl⟩ | ⟨rfl, rfl⟩ | ⟨rfl, ht⟩
  · cases v <;> first | (cases h; done) | (cases mm_v.ri hv; exact ⟨rfl, rfl⟩)
  · cases v <;> first | (cases h; done) | (cases mm_v.rj hv; exact ⟨rfl, rfl⟩)
  · cases v with
    | int x =>
      cases mm_v.ri hv
      have h2 : x = 0 ∨ x = 1 := by simpa [mm_nf] using h
      rcases h2 with rfl | rfl <;> exact ⟨by decide +kernel, by decide +kernel⟩
    | _ => cases h
  · cases v with
    | ref q =>
      obtain ⟨a, -, rfl⟩ := mm_v.rr hv
      rcases ht with ⟨n, rfl⟩ | ⟨n, rfl⟩ <;> exact ⟨rfl, rfl⟩
    | null =>
      cases mm_v.rn hv
      rcases ht with ⟨n, rfl⟩ | ⟨n, rfl⟩ <;> exact ⟨rfl, rfl⟩
    | _ => cases h
theorem mi_putfield (C : mm_C p l R s m args meth c xl A sc j d) (K : mm_dat) {i : Nat} (hd : decode (md_mt j).2.1 pc = .ok (.putfield i, 3)) (hn : nx = pc + 3)
    (ho : ∃ C T N ty, md_cl[r1]? = some (C, T, N) ∧ r2 < N ∧ Jvm.Cond.fieldLink (md_mt j).1.cls i (T r2).1 (T r2).2.1 (T r2).2.2.1 ∈ md_Tg ∧ parseFieldDescriptor (T r2).2.2.1 = some ty ∧ mm_tyc r3 ty ∧ ((T r2).2.2.2 = true → (md_mt j).1.name = "<init>" ∧ (T r2).1 = (md_mt j).1.cls))
    (h : mm_stepI (md_xa sc) j (.putfield i) nx r1 r2 r3 pc lo st W0 b0 c0 = some (.inl F')) (k : mm_G p l e R s m args below meth c xl D w0 A j bT cT Q F') : mm_G p l e R s m args below meth c xl D w0 A j bT cT Q (pc, lo, st, W0, b0, c0) := by
  subst hn
  simp only [mm_stepI] at h
  split at h
  · split at h
    · rename_i hx
      obtain ⟨W2, hg, h⟩ := Option.map_eq_some_iff.mp h
      cases h
      intro ws tys H locs cells slots ls st' hR0
      obtain ⟨hst, ⟨lv, hls, hlo⟩, hw, hK, hP, hD, hS, hR⟩ := id hR0
      have hst0 := mm_l.un hst
      clear hst
      obtain ⟨v', _, rfl, hv, hst⟩ := hst0
      have hst0 := mm_l.un hst
      clear hst
      obtain ⟨_, _, rfl, hvo, hst⟩ := hst0
      obtain ⟨a, ha, rfl⟩ := mm_v.rr hvo
      obtain ⟨C0, T, N, ty, hc, hk, hl, hpd, htc, hfin⟩ := ho
      unfold mm_put at hg
      split at hg
      · rename_i hkw
        split at hg
        · rename_i hce
          obtain ⟨rfl, hlt, hnf⟩ := hce
          cases hg
          obtain ⟨fs', h1, h2⟩ := hw.ob hx ha hkw
          obtain ⟨hnar, hfit⟩ := mm_nf_ok htc hnf hv
          obtain ⟨hin, ⟨ty0, hty0, -⟩, hnm, -⟩ := K.1 _ _ _ _ hc
          have hlt' : r2 < fs'.length := by rw [h2.len]; exact hlt
          have key : ∀ (H1 : Heap) (locs1 : List Loc), va_P D md_cl (ws.set _ (a, .inr (_, fs'.set r2 v'))) H1 → va_D A (ws.set _ (a, .inr (_, fs'.set r2 v'))) → va_S A s.heap H1 locs1 → W p l e R s m args below meth c H1 locs1 cells slots Q (F0 m (pc + 3) ls _) := fun H1 locs1 hP1 hD1 hS1 =>
            k _ _ _ _ _ _ _ _ (mm_lset hR0 h1 (mm_e.o (h2.set r2 hv)) hP1 hD1 hS1 (fun _ => trivial) hst (st2 := []))
          by_cases hf : (T r2).2.2.2 = true
          · obtain ⟨hi1, hi2⟩ := hfin hf
            exact va_putF C.1 C.2.1 C.2.2.2.2.1 hin ty0 hty0 hnm C.2.2.2.1 hK hP hD hS _ h1 hc r2 hk (C.2.2.2.2.1 _ hl) (fun _ z => z) hf (C.2.2.2.2.2.2.2.2.2.1.trans hi1) hi2 hpd hnar hfit hlt' hd key
          · exact va_put C.1 C.2.1 C.2.2.2.2.1 hin ty0 hty0 hnm C.2.2.2.1 hK hP hD hS _ h1 hc r2 hk (C.2.2.2.2.1 _ hl) (fun _ z => z) (by simpa using hf) hpd hnar hfit hlt' hd key
        · cases hg
      · cases hg
    · cases h
  · cases h
theorem mi_if_acmp (C : mm_C p l R s m args meth c xl A sc j d) {cd : Jvm.ClassFile.ACond} {off : Int} (hd : decode (md_mt j).2.1 pc = .ok (.if_acmp cd off, 3)) (hn : nx = pc + 3) (ht : (pc : Int) + off = (r1 : Int)) (h : mm_stepI (md_xa sc) j (.if_acmp cd off) nx r1 r2 r3 pc lo st W0 b0 c0 = some (.inl F')) (k : mm_G p l e R s m args below meth c xl D w0 A j bT cT Q F') : mm_G p l e R s m args below meth c xl D w0 A j bT cT Q (pc, lo, st, W0, b0, c0) := by
  subst hn
  simp only [mm_stepI] at h
  split at h
  · rename_i y x st0
    split at h
    · rename_i hxy
      obtain ⟨hx1, hy1, hx2, hy2⟩ := hxy
      have hx1 : @LT.lt Nat instLTNat mm_XB x := hx1
      have hy1 : @LT.lt Nat instLTNat mm_XB y := hy1
      have hx2 : @LE.le Nat instLENat x (mm_XB + md_ne) := hx2
      have hy2 : @LE.le Nat instLENat y (mm_XB + md_ne) := hy2
      cases h
      intro ws tys H locs cells slots ls st' hR
      obtain ⟨hst, ⟨lv, hls, hlo⟩, hR⟩ := hR
      have hst0 := mm_l.un hst
      clear hst
      obtain ⟨_, _, rfl, hv, hst⟩ := hst0
      obtain ⟨ay, hay, rfl⟩ := mm_v.rr hv
      have hst0 := mm_l.un hst
      clear hst
      obtain ⟨_, _, rfl, hv, hst⟩ := hst0
      obtain ⟨ax, hax, rfl⟩ := mm_v.rr hv
      cases mm_ad_out hay (by omega)
      cases mm_ad_out hax (by omega)
      have hinj : xl (x - mm_XB) = xl (y - mm_XB) ↔ x = y := by
        refine ⟨fun z => ?_, fun z => by rw [z]⟩
        have h1 := C.2.2.2.2.2.1.2.2.2.2.2.2.2.2.2.2.2.1 (x - mm_XB) (y - mm_XB) (by omega) (by omega) (by omega) (by omega) z
        have h2 : @Eq Nat x y := by omega
        exact h2
      cases cd with
      | eq =>
        refine lv_acmp_eq (rx := some (xl (x - mm_XB))) (ry := some (xl (y - mm_XB))) C.1 C.2.1 hd ht (fun hc => ?_) (fun hc => ?_)
        · have hc2 : x = y := hinj.mp (Option.some.inj hc)
          have k2 := k ws tys H locs cells slots ls _ ⟨hst, ⟨lv, hls, hlo⟩, hR⟩
          simpa [hc2] using k2
        · have hc2 : ¬ x = y := fun z => hc (by rw [z])
          have k2 := k ws tys H locs cells slots ls _ ⟨hst, ⟨lv, hls, hlo⟩, hR⟩
          simpa [hc2] using k2
      | ne =>
        refine lv_acmp_ne (rx := some (xl (x - mm_XB))) (ry := some (xl (y - mm_XB))) C.1 C.2.1 hd ht (fun hc => ?_) (fun hc => ?_)
        · have hc2 : ¬ x = y := fun z => hc (by rw [z])
          have k2 := k ws tys H locs cells slots ls _ ⟨hst, ⟨lv, hls, hlo⟩, hR⟩
          simpa [hc2] using k2
        · have hc2 : x = y := hinj.mp (Option.some.inj hc)
          have k2 := k ws tys H locs cells slots ls _ ⟨hst, ⟨lv, hls, hlo⟩, hR⟩
          simpa [hc2] using k2
    · cases h
  · cases h
theorem mm_isx_l {ws : va_W} : ∀ {vs : List Value}, (∀ v ∈ vs, mm_isx v = true ∧ mm_nr v = true) → mm_l xl ws vs vs
  | [], _ => mm_l.nil
  | v :: vs, h => by
    refine mm_l.cons ?_ (mm_isx_l fun z hz => h z (List.mem_cons_of_mem _ hz))
    obtain ⟨h1, h2⟩ := h v List.mem_cons_self
    have h3 := mm_v.x (xl := xl) (ws := ws) h1
    cases v with
    | ref k => cases h2
    | _ => exact h3
/-- b0 counts what may still be made; bT is what the room has, and what is left at the end -/
theorem mi_new (C : mm_C p l R s m args meth c xl A sc j d) (K : mm_dat) {i : Nat} (hd : decode (md_mt j).2.1 pc = .ok (.new i, 3)) (hn : nx = pc + 3) (h3 : r3 = 0)
    (ho : ∃ C T N, md_cl[r1]? = some (C, T, N) ∧ (md_df r1).length = N ∧ Jvm.Cond.classLink (md_mt j).1.cls i C ∈ md_Tg ∧ Jvm.Cond.instantiable C N ∈ md_Tg ∧ Jvm.Cond.initialized C ∈ md_Tg)
    (h : mm_stepI (md_xa sc) j (.new i) nx r1 r2 r3 pc lo st W0 b0 c0 = some (.inl F')) (hb : bT ≤ R.cells + F'.2.2.2.2.1) (hc : cT ≤ R.slots + F'.2.2.2.2.2) (k : mm_G p l e R s m args below meth c xl D w0 A j bT cT Q F') : mm_G p l e R s m args below meth c xl D w0 A j bT cT Q (pc, lo, st, W0, b0, c0) := by
  subst hn
  simp only [mm_stepI] at h
  rw [if_pos h3] at h
  split at h
  · rename_i hr
    obtain ⟨hr1, hr2, hr3⟩ := hr
    cases h
    intro ws tys H locs cells slots ls st' hR
    obtain ⟨hst, ⟨lv, hls, hlo⟩, hw, hK, hP, hD, hS, hbb, hcc⟩ := hR
    obtain ⟨C0, T, N, hci, hN, hl1, hl2, hl3⟩ := ho
    obtain ⟨hin, ⟨ty0, hty0, hdf⟩, -, hxs⟩ := K.1 _ _ _ _ hci
    dsimp only at hb hc hbb hcc
    refine va_new C.1 C.2.1 C.2.2.2.2.1 hin ty0 hty0 C.2.2.2.1 (C.2.2.2.2.1 _ hl1) (C.2.2.2.2.1 _ hl2) (C.2.2.2.2.1 _ hl3) hK hP hD hS C.2.2.2.2.2.2.1 hci hdf (by omega) (by omega) hd (fun q H1 hP1 hD1 hS1 => ?_)
    refine k _ _ _ _ _ _ _ _ ⟨mm_l.cons ⟨q, mm_ad_new hw.1.symm hr3, rfl⟩ (hst.mono mm_le_app), ⟨lv, hls, hlo.mono mm_le_app⟩, hw.app mm_tle.rf (mm_e.o (mm_isx_l hxs)), hK, hP1, hD1, hS1, ?_, ?_⟩
    · show cells + 1 + (b0 - 1) = bT
      omega
    · show slots + N + (c0 - (md_df r1).length) = cT
      omega
  · cases h
theorem mi_newarray (C : mm_C p l R s m args meth c xl A sc j d) (K : mm_dat) {at0 : ArrayType} (hd : decode (md_mt j).2.1 pc = .ok (.newarray at0, 2)) (hn : nx = pc + 2)
    (ho : newarray.typeOf at0 = md_ty r1 ∧ r1 ≤ 3 ∧ Jvm.Cond.arrayClass (md_ty r1) ∈ md_Tg)
    (h : mm_stepI (md_xa sc) j (.newarray at0) nx r1 r2 r3 pc lo st W0 b0 c0 = some (.inl F')) (hb : bT ≤ R.cells + F'.2.2.2.2.1) (hc : cT ≤ R.slots + F'.2.2.2.2.2) (k : mm_G p l e R s m args below meth c xl D w0 A j bT cT Q F') : mm_G p l e R s m args below meth c xl D w0 A j bT cT Q (pc, lo, st, W0, b0, c0) := by
  subst hn
  simp only [mm_stepI] at h
  split at h
  · split at h
    · rename_i n st0 hr
      obtain ⟨hn0, hr1, hr2, hr3, hr4⟩ := hr
      cases h
      intro ws tys H locs cells slots ls st' hR
      obtain ⟨hst, ⟨lv, hls, hlo⟩, hw, hK, hP, hD, hS, hbb, hcc⟩ := hR
      have hst0 := mm_l.un hst
      clear hst
      obtain ⟨_, _, rfl, hv, hst⟩ := hst0
      cases mm_v.ri hv
      obtain ⟨hty, hr5, hac⟩ := ho
      dsimp only at hb hc hbb hcc
      have hcell : ∀ cA : ClassId, vp_cell cA (n.toNatClampNeg, if r1 = 1 then .inr (.inl (fun _ => 0)) else .inl (fun _ => 0)) = arrV cA n.toNatClampNeg (fun _ => defaultValue (md_ty r1)) := by
        intro cA
        rcases (show r1 = 0 ∨ r1 = 1 ∨ r1 = 2 ∨ r1 = 3 by omega) with rfl | rfl | rfl | rfl
        · rw [K.2.1]; rfl
        · rw [K.2.2.1]; rfl
        · rw [K.2.2.2.1]; rfl
        · rw [K.2.2.2.2.1]; rfl
      have hbytes : n.toNatClampNeg * componentBytes (md_ty r1) ≤ 536870912 := by
        have hcb : componentBytes (md_ty r1) ≤ 8 := by
          rcases (show r1 = 0 ∨ r1 = 1 ∨ r1 = 2 ∨ r1 = 3 by omega) with rfl | rfl | rfl | rfl
          · rw [K.2.1]; decide
          · rw [K.2.2.1]; decide
          · rw [K.2.2.2.1]; decide
          · rw [K.2.2.2.2.1]; decide
        calc n.toNatClampNeg * componentBytes (md_ty r1) ≤ 1000000 * 8 := Nat.mul_le_mul hr4 hcb
          _ ≤ 536870912 := Nat.le_of_ble_eq_true rfl
      refine va_newa (ty := md_ty r1) C.1 C.2.1 (by rw [hty]; exact C.2.2.2.2.1 _ hac) hty hK hP hD hS C.2.2.2.2.2.2.1 hcell hn0 rfl hbytes (by omega) (by omega) hd (fun q cA H1 hK1 hP1 hD1 hS1 => ?_)
      refine k _ _ _ _ _ _ _ _ ⟨mm_l.cons ⟨q, mm_ad_new hw.1.symm hr3, rfl⟩ (hst.mono mm_le_app), ⟨lv, hls, hlo.mono mm_le_app⟩, hw.app mm_tle.app ?_, hK1, hP1, hD1, hS1, ?_, ?_⟩
      · have ht0 : (tys ++ [(cA, md_ty r1)])[tys.length]? = some (cA, md_ty r1) := by rw [List.getElem?_append_right (Nat.le_refl _), Nat.sub_self]; rfl
        rcases (show r1 = 1 ∨ (r1 = 0 ∨ r1 = 2 ∨ r1 = 3) by omega) with h1 | h1
        · subst h1
          exact mm_e.j ht0 rfl
        · have h2 : ¬ r1 = 1 := by omega
          simp only [if_neg h2]
          exact mm_e.i ht0 h1
      · show cells + 1 + (b0 - 1) = bT
        omega
      · show slots + n.toNatClampNeg + (c0 - n.toNatClampNeg) = cT
        omega
    · cases h
  · cases h
theorem mi_anewarray (C : mm_C p l R s m args meth c xl A sc j d) {i : Nat} (hd : decode (md_mt j).2.1 pc = .ok (.anewarray i, 3)) (hn : nx = pc + 3)
    (ho : 4 ≤ r1 ∧ ∃ E, md_ty r1 = .object E ∧ Jvm.Cond.classLink (md_mt j).1.cls i E ∈ md_Tg ∧ E ∈ md_ao)
    (h : mm_stepI (md_xa sc) j (.anewarray i) nx r1 r2 r3 pc lo st W0 b0 c0 = some (.inl F')) (hb : bT ≤ R.cells + F'.2.2.2.2.1) (hc : cT ≤ R.slots + F'.2.2.2.2.2) (k : mm_G p l e R s m args below meth c xl D w0 A j bT cT Q F') : mm_G p l e R s m args below meth c xl D w0 A j bT cT Q (pc, lo, st, W0, b0, c0) := by
  subst hn
  simp only [mm_stepI] at h
  split at h
  · split at h
    · rename_i n st0 hr
      obtain ⟨hn0, hr1, hr2, hr3, hr4⟩ := hr
      cases h
      intro ws tys H locs cells slots ls st' hR
      obtain ⟨hst, ⟨lv, hls, hlo⟩, hw, hK, hP, hD, hS, hbb, hcc⟩ := hR
      have hst0 := mm_l.un hst
      clear hst
      obtain ⟨_, _, rfl, hv, hst⟩ := hst0
      cases mm_v.ri hv
      obtain ⟨hge, E, hE, hl, hao⟩ := ho
      dsimp only at hb hc hbb hcc
      refine va_newq C.1 C.2.1 C.2.2.2.1 (C.2.2.2.2.1 _ hl) (C.2.2.2.2.2.1.2.2.2.2.2.2.2.1 _ hao) hK hP hD hS C.2.2.2.2.2.2.1 hn0 rfl (by omega) (by omega) (by omega) hd (fun q cA H1 hK1 hP1 hD1 hS1 => ?_)
      refine k _ _ _ _ _ _ _ _ ⟨mm_l.cons ⟨q, mm_ad_new hw.1.symm hr3, rfl⟩ (hst.mono mm_le_app), ⟨lv, hls, hlo.mono mm_le_app⟩, hw.app mm_tle.app ?_, hK1, hP1, hD1, hS1, ?_, ?_⟩
      · have ht0 : (tys ++ [(cA, FieldType.object E)])[tys.length]? = some (cA, md_ty r1) := by rw [List.getElem?_append_right (Nat.le_refl _), Nat.sub_self, hE]; rfl
        exact mm_e.r ht0 (fun _ => rfl) hge
      · show cells + 1 + (b0 - 1) = bT
        omega
      · show slots + n.toNatClampNeg + (c0 - n.toNatClampNeg) = cT
        omega
    · cases h
  · cases h
end MK
