/-- what the program's listing is, by program -/
def mm_prog : Prop := mm_dat ∧ (∀ j pc e, md_cd j pc = some e → mm_ok j pc e) ∧ (∀ j, plainFor (md_mt j).1 = true) ∧ (∀ j pc n h, md_hd j pc n = some h → mm_hok j pc n h)
def mm_S (l : Launch) (sc : Nat × (Nat → Int32)) (f : Nat) : Prop :=
  ∀ (p : Program) (e : Env) (R : Room) (s : State) (m : MethodId) (args : Array Value) (below : List Frame) (meth : Method) (c : Code) (xl : Nat → Nat) (D : va_G) (w0 : va_W) (A : Nat → Prop) (j d bT cT : Nat) (Q : State → Prop) (F : mm_F) (o : mm_O),
    mm_C p l R s m args meth c xl A sc j d → mm_ex (md_xa sc) f d j F = some o → bT ≤ R.cells + o.2.2.1 → cT ≤ R.slots + o.2.2.2 →
    (∀ F' : mm_F, mm_step (md_xa sc) j F' = some (.inr (.inl o)) → mm_G p l e R s m args below meth c xl D w0 A j bT cT Q F') →
    (∀ (n : Nat) (F' : mm_F), o = (.inr n, F'.2.2.2.1, F'.2.2.2.2.1, F'.2.2.2.2.2) → (md_mt j).2.2.2.2 = [] → mm_Gx p l e R s m args below meth c xl D w0 A j bT cT Q n F') →
    mm_G p l e R s m args below meth c xl D w0 A j bT cT Q F
theorem mm_slots : ∀ (vs : List Value), (lg_sl vs).length = (vs.map fun v => v.category).sum
  | [] => rfl
  | v :: vs => by
    have ih := mm_slots vs
    unfold lg_sl at ih ⊢
    rw [List.flatMap_cons, List.length_append, ih, List.map_cons, List.sum_cons]
    rcases lv_cat v with h | h <;> simp [h]
theorem mm_fin0 {p : Program} {l : Launch} {e : Env} {R : Room} {s : State} {m : MethodId} {args : Array Value} {below : List Frame} {meth : Method} {c : Code} {xl : Nat → Nat} {D : va_G} {w0 : va_W} {A : Nat → Prop} {sc : Nat × (Nat → Int32)} {j d bT cT sz mc ms : Nat} {o : mm_O} (P : mm_prog) (C : mm_C p l R s m args meth c xl A sc j d) (F' : mm_F) (h : mm_step (md_xa sc) j F' = some (.inr (.inl o))) (hA : A = va_A w0 sz) (hmc : mc + o.2.2.1 = bT) (hms : ms + o.2.2.2 = cT) (hRc : mc ≤ R.cells) (hRs : ms ≤ R.slots) :
    mm_G p l e R s m args below meth c xl D w0 A j bT cT (vx_MQ below (mm_Qr xl D w0 sz o) (mm_Qx xl D w0 sz o) args s mc ms A) F' := by
  unfold mm_step at h
  split at h
  · cases h
  · rename_i en hen
    obtain ⟨pc, lo, st, W0, b0, c0⟩ := F'
    obtain ⟨ins, nx, r1, r2, r3⟩ := en
    exact mm_fin C P.1 ins (P.2.1 _ _ _ hen) h hA hmc hms hRc hRs
theorem mm_ofW {l : Launch} {y : MethodName} {ws ws' : List Cond} {rm : Room} {Pc : Array Value → State → Prop} {Qc : Array Value → State → Outcome → State → Prop} {XC : String → State → State → Prop} {mc ms : Nat} {free : Addr → Prop} {cc : ByteArray} {maxL : Nat} {ret : Option FieldType}
    (hy : plainFor y = true) (hw : ws = Cond.code y cc maxL ret :: ws')
    (body : ∀ p e s m args below meth c s₁, BodyLoose p l y (headSpec ws rm) cc maxL ret e s m args below meth c s₁ → c.maxLocals = maxL → (∀ x ∈ c.exceptionTable.toList, False) → Pc args s →
      W p l e (headSpec ws rm).room s m args below meth c s.heap [] 0 0 (vx_MQ below Qc XC args s mc ms free) (entryFrame m args maxL)) : vx_Met l y ws rm Pc Qc XC mc ms free := by
  refine MetFree.of_bodySF (code := cc) (maxLocals := maxL) (ret := ret) hy ?_ ?_
  · intro args s m h hn
    obtain ⟨meth, c, h1, h2, h3, h4, h5, h6, -, -⟩ := Cond.code_spec hn (atoms_spec (ws := ws) h _ (by rw [hw]; exact List.mem_cons_self))
    exact ⟨meth, c, h1, h2, h3, h4, h5, h6⟩
  · intro p e s m args below meth c s₁ B hml hP _
    have hh0 : s₁.heap = s.heap := by rw [B.state]; rfl
    have ht : ∀ x ∈ c.exceptionTable.toList, False := by
      obtain ⟨meth9, c9, h1, h2, -, -, -, -, h7, -⟩ := Cond.code_spec B.named (atoms_spec (ws := ws) B.pre _ (by rw [hw]; exact List.mem_cons_self))
      cases Option.some.inj (h1.symm.trans B.method)
      cases Option.some.inj (h2.symm.trans (Stand.of_body B).code)
      intro x hx
      rw [Array.isEmpty_iff.mp h7] at hx
      cases hx
    obtain ⟨t, a1, o, b1, b2, b3⟩ := body p e s m args below meth c s₁ B hml ht hP s₁ hh0 (Stand.of_body B)
    exact ⟨t, o, a1, b1, b2, b3⟩
theorem mm_ofWH {l : Launch} {y : MethodName} {ws ws' : List Cond} {rm : Room} {Pc : Array Value → State → Prop} {Qc : Array Value → State → Outcome → State → Prop} {XC : String → State → State → Prop} {mc ms : Nat} {free : Addr → Prop} {cc : ByteArray} {maxL : Nat} {ret : Option FieldType} {hh : List (Nat × Nat × Nat × Nat)}
    (hy : plainFor y = true) (hw : ws = Cond.codeWith y cc maxL ret hh :: ws')
    (body : ∀ p e s m args below meth c s₁, BodyLoose p l y (headSpec ws rm) cc maxL ret e s m args below meth c s₁ → c.maxLocals = maxL → Pc args s →
      W p l e (headSpec ws rm).room s m args below meth c s.heap [] 0 0 (vx_MQ below Qc XC args s mc ms free) (entryFrame m args maxL)) : vx_Met l y ws rm Pc Qc XC mc ms free := by
  refine MetFree.of_bodySF (code := cc) (maxLocals := maxL) (ret := ret) hy ?_ ?_
  · intro args s m h hn
    obtain ⟨m9, meth, c, hn9, h1, h2, h3, h4, -, h5, h6, -⟩ := Cond.codeWith_spec (atoms_spec (ws := ws) h _ (by rw [hw]; exact List.mem_cons_self))
    cases hn.symm.trans hn9
    exact ⟨meth, c, h1, h2, h3, h4, h5, h6⟩
  · intro p e s m args below meth c s₁ B hml hP _
    have hh0 : s₁.heap = s.heap := by rw [B.state]; rfl
    obtain ⟨t, a1, o, b1, b2, b3⟩ := body p e s m args below meth c s₁ B hml hP s₁ hh0 (Stand.of_body B)
    exact ⟨t, o, a1, b1, b2, b3⟩
theorem mm_meth {l : Launch} {sc : Nat × (Nat → Int32)} {f d j : Nat} {as : List Value} {W0 : mm_W} {b0 c0 : Nat} {o : mm_O} (P : mm_prog) (hl : l.stackTraces = false) (hS : mm_S l sc f) (h : mm_ex (md_xa sc) f d j (0, lv_args 0 as, [], W0, b0, c0) = some o) (hlen : ¬ (md_mt j).2.2.1 < (as.map fun v => v.category).sum) : mm_M l sc d j as W0 b0 c0 o := by
  intro xl D ws tys as' sz has hw
  have hbd := mm_ex_bd _ _ _ _ _ h
  dsimp only at hbd
  have key : ∀ (p : Program) (e : Env) (s : State) (m : MethodId) (args : Array Value) (below : List Frame) (meth : Method) (c : Code) (s₁ : State), BodyLoose p l (md_mt j).1 (headSpec (mm_ws j) (mm_rm d (b0 - o.2.2.1) (c0 - o.2.2.2))) (md_mt j).2.1 (md_mt j).2.2.1 (md_mt j).2.2.2.1 e s m args below meth c s₁ → c.maxLocals = (md_mt j).2.2.1 → c.exceptionTable.toList = Jvm.tableOf (md_mt j).2.2.2.2 → va_Pc as' (mm_Pc xl D sc ws tys sz) args s →
      W p l e (mm_rm d (b0 - o.2.2.1) (c0 - o.2.2.2)) s m args below meth c s.heap [] 0 0 (vx_MQ below (mm_Qr xl D ws sz o) (mm_Qx xl D ws sz o) args s (b0 - o.2.2.1) (c0 - o.2.2.2) (va_A ws sz)) (entryFrame m args (md_mt j).2.2.1) := by
    intro p e s m args below meth c s₁ B hml htab hv
    obtain ⟨rfl, hsz, hK, hP, hD0, hX⟩ := hv
    have hts := atoms_spec (ws := mm_ws j) B.pre
    have C : mm_C p l (mm_rm d (b0 - o.2.2.1) (c0 - o.2.2.2)) s m as'.toArray meth c xl (va_A ws sz) sc j d :=
      ⟨B.exec, B.bytes, hml, findClass_of_methodNamed B.named, fun w hw => hts w (List.mem_cons_of_mem _ hw), hX, fun q hq => Or.inr (by rw [← hsz]; exact hq), B.notSynchronized, B.returns, (name_of_methodNamed B.named B.method).1, htab, Nat.le_refl _, Nat.le_refl _, hl⟩
    have hlen' : (lg_sl as').length ≤ (md_mt j).2.2.1 := by
      rw [mm_slots, has.cats]
      omega
    have hlv := lv_entry as' hlen'
    rw [lg_entry_eq]
    generalize (lg_sl as' ++ List.replicate ((md_mt j).2.2.1 - (lg_sl as').length) Slot.unset).toArray = ls at hlv ⊢
    have hG := hS p e (mm_rm d (b0 - o.2.2.1) (c0 - o.2.2.2)) s m as'.toArray below meth c xl D ws (va_A ws sz) j d b0 c0 (vx_MQ below (mm_Qr xl D ws sz o) (mm_Qx xl D ws sz o) as'.toArray s (b0 - o.2.2.1) (c0 - o.2.2.2) (va_A ws sz)) _ o C h (by show b0 ≤ b0 - o.2.2.1 + o.2.2.1; omega) (by show c0 ≤ c0 - o.2.2.2 + o.2.2.2; omega)
      (fun F' hF => mm_fin0 P C F' hF rfl (by omega) (by omega) (Nat.le_refl _) (Nat.le_refl _))
      (fun n F' ho hh => mm_uncaught C hh rfl (by rw [ho]) (by rw [ho]) (by rw [ho]) (by rw [ho]) (by omega) (by omega))
    exact hG ws tys s.heap [] 0 0 ls [] ⟨mm_l.nil, ⟨_, hlv, mm_lo.args 0 has⟩, ⟨hw.1, hw.2.1, mm_le.rf⟩, hK, hP, hD0.self, va_S.rf, Nat.zero_add _, Nat.zero_add _⟩
  by_cases hh : (md_mt j).2.2.2.2 = []
  · refine mm_ofW (cc := (md_mt j).2.1) (maxL := (md_mt j).2.2.1) (ret := (md_mt j).2.2.2.1) (P.2.2.1 j) (mm_ws0 hh) ?_
    intro p e s m args below meth c s₁ B hml htab hv
    refine key p e s m args below meth c s₁ B hml ?_ hv
    rw [hh]
    exact List.eq_nil_iff_forall_not_mem.mpr fun x hx => htab x hx
  · refine mm_ofWH (cc := (md_mt j).2.1) (maxL := (md_mt j).2.2.1) (ret := (md_mt j).2.2.2.1) (hh := (md_mt j).2.2.2.2) (P.2.2.1 j) (mm_ws1 hh) ?_
    intro p e s m args below meth c s₁ B hml hv
    refine key p e s m args below meth c s₁ B hml ?_ hv
    have hts := atoms_spec (ws := mm_ws j) B.pre
    exact vx_table (x := (md_mt j).1) B (hts _ (by rw [mm_ws1 hh]; exact List.mem_cons_self))
theorem mm_sim {l : Launch} {sc : Nat × (Nat → Int32)} (P : mm_prog) (hl : l.stackTraces = false) : ∀ f, mm_S l sc f
  | 0 => fun _ _ _ _ _ _ _ _ _ _ _ _ _ _ _ _ _ _ _ _ _ h => by cases h
  | f + 1 => by
    have IH := mm_sim (sc := sc) P hl f
    intro p e R s m args below meth c xl D w0 A j d bT cT Q F o C h hb hc hterm hthrow
    obtain ⟨pc, lo, st, W0, b0, c0⟩ := F
    have h0 := h
    unfold mm_ex at h
    split at h
    · cases h
    · rename_i F' hs
      have h1 := mm_ex_bd _ _ _ _ _ h
      have k := IH p e R s m args below meth c xl D w0 A j d bT cT Q F' o C h hb hc hterm hthrow
      unfold mm_step at hs
      split at hs
      · cases hs
      · rename_i en hen
        obtain ⟨ins, nx, r1, r2, r3⟩ := en
        exact mm_next C P.1 ins (P.2.1 _ _ _ hen) hs (by omega) (by omega) k
    · rename_i o' hs
      cases h
      exact hterm _ hs
    · rename_i j' as nx fl G hs
      split at h
      · cases h
      · rename_i d'
        split at h
        · cases h
        · rename_i hlen
          have hsb := mm_step_bd hs
          split at h
          · cases h
          · rename_i v W2 b2 c2 hcall
            have hM := mm_meth P hl IH hcall hlen
            have h2 := mm_ex_bd _ _ _ _ _ hcall
            have h3 := mm_ex_bd _ _ _ _ _ h
            have k := IH p e R s m args below meth c xl D w0 A j (d' + 1) bT cT Q _ o C h hb hc hterm hthrow
            unfold mm_step at hs
            split at hs
            · cases hs
            · rename_i en hen
              obtain ⟨ins, nx0, r1, r2, r3⟩ := en
              refine mm_calls C P.1 ins (P.2.1 _ _ _ hen) hs hM (fun _ => ⟨v, rfl⟩) h2.1 h2.2 (Nat.le_trans hb (Nat.add_le_add_left h3.1 _)) (Nat.le_trans hc (Nat.add_le_add_left h3.2 _)) (fun v1 hv1 => ?_) (fun n hn => by cases hn)
              cases hv1
              exact k
          · rename_i E W2 b2 c2 hcall
            have hM := mm_meth P hl IH hcall hlen
            have h2 := mm_ex_bd _ _ _ _ _ hcall
            split at h
            · cases h
            · rename_i hfl
              unfold mm_step at hs
              split at hs
              · cases hs
              · rename_i en hen
                obtain ⟨ins, nx0, r1, r2, r3⟩ := en
                split at h
                · rename_i hh
                  cases h
                  refine mm_calls C P.1 ins (P.2.1 _ _ _ hen) hs hM (fun z => absurd z hfl) h2.1 h2.2 hb hc (fun v1 hv1 => by cases hv1) (fun n hn => ?_)
                  cases hn
                  exact hthrow E (G.1, G.2.1, G.2.2.1, W2, b2, c2) rfl hh
                · split at h
                  · cases h
                  · rename_i hp hhd
                    have h3 := mm_ex_bd _ _ _ _ _ h
                    have k := IH p e R s m args below meth c xl D w0 A j (d' + 1) bT cT Q _ o C h hb hc hterm hthrow
                    refine mm_calls C P.1 ins (P.2.1 _ _ _ hen) hs hM (fun z => absurd z hfl) h2.1 h2.2 (Nat.le_trans hb (Nat.add_le_add_left h3.1 _)) (Nat.le_trans hc (Nat.add_le_add_left h3.2 _)) (fun v1 hv1 => by cases hv1) (fun n hn => ?_)
                    cases hn
                    exact mm_catch C P.1 (P.2.2.2 _ _ _ _ hhd) k
