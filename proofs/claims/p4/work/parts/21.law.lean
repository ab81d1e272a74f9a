/-! ===== the law, out of a run of the mini machine ===== -/
theorem mm_iret {xa : mm_Xa} {j : Nat} (ins : Instr) {nx r1 r2 r3 pc : Nat} {lo : List (Nat × Value)} {st : List Value} {W0 W2 : mm_W} {b0 c0 b2 c2 : Nat} {v : Int32} (h : mm_stepI xa j ins nx r1 r2 r3 pc lo st W0 b0 c0 = some (.inr (.inl (.inl (some (.int v)), W2, b2, c2)))) : ins = .ireturn ∧ st = [.int v] := by
  cases ins with
  | ireturn =>
    simp only [mm_stepI] at h
    split at h
    · split at h
      · split at h
        · cases h; exact ⟨rfl, rfl⟩
        · cases h
      · cases h
    · cases h
  | lreturn =>
    simp only [mm_stepI] at h
    split at h
    · split at h
      · cases h
      · cases h
    · cases h
  | areturn =>
    simp only [mm_stepI] at h
    split at h
    · split at h
      · cases h
      · cases h
      · cases h
    · cases h
  | return_ =>
    simp only [mm_stepI] at h
    split at h
    · split at h
      · cases h
      · cases h
    · cases h
  | new i =>
    simp only [mm_stepI] at h
    split at h
    · split at h
      · exact absurd (Option.some.inj h) Sum.inl_ne_inr
      · cases h
    · split at h
      · cases h
      · cases h
  | invokevirtual i =>
    exfalso
    simp only [mm_stepI, mm_call] at h
    (repeat' split at h) <;> first | (obtain ⟨_, _, h⟩ := Option.map_eq_some_iff.mp h; exact absurd h Sum.inl_ne_inr) | exact absurd h.symm (Option.some_ne_none _) | exact absurd (Option.some.inj h) Sum.inl_ne_inr | exact absurd (Sum.inr.inj (Option.some.inj h)) Sum.inr_ne_inl
  | invokestatic i =>
    exfalso
    simp only [mm_stepI, mm_call] at h
    (repeat' split at h) <;> first | (obtain ⟨_, _, h⟩ := Option.map_eq_some_iff.mp h; exact absurd h Sum.inl_ne_inr) | exact absurd h.symm (Option.some_ne_none _) | exact absurd (Option.some.inj h) Sum.inl_ne_inr | exact absurd (Sum.inr.inj (Option.some.inj h)) Sum.inr_ne_inl
  | invokespecial i =>
    exfalso
    simp only [mm_stepI, mm_call] at h
    (repeat' split at h) <;> first | (obtain ⟨_, _, h⟩ := Option.map_eq_some_iff.mp h; exact absurd h Sum.inl_ne_inr) | exact absurd h.symm (Option.some_ne_none _) | exact absurd (Option.some.inj h) Sum.inl_ne_inr | exact absurd (Sum.inr.inj (Option.some.inj h)) Sum.inr_ne_inl
  | _ =>
    exfalso
    first
    | (cases (show (none : Option mm_T) = some (.inr (.inl (.inl (some (.int v)), W2, b2, c2))) from h); done)
    | (simp only [mm_stepI] at h
       (repeat' split at h) <;> first | (obtain ⟨_, _, h⟩ := Option.map_eq_some_iff.mp h; exact absurd h Sum.inl_ne_inr) | exact absurd h.symm (Option.some_ne_none _) | exact absurd (Option.some.inj h) Sum.inl_ne_inr)
set_option maxRecDepth 100000 in
theorem md_law {p : Program} {e : Env} {s : State} {m : MethodId} {below : List Frame} {meth : Method} {c : Code} (l : Launch) (hflags : l.flags = flags0) {b L : Nat} {xs : Nat → Int32} (C0 : lw_At p s m meth c b L xs) {f d : Nat} {W2 : mm_W} {b2 c2 : Nat} (hd : d ≤ 2000)
    (hrun : mm_ex (md_xa (L, xs)) f d 0 (0, [(0, .ref mm_XB)], [], [], md_cells, md_slots) = some (.inl (some (.int 1)), W2, b2, c2)) : W p l e room_1 s m #[Value.ref b] below meth c s.heap [] 0 0 (lw_Z below #[Value.ref b] s) (entryFrame m ([Value.ref b] : List Value).toArray md_lawL) := by
  obtain ⟨hx, hb, hr, hml, hown, hts, hX, hbl, hlocks, hgv, hE, hnm⟩ := id C0
  obtain ⟨xl, hxl, hXX⟩ := md_start hts hX hbl hgv
  have hl : l.stackTraces = false := by
    unfold Launch.stackTraces
    rw [hflags]
    decide +kernel
  have h0 : ∀ k : Nat, ∃ z : ClassId × (Nat → Nat), ∀ q : vw_C, md_cl[k]? = some q → u_Kn s q.1 q.2.1 q.2.2 z.1 z.2 := by
    intro k
    cases hk : md_cl[k]? with
    | none => exact ⟨(0, fun _ => 0), fun q h => by cases h⟩
    | some q0 =>
      obtain ⟨C, T, N⟩ := q0
      obtain ⟨c1, i1, h1⟩ := u_known (s := s) (args := #[Value.ref b]) (ws := lw_tbl) (C := C) (T := T) (N := N) (n := N) hts (fun w hw => (List.mem_filter.mp ((md_dat.1 k C T N hk).1 w hw)).1) (hts _ (md_inst k _ hk))
      exact ⟨(c1, i1), fun q h => by cases h; exact h1⟩
  obtain ⟨dz, hdz⟩ := Classical.axiomOfChoice h0
  have hK : va_K ((fun k => (dz k).1), (fun k => (dz k).2)) md_cl [] s := ⟨fun k q hq => hdz k q hq, fun k q h => by simp at h⟩
  have hP : va_P ((fun k => (dz k).1), (fun k => (dz k).2)) md_cl [] s.heap := fun k q h => by simp at h
  have hD : va_D (fun q : Nat => s.heap.size ≤ q) [] := ⟨fun i j p q h => by simp at h, fun k q h => by simp at h⟩
  have htab : c.exceptionTable.toList = Jvm.tableOf (md_mt 0).2.2.2.2 := List.eq_nil_iff_forall_not_mem.mpr fun x hx => hE x hx
  have C : mm_C p l room_1 s m #[Value.ref b] meth c xl (fun q : Nat => s.heap.size ≤ q) (L, xs) 0 d :=
    ⟨hx, hb, hml, hown, fun w hw => hts w (List.mem_filter.mp hw).1, hXX, fun _ h => h, hlocks, hr, hnm, htab, by show d + 12 ≤ 2048; omega, by show 40 * d + 300 ≤ 84000; omega, hl⟩
  have hG := mm_sim (l := l) (sc := (L, xs)) md_prog hl f p e room_1 s m #[Value.ref b] below meth c xl ((fun k => (dz k).1), (fun k => (dz k).2)) [] (fun q : Nat => s.heap.size ≤ q) 0 d md_cells md_slots (lw_Z below #[Value.ref b] s) (0, [(0, .ref mm_XB)], [], [], md_cells, md_slots) _ C hrun (Nat.le_add_right _ _) (Nat.le_add_right _ _)
    (fun F' hF => by
      unfold mm_step at hF
      split at hF
      · cases hF
      · rename_i en hen
        obtain ⟨pc, lo, st, W0, b0, c0⟩ := F'
        obtain ⟨ins, nx, r1, r2, r3⟩ := en
        have hok := md_okall 0 pc _ hen
        obtain ⟨h1, h2⟩ := mm_iret _ hF
        have h1' : ins = .ireturn := h1
        have h2' : st = [.int 1] := h2
        subst h1'
        subst h2'
        obtain ⟨hdc, -⟩ := hok
        intro ws tys H locs cells slots ls st' hR
        obtain ⟨hst, hlo, hw, hK1, hP1, hD1, hS, hbb, hcc⟩ := hR
        have hst0 := mm_l.un hst
        clear hst
        obtain ⟨_, _, rfl, hv, hst⟩ := hst0
        cases mm_v.ri hv
        cases mm_l.un0 hst
        dsimp only at hbb hcc
        refine va_forget (fun q hq => hS.2.2 q hq) (W.widen (k := md_cells) (n := md_slots) (by omega) (by omega) ?_)
        exact lw_ret hx hb hr hlocks hdc)
    (fun n F' ho _ => by cases ho)
  have hlv := lv_entry ([.ref b]) (n := md_lawL) (Nat.le_of_ble_eq_true rfl)
  rw [lg_entry_eq]
  generalize (lg_sl ([.ref b]) ++ List.replicate (md_lawL - (lg_sl ([.ref b])).length) Slot.unset).toArray = ls at hlv ⊢
  have hv0 : mm_v xl [] (.ref mm_XB) (.ref b) := ⟨b, by unfold mm_ad; rw [if_neg (Nat.lt_irrefl _), Nat.sub_self, hxl], rfl⟩
  exact hG [] [] s.heap [] 0 0 ls [] ⟨mm_l.nil, ⟨_, hlv, ⟨_, _, rfl, hv0, rfl⟩⟩, ⟨rfl, fun k e h => by simp at h, mm_le.rf⟩, hK, hP, hD, va_S.rf, Nat.zero_add _, Nat.zero_add _⟩
