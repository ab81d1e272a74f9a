/-! ===== what a mini world is in the heap ===== -/
def mm_ad (xl : Nat → Nat) (ws : va_W) (k : Nat) : Option Nat := if k < mm_XB then (ws[k]?).map (fun q => q.1) else some (xl (k - mm_XB))
def mm_v (xl : Nat → Nat) (ws : va_W) : Value → Value → Prop
  | .ref k, v' => ∃ a, mm_ad xl ws k = some a ∧ v' = .ref a
  | .retAddr _, v' => v' = .null ∨ ∃ a, v' = .ref a
  | .int x, v' => v' = .int x
  | .long x, v' => v' = .long x
  | .float x, v' => v' = .float x
  | .double x, v' => v' = .double x
  | .null, v' => v' = .null
def mm_o (xl : Nat → Nat) (ws : va_W) : Option Nat → Option Nat → Prop
  | none, r => r = none
  | some k, r => ∃ a, mm_ad xl ws k = some a ∧ r = some a
def mm_l (xl : Nat → Nat) (ws : va_W) : List Value → List Value → Prop
  | [], l' => l' = []
  | v :: l, l' => ∃ v' l2, l' = v' :: l2 ∧ mm_v xl ws v v' ∧ mm_l xl ws l l2
def mm_lo (xl : Nat → Nat) (ws : va_W) : List (Nat × Value) → List (Nat × Value) → Prop
  | [], l' => l' = []
  | q :: l, l' => ∃ v' l2, l' = (q.1, v') :: l2 ∧ mm_v xl ws q.2 v' ∧ mm_lo xl ws l l2
def mm_e (xl : Nat → Nat) (ws : va_W) (tys : List (ClassId × FieldType)) : va_E → va_E → Prop
  | .inr (ci, fs), e' => ∃ fs', e' = .inr (ci, fs') ∧ mm_l xl ws fs fs'
  | .inl (t, n, .inl f), e' => ∃ (cA : ClassId) (t0 : Nat), tys[t0]? = some (cA, md_ty t) ∧ e' = .inl (cA, n, .inl f) ∧ (t = 0 ∨ t = 2 ∨ t = 3)
  | .inl (t, n, .inr (.inl f)), e' => ∃ (cA : ClassId) (t0 : Nat), tys[t0]? = some (cA, md_ty t) ∧ e' = .inl (cA, n, .inr (.inl f)) ∧ t = 1
  | .inl (t, n, .inr (.inr (.inr (.inr f)))), e' => ∃ (cA : ClassId) (t0 : Nat) (f' : Nat → Option Nat), tys[t0]? = some (cA, md_ty t) ∧ e' = .inl (cA, n, .inr (.inr (.inr (.inr f')))) ∧ (∀ j, mm_o xl ws (f j) (f' j)) ∧ 4 ≤ t
  | .inl (_, _, .inr (.inr (.inl _))), _ => False
  | .inl (_, _, .inr (.inr (.inr (.inl _)))), _ => False
def mm_le (xl : Nat → Nat) (ws ws1 : va_W) : Prop := ∀ k a, mm_ad xl ws k = some a → mm_ad xl ws1 k = some a
/-- w0: the world at the method's start -/
def mm_w (xl : Nat → Nat) (w0 : va_W) (tys : List (ClassId × FieldType)) (W : mm_W) (ws : va_W) : Prop :=
  ws.length = W.length ∧ (∀ (k : Nat) (e : va_E), W[k]? = some e → ∃ (a : Nat) (e' : va_E), ws[k]? = some (a, e') ∧ mm_e xl ws tys e e') ∧ mm_le xl w0 ws
def mm_tle (tys tys1 : List (ClassId × FieldType)) : Prop := ∀ (t0 : Nat) (q : ClassId × FieldType), tys[t0]? = some q → tys1[t0]? = some q
theorem mm_le.rf {xl : Nat → Nat} {ws : va_W} : mm_le xl ws ws := fun _ _ h => h
theorem mm_le.tr {xl : Nat → Nat} {ws ws1 ws2 : va_W} (h : mm_le xl ws ws1) (h2 : mm_le xl ws1 ws2) : mm_le xl ws ws2 := fun k a q => h2 k a (h k a q)
theorem mm_tle.rf {tys : List (ClassId × FieldType)} : mm_tle tys tys := fun _ _ h => h
theorem mm_tle.app {tys t2 : List (ClassId × FieldType)} : mm_tle tys (tys ++ t2) := fun t0 q h => by
  rw [List.getElem?_append_left ((List.getElem?_eq_some_iff.mp h).1)]; exact h
theorem mm_v.mono {xl : Nat → Nat} {ws ws1 : va_W} (h : mm_le xl ws ws1) {v v' : Value} (hv : mm_v xl ws v v') : mm_v xl ws1 v v' := by
  cases v with
  | ref k => obtain ⟨a, h1, h2⟩ := hv; exact ⟨a, h _ _ h1, h2⟩
  | _ => exact hv
theorem mm_o.mono {xl : Nat → Nat} {ws ws1 : va_W} (h : mm_le xl ws ws1) {v v' : Option Nat} (hv : mm_o xl ws v v') : mm_o xl ws1 v v' := by
  cases v with
  | some k => obtain ⟨a, h1, h2⟩ := hv; exact ⟨a, h _ _ h1, h2⟩
  | none => exact hv
theorem mm_l.mono {xl : Nat → Nat} {ws ws1 : va_W} (h : mm_le xl ws ws1) : ∀ {l l' : List Value}, mm_l xl ws l l' → mm_l xl ws1 l l'
  | [], _, hv => hv
  | _ :: _, _, hv => by obtain ⟨v', l2, h1, h2, h3⟩ := hv; exact ⟨v', l2, h1, h2.mono h, mm_l.mono h h3⟩
theorem mm_lo.mono {xl : Nat → Nat} {ws ws1 : va_W} (h : mm_le xl ws ws1) : ∀ {l l' : List (Nat × Value)}, mm_lo xl ws l l' → mm_lo xl ws1 l l'
  | [], _, hv => hv
  | _ :: _, _, hv => by obtain ⟨v', l2, h1, h2, h3⟩ := hv; exact ⟨v', l2, h1, h2.mono h, mm_lo.mono h h3⟩
theorem mm_e.mono {xl : Nat → Nat} {ws ws1 : va_W} {tys tys1 : List (ClassId × FieldType)} (h : mm_le xl ws ws1) (ht : mm_tle tys tys1) {e e' : va_E} (he : mm_e xl ws tys e e') : mm_e xl ws1 tys1 e e' := by
  rcases e with ⟨t, n, f | f | f | f | f⟩ | ⟨ci, fs⟩
  · obtain ⟨cA, t0, h1, h2⟩ := he; exact ⟨cA, t0, ht _ _ h1, h2⟩
  · obtain ⟨cA, t0, h1, h2⟩ := he; exact ⟨cA, t0, ht _ _ h1, h2⟩
  · exact False.elim he
  · exact False.elim he
  · obtain ⟨cA, t0, f', h1, h2, h3, h4⟩ := he; exact ⟨cA, t0, f', ht _ _ h1, h2, fun j => (h3 j).mono h, h4⟩
  · obtain ⟨fs', h1, h2⟩ := he; exact ⟨fs', h1, h2.mono h⟩
theorem mm_ad_set {xl : Nat → Nat} {ws : va_W} {q a : Nat} {e0 e : va_E} (h : ws[q]? = some (a, e0)) (k : Nat) : mm_ad xl (ws.set q (a, e)) k = mm_ad xl ws k := by
  unfold mm_ad
  split
  · by_cases hk : k = q
    · subst hk
      rw [List.getElem?_set_self ((List.getElem?_eq_some_iff.mp h).1), h]; rfl
    · rw [List.getElem?_set_ne (fun z => hk z.symm)]
  · rfl
theorem mm_le_set {xl : Nat → Nat} {ws : va_W} {q a : Nat} {e0 e : va_E} (h : ws[q]? = some (a, e0)) : mm_le xl ws (ws.set q (a, e)) := fun k b hk => by rw [mm_ad_set h]; exact hk
theorem mm_le_app {xl : Nat → Nat} {ws w2 : va_W} : mm_le xl ws (ws ++ w2) := fun k a h => by
  unfold mm_ad at h ⊢
  split at h
  · rename_i hk
    rw [if_pos hk]
    cases hq : ws[k]? with
    | none => rw [hq] at h; cases h
    | some q =>
      rw [List.getElem?_append_left ((List.getElem?_eq_some_iff.mp hq).1), hq]
      rw [hq] at h; exact h
  · rename_i hk
    rw [if_neg hk]; exact h
theorem mm_ad_new {xl : Nat → Nat} {ws : va_W} {a : Nat} {e : va_E} {k : Nat} (hk : k = ws.length) (hx : k < mm_XB) : mm_ad xl (ws ++ [(a, e)]) k = some a := by
  subst hk
  unfold mm_ad
  rw [if_pos hx, List.getElem?_append_right (Nat.le_refl _), Nat.sub_self]; rfl
theorem mm_ad_at {xl : Nat → Nat} {ws : va_W} {a : Nat} {e : va_E} {k : Nat} (h : ws[k]? = some (a, e)) (hx : k < mm_XB) : mm_ad xl ws k = some a := by
  unfold mm_ad
  rw [if_pos hx, h]; rfl
theorem mm_ad_in {xl : Nat → Nat} {ws : va_W} {a : Nat} {k : Nat} (h : mm_ad xl ws k = some a) (hx : k < mm_XB) : ∃ e, ws[k]? = some (a, e) := by
  unfold mm_ad at h
  rw [if_pos hx] at h
  cases hq : ws[k]? with
  | none => rw [hq] at h; cases h
  | some q =>
    obtain ⟨a', e⟩ := q
    rw [hq] at h
    have : a' = a := by simpa using h
    subst this
    exact ⟨e, rfl⟩
theorem mm_ad_out {xl : Nat → Nat} {ws : va_W} {a : Nat} {k : Nat} (h : mm_ad xl ws k = some a) (hx : ¬ k < mm_XB) : a = xl (k - mm_XB) := by
  unfold mm_ad at h
  rw [if_neg hx] at h
  exact (Option.some.inj h).symm
theorem mm_w.set {xl : Nat → Nat} {w0 : va_W} {tys : List (ClassId × FieldType)} {W : mm_W} {ws : va_W} (h : mm_w xl w0 tys W ws) {q a : Nat} {e0 e e' : va_E} (hq : ws[q]? = some (a, e0)) (he : mm_e xl ws tys e e') : mm_w xl w0 tys (W.set q e) (ws.set q (a, e')) := by
  obtain ⟨h1, h2, h9⟩ := h
  refine ⟨by simp [h1], fun k x hk => ?_, h9.tr (mm_le_set hq)⟩
  have hl := (List.getElem?_eq_some_iff.mp hq).1
  by_cases hkq : k = q
  · subst hkq
    rw [List.getElem?_set_self (by rw [← h1]; exact hl)] at hk
    cases hk
    exact ⟨a, e', by rw [List.getElem?_set_self hl], he.mono (mm_le_set hq) mm_tle.rf⟩
  · rw [List.getElem?_set_ne (fun z => hkq z.symm)] at hk
    obtain ⟨a2, e2, h3, h4⟩ := h2 k x hk
    exact ⟨a2, e2, by rw [List.getElem?_set_ne (fun z => hkq z.symm)]; exact h3, h4.mono (mm_le_set hq) mm_tle.rf⟩
theorem mm_w.app {xl : Nat → Nat} {w0 : va_W} {tys tys1 : List (ClassId × FieldType)} {W : mm_W} {ws : va_W} (h : mm_w xl w0 tys W ws) (ht : mm_tle tys tys1) {a : Nat} {e e' : va_E} (he : mm_e xl (ws ++ [(a, e')]) tys1 e e') : mm_w xl w0 tys1 (W ++ [e]) (ws ++ [(a, e')]) := by
  obtain ⟨h1, h2, h9⟩ := h
  refine ⟨by simp [h1], fun k x hk => ?_, h9.tr mm_le_app⟩
  by_cases hl : k < W.length
  · rw [List.getElem?_append_left hl] at hk
    obtain ⟨a2, e2, h3, h4⟩ := h2 k x hk
    exact ⟨a2, e2, by rw [List.getElem?_append_left (by rw [h1]; exact hl)]; exact h3, h4.mono mm_le_app ht⟩
  · rw [List.getElem?_append_right (by omega)] at hk
    have hz : k - W.length < 1 := (List.getElem?_eq_some_iff.mp hk).1
    have hk0 : k = W.length := by omega
    subst hk0
    rw [Nat.sub_self] at hk
    cases hk
    exact ⟨a, e', by rw [List.getElem?_append_right (by omega), h1, Nat.sub_self]; rfl, he⟩
theorem mm_v.cat {xl : Nat → Nat} {ws : va_W} {v v' : Value} (h : mm_v xl ws v v') : v'.category = v.category := by
  cases v with
  | ref k => obtain ⟨a, -, rfl⟩ := h; rfl
  | retAddr k => rcases h with rfl | ⟨a, rfl⟩ <;> rfl
  | _ => rw [show v' = _ from h]
theorem mm_l.cats {xl : Nat → Nat} {ws : va_W} : ∀ {l l' : List Value}, mm_l xl ws l l' → (l'.map fun v => v.category).sum = (l.map fun v => v.category).sum
  | [], _, h => by rw [show _ = [] from h]
  | _ :: _, _, h => by obtain ⟨v', l2, rfl, h2, h3⟩ := h; simp only [List.map_cons, List.sum_cons, h2.cat, mm_l.cats h3]
theorem mm_l.len {xl : Nat → Nat} {ws : va_W} : ∀ {l l' : List Value}, mm_l xl ws l l' → l'.length = l.length
  | [], _, h => by rw [show _ = [] from h]
  | _ :: _, _, h => by obtain ⟨v', l2, rfl, h2, h3⟩ := h; simp only [List.length_cons, mm_l.len h3]
theorem mm_l.at {xl : Nat → Nat} {ws : va_W} : ∀ {l l' : List Value}, mm_l xl ws l l' → ∀ {k : Nat} {v : Value}, l[k]? = some v → ∃ v', l'[k]? = some v' ∧ mm_v xl ws v v'
  | [], _, _, k, v, hk => by simp at hk
  | _ :: _, _, h, 0, v, hk => by
    obtain ⟨v', l2, rfl, h2, h3⟩ := h
    rw [List.getElem?_cons_zero] at hk ⊢
    cases hk
    exact ⟨v', rfl, h2⟩
  | _ :: _, _, h, k + 1, v, hk => by
    obtain ⟨v', l2, rfl, h2, h3⟩ := h
    rw [List.getElem?_cons_succ] at hk ⊢
    exact mm_l.at h3 hk
theorem mm_l.set {xl : Nat → Nat} {ws : va_W} : ∀ {l l' : List Value}, mm_l xl ws l l' → ∀ (k : Nat) {v v' : Value}, mm_v xl ws v v' → mm_l xl ws (l.set k v) (l'.set k v')
  | [], _, h, _, _, _, _ => by rw [show _ = [] from h]; exact (rfl : ([] : List Value) = [])
  | _ :: _, _, h, 0, v, v', hv => by
    obtain ⟨v0, l2, rfl, h2, h3⟩ := h
    exact ⟨v', l2, rfl, hv, h3⟩
  | _ :: _, _, h, k + 1, v, v', hv => by
    obtain ⟨v0, l2, rfl, h2, h3⟩ := h
    exact ⟨v0, l2.set k v', rfl, h2, mm_l.set h3 k hv⟩
theorem mm_l.app {xl : Nat → Nat} {ws : va_W} : ∀ {l l' m m' : List Value}, mm_l xl ws l l' → mm_l xl ws m m' → mm_l xl ws (l ++ m) (l' ++ m')
  | [], _, _, _, h, h2 => by rw [show _ = [] from h]; exact h2
  | _ :: _, _, _, _, h, h2 => by
    obtain ⟨v0, l2, rfl, h3, h4⟩ := h
    exact ⟨v0, l2 ++ _, rfl, h3, mm_l.app h4 h2⟩
theorem mm_l.split {xl : Nat → Nat} {ws : va_W} : ∀ (n : Nat) {l l' : List Value}, mm_l xl ws l l' → mm_l xl ws (l.take n) (l'.take n) ∧ mm_l xl ws (l.drop n) (l'.drop n)
  | 0, _, _, h => ⟨(rfl : ([] : List Value) = []), h⟩
  | n + 1, [], _, h => by rw [show _ = [] from h]; exact ⟨(rfl : ([] : List Value) = []), (rfl : ([] : List Value) = [])⟩
  | n + 1, _ :: _, _, h => by
    obtain ⟨v0, l2, rfl, h3, h4⟩ := h
    obtain ⟨h5, h6⟩ := mm_l.split n h4
    exact ⟨⟨v0, l2.take n, rfl, h3, h5⟩, h6⟩
theorem mm_l.rev {xl : Nat → Nat} {ws : va_W} : ∀ {l l' : List Value}, mm_l xl ws l l' → mm_l xl ws l.reverse l'.reverse
  | [], _, h => by rw [show _ = [] from h]; exact (rfl : ([] : List Value) = [])
  | v :: l, _, h => by
    obtain ⟨v0, l2, rfl, h3, h4⟩ := h
    rw [List.reverse_cons, List.reverse_cons]
    exact mm_l.app (mm_l.rev h4) ⟨v0, [], rfl, h3, rfl⟩
theorem mm_lo.get {xl : Nat → Nat} {ws : va_W} : ∀ {lo lv : List (Nat × Value)}, mm_lo xl ws lo lv → ∀ {i : Nat} {v : Value}, mm_get lo i = some v → ∃ v', (i, v') ∈ lv ∧ mm_v xl ws v v'
  | [], _, _, i, v, hg => by cases hg
  | q :: l, _, h, i, v, hg => by
    obtain ⟨v0, l2, rfl, h3, h4⟩ := h
    unfold mm_get at hg
    split at hg
    · rename_i hi
      cases hg
      subst hi
      exact ⟨v0, List.mem_cons_self, h3⟩
    · obtain ⟨v', h5, h6⟩ := mm_lo.get h4 hg
      exact ⟨v', List.mem_cons_of_mem _ h5, h6⟩
theorem mm_lo.fil {xl : Nat → Nat} {ws : va_W} (f : Nat × Nat → Bool) : ∀ {lo lv : List (Nat × Value)}, mm_lo xl ws lo lv → mm_lo xl ws (lo.filter (fun q => f (q.1, q.2.category))) (lv.filter (fun q => f (q.1, q.2.category)))
  | [], _, h => by rw [show _ = [] from h]; exact (rfl : ([] : List (Nat × Value)) = [])
  | q :: l, _, h => by
    obtain ⟨v0, l2, rfl, h3, h4⟩ := h
    have ih := mm_lo.fil f h4
    by_cases hf : f (q.1, q.2.category) = true
    · rw [List.filter_cons_of_pos (by exact hf), List.filter_cons_of_pos (by rw [h3.cat]; exact hf)]
      exact ⟨v0, _, rfl, h3, ih⟩
    · rw [List.filter_cons_of_neg (by exact hf), List.filter_cons_of_neg (by rw [h3.cat]; exact hf)]
      exact ih
theorem mm_lo.sto {xl : Nat → Nat} {ws : va_W} {lo lv : List (Nat × Value)} (h : mm_lo xl ws lo lv) (i : Nat) {v v' : Value} (hv : mm_v xl ws v v') : mm_lo xl ws (mm_sto lo i v) ((i, v') :: lv.filter (fun q => !(q.1 == i) && !(q.1 + 1 == i && q.2.category == 2))) :=
  ⟨v', _, rfl, hv, mm_lo.fil (fun z => !(z.1 == i) && !(z.1 + 1 == i && z.2 == 2)) h⟩
theorem mm_lo.stl {xl : Nat → Nat} {ws : va_W} {lo lv : List (Nat × Value)} (h : mm_lo xl ws lo lv) (i : Nat) {v v' : Value} (hv : mm_v xl ws v v') : mm_lo xl ws (mm_stl lo i v) ((i, v') :: lv.filter (fun q => !(q.1 == i) && (!(q.1 == i + 1) && !(q.1 + 1 == i && q.2.category == 2)))) :=
  ⟨v', _, rfl, hv, mm_lo.fil (fun z => !(z.1 == i) && (!(z.1 == i + 1) && !(z.1 + 1 == i && z.2 == 2))) h⟩
theorem mm_lo.args {xl : Nat → Nat} {ws : va_W} : ∀ {l l' : List Value} (i : Nat), mm_l xl ws l l' → mm_lo xl ws (lv_args i l) (lv_args i l')
  | [], _, _, h => by rw [show _ = [] from h]; exact (rfl : ([] : List (Nat × Value)) = [])
  | v :: l, _, i, h => by
    obtain ⟨v0, l2, rfl, h3, h4⟩ := h
    unfold lv_args
    rw [h3.cat]
    exact ⟨v0, _, rfl, h3, mm_lo.args _ h4⟩
theorem mm_v.re {xl : Nat → Nat} {ws : va_W} {r r' : Option Nat} (h : mm_o xl ws r r') : mm_v xl ws (va_rf r) (va_rf r') := by
  cases r with
  | none => rw [show r' = none from h]; exact (rfl : Value.null = Value.null)
  | some k => obtain ⟨a, h1, rfl⟩ := h; exact ⟨a, h1, rfl⟩
/-- an outer value: where it is -/
def mm_xv (xl : Nat → Nat) : Value → Value
  | .ref k => .ref (xl (k - mm_XB))
  | v => v
def mm_isx : Value → Bool
  | .ref k => decide (mm_XB ≤ k)
  | .retAddr _ => false
  | _ => true
theorem mm_v.x {xl : Nat → Nat} {ws : va_W} {v : Value} (h : mm_isx v = true) : mm_v xl ws v (mm_xv xl v) := by
  cases v with
  | ref k =>
    have hk : mm_XB ≤ k := by simpa [mm_isx] using h
    exact ⟨_, by unfold mm_ad; rw [if_neg (Nat.not_lt.mpr hk)], rfl⟩
  | retAddr k => cases h
  | int x => exact (rfl : Value.int x = Value.int x)
  | long x => exact (rfl : Value.long x = Value.long x)
  | float x => exact (rfl : Value.float x = Value.float x)
  | double x => exact (rfl : Value.double x = Value.double x)
  | null => exact (rfl : Value.null = Value.null)
theorem mm_ib_in {i : Int32} {n : Nat} (h : mm_ib i n = true) : vp_in i n := by
  unfold mm_ib at h
  simpa [vp_in] using h
theorem mm_l.nil {xl : Nat → Nat} {ws : va_W} : mm_l xl ws [] [] := (rfl : ([] : List Value) = [])
theorem mm_l.cons {xl : Nat → Nat} {ws : va_W} {v v' : Value} {l l' : List Value} (h : mm_v xl ws v v') (h2 : mm_l xl ws l l') : mm_l xl ws (v :: l) (v' :: l') := ⟨v', l', rfl, h, h2⟩
theorem mm_v.i {xl : Nat → Nat} {ws : va_W} {x : Int32} : mm_v xl ws (.int x) (.int x) := (rfl : Value.int x = Value.int x)
theorem mm_v.j {xl : Nat → Nat} {ws : va_W} {x : Int64} : mm_v xl ws (.long x) (.long x) := (rfl : Value.long x = Value.long x)
theorem mm_v.n {xl : Nat → Nat} {ws : va_W} : mm_v xl ws .null .null := (rfl : Value.null = Value.null)
theorem mm_v.ri {xl : Nat → Nat} {ws : va_W} {x : Int32} {v' : Value} (h : mm_v xl ws (.int x) v') : v' = .int x := h
theorem mm_v.rj {xl : Nat → Nat} {ws : va_W} {x : Int64} {v' : Value} (h : mm_v xl ws (.long x) v') : v' = .long x := h
theorem mm_v.rn {xl : Nat → Nat} {ws : va_W} {v' : Value} (h : mm_v xl ws .null v') : v' = .null := h
theorem mm_v.rr {xl : Nat → Nat} {ws : va_W} {k : Nat} {v' : Value} (h : mm_v xl ws (.ref k) v') : ∃ a, mm_ad xl ws k = some a ∧ v' = .ref a := h
theorem mm_v.rt {xl : Nat → Nat} {ws : va_W} {k : Nat} {v' : Value} (h : mm_v xl ws (.retAddr k) v') : v' = .null ∨ ∃ a, v' = .ref a := h
theorem mm_l.un {xl : Nat → Nat} {ws : va_W} {v : Value} {l l' : List Value} (h : mm_l xl ws (v :: l) l') : ∃ v' l2, l' = v' :: l2 ∧ mm_v xl ws v v' ∧ mm_l xl ws l l2 := h
theorem mm_l.un0 {xl : Nat → Nat} {ws : va_W} {l' : List Value} (h : mm_l xl ws [] l') : l' = [] := h
theorem mm_lvat {ls : Array Slot} {nL : Nat} {lv : List (Nat × Value)} (h : lv_has ls nL lv) {i : Nat} {v : Value} (hm : (i, v) ∈ lv) : ls[i]? = some (.val v) := h.2.2 (i, v) hm
theorem mm_e.i {xl : Nat → Nat} {ws : va_W} {tys : List (ClassId × FieldType)} {t n t0 : Nat} {f : Nat → Int32} {cA : ClassId} (h : tys[t0]? = some (cA, md_ty t)) (ht : t = 0 ∨ t = 2 ∨ t = 3) : mm_e xl ws tys (.inl (t, n, .inl f)) (.inl (cA, n, .inl f)) := ⟨cA, t0, h, rfl, ht⟩
theorem mm_e.j {xl : Nat → Nat} {ws : va_W} {tys : List (ClassId × FieldType)} {t n t0 : Nat} {f : Nat → Int64} {cA : ClassId} (h : tys[t0]? = some (cA, md_ty t)) (ht : t = 1) : mm_e xl ws tys (.inl (t, n, .inr (.inl f))) (.inl (cA, n, .inr (.inl f))) := ⟨cA, t0, h, rfl, ht⟩
theorem mm_e.r {xl : Nat → Nat} {ws : va_W} {tys : List (ClassId × FieldType)} {t n t0 : Nat} {f f' : Nat → Option Nat} {cA : ClassId} (h : tys[t0]? = some (cA, md_ty t)) (hf : ∀ j, mm_o xl ws (f j) (f' j)) (ht : 4 ≤ t) : mm_e xl ws tys (.inl (t, n, .inr (.inr (.inr (.inr f))))) (.inl (cA, n, .inr (.inr (.inr (.inr f'))))) := ⟨cA, t0, f', h, rfl, hf, ht⟩
theorem mm_e.o {xl : Nat → Nat} {ws : va_W} {tys : List (ClassId × FieldType)} {ci : Nat} {fs fs' : List Value} (h : mm_l xl ws fs fs') : mm_e xl ws tys (.inr (ci, fs)) (.inr (ci, fs')) := ⟨fs', rfl, h⟩
