/-! ===== locals: a run that ends well from fewer locals ends so from more ===== -/
def lo_le (p q : List (Nat × Value)) : Prop := ∀ i v, mm_get p i = some v → mm_get q i = some v
def lo_nd : List (Nat × Value) → Prop
  | [] => True
  | x :: l => (∀ y ∈ l, y.1 ≠ x.1) ∧ lo_nd l
def lo_nk : List Nat → Bool
  | [] => true
  | x :: l => !(l.elem x) && lo_nk l
theorem lo_nk_ok : ∀ (p : List (Nat × Value)), lo_nk (p.map Prod.fst) = true → lo_nd p
  | [], _ => trivial
  | x :: l, h => by
    have h' : (!((l.map Prod.fst).elem x.1) && lo_nk (l.map Prod.fst)) = true := h
    rw [Bool.and_eq_true, Bool.not_eq_true'] at h'
    refine ⟨fun y hy e => ?_, lo_nk_ok l h'.2⟩
    have : (l.map Prod.fst).elem x.1 = true := List.elem_eq_true_of_mem (e ▸ List.mem_map_of_mem hy)
    rw [this] at h'
    cases h'.1
def lo_sub : List (Nat × Value) → List (Nat × Value) → Prop
  | [], _ => True
  | x :: l, q => mm_get q x.1 = some x.2 ∧ lo_sub l q
theorem lo_sub_le : ∀ (p q : List (Nat × Value)), lo_sub p q → lo_le p q
  | [], _, _ => fun i v h => by cases h
  | x :: l, q, hs => fun i v h => by
    unfold mm_get at h
    by_cases hi : x.1 = i
    · rw [if_pos hi] at h
      rw [← hi, hs.1, h]
    · rw [if_neg hi] at h
      exact lo_sub_le l q hs.2 i v h
theorem lo_mem : ∀ {p : List (Nat × Value)} {i : Nat} {v : Value}, mm_get p i = some v → (i, v) ∈ p
  | [], _, _, h => by cases h
  | x :: l, i, v, h => by
    unfold mm_get at h
    by_cases hi : x.1 = i
    · rw [if_pos hi] at h
      injection h with h
      have : x = (i, v) := Prod.ext hi h
      rw [this]
      exact List.mem_cons_self
    · rw [if_neg hi] at h
      exact List.mem_cons_of_mem _ (lo_mem h)
theorem lo_ndf {f : Nat × Value → Bool} : ∀ {p : List (Nat × Value)}, lo_nd p → lo_nd (p.filter f)
  | [], _ => trivial
  | x :: l, h => by
    rw [List.filter_cons]
    split
    · exact ⟨fun y hy => h.1 y (List.mem_filter.mp hy).1, lo_ndf h.2⟩
    · exact lo_ndf h.2
theorem lo_getf {f : Nat × Value → Bool} : ∀ {p : List (Nat × Value)} {i : Nat} {v : Value}, mm_get p i = some v → f (i, v) = true → mm_get (p.filter f) i = some v
  | [], _, _, h, _ => by cases h
  | x :: l, i, v, h, hf => by
    unfold mm_get at h
    by_cases hi : x.1 = i
    · rw [if_pos hi] at h
      injection h with h
      have hx : x = (i, v) := Prod.ext hi h
      rw [hx, List.filter_cons, if_pos hf]
      show (if (i, v).1 = i then some (i, v).2 else _) = _
      rw [if_pos rfl]
    · rw [if_neg hi] at h
      rw [List.filter_cons]
      split
      · show (if x.1 = i then some x.2 else mm_get (l.filter f) i) = _
        rw [if_neg hi]
        exact lo_getf h hf
      · exact lo_getf h hf
theorem lo_fget {f : Nat × Value → Bool} {p : List (Nat × Value)} {i : Nat} {v : Value} (hn : lo_nd p) (h : mm_get (p.filter f) i = some v) : mm_get p i = some v ∧ f (i, v) = true := by
  have hm := List.mem_filter.mp (lo_mem h)
  refine ⟨?_, hm.2⟩
  have key : ∀ {p : List (Nat × Value)}, lo_nd p → (i, v) ∈ p → mm_get p i = some v := by
    intro p
    induction p with
    | nil => intro _ h; cases h
    | cons x l ih =>
      intro hn hm
      rcases List.mem_cons.mp hm with hx | hx
      · rw [← hx]
        show (if (i, v).1 = i then some (i, v).2 else _) = _
        rw [if_pos rfl]
      · show (if x.1 = i then some x.2 else mm_get l i) = _
        rw [if_neg (fun e => hn.1 _ hx e.symm)]
        exact ih hn.2 hx
  exact key hn hm.1
theorem lo_sto_le {p q : List (Nat × Value)} {i : Nat} {v : Value} (hn : lo_nd p) (h : lo_le p q) : lo_le (mm_sto p i v) (mm_sto q i v) := by
  intro k w hk
  unfold mm_sto at hk ⊢
  unfold mm_get at hk ⊢
  by_cases hi : i = k
  · rw [if_pos hi] at hk ⊢
    exact hk
  · rw [if_neg hi] at hk ⊢
    obtain ⟨h1, h2⟩ := lo_fget hn hk
    exact lo_getf (h _ _ h1) h2
theorem lo_stl_le {p q : List (Nat × Value)} {i : Nat} {v : Value} (hn : lo_nd p) (h : lo_le p q) : lo_le (mm_stl p i v) (mm_stl q i v) := by
  intro k w hk
  unfold mm_stl at hk ⊢
  unfold mm_get at hk ⊢
  by_cases hi : i = k
  · rw [if_pos hi] at hk ⊢
    exact hk
  · rw [if_neg hi] at hk ⊢
    obtain ⟨h1, h2⟩ := lo_fget hn hk
    exact lo_getf (h _ _ h1) h2
theorem lo_sto_nd {p : List (Nat × Value)} {i : Nat} {v : Value} (hn : lo_nd p) : lo_nd (mm_sto p i v) := by
  refine ⟨fun y hy e => ?_, lo_ndf hn⟩
  have h := (List.mem_filter.mp hy).2
  have e' : y.1 = i := e
  simp [e'] at h
theorem lo_stl_nd {p : List (Nat × Value)} {i : Nat} {v : Value} (hn : lo_nd p) : lo_nd (mm_stl p i v) := by
  refine ⟨fun y hy e => ?_, lo_ndf hn⟩
  have h := (List.mem_filter.mp hy).2
  have e' : y.1 = i := e
  simp [e'] at h
/-- a step's result with other locals -/
def lo_R (lo lo2 : List (Nat × Value)) : mm_T → mm_T → Prop
  | .inl F, T => ∃ q, T = .inl (F.1, q, F.2.2) ∧ lo_le F.2.1 q ∧ lo_nd F.2.1
  | .inr (.inl o), T => T = .inr (.inl o)
  | .inr (.inr (j', as, nx, fl, G)), T => ∃ q, T = .inr (.inr (j', as, nx, fl, (G.1, q, G.2.2))) ∧ lo_le G.2.1 q ∧ lo_nd G.2.1
/-- the same result, the locals put in -/
def lo_p (lo : List (Nat × Value)) : mm_T → mm_T
  | .inl F => .inl (F.1, lo, F.2.2)
  | .inr (.inl o) => .inr (.inl o)
  | .inr (.inr (j', as, nx, fl, G)) => .inr (.inr (j', as, nx, fl, (G.1, lo, G.2.2)))
theorem lo_call (r1 r2 r3 pc nx : Nat) (lo : List (Nat × Value)) (st : List Value) (W : mm_W) (b c : Nat) : mm_call r1 r2 r3 pc nx lo st W b c = (mm_call r1 r2 r3 pc nx [] st W b c).map (lo_p lo) := by
  unfold mm_call
  split
  · rfl
  · dsimp only
    split
    · split
      · split <;> rfl
      · rfl
    · split
      · split <;> rfl
      · rfl
    · split <;> rfl
    · split
      · split <;> rfl
      · rfl
    · split
      · split
        · rw [Option.map_map]; rfl
        · rfl
      · rfl
    · rfl
def lo_ac : Instr → Bool
  | .iload _ | .iload_n _ | .lload _ | .lload_n _ | .aload _ | .aload_n _ | .istore _ | .istore_n _ | .lstore _ | .lstore_n _ | .astore _ | .astore_n _ | .iinc _ _ => true
  | _ => false
set_option maxRecDepth 100000 in
set_option maxHeartbeats 4000000 in
theorem lo_free (xa : mm_Xa) (j : Nat) (ins : Instr) (hi : lo_ac ins = false) (nx r1 r2 r3 pc : Nat) (lo : List (Nat × Value)) (st : List Value) (W : mm_W) (b c : Nat) : mm_stepI xa j ins nx r1 r2 r3 pc lo st W b c = (mm_stepI xa j ins nx r1 r2 r3 pc [] st W b c).map (lo_p lo) := by
  cases ins <;> first
    | (cases hi; done)
    | (simp only [mm_stepI]; exact lo_call _ _ _ _ _ _ _ _ _ _)
    | (simp only [mm_stepI]; (repeat' split) <;> first | (rw [Option.map_map]; rfl) | rfl)
theorem lo_pR {lo lo2 : List (Nat × Value)} (h : lo_le lo lo2) (hn : lo_nd lo) (T : mm_T) : lo_R lo lo2 (lo_p lo T) (lo_p lo2 T) := by
  rcases T with F | o | ⟨j', as, nx, fl, G⟩
  · exact ⟨lo2, rfl, h, hn⟩
  · rfl
  · exact ⟨lo2, rfl, h, hn⟩
theorem lo_stepI {xa : mm_Xa} {j : Nat} {ins : Instr} {nx r1 r2 r3 pc : Nat} {lo lo2 : List (Nat × Value)} {st : List Value} {W : mm_W} {b c : Nat} (h : lo_le lo lo2) (hn : lo_nd lo) {T : mm_T} (hs : mm_stepI xa j ins nx r1 r2 r3 pc lo st W b c = some T) :
    ∃ T2, mm_stepI xa j ins nx r1 r2 r3 pc lo2 st W b c = some T2 ∧ lo_R lo lo2 T T2 := by
  by_cases ha : lo_ac ins = false
  · rw [lo_free xa j ins ha] at hs
    rw [lo_free xa j ins ha]
    cases hz : mm_stepI xa j ins nx r1 r2 r3 pc [] st W b c with
    | none => rw [hz] at hs; cases hs
    | some T0 =>
      rw [hz] at hs
      injection hs with hs
      exact ⟨_, rfl, hs ▸ lo_pR h hn T0⟩
  · cases ins <;> first
      | (exfalso; exact ha rfl)
      | (simp only [mm_stepI] at hs ⊢
         split at hs
         · rename_i x hx
           rw [h _ _ hx]
           injection hs with hs
           subst hs
           exact ⟨_, rfl, _, rfl, h, hn⟩
         · cases hs)
      | (simp only [mm_stepI] at hs ⊢
         split at hs
         · rename_i x hx
           rw [h _ _ hx]
           injection hs with hs
           subst hs
           exact ⟨_, rfl, _, rfl, lo_sto_le hn h, lo_sto_nd hn⟩
         · cases hs)
      | (simp only [mm_stepI] at hs ⊢
         split at hs
         · injection hs with hs
           subst hs
           exact ⟨_, rfl, _, rfl, lo_sto_le hn h, lo_sto_nd hn⟩
         · cases hs)
      | (simp only [mm_stepI] at hs ⊢
         split at hs
         · injection hs with hs
           subst hs
           exact ⟨_, rfl, _, rfl, lo_stl_le hn h, lo_stl_nd hn⟩
         · cases hs)
      | (simp only [mm_stepI] at hs ⊢
         split at hs
         · injection hs with hs
           subst hs
           exact ⟨_, rfl, _, rfl, lo_sto_le hn h, lo_sto_nd hn⟩
         · injection hs with hs
           subst hs
           exact ⟨_, rfl, _, rfl, lo_sto_le hn h, lo_sto_nd hn⟩
         · cases hs)
theorem lo_step {xa : mm_Xa} {j pc : Nat} {lo lo2 : List (Nat × Value)} {r : List Value × mm_W × Nat × Nat} (h : lo_le lo lo2) (hn : lo_nd lo) {T : mm_T} (hs : mm_step xa j (pc, lo, r) = some T) : ∃ T2, mm_step xa j (pc, lo2, r) = some T2 ∧ lo_R lo lo2 T T2 := by
  unfold mm_step at hs ⊢
  dsimp only at hs ⊢
  split at hs
  · cases hs
  · exact lo_stepI h hn hs
theorem lo_ex {xa : mm_Xa} : ∀ (f d j pc : Nat) (lo lo2 : List (Nat × Value)) (r : List Value × mm_W × Nat × Nat) (o : mm_O), lo_le lo lo2 → lo_nd lo → mm_ex xa f d j (pc, lo, r) = some o → mm_ex xa f d j (pc, lo2, r) = some o
  | 0, _, _, _, _, _, _, _, _, _, h => by cases h
  | f + 1, d, j, pc, lo, lo2, r, o, hl, hn, h => by
    unfold mm_ex at h ⊢
    cases hs : mm_step xa j (pc, lo, r) with
    | none => rw [hs] at h; cases h
    | some T =>
      rw [hs] at h
      obtain ⟨T2, hs2, hR⟩ := lo_step hl hn hs
      rw [hs2]
      rcases T with F | o' | ⟨j', as, nx, fl, G⟩
      · obtain ⟨q, rfl, h1, h2⟩ := hR
        exact lo_ex f d j F.1 F.2.1 q F.2.2 o h1 h2 h
      · have e : T2 = .inr (.inl o') := hR
        subst e
        exact h
      · obtain ⟨q, rfl, h1, h2⟩ := hR
        dsimp only at h ⊢
        cases d with
        | zero => cases h
        | succ d0 =>
          dsimp only at h ⊢
          split at h
          · cases h
          · rename_i hlen
            rw [if_neg hlen]
            split at h
            · cases h
            · rename_i v W2 b2 c2 hcall
              exact lo_ex f (d0 + 1) j _ _ _ _ o h1 h2 h
            · rename_i E W2 b2 c2 hcall
              split at h
              · cases h
              · rename_i hfl
                rw [if_neg hfl]
                split at h
                · rename_i hh
                  rw [if_pos hh]
                  exact h
                · rename_i hh
                  rw [if_neg hh]
                  split at h
                  · cases h
                  · rename_i hp hhd
                    exact lo_ex f (d0 + 1) j _ _ _ _ o h1 h2 h
theorem wp.lo {xa : mm_Xa} {d j pc : Nat} {lo lo2 : List (Nat × Value)} {st : List Value} {W : mm_W} {b c : Nat} {Q : Option Value ⊕ Nat → mm_W → Nat → Nat → Prop} (h : lo_sub lo lo2) (hn : lo_nk (lo.map Prod.fst) = true) (k : wp xa d j (pc, lo, st, W, b, c) Q) : wp xa d j (pc, lo2, st, W, b, c) Q := by
  obtain ⟨v, W2, b2, c2, ⟨f, h1⟩, h2⟩ := k
  exact ⟨v, W2, b2, c2, ⟨f, lo_ex f d j pc lo lo2 _ _ (lo_sub_le _ _ h) (lo_nk_ok _ hn) h1⟩, h2⟩
