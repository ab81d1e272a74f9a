/-! ===== arrays vanish behind their length: kept by every step ===== -/
def Zo : va_E → Prop
  | .inl (_, n, .inl f) => ∀ i, n ≤ i → f i = 0
  | .inl (_, n, .inr (.inl f)) => ∀ i, n ≤ i → f i = 0
  | _ => True
def Zw (W : mm_W) : Prop := ∀ E ∈ W, Zo E
theorem Zw.set {W : mm_W} {k : Nat} {E : va_E} (h : Zw W) (e : Zo E) : Zw (W.set k E) := fun x hx => by
  rcases List.mem_or_eq_of_mem_set hx with h1 | rfl
  · exact h x h1
  · exact e
theorem Zw.app {W : mm_W} {E : va_E} (h : Zw W) (e : Zo E) : Zw (W ++ [E]) := fun x hx => by
  rcases List.mem_append.mp hx with h1 | h1
  · exact h x h1
  · rw [List.mem_singleton.mp h1]; exact e
theorem Zw.get {W : mm_W} {k : Nat} {E : va_E} (h : Zw W) (e : W[k]? = some E) : Zo E := h E (List.mem_of_getElem? e)
theorem mm_ib_lt {i : Int32} {n : Nat} (h : mm_ib i n = true) : i.toNatClampNeg < n := by
  unfold mm_ib at h
  simp only [Bool.not_eq_true', Bool.or_eq_false_iff, decide_eq_false_iff_not] at h
  omega
theorem Zw.puti {W W2 : mm_W} {k t : Nat} {i x : Int32} (h : Zw W) (e : mm_aputi W k i x = some (t, W2)) : Zw W2 := by
  unfold mm_aputi at e
  split at e
  · rename_i t0 n f hk
    split at e
    · rename_i hi
      have e2 := Option.some.inj e
      have e3 : W2 = W.set k (.inl (t0, n, .inl (upd f i.toNatClampNeg (mm_nar t0 x)))) := (congrArg Prod.snd e2).symm
      rw [e3]
      refine h.set (fun q hq => ?_)
      have h1 := mm_ib_lt hi
      have h2 : ∀ i, n ≤ i → f i = 0 := h.get hk
      unfold upd
      rw [if_neg (by omega)]
      exact h2 q hq
    · cases e
  · cases e
theorem Zw.putl {W W2 : mm_W} {k t : Nat} {i : Int32} {x : Int64} (h : Zw W) (e : mm_aputl W k i x = some (t, W2)) : Zw W2 := by
  unfold mm_aputl at e
  split at e
  · rename_i t0 n f hk
    split at e
    · rename_i hi
      have e2 := Option.some.inj e
      have e3 : W2 = W.set k (.inl (t0, n, .inr (.inl (vp_updL f i.toNatClampNeg x)))) := (congrArg Prod.snd e2).symm
      rw [e3]
      refine h.set (fun q hq => ?_)
      have h1 := mm_ib_lt hi
      have h2 : ∀ i, n ≤ i → f i = 0 := h.get hk
      unfold vp_updL
      rw [if_neg (by omega)]
      exact h2 q hq
    · cases e
  · cases e
theorem Zw.putr {W W2 : mm_W} {k v : Nat} {i : Int32} (h : Zw W) (e : mm_aputr W k i v = some W2) : Zw W2 := by
  unfold mm_aputr at e
  split at e
  · split at e
    · have e2 := Option.some.inj e
      rw [← e2]
      exact h.set trivial
    · cases e
  · cases e
theorem Zw.put {W W2 : mm_W} {k ci f t : Nat} {v : Value} (h : Zw W) (e : mm_put W k ci f t v = some W2) : Zw W2 := by
  unfold mm_put at e
  split at e
  · split at e
    · have e2 := Option.some.inj e
      rw [← e2]
      exact h.set trivial
    · cases e
  · cases e
theorem Zw.cpy {W W2 : mm_W} {s d : Nat} {sp dp n : Int32} (h : Zw W) (e : mm_cpy W s sp d dp n = some W2) : Zw W2 := by
  unfold mm_cpy at e
  split at e
  · cases e
  · split at e
    · rename_i n0 f n1 g hs hd
      split at e
      · rename_i hb
        have e2 := Option.some.inj e
        rw [← e2]
        refine h.set (fun q hq => ?_)
        have h2 : ∀ i, n1 ≤ i → g i = 0 := h.get hd
        show va_cpy f g _ _ _ q = 0
        unfold va_cpy
        rw [if_neg (by omega)]
        exact h2 q hq
      · cases e
    · rename_i n0 f n1 g hs hd
      split at e
      · rename_i hb
        have e2 := Option.some.inj e
        rw [← e2]
        refine h.set (fun q hq => ?_)
        have h2 : ∀ i, n1 ≤ i → g i = 0 := h.get hd
        show va_cpy f g _ _ _ q = 0
        unfold va_cpy
        rw [if_neg (by omega)]
        exact h2 q hq
      · cases e
    · cases e
def zw_T : mm_T → mm_W
  | .inl F => F.2.2.2.1
  | .inr (.inl o) => o.2.1
  | .inr (.inr q) => q.2.2.2.2.2.2.2.1
theorem zw_map {W0 : mm_W} {o : Option Value} {g : Value → mm_T} {T : mm_T} (h : Zw W0) (e : o.map g = some T) (eg : ∀ v, zw_T (g v) = W0) : Zw (zw_T T) := by
  obtain ⟨v, -, rfl⟩ := Option.map_eq_some_iff.mp e
  rw [eg]; exact h
theorem zw_mapn {W0 : mm_W} {o : Option Nat} {g : Nat → mm_T} {T : mm_T} (h : Zw W0) (e : o.map g = some T) (eg : ∀ v, zw_T (g v) = W0) : Zw (zw_T T) := by
  obtain ⟨v, -, rfl⟩ := Option.map_eq_some_iff.mp e
  rw [eg]; exact h
set_option maxRecDepth 100000 in
theorem zw_call {r1 r2 r3 pc nx : Nat} {lo : List (Nat × Value)} {st : List Value} {W : mm_W} {b c : Nat} {T : mm_T} (h : Zw W) (hs : mm_call r1 r2 r3 pc nx lo st W b c = some T) : Zw (zw_T T) := by
  unfold mm_call at hs
  dsimp only at hs
  (repeat' split at hs) <;> first
    | (cases hs; done)
    | (injection hs with hs; subst hs; exact h)
    | (obtain ⟨W2, hW, rfl⟩ := Option.map_eq_some_iff.mp hs; exact h.cpy hW)
set_option maxRecDepth 100000 in
set_option maxHeartbeats 4000000 in
theorem zw_stepI {xa : mm_Xa} {j : Nat} {ins : Instr} {nx r1 r2 r3 pc : Nat} {lo : List (Nat × Value)} {st : List Value} {W : mm_W} {b c : Nat} {T : mm_T} (h : Zw W) (hs : mm_stepI xa j ins nx r1 r2 r3 pc lo st W b c = some T) : Zw (zw_T T) := by
  cases ins
  case iastore =>
    simp only [mm_stepI] at hs
    (repeat' split at hs) <;> first
      | (simp only [reduceCtorEq] at hs; done)
      | (rename_i hW _; injection hs with hs; subst hs; exact h.puti hW)
  case bastore =>
    simp only [mm_stepI] at hs
    (repeat' split at hs) <;> first
      | (simp only [reduceCtorEq] at hs; done)
      | (rename_i hW _; injection hs with hs; subst hs; exact h.puti hW)
  case lastore =>
    simp only [mm_stepI] at hs
    (repeat' split at hs) <;> first
      | (simp only [reduceCtorEq] at hs; done)
      | (rename_i hW _; injection hs with hs; subst hs; exact h.putl hW)
  case aastore =>
    simp only [mm_stepI] at hs
    (repeat' split at hs) <;> first
      | (simp only [reduceCtorEq] at hs; done)
      | (obtain ⟨W2, hW, rfl⟩ := Option.map_eq_some_iff.mp hs; exact h.putr hW)
  case putfield =>
    simp only [mm_stepI] at hs
    (repeat' split at hs) <;> first
      | (simp only [reduceCtorEq] at hs; done)
      | (obtain ⟨W2, hW, rfl⟩ := Option.map_eq_some_iff.mp hs; exact h.put hW)
  case new =>
    simp only [mm_stepI] at hs
    split at hs
    · split at hs
      · have hs := Option.some.inj hs
        rw [← hs]
        exact h.app trivial
      · simp only [reduceCtorEq] at hs
    · split at hs
      · have hs := Option.some.inj hs
        rw [← hs]
        exact h
      · simp only [reduceCtorEq] at hs
  case newarray =>
    simp only [mm_stepI] at hs
    split at hs
    · split at hs
      · have hs := Option.some.inj hs
        rw [← hs]
        refine h.app ?_
        split <;> exact fun _ _ => rfl
      · simp only [reduceCtorEq] at hs
    · simp only [reduceCtorEq] at hs
  case anewarray =>
    simp only [mm_stepI] at hs
    split at hs
    · split at hs
      · have hs := Option.some.inj hs
        rw [← hs]
        exact h.app trivial
      · simp only [reduceCtorEq] at hs
    · simp only [reduceCtorEq] at hs
  all_goals first
    | (simp only [mm_stepI] at hs; exact zw_call h hs)
    | (simp only [mm_stepI] at hs
       (repeat' split at hs) <;> first
         | (simp only [reduceCtorEq] at hs; done)
         | exact zw_map h hs (fun _ => rfl)
         | exact zw_mapn h hs (fun _ => rfl)
         | (rw [← Option.some.inj hs]; exact h))
theorem zw_step {xa : mm_Xa} {j : Nat} {F : mm_F} {T : mm_T} (h : Zw F.2.2.2.1) (hs : mm_step xa j F = some T) : Zw (zw_T T) := by
  unfold mm_step at hs
  split at hs
  · cases hs
  · exact zw_stepI h hs
theorem zw_ex {xa : mm_Xa} : ∀ (f d j : Nat) (F : mm_F) (o : mm_O), Zw F.2.2.2.1 → mm_ex xa f d j F = some o → Zw o.2.1
  | 0, _, _, _, _, _, h => by cases h
  | f + 1, d, j, F, o, hz, h => by
    unfold mm_ex at h
    cases hs : mm_step xa j F with
    | none => rw [hs] at h; cases h
    | some T =>
      rw [hs] at h
      have hT := zw_step hz hs
      rcases T with F' | o' | ⟨j', as, nx, fl, G⟩
      · exact zw_ex f d j F' o hT h
      · injection h with h
        subst h
        exact hT
      · dsimp only at h
        cases d with
        | zero => cases h
        | succ d0 =>
          dsimp only at h
          split at h
          · cases h
          · split at h
            · cases h
            · rename_i v W2 b2 c2 hcall
              have h2 := zw_ex f d0 j' (0, lv_args 0 as, [], G.2.2.2.1, G.2.2.2.2.1, G.2.2.2.2.2) _ hT hcall
              exact zw_ex f (d0 + 1) j _ o h2 h
            · rename_i E W2 b2 c2 hcall
              have h2 := zw_ex f d0 j' (0, lv_args 0 as, [], G.2.2.2.1, G.2.2.2.2.1, G.2.2.2.2.2) _ hT hcall
              split at h
              · cases h
              · split at h
                · injection h with h
                  subst h
                  exact h2
                · split at h
                  · cases h
                  · exact zw_ex f (d0 + 1) j _ o h2 h
theorem zw_go {xa : mm_Xa} {f d j : Nat} : ∀ (n : Nat) (F F' : mm_F), Zw F.2.2.2.1 → mm_go xa f d j n F = some F' → Zw F'.2.2.2.1
  | 0, F, F', hz, h => by
    cases Option.some.inj h
    exact hz
  | n + 1, F, F', hz, h => by
    unfold mm_go at h
    split at h
    · rename_i F1 hs
      exact zw_go n F1 F' (zw_step hz hs) h
    · rename_i j' as nx fl G hs
      have hT := zw_step hz hs
      split at h
      · cases h
      · split at h
        · rename_i v W2 b2 c2 hcall
          exact zw_go n _ F' (zw_ex f d j' (0, lv_args 0 as, [], G.2.2.2.1, G.2.2.2.2.1, G.2.2.2.2.2) _ hT hcall) h
        · rename_i E W2 b2 c2 hcall
          split at h
          · cases h
          · split at h
            · cases h
            · split at h
              · exact zw_go n _ F' (zw_ex f d j' (0, lv_args 0 as, [], G.2.2.2.1, G.2.2.2.2.1, G.2.2.2.2.2) _ hT hcall) h
              · cases h
        · cases h
    · cases h
