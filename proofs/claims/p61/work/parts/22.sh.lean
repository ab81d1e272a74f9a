/-! ===== a run moved to other places: behind the objects P, in front of the objects S (laid by wip/p61/shift1.py) ===== -/
def sh_k (n k : Nat) : Nat := if k < mm_XB then n + k else k
def sh_v (n : Nat) : Value → Value
  | .ref k => .ref (sh_k n k)
  | v => v
def sh_e (n : Nat) : va_E → va_E
  | .inl (t, m, .inr (.inr (.inr (.inr f)))) => .inl (t, m, .inr (.inr (.inr (.inr (fun i => (f i).map (sh_k n))))))
  | .inr (c, fs) => .inr (c, fs.map (sh_v n))
  | E => E
def sh_l (n : Nat) (lo : List (Nat × Value)) : List (Nat × Value) := lo.map (fun q => (q.1, sh_v n q.2))
def sh_s (n : Nat) (st : List Value) : List Value := st.map (sh_v n)
def sh_W (n : Nat) (P S W : mm_W) : mm_W := P ++ (W.map (sh_e n) ++ S)
def sh_F (n : Nat) (P S : mm_W) (F : mm_F) : mm_F := (F.1, sh_l n F.2.1, sh_s n F.2.2.1, sh_W n P S F.2.2.2.1, F.2.2.2.2)
def sh_r (n : Nat) : Option Value ⊕ Nat → Option Value ⊕ Nat
  | .inl v => .inl (v.map (sh_v n))
  | .inr E => .inr E
def sh_o (n : Nat) (P S : mm_W) (o : mm_O) : mm_O := (sh_r n o.1, sh_W n P S o.2.1, o.2.2)
def sh_T (n : Nat) (P S : mm_W) : mm_T → mm_T
  | .inl F => .inl (sh_F n P S F)
  | .inr (.inl o) => .inr (.inl (sh_o n P S o))
  | .inr (.inr (j, as, nx, fl, G)) => .inr (.inr (j, sh_s n as, nx, fl, sh_F n P S G))
/-- the world of a step's result -/
def sh_TW : mm_T → mm_W
  | .inl F => F.2.2.2.1
  | .inr (.inl o) => o.2.1
  | .inr (.inr q) => q.2.2.2.2.2.2.2.1
theorem sh_cat (n : Nat) (v : Value) : (sh_v n v).category = v.category := by cases v <;> rfl
theorem sh_sum (n : Nat) : ∀ st : List Value, ((sh_s n st).map fun v => v.category).sum = (st.map fun v => v.category).sum
  | [] => rfl
  | v :: st => by
    show ((sh_v n v).category :: (sh_s n st).map fun v => v.category).sum = (v.category :: st.map fun v => v.category).sum
    rw [List.sum_cons, List.sum_cons, sh_sum n st, sh_cat]
theorem sh_get (n : Nat) (i : Nat) : ∀ lo : List (Nat × Value), mm_get (sh_l n lo) i = (mm_get lo i).map (sh_v n)
  | [] => rfl
  | q :: lo => by
    show (if q.1 = i then some (sh_v n q.2) else mm_get (sh_l n lo) i) = (if q.1 = i then some q.2 else mm_get lo i).map (sh_v n)
    by_cases h : q.1 = i
    · rw [if_pos h, if_pos h]; rfl
    · rw [if_neg h, if_neg h, sh_get n i lo]
theorem sh_fil (n : Nat) (p : Nat → Nat → Bool) : ∀ lo : List (Nat × Value), (sh_l n lo).filter (fun q => p q.1 q.2.category) = sh_l n (lo.filter (fun q => p q.1 q.2.category))
  | [] => rfl
  | q :: lo => by
    show ((q.1, sh_v n q.2) :: sh_l n lo).filter (fun q => p q.1 q.2.category) = _
    rw [List.filter_cons, List.filter_cons, sh_fil n p lo]
    dsimp only
    rw [sh_cat]
    by_cases h : p q.1 q.2.category = true
    · rw [if_pos h, if_pos h]; rfl
    · rw [if_neg h, if_neg h]
theorem sh_sto (n : Nat) (lo : List (Nat × Value)) (i : Nat) (v : Value) : mm_sto (sh_l n lo) i (sh_v n v) = sh_l n (mm_sto lo i v) := by
  unfold mm_sto
  rw [sh_fil n (fun a c => !(a == i) && !(a + 1 == i && c == 2))]
  rfl
theorem sh_stl (n : Nat) (lo : List (Nat × Value)) (i : Nat) (v : Value) : mm_stl (sh_l n lo) i (sh_v n v) = sh_l n (mm_stl lo i v) := by
  unfold mm_stl
  rw [sh_fil n (fun a c => !(a == i) && (!(a == i + 1) && !(a + 1 == i && c == 2)))]
  rfl
theorem sh_args (n : Nat) : ∀ (as : List Value) (i : Nat), lv_args i (sh_s n as) = sh_l n (lv_args i as)
  | [], _ => rfl
  | v :: as, i => by
    show (i, sh_v n v) :: lv_args (if (sh_v n v).category = 2 then i + 2 else i + 1) (sh_s n as) = (i, sh_v n v) :: sh_l n (lv_args (if v.category = 2 then i + 2 else i + 1) as)
    rw [sh_cat, sh_args n as]
theorem sh_x {n : Nat} {v : Value} (h : mm_isx v = true) : sh_v n v = v := by
  cases v <;> first | rfl | skip
  rename_i k
  have h1 : mm_XB ≤ k := of_decide_eq_true h
  show Value.ref (sh_k n k) = Value.ref k
  unfold sh_k
  rw [if_neg (by omega)]
theorem sh_nr {n : Nat} {v : Value} (h : mm_nr v = true) : sh_v n v = v := by
  cases v <;> first | rfl | cases h
theorem sh_rf (n : Nat) (o : Option Nat) : va_rf (o.map (sh_k n)) = sh_v n (va_rf o) := by cases o <;> rfl
theorem sh_out {n k : Nat} (h : ¬ k < mm_XB) : sh_k n k = k := by unfold sh_k; rw [if_neg h]
theorem sh_W_len {n : Nat} {P S W : mm_W} (hP : P.length = n) : (sh_W n P S W).length = n + (W.length + S.length) := by
  unfold sh_W
  rw [List.length_append, List.length_append, List.length_map, hP]
theorem sh_at {n : Nat} {P S W : mm_W} {k : Nat} {E : va_E} (hP : P.length = n) (h : W[k]? = some E) : (sh_W n P S W)[n + k]? = some (sh_e n E) := by
  have hk := (List.getElem?_eq_some_iff.mp h).1
  unfold sh_W
  rw [List.getElem?_append_right (by omega), hP, Nat.add_sub_cancel_left, List.getElem?_append_left (by rw [List.length_map]; exact hk), List.getElem?_map, h]
  rfl
theorem sh_set {n : Nat} {P S W : mm_W} {k : Nat} {E : va_E} (hP : P.length = n) (hk : k < W.length) : (sh_W n P S W).set (n + k) (sh_e n E) = sh_W n P S (W.set k E) := by
  unfold sh_W
  rw [List.set_append_right _ _ (by omega), hP, Nat.add_sub_cancel_left, List.set_append_left _ _ (by rw [List.length_map]; exact hk), List.map_set]
theorem sh_app (n : Nat) (P W : mm_W) (E : va_E) : sh_W n P [] W ++ [sh_e n E] = sh_W n P [] (W ++ [E]) := by
  unfold sh_W
  rw [List.map_append, List.append_nil, List.append_nil, List.append_assoc]
  rfl
theorem sh_lt {W : mm_W} {k : Nat} {E : va_E} (h : W[k]? = some E) : k < W.length := (List.getElem?_eq_some_iff.mp h).1
theorem sh_in {n : Nat} {P S W : mm_W} {k : Nat} {E : va_E} (hP : P.length = n) (hb : n + W.length ≤ mm_XB) (hk : k < mm_XB) (h : W[k]? = some E) : sh_k n k = n + k ∧ n + k < mm_XB ∧ (sh_W n P S W)[n + k]? = some (sh_e n E) := by
  have h1 := sh_lt h
  exact ⟨by unfold sh_k; rw [if_pos hk], by omega, sh_at hP h⟩
theorem sh_grow {n : Nat} {S W : mm_W} {T : mm_T} {E : va_E} (hT : sh_TW T = W ++ [E]) (hS : S = [] ∧ n + (sh_TW T).length ≤ mm_XB ∨ (sh_TW T).length = W.length) : S = [] ∧ n + W.length < mm_XB := by
  have h0 : (W ++ [E]).length = W.length + 1 := by rw [List.length_append]; rfl
  rw [hT, h0] at hS
  rcases hS with ⟨h1, h2⟩ | h1
  · exact ⟨h1, by omega⟩
  · omega
theorem sh_mapnr {n : Nat} : ∀ {l : List Value}, (∀ v ∈ l, mm_nr v = true) → l.map (sh_v n) = l
  | [], _ => rfl
  | v :: l, h => by
    rw [List.map_cons, sh_nr (h v List.mem_cons_self), sh_mapnr (fun w hw => h w (List.mem_cons_of_mem _ hw))]
theorem sh_ap (n : Nat) (v : Option Value) (st : List Value) : sh_s n (v.toList ++ st) = (v.map (sh_v n)).toList ++ sh_s n st := by cases v <;> rfl
/-- what the tables hold lies outside -/
def sh_tb : Prop := (∀ i k v, md_xo i k = some v → mm_isx v = true) ∧ (∀ i, mm_isx (md_st i) = true) ∧ ∀ i, ∀ v ∈ md_df i, mm_nr v = true
/-- what the outer things hold lies outside -/
def sh_ok (xa : mm_Xa) : Prop := ∀ i t m f, xa i = some (t, m, f) → ∀ j, mm_isx (f j) = true
section SH
variable {xa : mm_Xa} {n : Nat} {P S W : mm_W}
theorem sh_aget (hP : P.length = n) (hb : n + W.length ≤ mm_XB) (hx : sh_ok xa) {k t : Nat} {i : Int32} {v : Value} (h : mm_aget xa W k i = some (t, v)) : mm_aget xa (sh_W n P S W) (sh_k n k) i = some (t, sh_v n v) := by
  unfold mm_aget at h ⊢
  by_cases hk : k < mm_XB
  · rw [if_pos hk] at h
    split at h
    · rename_i t0 m f hw
      obtain ⟨e1, e2, e3⟩ := sh_in (S := S) hP hb hk hw
      rw [e1, if_pos e2, e3]
      show (if mm_ib i m = true then some (t0, Value.int (f i.toNatClampNeg)) else none) = _
      split at h
      · rename_i hi
        rw [if_pos hi]
        cases h
        rfl
      · cases h
    · rename_i t0 m f hw
      obtain ⟨e1, e2, e3⟩ := sh_in (S := S) hP hb hk hw
      rw [e1, if_pos e2, e3]
      show (if mm_ib i m = true then some (t0, Value.long (f i.toNatClampNeg)) else none) = _
      split at h
      · rename_i hi
        rw [if_pos hi]
        cases h
        rfl
      · cases h
    · rename_i t0 m f hw
      obtain ⟨e1, e2, e3⟩ := sh_in (S := S) hP hb hk hw
      rw [e1, if_pos e2, e3]
      show (if mm_ib i m = true then some (t0, va_rf ((f i.toNatClampNeg).map (sh_k n))) else none) = _
      split at h
      · rename_i hi
        rw [if_pos hi, sh_rf]
        cases h
        rfl
      · cases h
    · cases h
  · rw [if_neg hk] at h
    rw [sh_out hk, if_neg hk]
    split at h
    · rename_i t0 m f hw
      split at h
      · rename_i hi
        cases h
        rw [hw, sh_x (hx _ _ _ _ hw _)]
        exact if_pos hi
      · cases h
    · cases h
theorem sh_alen (hP : P.length = n) (hb : n + W.length ≤ mm_XB) {k m : Nat} (h : mm_alen xa W k = some m) : mm_alen xa (sh_W n P S W) (sh_k n k) = some m := by
  unfold mm_alen at h ⊢
  by_cases hk : k < mm_XB
  · rw [if_pos hk] at h
    split at h
    · rename_i t0 m0 q hw
      obtain ⟨e1, e2, e3⟩ := sh_in (S := S) hP hb hk hw
      rw [e1, if_pos e2, e3]
      cases h
      rcases q with f | f | f | f | f <;> rfl
    · cases h
  · rw [if_neg hk] at h
    rw [sh_out hk, if_neg hk]
    exact h
theorem sh_aputi (hP : P.length = n) {k t : Nat} {i x : Int32} {W2 : mm_W} (h : mm_aputi W k i x = some (t, W2)) : mm_aputi (sh_W n P S W) (n + k) i x = some (t, sh_W n P S W2) ∧ k < W.length := by
  unfold mm_aputi at h ⊢
  split at h
  · rename_i t0 m f hw
    refine ⟨?_, sh_lt hw⟩
    rw [sh_at hP hw]
    show (if mm_ib i m = true then some (t0, (sh_W n P S W).set (n + k) (sh_e n (.inl (t0, m, .inl (upd f i.toNatClampNeg (mm_nar t0 x)))))) else none) = _
    split at h
    · rename_i hi
      rw [if_pos hi, sh_set hP (sh_lt hw)]
      have e := Option.some.inj h
      rw [← show t0 = t from congrArg Prod.fst e, ← show W.set k (.inl (t0, m, .inl (upd f i.toNatClampNeg (mm_nar t0 x)))) = W2 from congrArg Prod.snd e]
    · cases h
  · cases h
theorem sh_aputl (hP : P.length = n) {k t : Nat} {i : Int32} {x : Int64} {W2 : mm_W} (h : mm_aputl W k i x = some (t, W2)) : mm_aputl (sh_W n P S W) (n + k) i x = some (t, sh_W n P S W2) ∧ k < W.length := by
  unfold mm_aputl at h ⊢
  split at h
  · rename_i t0 m f hw
    refine ⟨?_, sh_lt hw⟩
    rw [sh_at hP hw]
    show (if mm_ib i m = true then some (t0, (sh_W n P S W).set (n + k) (sh_e n (.inl (t0, m, .inr (.inl (vp_updL f i.toNatClampNeg x)))))) else none) = _
    split at h
    · rename_i hi
      rw [if_pos hi, sh_set hP (sh_lt hw)]
      have e := Option.some.inj h
      rw [← show t0 = t from congrArg Prod.fst e, ← show W.set k (.inl (t0, m, .inr (.inl (vp_updL f i.toNatClampNeg x)))) = W2 from congrArg Prod.snd e]
    · cases h
  · cases h
theorem sh_cls (hP : P.length = n) (hb : n + W.length ≤ mm_XB) {k q : Nat} (h : mm_cls W k = some q) : mm_cls (sh_W n P S W) (sh_k n k) = some q := by
  unfold mm_cls at h ⊢
  by_cases hk : k < mm_XB
  · rw [if_pos hk] at h
    split at h
    · rename_i c0 fs hw
      obtain ⟨e1, e2, e3⟩ := sh_in (S := S) hP hb hk hw
      rw [e1, if_pos e2, e3]
      exact h
    · cases h
  · rw [if_neg hk] at h
    rw [sh_out hk, if_neg hk]
    exact h
theorem sh_as (hP : P.length = n) (hb : n + W.length ≤ mm_XB) {t v : Nat} (h : md_as t (mm_cls W v) = true) : md_as t (mm_cls (sh_W n P S W) (sh_k n v)) = true := by
  cases hc : mm_cls W v with
  | none =>
    rw [hc] at h
    unfold md_as at h
    split at h
    · cases h
    · exact absurd (of_decide_eq_true h) (by simp)
  | some q =>
    rw [hc] at h
    rw [sh_cls hP hb hc]
    exact h
theorem sh_up (n : Nat) (f : Nat → Option Nat) (i v : Nat) : (fun q => (va_up f i (some v) q).map (sh_k n)) = va_up (fun q => (f q).map (sh_k n)) i (some (sh_k n v)) := by
  funext q
  unfold va_up
  by_cases h : q = i
  · simp [h]
  · simp [h]
theorem sh_aputr (hP : P.length = n) (hb : n + W.length ≤ mm_XB) {k v : Nat} {i : Int32} {W2 : mm_W} (h : mm_aputr W k i v = some W2) : mm_aputr (sh_W n P S W) (n + k) i (sh_k n v) = some (sh_W n P S W2) ∧ k < W.length := by
  unfold mm_aputr at h ⊢
  split at h
  · rename_i t0 m f hw
    refine ⟨?_, sh_lt hw⟩
    split at h
    · rename_i hi
      rw [sh_at hP hw]
      simp only [Bool.and_eq_true] at hi
      have hi2 : (mm_ib i m && decide (4 ≤ t0) && md_as t0 (mm_cls (sh_W n P S W) (sh_k n v))) = true := by
        simp only [Bool.and_eq_true]
        exact ⟨hi.1, sh_as hP hb hi.2⟩
      show (if (mm_ib i m && decide (4 ≤ t0) && md_as t0 (mm_cls (sh_W n P S W) (sh_k n v))) = true then some ((sh_W n P S W).set (n + k) (.inl (t0, m, .inr (.inr (.inr (.inr (va_up (fun q => (f q).map (sh_k n)) i.toNatClampNeg (some (sh_k n v))))))))) else none) = _
      rw [if_pos hi2, ← sh_up, ← Option.some.inj h]
      exact congrArg some (sh_set (E := .inl (t0, m, .inr (.inr (.inr (.inr (va_up f i.toNatClampNeg (some v))))))) hP (sh_lt hw))
    · cases h
  · cases h
theorem sh_nf {t : Nat} {v : Value} (h : mm_nf t v = true) : mm_nf t (sh_v n v) = true := by
  cases v <;> first | exact h | skip
  unfold mm_nf at h ⊢
  split at h <;> first | rfl | cases h
theorem sh_put (hP : P.length = n) {k q f t : Nat} {v : Value} {W2 : mm_W} (h : mm_put W k q f t v = some W2) : mm_put (sh_W n P S W) (n + k) q f t (sh_v n v) = some (sh_W n P S W2) ∧ k < W.length := by
  unfold mm_put at h ⊢
  split at h
  · rename_i c0 fs hw
    refine ⟨?_, sh_lt hw⟩
    split at h
    · rename_i hi
      rw [sh_at hP hw]
      show (if c0 = q ∧ f < (fs.map (sh_v n)).length ∧ mm_nf t (sh_v n v) = true then some ((sh_W n P S W).set (n + k) (.inr (c0, (fs.map (sh_v n)).set f (sh_v n v)))) else none) = _
      rw [if_pos ⟨hi.1, by rw [List.length_map]; exact hi.2.1, sh_nf hi.2.2⟩, ← List.map_set, ← Option.some.inj h]
      exact congrArg some (sh_set (E := .inr (c0, fs.set f v)) hP (sh_lt hw))
    · cases h
  · cases h
theorem sh_getf (hP : P.length = n) {k q f : Nat} {v : Value} (h : mm_getf W k q f = some v) : mm_getf (sh_W n P S W) (n + k) q f = some (sh_v n v) ∧ k < W.length := by
  unfold mm_getf at h ⊢
  split at h
  · rename_i c0 fs hw
    refine ⟨?_, sh_lt hw⟩
    split at h
    · rename_i hi
      rw [sh_at hP hw]
      show (if c0 = q then (fs.map (sh_v n))[f]? else none) = _
      rw [if_pos hi, List.getElem?_map, h]
      rfl
    · cases h
  · cases h
theorem sh_cpy (hP : P.length = n) (hb : n + W.length ≤ mm_XB) {s d : Nat} {sp dp m : Int32} {W2 : mm_W} (h : mm_cpy xa W s sp d dp m = some W2) : mm_cpy xa (sh_W n P S W) (sh_k n s) sp (sh_k n d) dp m = some (sh_W n P S W2) := by
  unfold mm_cpy at h ⊢
  split at h
  · cases h
  rename_i hc
  have hd : d < mm_XB := by
    by_cases hd : d < mm_XB
    · exact hd
    · exact absurd (Or.inr (Or.inr (Or.inr hd))) hc
  have hc2 : ∀ z, z < mm_XB → ¬ (sp < 0 ∨ dp < 0 ∨ m < 0 ∨ ¬ z < mm_XB) := by
    intro z hz h2
    rcases h2 with h2 | h2 | h2 | h2
    · exact hc (Or.inl h2)
    · exact hc (Or.inr (Or.inl h2))
    · exact hc (Or.inr (Or.inr (Or.inl h2)))
    · exact h2 hz
  by_cases hs : s < mm_XB
  · rw [if_pos hs] at h
    split at h
    · rename_i n0 f n1 g hw hv
      obtain ⟨e1, e2, e3⟩ := sh_in (S := S) hP hb hs hw
      obtain ⟨f1, f2, f3⟩ := sh_in (S := S) hP hb hd hv
      rw [e1, f1, if_neg (hc2 _ f2), if_pos e2, e3, f3]
      split at h
      · rename_i hi
        rw [← Option.some.inj h]
        exact (if_pos hi).trans (congrArg some (sh_set (E := .inl (0, n1, .inl (va_cpy f g sp.toNatClampNeg dp.toNatClampNeg m.toNatClampNeg))) hP (sh_lt hv)))
      · cases h
    · rename_i n0 f n1 g hw hv
      obtain ⟨e1, e2, e3⟩ := sh_in (S := S) hP hb hs hw
      obtain ⟨f1, f2, f3⟩ := sh_in (S := S) hP hb hd hv
      rw [e1, f1, if_neg (hc2 _ f2), if_pos e2, e3, f3]
      split at h
      · rename_i hi
        rw [← Option.some.inj h]
        exact (if_pos hi).trans (congrArg some (sh_set (E := .inl (1, n1, .inr (.inl (va_cpy f g sp.toNatClampNeg dp.toNatClampNeg m.toNatClampNeg)))) hP (sh_lt hv)))
      · cases h
    · rename_i n0 f n1 g hw hv
      obtain ⟨e1, e2, e3⟩ := sh_in (S := S) hP hb hs hw
      obtain ⟨f1, f2, f3⟩ := sh_in (S := S) hP hb hd hv
      rw [e1, f1, if_neg (hc2 _ f2), if_pos e2, e3, f3]
      split at h
      · rename_i hi
        rw [← Option.some.inj h]
        exact (if_pos hi).trans (congrArg some (sh_set (E := .inl (2, n1, .inl (va_cpy f g sp.toNatClampNeg dp.toNatClampNeg m.toNatClampNeg))) hP (sh_lt hv)))
      · cases h
    · cases h
  · rw [if_neg hs] at h
    split at h
    · rename_i n0 f n1 g hw hv
      obtain ⟨f1, f2, f3⟩ := sh_in (S := S) hP hb hd hv
      rw [sh_out hs, f1, if_neg (hc2 _ f2), if_neg hs, hw, f3]
      split at h
      · rename_i hi
        rw [← Option.some.inj h]
        exact (if_pos hi).trans (congrArg some (sh_set (E := .inl (2, n1, .inl (va_cpy (mm_iv f) g sp.toNatClampNeg dp.toNatClampNeg m.toNatClampNeg))) hP (sh_lt hv)))
      · cases h
    · cases h
theorem sh_call (hP : P.length = n) (hb : n + W.length ≤ mm_XB) {r1 r2 r3 pc nx : Nat} {lo : List (Nat × Value)} {st : List Value} {b c : Nat} {T : mm_T} (hS : S = [] ∧ n + (sh_TW T).length ≤ mm_XB ∨ (sh_TW T).length = W.length) (h : mm_call xa r1 r2 r3 pc nx lo st W b c = some T) : mm_call xa r1 r2 r3 pc nx (sh_l n lo) (sh_s n st) (sh_W n P S W) b c = some (sh_T n P S T) := by
  unfold mm_call at h ⊢
  rw [show (sh_s n st).length = st.length from List.length_map _]
  by_cases hl : st.length < r2 % 16
  · rw [if_pos hl] at h; cases h
  rw [if_neg hl] at h ⊢
  dsimp only at h ⊢
  have e1 : ((sh_s n st).take (r2 % 16)).reverse = sh_s n ((st.take (r2 % 16)).reverse) := by
    unfold sh_s
    rw [← List.map_take, ← List.map_reverse]
  have e2 : (sh_s n st).drop (r2 % 16) = sh_s n (st.drop (r2 % 16)) := by
    unfold sh_s
    rw [← List.map_drop]
  rw [e1, e2]
  generalize (st.take (r2 % 16)).reverse = As at h ⊢
  generalize st.drop (r2 % 16) = rest at h ⊢
  generalize r2 / 16 = q0 at h ⊢
  generalize md_kd q0 = q at h ⊢
  have hs := sh_sum n
  match q, h with
  | 0, h =>
    try dsimp only at h ⊢
    match rest, h with
    | .ref k :: rest, h =>
      have h2 : (if mm_cls W k = some r3 ∧ (rest.map fun v => v.category).sum ≤ 8 then some (Sum.inr (Sum.inr (r1, Value.ref k :: As, nx, true, (pc, lo, rest, W, b, c))) : mm_T) else none) = some T := h
      show (if mm_cls (sh_W n P S W) (sh_k n k) = some r3 ∧ ((sh_s n rest).map fun v => v.category).sum ≤ 8 then some (Sum.inr (Sum.inr (r1, Value.ref (sh_k n k) :: sh_s n As, nx, true, (pc, sh_l n lo, sh_s n rest, sh_W n P S W, b, c))) : mm_T) else none) = some (sh_T n P S T)
      rw [hs]
      by_cases hc : mm_cls W k = some r3 ∧ (rest.map fun v => v.category).sum ≤ 8
      · rw [if_pos hc] at h2
        rw [if_pos ⟨sh_cls hP hb hc.1, hc.2⟩]
        cases Option.some.inj h2
        rfl
      · rw [if_neg hc] at h2; cases h2
  | 2, h =>
    try dsimp only at h ⊢
    match rest, h with
    | .ref k :: rest, h =>
      have h2 : (if mm_cls W k = some r3 ∧ (rest.map fun v => v.category).sum ≤ 8 then some (Sum.inr (Sum.inr (r1, Value.ref k :: As, nx, false, (pc, lo, rest, W, b, c))) : mm_T) else none) = some T := h
      show (if mm_cls (sh_W n P S W) (sh_k n k) = some r3 ∧ ((sh_s n rest).map fun v => v.category).sum ≤ 8 then some (Sum.inr (Sum.inr (r1, Value.ref (sh_k n k) :: sh_s n As, nx, false, (pc, sh_l n lo, sh_s n rest, sh_W n P S W, b, c))) : mm_T) else none) = some (sh_T n P S T)
      rw [hs]
      by_cases hc : mm_cls W k = some r3 ∧ (rest.map fun v => v.category).sum ≤ 8
      · rw [if_pos hc] at h2
        rw [if_pos ⟨sh_cls hP hb hc.1, hc.2⟩]
        cases Option.some.inj h2
        rfl
      · rw [if_neg hc] at h2; cases h2
  | 1, h =>
    try dsimp only at h ⊢
    rw [hs]
    by_cases hc : (rest.map fun v => v.category).sum ≤ 8
    · rw [if_pos hc] at h ⊢
      cases Option.some.inj h
      rfl
    · rw [if_neg hc] at h; cases h
  | 5, h =>
    try dsimp only at h ⊢
    match st, h with
    | .ref k :: st, h =>
      have h2 : (if (st.map fun v => v.category).sum ≤ 8 then some (Sum.inl (nx, lo, st, W, b, c) : mm_T) else none) = some T := h
      show (if ((sh_s n st).map fun v => v.category).sum ≤ 8 then some (Sum.inl (nx, sh_l n lo, sh_s n st, sh_W n P S W, b, c) : mm_T) else none) = some (sh_T n P S T)
      rw [hs]
      by_cases hc : (st.map fun v => v.category).sum ≤ 8
      · rw [if_pos hc] at h2 ⊢
        cases Option.some.inj h2
        rfl
      · rw [if_neg hc] at h2; cases h2
  | 6, h =>
    try dsimp only at h ⊢
    match st, h with
    | .int n0 :: .int dp :: .ref d :: .int sp :: .ref s :: st, h =>
      have h2 : (if (st.map fun v => v.category).sum ≤ 8 then (mm_cpy xa W s sp d dp n0).map (fun W2 => (Sum.inl (nx, lo, st, W2, b, c) : mm_T)) else none) = some T := h
      show (if ((sh_s n st).map fun v => v.category).sum ≤ 8 then (mm_cpy xa (sh_W n P S W) (sh_k n s) sp (sh_k n d) dp n0).map (fun W2 => (Sum.inl (nx, sh_l n lo, sh_s n st, W2, b, c) : mm_T)) else none) = some (sh_T n P S T)
      rw [hs]
      by_cases hc : (st.map fun v => v.category).sum ≤ 8
      · rw [if_pos hc] at h2 ⊢
        obtain ⟨W2, hW, h3⟩ := Option.map_eq_some_iff.mp h2
        rw [sh_cpy hP hb hW]
        cases h3
        rfl
      · rw [if_neg hc] at h2; cases h2
  | 7, h =>
    try dsimp only at h ⊢
    match st, h with
    | .ref k :: st, h =>
      dsimp only at h
      split at h
      · rename_i hk
        split at h
        · rename_i m f hw
          split at h
          · rename_i hi
            obtain ⟨e1, e2, e3⟩ := sh_in (S := S) hP hb hk.1 hw
            have e := Option.some.inj h
            rw [← e] at hS
            have hS2 := sh_grow (E := .inl (2, m, .inl f)) rfl hS
            obtain ⟨rfl, hl⟩ := hS2
            have hlen : (sh_W n P [] W).length = n + W.length := by rw [sh_W_len hP]; rfl
            rw [show sh_s n (Value.ref k :: st) = Value.ref (sh_k n k) :: sh_s n st from rfl]
            dsimp only
            rw [if_pos ⟨by rw [e1]; exact e2, by rw [hs]; exact hk.2⟩, e1, e3]
            show (if 1 ≤ b ∧ m ≤ c ∧ (sh_W n P [] W).length < mm_XB ∧ mm_by f 0 m = true then some (Sum.inl (nx, sh_l n lo, Value.ref (sh_W n P [] W).length :: sh_s n st, sh_W n P [] W ++ [.inl (2, m, .inl f)], b - 1, c - m) : mm_T) else none) = some (sh_T n P [] T)
            rw [hlen]
            rw [← e]
            refine (if_pos ⟨hi.1, hi.2.1, by omega, hi.2.2.2⟩).trans ?_
            show some (Sum.inl (nx, sh_l n lo, Value.ref (n + W.length) :: sh_s n st, sh_W n P [] W ++ [sh_e n (.inl (2, m, .inl f))], b - 1, c - m) : mm_T) = some (Sum.inl (nx, sh_l n lo, Value.ref (sh_k n W.length) :: sh_s n st, sh_W n P [] (W ++ [.inl (2, m, .inl f)]), b - 1, c - m))
            rw [sh_app, show sh_k n W.length = n + W.length from by unfold sh_k; rw [if_pos (by omega)]]
          · cases h
        · cases h
      · cases h
set_option maxHeartbeats 8000000 in
theorem sh_stepI (hP : P.length = n) (hb : n + W.length ≤ mm_XB) (hx : sh_ok xa) (ht : sh_tb) {j : Nat} {ins : Instr} {nx r1 r2 r3 pc : Nat} {lo : List (Nat × Value)} {st : List Value} {b c : Nat} {T : mm_T} (hS : S = [] ∧ n + (sh_TW T).length ≤ mm_XB ∨ (sh_TW T).length = W.length) (h : mm_stepI xa j ins nx r1 r2 r3 pc lo st W b c = some T) : mm_stepI xa j ins nx r1 r2 r3 pc (sh_l n lo) (sh_s n st) (sh_W n P S W) b c = some (sh_T n P S T) := by
  cases ins
  case iconst q => obtain rfl := Option.some.inj h; rfl
  case bipush q => obtain rfl := Option.some.inj h; rfl
  case sipush q => obtain rfl := Option.some.inj h; rfl
  case lconst q => obtain rfl := Option.some.inj h; rfl
  case aconst_null => obtain rfl := Option.some.inj h; rfl
  case ldc_w q => obtain rfl := Option.some.inj h; rfl
  case ldc2_w q => obtain rfl := Option.some.inj h; rfl
  case goto q => obtain rfl := Option.some.inj h; rfl
  case ldc q =>
    simp only [mm_stepI] at h ⊢
    by_cases h0 : r1 = 0
    · rw [if_pos h0] at h ⊢; obtain rfl := Option.some.inj h; rfl
    · rw [if_neg h0] at h ⊢
      obtain rfl := Option.some.inj h
      show _ = some (Sum.inl (nx, sh_l n lo, Value.ref (sh_k n (mm_XB + r2)) :: sh_s n st, sh_W n P S W, b, c))
      rw [sh_out (by omega)]
  case iload i =>
    simp only [mm_stepI] at h ⊢
    rw [sh_get]
    split at h
    · next x hg => rw [hg]; obtain rfl := Option.some.inj h; rfl
    · cases h
  case iload_n i =>
    simp only [mm_stepI] at h ⊢
    rw [sh_get]
    split at h
    · next x hg => rw [hg]; obtain rfl := Option.some.inj h; rfl
    · cases h
  case lload i =>
    simp only [mm_stepI] at h ⊢
    rw [sh_get]
    split at h
    · next x hg => rw [hg]; obtain rfl := Option.some.inj h; rfl
    · cases h
  case lload_n i =>
    simp only [mm_stepI] at h ⊢
    rw [sh_get]
    split at h
    · next x hg => rw [hg]; obtain rfl := Option.some.inj h; rfl
    · cases h
  case aload i =>
    simp only [mm_stepI] at h ⊢
    rw [sh_get]
    split at h
    · next x hg => rw [hg]; obtain rfl := Option.some.inj h; rfl
    · cases h
  case aload_n i =>
    simp only [mm_stepI] at h ⊢
    rw [sh_get]
    split at h
    · next x hg => rw [hg]; obtain rfl := Option.some.inj h; rfl
    · cases h
  case iinc i q =>
    simp only [mm_stepI] at h ⊢
    rw [sh_get]
    split at h
    · next x hg =>
      rw [hg]
      obtain rfl := Option.some.inj h
      exact congrArg (fun z => (some (Sum.inl (nx, z, sh_s n st, sh_W n P S W, b, c)) : Option mm_T)) (sh_sto n lo i (.int (x + Int32.ofInt q)))
    · cases h
  case istore i =>
    match st, h with
    | .int x :: st, h =>
      obtain rfl := Option.some.inj h
      exact congrArg (fun z => (some (Sum.inl (nx, z, sh_s n st, sh_W n P S W, b, c)) : Option mm_T)) (sh_sto n lo _ (.int x))
  case istore_n i =>
    match st, h with
    | .int x :: st, h =>
      obtain rfl := Option.some.inj h
      exact congrArg (fun z => (some (Sum.inl (nx, z, sh_s n st, sh_W n P S W, b, c)) : Option mm_T)) (sh_sto n lo _ (.int x))
  case lstore i =>
    match st, h with
    | .long x :: st, h =>
      obtain rfl := Option.some.inj h
      exact congrArg (fun z => (some (Sum.inl (nx, z, sh_s n st, sh_W n P S W, b, c)) : Option mm_T)) (sh_stl n lo _ (.long x))
  case lstore_n i =>
    match st, h with
    | .long x :: st, h =>
      obtain rfl := Option.some.inj h
      exact congrArg (fun z => (some (Sum.inl (nx, z, sh_s n st, sh_W n P S W, b, c)) : Option mm_T)) (sh_stl n lo _ (.long x))
  case astore i =>
    match st, h with
    | .ref x :: st, h =>
      obtain rfl := Option.some.inj h
      exact congrArg (fun z => (some (Sum.inl (nx, z, sh_s n st, sh_W n P S W, b, c)) : Option mm_T)) (sh_sto n lo _ (.ref x))
    | .retAddr x :: st, h =>
      obtain rfl := Option.some.inj h
      exact congrArg (fun z => (some (Sum.inl (nx, z, sh_s n st, sh_W n P S W, b, c)) : Option mm_T)) (sh_sto n lo _ (.retAddr x))
  case astore_n i =>
    match st, h with
    | .ref x :: st, h =>
      obtain rfl := Option.some.inj h
      exact congrArg (fun z => (some (Sum.inl (nx, z, sh_s n st, sh_W n P S W, b, c)) : Option mm_T)) (sh_sto n lo _ (.ref x))
    | .retAddr x :: st, h =>
      obtain rfl := Option.some.inj h
      exact congrArg (fun z => (some (Sum.inl (nx, z, sh_s n st, sh_W n P S W, b, c)) : Option mm_T)) (sh_sto n lo _ (.retAddr x))
  case dup =>
    match st, h with
    | v :: st, h =>
      have h2 : (if v.category = 1 then some (Sum.inl (nx, lo, v :: v :: st, W, b, c) : mm_T) else none) = some T := h
      show (if (sh_v n v).category = 1 then some (Sum.inl (nx, sh_l n lo, sh_v n v :: sh_v n v :: sh_s n st, sh_W n P S W, b, c) : mm_T) else none) = some (sh_T n P S T)
      rw [sh_cat]
      by_cases hc : v.category = 1
      · rw [if_pos hc] at h2 ⊢; cases Option.some.inj h2; rfl
      · rw [if_neg hc] at h2; cases h2
  case pop =>
    match st, h with
    | v :: st, h =>
      have h2 : (if v.category = 1 then some (Sum.inl (nx, lo, st, W, b, c) : mm_T) else none) = some T := h
      show (if (sh_v n v).category = 1 then some (Sum.inl (nx, sh_l n lo, sh_s n st, sh_W n P S W, b, c) : mm_T) else none) = some (sh_T n P S T)
      rw [sh_cat]
      by_cases hc : v.category = 1
      · rw [if_pos hc] at h2 ⊢; cases Option.some.inj h2; rfl
      · rw [if_neg hc] at h2; cases h2
  case dup2 =>
    match st, h with
    | v :: w :: st, h =>
      have h2 : (if v.category = 1 ∧ w.category = 1 then some (Sum.inl (nx, lo, v :: w :: v :: w :: st, W, b, c) : mm_T) else none) = some T := h
      show (if (sh_v n v).category = 1 ∧ (sh_v n w).category = 1 then some (Sum.inl (nx, sh_l n lo, sh_v n v :: sh_v n w :: sh_v n v :: sh_v n w :: sh_s n st, sh_W n P S W, b, c) : mm_T) else none) = some (sh_T n P S T)
      rw [sh_cat, sh_cat]
      by_cases hc : v.category = 1 ∧ w.category = 1
      · rw [if_pos hc] at h2 ⊢; cases Option.some.inj h2; rfl
      · rw [if_neg hc] at h2; cases h2
  case dup_x1 =>
    match st, h with
    | v :: w :: st, h =>
      have h2 : (if v.category = 1 ∧ w.category = 1 then some (Sum.inl (nx, lo, v :: w :: v :: st, W, b, c) : mm_T) else none) = some T := h
      show (if (sh_v n v).category = 1 ∧ (sh_v n w).category = 1 then some (Sum.inl (nx, sh_l n lo, sh_v n v :: sh_v n w :: sh_v n v :: sh_s n st, sh_W n P S W, b, c) : mm_T) else none) = some (sh_T n P S T)
      rw [sh_cat, sh_cat]
      by_cases hc : v.category = 1 ∧ w.category = 1
      · rw [if_pos hc] at h2 ⊢; cases Option.some.inj h2; rfl
      · rw [if_neg hc] at h2; cases h2
  case iadd =>
    match st, h with
    | .int y :: .int x :: st, h =>
      obtain rfl := Option.some.inj h; rfl
  case isub =>
    match st, h with
    | .int y :: .int x :: st, h =>
      obtain rfl := Option.some.inj h; rfl
  case imul =>
    match st, h with
    | .int y :: .int x :: st, h =>
      obtain rfl := Option.some.inj h; rfl
  case iand =>
    match st, h with
    | .int y :: .int x :: st, h =>
      obtain rfl := Option.some.inj h; rfl
  case ior =>
    match st, h with
    | .int y :: .int x :: st, h =>
      obtain rfl := Option.some.inj h; rfl
  case ixor =>
    match st, h with
    | .int y :: .int x :: st, h =>
      obtain rfl := Option.some.inj h; rfl
  case ishl =>
    match st, h with
    | .int y :: .int x :: st, h =>
      obtain rfl := Option.some.inj h; rfl
  case ishr =>
    match st, h with
    | .int y :: .int x :: st, h =>
      obtain rfl := Option.some.inj h; rfl
  case iushr =>
    match st, h with
    | .int y :: .int x :: st, h =>
      obtain rfl := Option.some.inj h; rfl
  case land =>
    match st, h with
    | .long y :: .long x :: st, h =>
      obtain rfl := Option.some.inj h; rfl
  case lor =>
    match st, h with
    | .long y :: .long x :: st, h =>
      obtain rfl := Option.some.inj h; rfl
  case lcmp =>
    match st, h with
    | .long y :: .long x :: st, h =>
      obtain rfl := Option.some.inj h; rfl
  case lshl =>
    match st, h with
    | .int y :: .long x :: st, h =>
      obtain rfl := Option.some.inj h; rfl
  case lshr =>
    match st, h with
    | .int y :: .long x :: st, h =>
      obtain rfl := Option.some.inj h; rfl
  case ineg =>
    match st, h with
    | .int x :: st, h =>
      obtain rfl := Option.some.inj h; rfl
  case i2l =>
    match st, h with
    | .int x :: st, h =>
      obtain rfl := Option.some.inj h; rfl
  case i2b =>
    match st, h with
    | .int x :: st, h =>
      obtain rfl := Option.some.inj h; rfl
  case i2c =>
    match st, h with
    | .int x :: st, h =>
      obtain rfl := Option.some.inj h; rfl
  case l2i =>
    match st, h with
    | .long x :: st, h =>
      obtain rfl := Option.some.inj h; rfl
  case idiv =>
    match st, h with
    | .int y :: .int x :: st, h =>
      have h2 : (if y = 0 then none else some (Sum.inl (nx, lo, .int (x / y) :: st, W, b, c) : mm_T)) = some T := h
      show (if y = 0 then none else some (Sum.inl (nx, sh_l n lo, .int (x / y) :: sh_s n st, sh_W n P S W, b, c) : mm_T)) = some (sh_T n P S T)
      by_cases hc : y = 0
      · rw [if_pos hc] at h2; cases h2
      · rw [if_neg hc] at h2 ⊢; cases Option.some.inj h2; rfl
  case irem =>
    match st, h with
    | .int y :: .int x :: st, h =>
      have h2 : (if y = 0 then none else some (Sum.inl (nx, lo, .int (x - x / y * y) :: st, W, b, c) : mm_T)) = some T := h
      show (if y = 0 then none else some (Sum.inl (nx, sh_l n lo, .int (x - x / y * y) :: sh_s n st, sh_W n P S W, b, c) : mm_T)) = some (sh_T n P S T)
      by_cases hc : y = 0
      · rw [if_pos hc] at h2; cases h2
      · rw [if_neg hc] at h2 ⊢; cases Option.some.inj h2; rfl
  case ifCond k q =>
    match st, h with
    | .int x :: st, h =>
      obtain rfl := Option.some.inj h; rfl
  case if_icmp k q =>
    match st, h with
    | .int y :: .int x :: st, h =>
      obtain rfl := Option.some.inj h; rfl
  case ifnonnull q =>
    match st, h with
    | .ref x :: st, h =>
      obtain rfl := Option.some.inj h; rfl
  case if_acmp k q =>
    match st, h with
    | .ref y :: .ref x :: st, h =>
      have h2 : (if (mm_XB < x ∧ mm_XB < y ∧ x ≤ mm_XB + md_ne ∧ y ≤ mm_XB + md_ne) ∨ x = y then some (Sum.inl (if decide (x = y) == decide (k = .eq) then r1 else nx, lo, st, W, b, c) : mm_T) else none) = some T := h
      show (if (mm_XB < sh_k n x ∧ mm_XB < sh_k n y ∧ sh_k n x ≤ mm_XB + md_ne ∧ sh_k n y ≤ mm_XB + md_ne) ∨ sh_k n x = sh_k n y then some (Sum.inl (if decide (sh_k n x = sh_k n y) == decide (k = .eq) then r1 else nx, sh_l n lo, sh_s n st, sh_W n P S W, b, c) : mm_T) else none) = some (sh_T n P S T)
      by_cases hc : (mm_XB < x ∧ mm_XB < y ∧ x ≤ mm_XB + md_ne ∧ y ≤ mm_XB + md_ne) ∨ x = y
      · rw [if_pos hc] at h2
        cases Option.some.inj h2
        by_cases hxy : x = y
        · subst hxy
          rw [if_pos (Or.inr rfl), decide_eq_true (rfl : sh_k n x = sh_k n x)]
          show _ = some (Sum.inl (if decide (x = x) == decide (k = .eq) then r1 else nx, sh_l n lo, sh_s n st, sh_W n P S W, b, c))
          rw [decide_eq_true (rfl : x = x)]
        · have h1 := hc.resolve_right hxy
          rw [sh_out (show ¬ x < mm_XB by omega), sh_out (show ¬ y < mm_XB by omega), if_pos (Or.inl h1)]
          rfl
      · rw [if_neg hc] at h2; cases h2
  case tableswitch df l hh offs =>
    match st, h with
    | .int x :: st, h =>
      have h2 : (match mm_tsw pc df l hh offs x with | some t => some (Sum.inl (t, lo, st, W, b, c) : mm_T) | none => none) = some T := h
      show (match mm_tsw pc df l hh offs x with | some t => some (Sum.inl (t, sh_l n lo, sh_s n st, sh_W n P S W, b, c) : mm_T) | none => none) = some (sh_T n P S T)
      cases hq : mm_tsw pc df l hh offs x with
      | none => rw [hq] at h2; cases h2
      | some t => rw [hq] at h2; cases Option.some.inj h2; rfl
  case lookupswitch df ps =>
    match st, h with
    | .int x :: st, h =>
      have h2 : (match mm_at pc (Op.lookupswitch.offset ps.toList df x.toInt) with | some t => some (Sum.inl (t, lo, st, W, b, c) : mm_T) | none => none) = some T := h
      show (match mm_at pc (Op.lookupswitch.offset ps.toList df x.toInt) with | some t => some (Sum.inl (t, sh_l n lo, sh_s n st, sh_W n P S W, b, c) : mm_T) | none => none) = some (sh_T n P S T)
      cases hq : mm_at pc (Op.lookupswitch.offset ps.toList df x.toInt) with
      | none => rw [hq] at h2; cases h2
      | some t => rw [hq] at h2; cases Option.some.inj h2; rfl
  case iaload =>
    match st, h with
    | .int i :: .ref k :: st, h =>
      have h2 : (match mm_aget xa W k i with | some (t, v) => if t = 0 then some (Sum.inl (nx, lo, v :: st, W, b, c) : mm_T) else none | none => none) = some T := h
      show (match mm_aget xa (sh_W n P S W) (sh_k n k) i with | some (t, v) => if t = 0 then some (Sum.inl (nx, sh_l n lo, v :: sh_s n st, sh_W n P S W, b, c) : mm_T) else none | none => none) = some (sh_T n P S T)
      cases hg : mm_aget xa W k i with
      | none => rw [hg] at h2; cases h2
      | some q =>
        obtain ⟨t, v⟩ := q
        rw [hg] at h2
        rw [sh_aget hP hb hx hg]
        dsimp only at h2 ⊢
        by_cases hc : t = 0
        · rw [if_pos hc] at h2 ⊢
          cases Option.some.inj h2
          rfl
        · rw [if_neg hc] at h2; cases h2
  case baload =>
    match st, h with
    | .int i :: .ref k :: st, h =>
      have h2 : (match mm_aget xa W k i with | some (t, v) => if t = 2 ∨ t = 3 then some (Sum.inl (nx, lo, v :: st, W, b, c) : mm_T) else none | none => none) = some T := h
      show (match mm_aget xa (sh_W n P S W) (sh_k n k) i with | some (t, v) => if t = 2 ∨ t = 3 then some (Sum.inl (nx, sh_l n lo, v :: sh_s n st, sh_W n P S W, b, c) : mm_T) else none | none => none) = some (sh_T n P S T)
      cases hg : mm_aget xa W k i with
      | none => rw [hg] at h2; cases h2
      | some q =>
        obtain ⟨t, v⟩ := q
        rw [hg] at h2
        rw [sh_aget hP hb hx hg]
        dsimp only at h2 ⊢
        by_cases hc : t = 2 ∨ t = 3
        · rw [if_pos hc] at h2 ⊢
          cases Option.some.inj h2
          rfl
        · rw [if_neg hc] at h2; cases h2
  case laload =>
    match st, h with
    | .int i :: .ref k :: st, h =>
      have h2 : (match mm_aget xa W k i with | some (t, v) => if t = 1 then some (Sum.inl (nx, lo, v :: st, W, b, c) : mm_T) else none | none => none) = some T := h
      show (match mm_aget xa (sh_W n P S W) (sh_k n k) i with | some (t, v) => if t = 1 then some (Sum.inl (nx, sh_l n lo, v :: sh_s n st, sh_W n P S W, b, c) : mm_T) else none | none => none) = some (sh_T n P S T)
      cases hg : mm_aget xa W k i with
      | none => rw [hg] at h2; cases h2
      | some q =>
        obtain ⟨t, v⟩ := q
        rw [hg] at h2
        rw [sh_aget hP hb hx hg]
        dsimp only at h2 ⊢
        by_cases hc : t = 1
        · rw [if_pos hc] at h2 ⊢
          cases Option.some.inj h2
          rfl
        · rw [if_neg hc] at h2; cases h2
  case aaload =>
    match st, h with
    | .int i :: .ref k :: st, h =>
      have h2 : (match mm_aget xa W k i with | some (t, v) => if 4 ≤ t then some (Sum.inl (nx, lo, v :: st, W, b, c) : mm_T) else none | none => none) = some T := h
      show (match mm_aget xa (sh_W n P S W) (sh_k n k) i with | some (t, v) => if 4 ≤ t then some (Sum.inl (nx, sh_l n lo, v :: sh_s n st, sh_W n P S W, b, c) : mm_T) else none | none => none) = some (sh_T n P S T)
      cases hg : mm_aget xa W k i with
      | none => rw [hg] at h2; cases h2
      | some q =>
        obtain ⟨t, v⟩ := q
        rw [hg] at h2
        rw [sh_aget hP hb hx hg]
        dsimp only at h2 ⊢
        by_cases hc : 4 ≤ t
        · rw [if_pos hc] at h2 ⊢
          cases Option.some.inj h2
          rfl
        · rw [if_neg hc] at h2; cases h2
  case iastore =>
    match st, h with
    | .int x :: .int i :: .ref k :: st, h =>
      have h2 : (if k < mm_XB then match mm_aputi W k i x with | some (t, W2) => if t = 0 then some (Sum.inl (nx, lo, st, W2, b, c) : mm_T) else none | none => none else none) = some T := h
      show (if (sh_k n k) < mm_XB then match mm_aputi (sh_W n P S W) (sh_k n k) i x with | some (t, W2) => if t = 0 then some (Sum.inl (nx, sh_l n lo, sh_s n st, W2, b, c) : mm_T) else none | none => none else none) = some (sh_T n P S T)
      by_cases hk : k < mm_XB
      · rw [if_pos hk] at h2
        cases hg : mm_aputi W k i x with
        | none => rw [hg] at h2; cases h2
        | some q =>
          obtain ⟨t, W2⟩ := q
          rw [hg] at h2
          obtain ⟨g1, g2⟩ := sh_aputi (S := S) hP hg
          rw [show sh_k n k = n + k from by unfold sh_k; rw [if_pos hk], if_pos (show n + k < mm_XB by omega), g1]
          dsimp only at h2 ⊢
          by_cases hc : t = 0
          · rw [if_pos hc] at h2 ⊢; cases Option.some.inj h2; rfl
          · rw [if_neg hc] at h2; cases h2
      · rw [if_neg hk] at h2; cases h2
  case bastore =>
    match st, h with
    | .int x :: .int i :: .ref k :: st, h =>
      have h2 : (if k < mm_XB then match mm_aputi W k i x with | some (t, W2) => if t = 2 ∨ t = 3 then some (Sum.inl (nx, lo, st, W2, b, c) : mm_T) else none | none => none else none) = some T := h
      show (if (sh_k n k) < mm_XB then match mm_aputi (sh_W n P S W) (sh_k n k) i x with | some (t, W2) => if t = 2 ∨ t = 3 then some (Sum.inl (nx, sh_l n lo, sh_s n st, W2, b, c) : mm_T) else none | none => none else none) = some (sh_T n P S T)
      by_cases hk : k < mm_XB
      · rw [if_pos hk] at h2
        cases hg : mm_aputi W k i x with
        | none => rw [hg] at h2; cases h2
        | some q =>
          obtain ⟨t, W2⟩ := q
          rw [hg] at h2
          obtain ⟨g1, g2⟩ := sh_aputi (S := S) hP hg
          rw [show sh_k n k = n + k from by unfold sh_k; rw [if_pos hk], if_pos (show n + k < mm_XB by omega), g1]
          dsimp only at h2 ⊢
          by_cases hc : t = 2 ∨ t = 3
          · rw [if_pos hc] at h2 ⊢; cases Option.some.inj h2; rfl
          · rw [if_neg hc] at h2; cases h2
      · rw [if_neg hk] at h2; cases h2
  case lastore =>
    match st, h with
    | .long x :: .int i :: .ref k :: st, h =>
      have h2 : (if k < mm_XB then match mm_aputl W k i x with | some (t, W2) => if t = 1 then some (Sum.inl (nx, lo, st, W2, b, c) : mm_T) else none | none => none else none) = some T := h
      show (if (sh_k n k) < mm_XB then match mm_aputl (sh_W n P S W) (sh_k n k) i x with | some (t, W2) => if t = 1 then some (Sum.inl (nx, sh_l n lo, sh_s n st, W2, b, c) : mm_T) else none | none => none else none) = some (sh_T n P S T)
      by_cases hk : k < mm_XB
      · rw [if_pos hk] at h2
        cases hg : mm_aputl W k i x with
        | none => rw [hg] at h2; cases h2
        | some q =>
          obtain ⟨t, W2⟩ := q
          rw [hg] at h2
          obtain ⟨g1, g2⟩ := sh_aputl (S := S) hP hg
          rw [show sh_k n k = n + k from by unfold sh_k; rw [if_pos hk], if_pos (show n + k < mm_XB by omega), g1]
          dsimp only at h2 ⊢
          by_cases hc : t = 1
          · rw [if_pos hc] at h2 ⊢; cases Option.some.inj h2; rfl
          · rw [if_neg hc] at h2; cases h2
      · rw [if_neg hk] at h2; cases h2
  case aastore =>
    match st, h with
    | .ref v :: .int i :: .ref k :: st, h =>
      have h2 : (if k < mm_XB then (mm_aputr W k i v).map (fun W2 => (Sum.inl (nx, lo, st, W2, b, c) : mm_T)) else none) = some T := h
      show (if sh_k n k < mm_XB then (mm_aputr (sh_W n P S W) (sh_k n k) i (sh_k n v)).map (fun W2 => (Sum.inl (nx, sh_l n lo, sh_s n st, W2, b, c) : mm_T)) else none) = some (sh_T n P S T)
      by_cases hk : k < mm_XB
      · rw [if_pos hk] at h2
        obtain ⟨W2, hW, h3⟩ := Option.map_eq_some_iff.mp h2
        obtain ⟨g1, g2⟩ := sh_aputr (S := S) hP hb hW
        rw [show sh_k n k = n + k from by unfold sh_k; rw [if_pos hk], if_pos (show n + k < mm_XB by omega), g1]
        cases h3
        rfl
      · rw [if_neg hk] at h2; cases h2
  case putfield i =>
    match st, h with
    | v :: .ref k :: st, h =>
      have h2 : (if k < mm_XB then (mm_put W k r1 r2 r3 v).map (fun W2 => (Sum.inl (nx, lo, st, W2, b, c) : mm_T)) else none) = some T := h
      show (if sh_k n k < mm_XB then (mm_put (sh_W n P S W) (sh_k n k) r1 r2 r3 (sh_v n v)).map (fun W2 => (Sum.inl (nx, sh_l n lo, sh_s n st, W2, b, c) : mm_T)) else none) = some (sh_T n P S T)
      by_cases hk : k < mm_XB
      · rw [if_pos hk] at h2
        obtain ⟨W2, hW, h3⟩ := Option.map_eq_some_iff.mp h2
        obtain ⟨g1, g2⟩ := sh_put (S := S) hP hW
        rw [show sh_k n k = n + k from by unfold sh_k; rw [if_pos hk], if_pos (show n + k < mm_XB by omega), g1]
        cases h3
        rfl
      · rw [if_neg hk] at h2; cases h2
  case arraylength =>
    match st, h with
    | .ref k :: st, h =>
      have h2 : (mm_alen xa W k).map (fun n => (Sum.inl (nx, lo, .int (Int32.ofNat n) :: st, W, b, c) : mm_T)) = some T := h
      show (mm_alen xa (sh_W n P S W) (sh_k n k)).map (fun q => (Sum.inl (nx, sh_l n lo, .int (Int32.ofNat q) :: sh_s n st, sh_W n P S W, b, c) : mm_T)) = some (sh_T n P S T)
      obtain ⟨m, hm, h3⟩ := Option.map_eq_some_iff.mp h2
      rw [sh_alen hP hb hm]
      cases h3
      rfl
  case getfield i =>
    match st, h with
    | .ref k :: st, h =>
      have h2 : (if r3 = 0 then (if k < mm_XB then (mm_getf W k r1 r2).map (fun v => (Sum.inl (nx, lo, v :: st, W, b, c) : mm_T)) else none) else if r3 = 1 then (if k < mm_XB then none else (md_xo (k - mm_XB) r1).map (fun v => (Sum.inl (nx, lo, v :: st, W, b, c) : mm_T))) else (if k < mm_XB then (mm_getf W k r1 r2).map (fun v => (Sum.inl (nx, lo, v :: st, W, b, c) : mm_T)) else (md_xo (k - mm_XB) (r3 - 2)).map (fun v => (Sum.inl (nx, lo, v :: st, W, b, c) : mm_T)))) = some T := h
      show (if r3 = 0 then (if (sh_k n k) < mm_XB then (mm_getf (sh_W n P S W) (sh_k n k) r1 r2).map (fun v => (Sum.inl (nx, sh_l n lo, v :: sh_s n st, (sh_W n P S W), b, c) : mm_T)) else none) else if r3 = 1 then (if (sh_k n k) < mm_XB then none else (md_xo ((sh_k n k) - mm_XB) r1).map (fun v => (Sum.inl (nx, sh_l n lo, v :: sh_s n st, (sh_W n P S W), b, c) : mm_T))) else (if (sh_k n k) < mm_XB then (mm_getf (sh_W n P S W) (sh_k n k) r1 r2).map (fun v => (Sum.inl (nx, sh_l n lo, v :: sh_s n st, (sh_W n P S W), b, c) : mm_T)) else (md_xo ((sh_k n k) - mm_XB) (r3 - 2)).map (fun v => (Sum.inl (nx, sh_l n lo, v :: sh_s n st, (sh_W n P S W), b, c) : mm_T)))) = some (sh_T n P S T)
      by_cases h3 : r3 = 0
      · rw [if_pos h3] at h2 ⊢
        by_cases hk : k < mm_XB
        · rw [if_pos hk] at h2
          obtain ⟨v, hv, h4⟩ := Option.map_eq_some_iff.mp h2
          obtain ⟨g1, g2⟩ := sh_getf (S := S) hP hv
          rw [show sh_k n k = n + k from by unfold sh_k; rw [if_pos hk], if_pos (show n + k < mm_XB by omega), g1]
          cases h4
          rfl
        · rw [if_neg hk] at h2; cases h2
      · rw [if_neg h3] at h2 ⊢
        by_cases h5 : r3 = 1
        · rw [if_pos h5] at h2 ⊢
          by_cases hk : k < mm_XB
          · rw [if_pos hk] at h2; cases h2
          · rw [if_neg hk] at h2
            obtain ⟨v, hv, h4⟩ := Option.map_eq_some_iff.mp h2
            rw [sh_out hk, if_neg hk, hv]
            cases h4
            exact congrArg (fun z => (some (Sum.inl (nx, sh_l n lo, z :: sh_s n st, sh_W n P S W, b, c)) : Option mm_T)) (sh_x (ht.1 _ _ _ hv)).symm
        · rw [if_neg h5] at h2 ⊢
          by_cases hk : k < mm_XB
          · rw [if_pos hk] at h2
            obtain ⟨v, hv, h4⟩ := Option.map_eq_some_iff.mp h2
            obtain ⟨g1, g2⟩ := sh_getf (S := S) hP hv
            rw [show sh_k n k = n + k from by unfold sh_k; rw [if_pos hk], if_pos (show n + k < mm_XB by omega), g1]
            cases h4
            rfl
          · rw [if_neg hk] at h2
            obtain ⟨v, hv, h4⟩ := Option.map_eq_some_iff.mp h2
            rw [sh_out hk, if_neg hk, hv]
            cases h4
            exact congrArg (fun z => (some (Sum.inl (nx, sh_l n lo, z :: sh_s n st, sh_W n P S W, b, c)) : Option mm_T)) (sh_x (ht.1 _ _ _ hv)).symm
  case checkcast i =>
    match st, h with
    | .ref k :: st, h =>
      simp only [mm_stepI] at h
      split at h
      · rename_i hk
        split at h
        · rename_i m f hw
          obtain rfl := Option.some.inj h
          obtain ⟨e1, e2, e3⟩ := sh_in (S := S) hP hb hk hw
          rw [show sh_s n (Value.ref k :: st) = Value.ref (sh_k n k) :: sh_s n st from rfl]
          show _ = some (Sum.inl (nx, sh_l n lo, Value.ref (sh_k n k) :: sh_s n st, sh_W n P S W, b, c))
          simp only [mm_stepI]
          rw [e1, if_pos e2, e3]
          rfl
        · cases h
      · cases h
  case getstatic i =>
    simp only [mm_stepI] at h ⊢
    by_cases h0 : r3 = 0
    · rw [if_pos h0] at h ⊢
      obtain rfl := Option.some.inj h
      exact congrArg (fun z => (some (Sum.inl (nx, sh_l n lo, z :: sh_s n st, sh_W n P S W, b, c)) : Option mm_T)) (sh_x (ht.2.1 _)).symm
    · rw [if_neg h0] at h ⊢; obtain rfl := Option.some.inj h; rfl
  case new i =>
    simp only [mm_stepI] at h ⊢
    by_cases h0 : r3 = 0
    · rw [if_pos h0] at h ⊢
      by_cases hc : 1 ≤ b ∧ (md_df r1).length ≤ c ∧ W.length < mm_XB
      · rw [if_pos hc] at h
        obtain rfl := Option.some.inj h
        obtain ⟨rfl, hl⟩ := sh_grow (E := .inr (r1, md_df r1)) rfl hS
        have hlen : (sh_W n P [] W).length = n + W.length := by rw [sh_W_len hP]; rfl
        have e : sh_e n (.inr (r1, md_df r1)) = .inr (r1, md_df r1) := by
          show (Sum.inr (r1, (md_df r1).map (sh_v n)) : va_E) = _
          rw [sh_mapnr (ht.2.2 r1)]
        rw [hlen, if_pos ⟨hc.1, hc.2.1, hl⟩]
        show _ = some (Sum.inl (nx, sh_l n lo, Value.ref (sh_k n W.length) :: sh_s n st, sh_W n P [] (W ++ [.inr (r1, md_df r1)]), b - 1, c - (md_df r1).length))
        rw [← sh_app, e, show sh_k n W.length = n + W.length from by unfold sh_k; rw [if_pos hc.2.2]]
      · rw [if_neg hc] at h; cases h
    · rw [if_neg h0] at h ⊢
      rw [sh_sum]
      by_cases hc : 1 ≤ b ∧ 6 ≤ c ∧ (st.map fun v => v.category).sum ≤ 8
      · rw [if_pos hc] at h ⊢; obtain rfl := Option.some.inj h; rfl
      · rw [if_neg hc] at h; cases h
  case newarray a =>
    match st, h with
    | .int q :: st, h =>
      have h2 : (if ¬ q < 0 ∧ 1 ≤ b ∧ q.toNatClampNeg ≤ c ∧ W.length < mm_XB ∧ q.toNatClampNeg ≤ 1000000 then some (Sum.inl (nx, lo, .ref W.length :: st, W ++ [.inl (r1, q.toNatClampNeg, if r1 = 1 then .inr (.inl (fun _ => 0)) else .inl (fun _ => 0))], b - 1, c - q.toNatClampNeg) : mm_T) else none) = some T := h
      show (if ¬ q < 0 ∧ 1 ≤ b ∧ q.toNatClampNeg ≤ c ∧ (sh_W n P S W).length < mm_XB ∧ q.toNatClampNeg ≤ 1000000 then some (Sum.inl (nx, sh_l n lo, .ref (sh_W n P S W).length :: sh_s n st, (sh_W n P S W) ++ [.inl (r1, q.toNatClampNeg, if r1 = 1 then .inr (.inl (fun _ => 0)) else .inl (fun _ => 0))], b - 1, c - q.toNatClampNeg) : mm_T) else none) = some (sh_T n P S T)
      by_cases hc : ¬ q < 0 ∧ 1 ≤ b ∧ q.toNatClampNeg ≤ c ∧ W.length < mm_XB ∧ q.toNatClampNeg ≤ 1000000
      · rw [if_pos hc] at h2
        obtain rfl := Option.some.inj h2
        obtain ⟨rfl, hl⟩ := sh_grow (E := .inl (r1, q.toNatClampNeg, if r1 = 1 then .inr (.inl (fun _ => 0)) else .inl (fun _ => 0))) rfl hS
        have hlen : (sh_W n P [] W).length = n + W.length := by rw [sh_W_len hP]; rfl
        have e : sh_e n (.inl (r1, q.toNatClampNeg, if r1 = 1 then .inr (.inl (fun _ => 0)) else .inl (fun _ => 0))) = .inl (r1, q.toNatClampNeg, if r1 = 1 then .inr (.inl (fun _ => 0)) else .inl (fun _ => 0)) := by split <;> rfl
        rw [hlen, if_pos ⟨hc.1, hc.2.1, hc.2.2.1, hl, hc.2.2.2.2⟩]
        show _ = some (Sum.inl (nx, sh_l n lo, Value.ref (sh_k n W.length) :: sh_s n st, sh_W n P [] (W ++ [.inl (r1, q.toNatClampNeg, if r1 = 1 then .inr (.inl (fun _ => 0)) else .inl (fun _ => 0))]), b - 1, c - q.toNatClampNeg))
        rw [← sh_app, e, show sh_k n W.length = n + W.length from by unfold sh_k; rw [if_pos hc.2.2.2.1]]
      · rw [if_neg hc] at h2; cases h2
  case anewarray i =>
    match st, h with
    | .int q :: st, h =>
      have h2 : (if ¬ q < 0 ∧ 1 ≤ b ∧ q.toNatClampNeg ≤ c ∧ W.length < mm_XB ∧ q.toNatClampNeg ≤ 1000000 then some (Sum.inl (nx, lo, .ref W.length :: st, W ++ [.inl (r1, q.toNatClampNeg, .inr (.inr (.inr (.inr (fun _ => none)))))], b - 1, c - q.toNatClampNeg) : mm_T) else none) = some T := h
      show (if ¬ q < 0 ∧ 1 ≤ b ∧ q.toNatClampNeg ≤ c ∧ (sh_W n P S W).length < mm_XB ∧ q.toNatClampNeg ≤ 1000000 then some (Sum.inl (nx, sh_l n lo, .ref (sh_W n P S W).length :: sh_s n st, (sh_W n P S W) ++ [.inl (r1, q.toNatClampNeg, .inr (.inr (.inr (.inr (fun _ => none)))))], b - 1, c - q.toNatClampNeg) : mm_T) else none) = some (sh_T n P S T)
      by_cases hc : ¬ q < 0 ∧ 1 ≤ b ∧ q.toNatClampNeg ≤ c ∧ W.length < mm_XB ∧ q.toNatClampNeg ≤ 1000000
      · rw [if_pos hc] at h2
        obtain rfl := Option.some.inj h2
        obtain ⟨rfl, hl⟩ := sh_grow (E := .inl (r1, q.toNatClampNeg, .inr (.inr (.inr (.inr (fun _ => none)))))) rfl hS
        have hlen : (sh_W n P [] W).length = n + W.length := by rw [sh_W_len hP]; rfl
        have e : sh_e n (.inl (r1, q.toNatClampNeg, .inr (.inr (.inr (.inr (fun _ => none)))))) = .inl (r1, q.toNatClampNeg, .inr (.inr (.inr (.inr (fun _ => none))))) := rfl
        rw [hlen, if_pos ⟨hc.1, hc.2.1, hc.2.2.1, hl, hc.2.2.2.2⟩]
        show _ = some (Sum.inl (nx, sh_l n lo, Value.ref (sh_k n W.length) :: sh_s n st, sh_W n P [] (W ++ [.inl (r1, q.toNatClampNeg, .inr (.inr (.inr (.inr (fun _ => none)))))]), b - 1, c - q.toNatClampNeg))
        rw [← sh_app, e, show sh_k n W.length = n + W.length from by unfold sh_k; rw [if_pos hc.2.2.2.1]]
      · rw [if_neg hc] at h2; cases h2
  case invokevirtual i => exact sh_call hP hb hS h
  case invokestatic i => exact sh_call hP hb hS h
  case invokespecial i => exact sh_call hP hb hS h
  case invokeinterface i cnt => exact sh_call hP hb hS h
  case ireturn =>
    match st, h with
    | [.int v], h =>
      rw [show sh_s n [Value.int v] = [Value.int v] from rfl]
      simp only [mm_stepI] at h ⊢
      split at h
      · rename_i ty hq
        split at h
        · rename_i hn
          rw [hq]
          obtain rfl := Option.some.inj h
          exact if_pos hn
        · cases h
      · cases h
  case lreturn =>
    match st, h with
    | [.long v], h =>
      rw [show sh_s n [Value.long v] = [Value.long v] from rfl]
      simp only [mm_stepI] at h ⊢
      split at h
      · rename_i hq
        rw [if_pos hq]
        obtain rfl := Option.some.inj h
        rfl
      · cases h
  case areturn =>
    match st, h with
    | [.ref v], h =>
      rw [show sh_s n [Value.ref v] = [Value.ref (sh_k n v)] from rfl]
      simp only [mm_stepI] at h ⊢
      split at h
      · rename_i q hq
        rw [hq]
        obtain rfl := Option.some.inj h
        rfl
      · rename_i q hq
        rw [hq]
        obtain rfl := Option.some.inj h
        rfl
      · cases h
  case return_ =>
    match st, h with
    | [], h =>
      rw [show sh_s n [] = [] from rfl]
      simp only [mm_stepI] at h ⊢
      split at h
      · rename_i hq
        rw [if_pos hq]
        obtain rfl := Option.some.inj h
        rfl
      · cases h
  all_goals exact absurd (show (none : Option mm_T) = some T from h) (by simp)
theorem sh_step (hP : P.length = n) (hx : sh_ok xa) (ht : sh_tb) {j : Nat} {F : mm_F} {T : mm_T} (hb : n + F.2.2.2.1.length ≤ mm_XB) (hS : S = [] ∧ n + (sh_TW T).length ≤ mm_XB ∨ (sh_TW T).length = F.2.2.2.1.length) (h : mm_step xa j F = some T) : mm_step xa j (sh_F n P S F) = some (sh_T n P S T) := by
  unfold mm_step at h ⊢
  rw [show (sh_F n P S F).1 = F.1 from rfl]
  split at h
  · cases h
  · rename_i e he
    exact sh_stepI hP hb hx ht hS h
end SH
/-! ===== worlds don't shrink ===== -/
theorem ln_aputi {W W2 : mm_W} {k t : Nat} {i x : Int32} (e : mm_aputi W k i x = some (t, W2)) : W2.length = W.length := by
  unfold mm_aputi at e
  split at e
  · split at e
    · have e2 := congrArg Prod.snd (Option.some.inj e)
      rw [← show _ = W2 from e2]
      exact List.length_set
    · cases e
  · cases e
theorem ln_aputl {W W2 : mm_W} {k t : Nat} {i : Int32} {x : Int64} (e : mm_aputl W k i x = some (t, W2)) : W2.length = W.length := by
  unfold mm_aputl at e
  split at e
  · split at e
    · have e2 := congrArg Prod.snd (Option.some.inj e)
      rw [← show _ = W2 from e2]
      exact List.length_set
    · cases e
  · cases e
theorem ln_aputr {W W2 : mm_W} {k v : Nat} {i : Int32} (e : mm_aputr W k i v = some W2) : W2.length = W.length := by
  unfold mm_aputr at e
  split at e
  · split at e
    · rw [← Option.some.inj e]; exact List.length_set
    · cases e
  · cases e
theorem ln_put {W W2 : mm_W} {k ci f t : Nat} {v : Value} (e : mm_put W k ci f t v = some W2) : W2.length = W.length := by
  unfold mm_put at e
  split at e
  · split at e
    · rw [← Option.some.inj e]; exact List.length_set
    · cases e
  · cases e
theorem ln_cpy {xa : mm_Xa} {W W2 : mm_W} {s d : Nat} {sp dp n : Int32} (e : mm_cpy xa W s sp d dp n = some W2) : W2.length = W.length := by
  unfold mm_cpy at e
  (repeat' split at e) <;> first
    | (simp only [reduceCtorEq] at e; done)
    | (rw [← Option.some.inj e]; exact List.length_set)
theorem ln_app {W : mm_W} {E : va_E} : W.length ≤ (W ++ [E]).length := by rw [List.length_append]; exact Nat.le_add_right _ _
theorem ln_map {W0 : mm_W} {o : Option Value} {g : Value → mm_T} {T : mm_T} (e : o.map g = some T) (eg : ∀ v, sh_TW (g v) = W0) : W0.length ≤ (sh_TW T).length := by
  obtain ⟨v, -, rfl⟩ := Option.map_eq_some_iff.mp e
  rw [eg]
  exact Nat.le_refl _
theorem ln_mapn {W0 : mm_W} {o : Option Nat} {g : Nat → mm_T} {T : mm_T} (e : o.map g = some T) (eg : ∀ v, sh_TW (g v) = W0) : W0.length ≤ (sh_TW T).length := by
  obtain ⟨v, -, rfl⟩ := Option.map_eq_some_iff.mp e
  rw [eg]
  exact Nat.le_refl _
set_option maxRecDepth 100000 in
theorem ln_call {xa : mm_Xa} {r1 r2 r3 pc nx : Nat} {lo : List (Nat × Value)} {st : List Value} {W : mm_W} {b c : Nat} {T : mm_T} (hs : mm_call xa r1 r2 r3 pc nx lo st W b c = some T) : W.length ≤ (sh_TW T).length := by
  unfold mm_call at hs
  dsimp only at hs
  (repeat' split at hs) <;> first
    | (cases hs; done)
    | (injection hs with hs; subst hs; first | exact Nat.le_refl _ | exact ln_app)
    | (obtain ⟨W2, hW, rfl⟩ := Option.map_eq_some_iff.mp hs; exact Nat.le_of_eq (ln_cpy hW).symm)
set_option maxRecDepth 100000 in
set_option maxHeartbeats 4000000 in
theorem ln_stepI {xa : mm_Xa} {j : Nat} {ins : Instr} {nx r1 r2 r3 pc : Nat} {lo : List (Nat × Value)} {st : List Value} {W : mm_W} {b c : Nat} {T : mm_T} (hs : mm_stepI xa j ins nx r1 r2 r3 pc lo st W b c = some T) : W.length ≤ (sh_TW T).length := by
  cases ins
  case iastore =>
    simp only [mm_stepI] at hs
    (repeat' split at hs) <;> first
      | (simp only [reduceCtorEq] at hs; done)
      | (rename_i hW _; injection hs with hs; subst hs; exact Nat.le_of_eq (ln_aputi hW).symm)
  case bastore =>
    simp only [mm_stepI] at hs
    (repeat' split at hs) <;> first
      | (simp only [reduceCtorEq] at hs; done)
      | (rename_i hW _; injection hs with hs; subst hs; exact Nat.le_of_eq (ln_aputi hW).symm)
  case lastore =>
    simp only [mm_stepI] at hs
    (repeat' split at hs) <;> first
      | (simp only [reduceCtorEq] at hs; done)
      | (rename_i hW _; injection hs with hs; subst hs; exact Nat.le_of_eq (ln_aputl hW).symm)
  case aastore =>
    simp only [mm_stepI] at hs
    (repeat' split at hs) <;> first
      | (simp only [reduceCtorEq] at hs; done)
      | (obtain ⟨W2, hW, rfl⟩ := Option.map_eq_some_iff.mp hs; exact Nat.le_of_eq (ln_aputr hW).symm)
  case putfield =>
    simp only [mm_stepI] at hs
    (repeat' split at hs) <;> first
      | (simp only [reduceCtorEq] at hs; done)
      | (obtain ⟨W2, hW, rfl⟩ := Option.map_eq_some_iff.mp hs; exact Nat.le_of_eq (ln_put hW).symm)
  case new =>
    simp only [mm_stepI] at hs
    split at hs
    · split at hs
      · have hs := Option.some.inj hs
        rw [← hs]
        exact ln_app
      · simp only [reduceCtorEq] at hs
    · split at hs
      · have hs := Option.some.inj hs
        rw [← hs]
        exact Nat.le_refl _
      · simp only [reduceCtorEq] at hs
  case newarray =>
    simp only [mm_stepI] at hs
    split at hs
    · split at hs
      · have hs := Option.some.inj hs
        rw [← hs]
        exact ln_app
      · simp only [reduceCtorEq] at hs
    · simp only [reduceCtorEq] at hs
  case anewarray =>
    simp only [mm_stepI] at hs
    split at hs
    · split at hs
      · have hs := Option.some.inj hs
        rw [← hs]
        exact ln_app
      · simp only [reduceCtorEq] at hs
    · simp only [reduceCtorEq] at hs
  all_goals first
    | (simp only [mm_stepI] at hs; exact ln_call hs)
    | (simp only [mm_stepI] at hs
       (repeat' split at hs) <;> first
         | (simp only [reduceCtorEq] at hs; done)
         | exact ln_map hs (fun _ => rfl)
         | exact ln_mapn hs (fun _ => rfl)
         | (rw [← Option.some.inj hs]; exact Nat.le_refl _))
theorem ln_step {xa : mm_Xa} {j : Nat} {F : mm_F} {T : mm_T} (hs : mm_step xa j F = some T) : F.2.2.2.1.length ≤ (sh_TW T).length := by
  unfold mm_step at hs
  split at hs
  · cases hs
  · exact ln_stepI hs
theorem ln_ex {xa : mm_Xa} : ∀ (f d j : Nat) (F : mm_F) (o : mm_O), mm_ex xa f d j F = some o → F.2.2.2.1.length ≤ o.2.1.length
  | 0, _, _, _, _, h => by cases h
  | f + 1, d, j, F, o, h => by
    unfold mm_ex at h
    cases hs : mm_step xa j F with
    | none => rw [hs] at h; cases h
    | some T =>
      rw [hs] at h
      have hT := ln_step hs
      rcases T with F' | o' | ⟨j', as, nx, fl, G⟩
      · exact Nat.le_trans hT (ln_ex f d j F' o h)
      · injection h with h
        subst h
        exact hT
      · dsimp only at h
        cases d with
        | zero => cases h
        | succ d0 =>
          dsimp only at h
          split at h
          · cases h
          · split at h
            · cases h
            · rename_i v W2 b2 c2 hcall
              have h2 := ln_ex f d0 j' (0, lv_args 0 as, [], G.2.2.2.1, G.2.2.2.2.1, G.2.2.2.2.2) _ hcall
              exact Nat.le_trans hT (Nat.le_trans h2 (ln_ex f (d0 + 1) j _ o h))
            · rename_i E W2 b2 c2 hcall
              have h2 := ln_ex f d0 j' (0, lv_args 0 as, [], G.2.2.2.1, G.2.2.2.2.1, G.2.2.2.2.2) _ hcall
              split at h
              · cases h
              · split at h
                · injection h with h
                  subst h
                  exact Nat.le_trans hT h2
                · split at h
                  · cases h
                  · exact Nat.le_trans hT (Nat.le_trans h2 (ln_ex f (d0 + 1) j _ o h))
/-! ===== a whole run ===== -/
theorem sh_len2 {S : mm_W} {n a b c : Nat} (hb : n + c ≤ mm_XB) (hS : S = [] ∨ c = a) (h1 : a ≤ b) (h2 : b ≤ c) : (S = [] ∧ n + b ≤ mm_XB ∨ b = a) := by
  rcases hS with h | h
  · exact Or.inl ⟨h, by omega⟩
  · exact Or.inr (by omega)
theorem sh_len3 {S : mm_W} {a b c d : Nat} (hS : S = [] ∨ d = a) (h1 : a ≤ b) (h2 : b ≤ c) (h3 : c ≤ d) : (S = [] ∨ c = b) := by
  rcases hS with h | h
  · exact Or.inl h
  · exact Or.inr (by omega)
theorem sh_ex {xa : mm_Xa} {n : Nat} {P S : mm_W} (hP : P.length = n) (hx : sh_ok xa) (ht : sh_tb) : ∀ (f d j : Nat) (F : mm_F) (o : mm_O), n + o.2.1.length ≤ mm_XB → (S = [] ∨ o.2.1.length = F.2.2.2.1.length) → mm_ex xa f d j F = some o → mm_ex xa f d j (sh_F n P S F) = some (sh_o n P S o)
  | 0, _, _, _, _, _, _, h => by cases h
  | f + 1, d, j, F, o, hb, hS, h => by
    have l9 := ln_ex _ _ _ _ _ h
    unfold mm_ex at h ⊢
    cases hs : mm_step xa j F with
    | none => rw [hs] at h; cases h
    | some T =>
      rw [hs] at h
      have l1 := ln_step hs
      have hbF : n + F.2.2.2.1.length ≤ mm_XB := by omega
      rcases T with F' | o' | ⟨j', as, nx, fl, G⟩
      · have l2 := ln_ex _ _ _ _ _ h
        have l1' : F.2.2.2.1.length ≤ F'.2.2.2.1.length := l1
        rw [sh_step hP hx ht hbF (sh_len2 hb hS l1' l2) hs]
        exact sh_ex hP hx ht f d j F' o hb (by rcases hS with h5 | h5; exact Or.inl h5; exact Or.inr (by omega)) h
      · injection h with h
        subst h
        have l1' : F.2.2.2.1.length ≤ o'.2.1.length := l1
        rw [sh_step hP hx ht hbF (sh_len2 hb hS l1' (Nat.le_refl _)) hs]
        rfl
      · have l1' : F.2.2.2.1.length ≤ G.2.2.2.1.length := l1
        dsimp only at h
        cases d with
        | zero => cases h
        | succ d0 =>
          dsimp only at h
          split at h
          · cases h
          · rename_i hlen
            have hlen2 : ¬ (md_mt j').2.2.1 < ((sh_s n as).map fun v => v.category).sum := by rw [sh_sum]; exact hlen
            split at h
            · cases h
            · rename_i v W2 b2 c2 hcall
              have l3 : G.2.2.2.1.length ≤ W2.length := ln_ex _ _ _ _ _ hcall
              have l4 : W2.length ≤ o.2.1.length := ln_ex _ _ _ _ _ h
              rw [sh_step hP hx ht hbF (sh_len2 hb hS l1' (by omega)) hs]
              have hc2 := sh_ex hP hx ht f d0 j' (0, lv_args 0 as, [], G.2.2.2.1, G.2.2.2.2.1, G.2.2.2.2.2) _ (by show n + W2.length ≤ mm_XB; omega) (sh_len3 (d := o.2.1.length) hS l1' l3 l4) hcall
              have hk := sh_ex hP hx ht f (d0 + 1) j _ o hb (by rcases hS with h5 | h5; exact Or.inl h5; exact Or.inr (by show o.2.1.length = W2.length; omega)) h
              have hc3 : mm_ex xa f d0 j' (0, lv_args 0 (sh_s n as), [], sh_W n P S G.2.2.2.1, G.2.2.2.2.1, G.2.2.2.2.2) = some (.inl (v.map (sh_v n)), sh_W n P S W2, b2, c2) := by
                rw [sh_args]
                exact hc2
              show (if (md_mt j').2.2.1 < ((sh_s n as).map fun v => v.category).sum then none else
                match mm_ex xa f d0 j' (0, lv_args 0 (sh_s n as), [], sh_W n P S G.2.2.2.1, G.2.2.2.2.1, G.2.2.2.2.2) with
                | none => none
                | some (.inl v, W2, b2, c2) => mm_ex xa f (d0 + 1) j (nx, sh_l n G.2.1, v.toList ++ sh_s n G.2.2.1, W2, b2, c2)
                | some (.inr E, W2, b2, c2) =>
                  if fl = false then none else
                  if (md_mt j).2.2.2.2 = [] then some (.inr E, W2, b2, c2) else
                  match md_hd j G.1 E with
                  | none => none
                  | some h => mm_ex xa f (d0 + 1) j (h, sh_l n G.2.1, [.retAddr 0], W2, b2, c2)) = some (sh_o n P S o)
              rw [if_neg hlen2, hc3]
              dsimp only
              rw [← sh_ap]
              exact hk
            · rename_i E W2 b2 c2 hcall
              have l3 : G.2.2.2.1.length ≤ W2.length := ln_ex _ _ _ _ _ hcall
              split at h
              · cases h
              · rename_i hfl
                have l4 : W2.length ≤ o.2.1.length := by
                  split at h
                  · injection h with h
                    subst h
                    exact Nat.le_refl _
                  · split at h
                    · cases h
                    · exact ln_ex _ _ _ _ _ h
                rw [sh_step hP hx ht hbF (sh_len2 hb hS l1' (by omega)) hs]
                have hc2 := sh_ex hP hx ht f d0 j' (0, lv_args 0 as, [], G.2.2.2.1, G.2.2.2.2.1, G.2.2.2.2.2) _ (by show n + W2.length ≤ mm_XB; omega) (sh_len3 (d := o.2.1.length) hS l1' l3 l4) hcall
                have hc3 : mm_ex xa f d0 j' (0, lv_args 0 (sh_s n as), [], sh_W n P S G.2.2.2.1, G.2.2.2.2.1, G.2.2.2.2.2) = some (.inr E, sh_W n P S W2, b2, c2) := by
                  rw [sh_args]
                  exact hc2
                show (if (md_mt j').2.2.1 < ((sh_s n as).map fun v => v.category).sum then none else
                  match mm_ex xa f d0 j' (0, lv_args 0 (sh_s n as), [], sh_W n P S G.2.2.2.1, G.2.2.2.2.1, G.2.2.2.2.2) with
                  | none => none
                  | some (.inl v, W2, b2, c2) => mm_ex xa f (d0 + 1) j (nx, sh_l n G.2.1, v.toList ++ sh_s n G.2.2.1, W2, b2, c2)
                  | some (.inr E, W2, b2, c2) =>
                    if fl = false then none else
                    if (md_mt j).2.2.2.2 = [] then some (.inr E, W2, b2, c2) else
                    match md_hd j G.1 E with
                    | none => none
                    | some h => mm_ex xa f (d0 + 1) j (h, sh_l n G.2.1, [.retAddr 0], W2, b2, c2)) = some (sh_o n P S o)
                rw [if_neg hlen2, hc3]
                dsimp only
                rw [if_neg hfl]
                split at h
                · rename_i hh
                  rw [if_pos hh]
                  injection h with h
                  subst h
                  rfl
                · rename_i hh
                  rw [if_neg hh]
                  split at h
                  · cases h
                  · rename_i hp hhd
                    rw [hhd]
                    exact sh_ex hP hx ht f (d0 + 1) j _ o hb (by rcases hS with h5 | h5; exact Or.inl h5; exact Or.inr (by show o.2.1.length = W2.length; omega)) h
