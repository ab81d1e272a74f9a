/-! ===== runs with a continuation (draft, not compiled yet) ===== -/
def wp (xa : mm_Xa) (d j : Nat) (F : mm_F) (Q : Option Value ⊕ Nat → mm_W → Nat → Nat → Prop) : Prop := ∃ v W b c, Ev xa d j F (v, W, b, c) ∧ Q v W b c
theorem wp.mono {xa : mm_Xa} {d d' j : Nat} {F : mm_F} {Q Q' : Option Value ⊕ Nat → mm_W → Nat → Nat → Prop} (h : wp xa d j F Q) (hd : d ≤ d') (hq : ∀ v W b c, Q v W b c → Q' v W b c) : wp xa d' j F Q' := by
  obtain ⟨v, W, b, c, h1, h2⟩ := h
  exact ⟨v, W, b, c, h1.mono hd, hq _ _ _ _ h2⟩
theorem wp.step {xa : mm_Xa} {d j : Nat} {F F' : mm_F} {Q : Option Value ⊕ Nat → mm_W → Nat → Nat → Prop} (h : mm_step xa j F = some (.inl F')) (k : wp xa d j F' Q) : wp xa d j F Q := by
  obtain ⟨v, W, b, c, h1, h2⟩ := k
  exact ⟨v, W, b, c, Ev.step h h1, h2⟩
theorem wp.done {xa : mm_Xa} {d j : Nat} {F : mm_F} {v : Option Value ⊕ Nat} {W : mm_W} {b c : Nat} {Q : Option Value ⊕ Nat → mm_W → Nat → Nat → Prop} (h : mm_step xa j F = some (.inr (.inl (v, W, b, c)))) (k : Q v W b c) : wp xa d j F Q :=
  ⟨v, W, b, c, Ev.done h, k⟩
/-- what a caller asks of its callee: the caller's rest -/
def wp_k (xa : mm_Xa) (d j pc nx : Nat) (lo : List (Nat × Value)) (rest : List Value) (fl : Bool) (Q : Option Value ⊕ Nat → mm_W → Nat → Nat → Prop) : Option Value ⊕ Nat → mm_W → Nat → Nat → Prop
  | .inl v, W, b, c => wp xa (d + 1) j (nx, lo, v.toList ++ rest, W, b, c) Q
  | .inr E, W, b, c => fl = true ∧ (((md_mt j).2.2.2.2 = [] ∧ Q (.inr E) W b c) ∨ (¬ (md_mt j).2.2.2.2 = [] ∧ ∃ h0, md_hd j pc E = some h0 ∧ wp xa (d + 1) j (h0, lo, [.retAddr 0], W, b, c) Q))
theorem wp.call {xa : mm_Xa} {d j j' nx : Nat} {F G : mm_F} {as : List Value} {fl : Bool} {Q : Option Value ⊕ Nat → mm_W → Nat → Nat → Prop} (h : mm_step xa j F = some (.inr (.inr (j', as, nx, fl, G)))) (hl : ¬ (md_mt j').2.2.1 < (as.map fun v => v.category).sum)
    (hc : wp xa d j' (0, lv_args 0 as, [], G.2.2.2.1, G.2.2.2.2.1, G.2.2.2.2.2) (wp_k xa d j G.1 nx G.2.1 G.2.2.1 fl Q)) : wp xa (d + 1) j F Q := by
  obtain ⟨v, W, b, c, h1, h2⟩ := hc
  rcases v with v | E
  · obtain ⟨v2, W2, b2, c2, k1, k2⟩ := h2
    exact ⟨v2, W2, b2, c2, Ev.call h hl h1 k1, k2⟩
  · obtain ⟨hfl, h2⟩ := h2
    subst hfl
    rcases h2 with ⟨hh, k⟩ | ⟨hh, h0, hhd, v2, W2, b2, c2, k1, k2⟩
    · exact ⟨.inr E, W, b, c, Ev.thru h hl h1 hh, k⟩
    · exact ⟨v2, W2, b2, c2, Ev.catch h hl h1 hh hhd k1, k2⟩
/-! worlds of the fixed shape: every int that they hold is told by a function of object and place -/
abbrev hp : Type := Nat → Nat → Int
def hp_s (s : hp_K) (x : Int) : Value :=
  match s with
  | .inl 1 => .long (Int64.ofInt x)
  | .inl 3 => .ref (mm_XB + x.toNat)
  | .inl _ => .int (Int32.ofInt x)
  | .inr k => .ref k
def hp_f (h : hp) (k : Nat) : Nat → List hp_K → List Value
  | _, [] => []
  | f, s :: l => hp_s s (h k f) :: hp_f h k (f + 1) l
def hp_o (h : hp) (cr : Nat → Nat → Option Nat) (k : Nat) : va_E :=
  match md_sh k with
  | .inr q => .inr (q.1, hp_f h k 0 q.2)
  | .inl q =>
    if q.1 = 1 then .inl (1, q.2, .inr (.inl (fun i => Int64.ofInt (h k i))))
    else if q.1 = 6 then .inl (6, q.2, .inr (.inr (.inr (.inr (fun i => if i < q.2 then some (mm_XB + (h k i).toNat) else cr k i)))))
    else if q.1 < 4 then .inl (q.1, q.2, .inl (fun i => Int32.ofInt (h k i))) else .inl (q.1, q.2, .inr (.inr (.inr (.inr (cr k)))))
def hp_w (h : hp) (cr : Nat → Nat → Option Nat) : mm_W := (List.range md_nW).map (hp_o h cr)
def hp_u (h : hp) (k i : Nat) (x : Int) : hp := fun a b => if a = k ∧ b = i then x else h a b
theorem hp_ff (h h' : hp) (k : Nat) (e : ∀ i, h' k i = h k i) : ∀ (sl : List hp_K) (f : Nat), hp_f h' k f sl = hp_f h k f sl
  | [], _ => rfl
  | s :: sl, f => by
    show hp_s s (h' k f) :: hp_f h' k (f + 1) sl = hp_s s (h k f) :: hp_f h k (f + 1) sl
    rw [e, hp_ff h h' k e sl (f + 1)]
theorem hp_oo (h h' : hp) (cr : Nat → Nat → Option Nat) (k : Nat) (e : ∀ i, h' k i = h k i) : hp_o h' cr k = hp_o h cr k := by
  have e1 : h' k = h k := funext e
  unfold hp_o
  rw [e1]
  cases md_sh k with
  | inl q => rfl
  | inr q => dsimp only; rw [hp_ff h h' k e]
theorem hp_get (h : hp) (cr : Nat → Nat → Option Nat) {k : Nat} (hk : k < md_nW) : (hp_w h cr)[k]? = some (hp_o h cr k) := by
  unfold hp_w
  rw [List.getElem?_map, List.getElem?_range hk]
  rfl
theorem hp_set (h h' : hp) (cr : Nat → Nat → Option Nat) {k : Nat} (e : ∀ a, a ≠ k → ∀ i, h' a i = h a i) : (hp_w h cr).set k (hp_o h' cr k) = hp_w h' cr := by
  apply List.ext_getElem?
  intro i
  rw [List.getElem?_set]
  have hl : (hp_w h cr).length = md_nW := by
    unfold hp_w
    rw [List.length_map, List.length_range]
  by_cases hi : k = i
  · subst hi
    rw [if_pos rfl, hl]
    by_cases hk : k < md_nW
    · rw [if_pos hk, hp_get h' cr hk]
    · rw [if_neg hk, List.getElem?_eq_none (by unfold hp_w; rw [List.length_map, List.length_range]; omega)]
  · rw [if_neg hi]
    by_cases hk : i < md_nW
    · rw [hp_get h cr hk, hp_get h' cr hk, hp_oo h h' cr i (e i (fun x => hi x.symm))]
    · rw [List.getElem?_eq_none (by rw [hl]; omega), List.getElem?_eq_none (by unfold hp_w; rw [List.length_map, List.length_range]; omega)]
/-! ints by their values -/
theorem ii_r {a : Int} (h1 : -2147483648 ≤ a) (h2 : a ≤ 2147483647) : (Int32.ofInt a).toInt = a := Int32.toInt_ofInt_of_le (by omega) (by omega)
theorem ii_add (a b : Int) : Int32.ofInt a + Int32.ofInt b = Int32.ofInt (a + b) := (Int32.ofInt_add a b).symm
theorem ii_sub (a b : Int) : Int32.ofInt a - Int32.ofInt b = Int32.ofInt (a - b) := (Int32.ofInt_sub a b).symm
theorem ii_mul (a b : Int) : Int32.ofInt a * Int32.ofInt b = Int32.ofInt (a * b) := (Int32.ofInt_mul a b).symm
def ii_c : Jvm.ClassFile.Cond → Int → Int → Prop
  | .eq, a, b => a = b
  | .ne, a, b => a ≠ b
  | .lt, a, b => a < b
  | .ge, a, b => b ≤ a
  | .gt, a, b => b < a
  | .le, a, b => a ≤ b
theorem ii_cmp (k : Jvm.ClassFile.Cond) {a b : Int} (a1 : -2147483648 ≤ a) (a2 : a ≤ 2147483647) (b1 : -2147483648 ≤ b) (b2 : b ≤ 2147483647) : mm_cmp k (Int32.ofInt a) (Int32.ofInt b) = true ↔ ii_c k a b := by
  have ea := ii_r a1 a2
  have eb := ii_r b1 b2
  have e1 : Int32.ofInt a < Int32.ofInt b ↔ a < b := by rw [Int32.lt_iff_toInt_lt, ea, eb]
  have e2 : Int32.ofInt b < Int32.ofInt a ↔ b < a := by rw [Int32.lt_iff_toInt_lt, ea, eb]
  have e3 : Int32.ofInt a ≤ Int32.ofInt b ↔ a ≤ b := by rw [Int32.le_iff_toInt_le, ea, eb]
  have e4 : Int32.ofInt b ≤ Int32.ofInt a ↔ b ≤ a := by rw [Int32.le_iff_toInt_le, ea, eb]
  have e5 : Int32.ofInt a = Int32.ofInt b ↔ a = b := ⟨fun h => by rw [← ea, ← eb, h], fun h => by rw [h]⟩
  cases k <;> simp only [mm_cmp, ii_c, decide_eq_true_eq, Bool.not_eq_true', decide_eq_false_iff_not, e1, e2, e3, e4, e5, ne_eq]

/-! reading and writing a world of the fixed shape -/
theorem hp_fi (h : hp) (k : Nat) : ∀ (sl : List hp_K) (f i : Nat), (hp_f h k f sl)[i]? = (sl[i]?).map (fun s => hp_s s (h k (f + i)))
  | [], _, _ => rfl
  | s :: sl, f, 0 => rfl
  | s :: sl, f, i + 1 => by
    show (hp_f h k (f + 1) sl)[i]? = (sl[i]?).map _
    rw [hp_fi h k sl (f + 1) i]
    have e : f + 1 + i = f + (i + 1) := by omega
    rw [e]
theorem hp_fl (h : hp) (k : Nat) : ∀ (sl : List hp_K) (f : Nat), (hp_f h k f sl).length = sl.length
  | [], _ => rfl
  | s :: sl, f => by
    show (hp_f h k (f + 1) sl).length + 1 = sl.length + 1
    rw [hp_fl h k sl (f + 1)]
theorem hp_getf {h : hp} {cr : Nat → Nat → Option Nat} {k ci f : Nat} {sl : List hp_K} {s : hp_K} (hk : k < md_nW) (hs : md_sh k = .inr (ci, sl)) (hf : sl[f]? = some s) : mm_getf (hp_w h cr) k ci f = some (hp_s s (h k f)) := by
  unfold mm_getf
  rw [hp_get h cr hk]
  unfold hp_o
  rw [hs]
  dsimp only
  rw [if_pos rfl, hp_fi, hf, Nat.zero_add]
  rfl
theorem hp_uk {h : hp} {k i : Nat} {x : Int} : hp_u h k i x k i = x := by
  unfold hp_u
  rw [if_pos ⟨rfl, rfl⟩]
theorem hp_un {h : hp} {k i a b : Nat} {x : Int} (hn : a ≠ k ∨ b ≠ i) : hp_u h k i x a b = h a b := by
  unfold hp_u
  rw [if_neg (fun e => by rcases hn with hn | hn; exact hn e.1; exact hn e.2)]
theorem hp_putf {h : hp} {cr : Nat → Nat → Option Nat} {k ci f t kd : Nat} {sl : List hp_K} {x : Int} (hk : k < md_nW) (hs : md_sh k = .inr (ci, sl)) (hf : sl[f]? = some (.inl kd)) (hv : mm_nf t (hp_s (.inl kd) x) = true) : mm_put (hp_w h cr) k ci f t (hp_s (.inl kd) x) = some (hp_w (hp_u h k f x) cr) := by
  unfold mm_put
  rw [hp_get h cr hk]
  have ho : hp_o h cr k = .inr (ci, hp_f h k 0 sl) := by
    unfold hp_o
    rw [hs]
  have ho2 : hp_o (hp_u h k f x) cr k = .inr (ci, hp_f (hp_u h k f x) k 0 sl) := by
    unfold hp_o
    rw [hs]
  rw [ho]
  dsimp only
  have hfl : f < (hp_f h k 0 sl).length := by
    rw [hp_fl]
    exact (List.getElem?_eq_some_iff.mp hf).1
  rw [if_pos ⟨rfl, hfl, hv⟩]
  have e : (hp_f h k 0 sl).set f (hp_s (.inl kd) x) = hp_f (hp_u h k f x) k 0 sl := by
    apply List.ext_getElem?
    intro i
    rw [List.getElem?_set, hp_fi, hp_fi, Nat.zero_add]
    by_cases hi : f = i
    · subst hi
      rw [if_pos rfl, if_pos hfl, hf, hp_uk]
      rfl
    · rw [if_neg hi, hp_un (Or.inr (fun e => hi e.symm))]
  rw [e, ← ho2, hp_set h (hp_u h k f x) cr (fun a ha i => hp_un (Or.inl ha))]
theorem hp_ib {i n : Nat} (hi : i < n) (hn : n ≤ 2147483647) : mm_ib (Int32.ofInt (i : Int)) n = true ∧ (Int32.ofInt (i : Int)).toNatClampNeg = i := by
  have e := ii_r (a := (i : Int)) (by omega) (by omega)
  have e2 : (Int32.ofInt (i : Int)).toNatClampNeg = i := by
    show (Int32.ofInt (i : Int)).toInt.toNat = i
    rw [e]
    exact Int.toNat_natCast i
  refine ⟨?_, e2⟩
  unfold mm_ib
  rw [e2, decide_eq_false (fun hlt => by
    have h0 : (0 : Int32).toInt = 0 := rfl
    have := Int32.lt_iff_toInt_lt.mp hlt
    rw [e, h0] at this
    omega), decide_eq_false (by omega)]
  rfl
theorem hp_cls {h : hp} {cr : Nat → Nat → Option Nat} {k ci : Nat} {sl : List hp_K} (hk : k < md_nW) (hs : md_sh k = .inr (ci, sl)) : mm_cls (hp_w h cr) k = some ci := by
  unfold mm_cls
  rw [if_pos (by unfold md_nW at hk; unfold mm_XB; omega), hp_get h cr hk]
  unfold hp_o
  rw [hs]
theorem hp_ai {xa : mm_Xa} {h : hp} {cr : Nat → Nat → Option Nat} {k t n i : Nat} {a : Int} (hk : k < md_nW) (hs : md_sh k = .inl (t, n)) (ht : t = 0 ∨ t = 2 ∨ t = 3) (ha : a = (i : Int)) (hi : i < n) (hn : n ≤ 2147483647) : mm_aget xa (hp_w h cr) k (Int32.ofInt a) = some (t, .int (Int32.ofInt (h k i))) := by
  subst ha
  obtain ⟨e1, e2⟩ := hp_ib hi hn
  unfold mm_aget
  rw [if_pos (by unfold md_nW at hk; unfold mm_XB; omega), hp_get h cr hk]
  unfold hp_o
  rw [hs]
  dsimp only
  rw [if_neg (by omega), if_neg (by omega), if_pos (by omega)]
  dsimp only
  rw [if_pos e1, e2]
theorem hp_al {xa : mm_Xa} {h : hp} {cr : Nat → Nat → Option Nat} {k n i : Nat} {a : Int} (hk : k < md_nW) (hs : md_sh k = .inl (1, n)) (ha : a = (i : Int)) (hi : i < n) (hn : n ≤ 2147483647) : mm_aget xa (hp_w h cr) k (Int32.ofInt a) = some (1, .long (Int64.ofInt (h k i))) := by
  subst ha
  obtain ⟨e1, e2⟩ := hp_ib hi hn
  unfold mm_aget
  rw [if_pos (by unfold md_nW at hk; unfold mm_XB; omega), hp_get h cr hk]
  unfold hp_o
  rw [hs]
  dsimp only
  rw [if_pos rfl]
  dsimp only
  rw [if_pos e1, e2]
theorem hp_pi {h : hp} {cr : Nat → Nat → Option Nat} {k n i : Nat} {a x : Int} (hk : k < md_nW) (hs : md_sh k = .inl (0, n)) (ha : a = (i : Int)) (hi : i < n) (hn : n ≤ 2147483647) : mm_aputi (hp_w h cr) k (Int32.ofInt a) (Int32.ofInt x) = some (0, hp_w (hp_u h k i x) cr) := by
  subst ha
  obtain ⟨e1, e2⟩ := hp_ib hi hn
  unfold mm_aputi
  rw [hp_get h cr hk]
  have ho : ∀ h' : hp, hp_o h' cr k = .inl (0, n, .inl (fun i => Int32.ofInt (h' k i))) := fun h' => by
    unfold hp_o
    rw [hs]
    rfl
  rw [ho]
  dsimp only
  rw [if_pos e1, e2]
  have e : (.inl (0, n, .inl (upd (fun i => Int32.ofInt (h k i)) i (mm_nar 0 (Int32.ofInt x)))) : va_E) = hp_o (hp_u h k i x) cr k := by
    rw [ho]
    have ef : upd (fun i => Int32.ofInt (h k i)) i (mm_nar 0 (Int32.ofInt x)) = fun q => Int32.ofInt (hp_u h k i x k q) := by
      funext q
      unfold upd
      by_cases hq : q = i
      · subst hq
        rw [hp_uk]
        simp [mm_nar]
      · rw [hp_un (Or.inr hq)]
        simp [hq]
    rw [ef]
  rw [e, hp_set h (hp_u h k i x) cr (fun a ha i => hp_un (Or.inl ha))]
theorem hp_pl {h : hp} {cr : Nat → Nat → Option Nat} {k n i : Nat} {a x : Int} (hk : k < md_nW) (hs : md_sh k = .inl (1, n)) (ha : a = (i : Int)) (hi : i < n) (hn : n ≤ 2147483647) : mm_aputl (hp_w h cr) k (Int32.ofInt a) (Int64.ofInt x) = some (1, hp_w (hp_u h k i x) cr) := by
  subst ha
  obtain ⟨e1, e2⟩ := hp_ib hi hn
  unfold mm_aputl
  rw [hp_get h cr hk]
  have ho : ∀ h' : hp, hp_o h' cr k = .inl (1, n, .inr (.inl (fun i => Int64.ofInt (h' k i)))) := fun h' => by
    unfold hp_o
    rw [hs]
    rfl
  rw [ho]
  dsimp only
  rw [if_pos e1, e2]
  have e : (.inl (1, n, .inr (.inl (vp_updL (fun i => Int64.ofInt (h k i)) i (Int64.ofInt x)))) : va_E) = hp_o (hp_u h k i x) cr k := by
    rw [ho]
    have ef : vp_updL (fun i => Int64.ofInt (h k i)) i (Int64.ofInt x) = fun q => Int64.ofInt (hp_u h k i x k q) := by
      funext q
      unfold vp_updL
      by_cases hq : q = i
      · subst hq
        rw [hp_uk]
        simp
      · rw [hp_un (Or.inr hq)]
        simp [hq]
    rw [ef]
  rw [e, hp_set h (hp_u h k i x) cr (fun a ha i => hp_un (Or.inl ha))]
abbrev vi (e : Int) : Value := .int (Int32.ofInt e)
abbrev vl (e : Int) : Value := .long (Int64.ofInt e)
theorem ii_any (x : Int32) : ∃ e : Int, x = Int32.ofInt e ∧ -2147483648 ≤ e ∧ e ≤ 2147483647 := ⟨x.toInt, (Int32.ofInt_toInt x).symm, Int32.le_toInt x, by have := Int32.toInt_lt x; omega⟩
section WI
variable {xa : mm_Xa} {d j pc nx r1 r2 r3 : Nat} {lo : List (Nat × Value)} {st : List Value} {W : mm_W} {b c : Nat} {Q : Option Value ⊕ Nat → mm_W → Nat → Nat → Prop} {h : hp} {cr : Nat → Nat → Option Nat}
theorem wi_iconst {n : Int} (hc : md_cd j pc = some (.iconst n, nx, r1, r2, r3))  (k : wp xa d j (nx, lo, vi n :: st, W, b, c) Q) : wp xa d j (pc, lo, st, W, b, c) Q :=
  wp.step (by simp only [mm_step, hc, mm_stepI]) k
theorem wi_bipush {n : Int} (hc : md_cd j pc = some (.bipush n, nx, r1, r2, r3)) (hn : (Int8.ofInt n).toInt32 = Int32.ofInt n) (k : wp xa d j (nx, lo, vi n :: st, W, b, c) Q) : wp xa d j (pc, lo, st, W, b, c) Q :=
  wp.step (by simp only [mm_step, hc, mm_stepI, hn]) k
theorem wi_sipush {n : Int} (hc : md_cd j pc = some (.sipush n, nx, r1, r2, r3)) (hn : (Int16.ofInt n).toInt32 = Int32.ofInt n) (k : wp xa d j (nx, lo, vi n :: st, W, b, c) Q) : wp xa d j (pc, lo, st, W, b, c) Q :=
  wp.step (by simp only [mm_step, hc, mm_stepI, hn]) k
theorem wi_lconst {n : Fin 2} {e : Int} (hc : md_cd j pc = some (.lconst n, nx, r1, r2, r3)) (hn : Int64.ofNat (n : Nat) = Int64.ofInt e) (k : wp xa d j (nx, lo, vl e :: st, W, b, c) Q) : wp xa d j (pc, lo, st, W, b, c) Q :=
  wp.step (by simp only [mm_step, hc, mm_stepI, hn]) k
theorem wi_ldc {n : Nat} {e : Int} (hc : md_cd j pc = some (.ldc n, nx, r1, r2, r3)) (h1 : r1 = 0) (hn : Int32.ofNat r2 = Int32.ofInt e) (k : wp xa d j (nx, lo, vi e :: st, W, b, c) Q) : wp xa d j (pc, lo, st, W, b, c) Q :=
  wp.step (by simp only [mm_step, hc, mm_stepI, h1, if_true, hn]) k
theorem wi_ldc_w {n : Nat} {e : Int} (hc : md_cd j pc = some (.ldc_w n, nx, r1, r2, r3)) (hn : Int32.ofNat r2 = Int32.ofInt e) (k : wp xa d j (nx, lo, vi e :: st, W, b, c) Q) : wp xa d j (pc, lo, st, W, b, c) Q :=
  wp.step (by simp only [mm_step, hc, mm_stepI, hn]) k
theorem wi_ldc2_w {n : Nat} {e : Int} (hc : md_cd j pc = some (.ldc2_w n, nx, r1, r2, r3)) (hn : Int64.ofNat r1 = Int64.ofInt e) (k : wp xa d j (nx, lo, vl e :: st, W, b, c) Q) : wp xa d j (pc, lo, st, W, b, c) Q :=
  wp.step (by simp only [mm_step, hc, mm_stepI, hn]) k
theorem wi_iload {i : Nat} {e : Int} (hc : md_cd j pc = some (.iload i, nx, r1, r2, r3)) (hg : mm_get lo i = some (vi e)) (k : wp xa d j (nx, lo, vi e :: st, W, b, c) Q) : wp xa d j (pc, lo, st, W, b, c) Q :=
  wp.step (by simp only [mm_step, hc, mm_stepI, hg]) k
theorem wi_iload_n {i : Fin 4} {e : Int} (hc : md_cd j pc = some (.iload_n i, nx, r1, r2, r3)) (hg : mm_get lo i = some (vi e)) (k : wp xa d j (nx, lo, vi e :: st, W, b, c) Q) : wp xa d j (pc, lo, st, W, b, c) Q :=
  wp.step (by simp only [mm_step, hc, mm_stepI, hg]) k
theorem wi_lload {i : Nat} {e : Int} (hc : md_cd j pc = some (.lload i, nx, r1, r2, r3)) (hg : mm_get lo i = some (vl e)) (k : wp xa d j (nx, lo, vl e :: st, W, b, c) Q) : wp xa d j (pc, lo, st, W, b, c) Q :=
  wp.step (by simp only [mm_step, hc, mm_stepI, hg]) k
theorem wi_lload_n {i : Fin 4} {e : Int} (hc : md_cd j pc = some (.lload_n i, nx, r1, r2, r3)) (hg : mm_get lo i = some (vl e)) (k : wp xa d j (nx, lo, vl e :: st, W, b, c) Q) : wp xa d j (pc, lo, st, W, b, c) Q :=
  wp.step (by simp only [mm_step, hc, mm_stepI, hg]) k
theorem wi_aload {i : Nat} {x : Nat} (hc : md_cd j pc = some (.aload i, nx, r1, r2, r3)) (hg : mm_get lo i = some (.ref x)) (k : wp xa d j (nx, lo, .ref x :: st, W, b, c) Q) : wp xa d j (pc, lo, st, W, b, c) Q :=
  wp.step (by simp only [mm_step, hc, mm_stepI, hg]) k
theorem wi_aload_n {i : Fin 4} {x : Nat} (hc : md_cd j pc = some (.aload_n i, nx, r1, r2, r3)) (hg : mm_get lo i = some (.ref x)) (k : wp xa d j (nx, lo, .ref x :: st, W, b, c) Q) : wp xa d j (pc, lo, st, W, b, c) Q :=
  wp.step (by simp only [mm_step, hc, mm_stepI, hg]) k
theorem wi_istore {i : Nat} {e : Int} {lo2 : List (Nat × Value)} (hc : md_cd j pc = some (.istore i, nx, r1, r2, r3)) (hl : mm_sto lo i (vi e) = lo2) (k : wp xa d j (nx, lo2, st, W, b, c) Q) : wp xa d j (pc, lo, vi e :: st, W, b, c) Q :=
  wp.step (by simp only [mm_step, hc, mm_stepI, hl]) k
theorem wi_istore_n {i : Fin 4} {e : Int} {lo2 : List (Nat × Value)} (hc : md_cd j pc = some (.istore_n i, nx, r1, r2, r3)) (hl : mm_sto lo i (vi e) = lo2) (k : wp xa d j (nx, lo2, st, W, b, c) Q) : wp xa d j (pc, lo, vi e :: st, W, b, c) Q :=
  wp.step (by simp only [mm_step, hc, mm_stepI, hl]) k
theorem wi_lstore {i : Nat} {e : Int} {lo2 : List (Nat × Value)} (hc : md_cd j pc = some (.lstore i, nx, r1, r2, r3)) (hl : mm_stl lo i (vl e) = lo2) (k : wp xa d j (nx, lo2, st, W, b, c) Q) : wp xa d j (pc, lo, vl e :: st, W, b, c) Q :=
  wp.step (by simp only [mm_step, hc, mm_stepI, hl]) k
theorem wi_lstore_n {i : Fin 4} {e : Int} {lo2 : List (Nat × Value)} (hc : md_cd j pc = some (.lstore_n i, nx, r1, r2, r3)) (hl : mm_stl lo i (vl e) = lo2) (k : wp xa d j (nx, lo2, st, W, b, c) Q) : wp xa d j (pc, lo, vl e :: st, W, b, c) Q :=
  wp.step (by simp only [mm_step, hc, mm_stepI, hl]) k
theorem wi_astore {i : Nat} {x : Nat} {lo2 : List (Nat × Value)} (hc : md_cd j pc = some (.astore i, nx, r1, r2, r3)) (hl : mm_sto lo i (.ref x) = lo2) (k : wp xa d j (nx, lo2, st, W, b, c) Q) : wp xa d j (pc, lo, .ref x :: st, W, b, c) Q :=
  wp.step (by simp only [mm_step, hc, mm_stepI, hl]) k
theorem wi_astore_n {i : Fin 4} {x : Nat} {lo2 : List (Nat × Value)} (hc : md_cd j pc = some (.astore_n i, nx, r1, r2, r3)) (hl : mm_sto lo i (.ref x) = lo2) (k : wp xa d j (nx, lo2, st, W, b, c) Q) : wp xa d j (pc, lo, .ref x :: st, W, b, c) Q :=
  wp.step (by simp only [mm_step, hc, mm_stepI, hl]) k
theorem wi_iinc {i : Nat} {n e : Int} {lo2 : List (Nat × Value)} (hc : md_cd j pc = some (.iinc i n, nx, r1, r2, r3)) (hg : mm_get lo i = some (vi e)) (hl : mm_sto lo i (vi (e + n)) = lo2) (k : wp xa d j (nx, lo2, st, W, b, c) Q) : wp xa d j (pc, lo, st, W, b, c) Q :=
  wp.step (by simp only [mm_step, hc, mm_stepI, hg, ii_add, hl]) k
theorem wi_dup {v : Value} (hc : md_cd j pc = some (.dup, nx, r1, r2, r3)) (hv : v.category = 1) (k : wp xa d j (nx, lo, v :: v :: st, W, b, c) Q) : wp xa d j (pc, lo, v :: st, W, b, c) Q :=
  wp.step (by simp only [mm_step, hc, mm_stepI, hv, if_true]) k
theorem wi_pop {v : Value} (hc : md_cd j pc = some (.pop, nx, r1, r2, r3)) (hv : v.category = 1) (k : wp xa d j (nx, lo, st, W, b, c) Q) : wp xa d j (pc, lo, v :: st, W, b, c) Q :=
  wp.step (by simp only [mm_step, hc, mm_stepI, hv, if_true]) k
theorem wi_dup2 {v w : Value} (hc : md_cd j pc = some (.dup2, nx, r1, r2, r3)) (hv : v.category = 1) (hw : w.category = 1) (k : wp xa d j (nx, lo, v :: w :: v :: w :: st, W, b, c) Q) : wp xa d j (pc, lo, v :: w :: st, W, b, c) Q :=
  wp.step (by simp only [mm_step, hc, mm_stepI, hv, hw, and_self, if_true]) k
theorem wi_iadd {y x : Int} (hc : md_cd j pc = some (.iadd, nx, r1, r2, r3))  (k : wp xa d j (nx, lo, vi (x + y) :: st, W, b, c) Q) : wp xa d j (pc, lo, vi y :: vi x :: st, W, b, c) Q :=
  wp.step (by simp only [mm_step, hc, mm_stepI, ii_add]) k
theorem wi_isub {y x : Int} (hc : md_cd j pc = some (.isub, nx, r1, r2, r3))  (k : wp xa d j (nx, lo, vi (x - y) :: st, W, b, c) Q) : wp xa d j (pc, lo, vi y :: vi x :: st, W, b, c) Q :=
  wp.step (by simp only [mm_step, hc, mm_stepI, ii_sub]) k
theorem wi_imul {y x : Int} (hc : md_cd j pc = some (.imul, nx, r1, r2, r3))  (k : wp xa d j (nx, lo, vi (x * y) :: st, W, b, c) Q) : wp xa d j (pc, lo, vi y :: vi x :: st, W, b, c) Q :=
  wp.step (by simp only [mm_step, hc, mm_stepI, ii_mul]) k
theorem wi_iand {y x : Int32} {e : Int} (hc : md_cd j pc = some (.iand, nx, r1, r2, r3)) (he : x &&& y = Int32.ofInt e) (k : wp xa d j (nx, lo, vi e :: st, W, b, c) Q) : wp xa d j (pc, lo, .int y :: .int x :: st, W, b, c) Q :=
  wp.step (by simp only [mm_step, hc, mm_stepI, he]) k
theorem wi_ior {y x : Int32} {e : Int} (hc : md_cd j pc = some (.ior, nx, r1, r2, r3)) (he : x ||| y = Int32.ofInt e) (k : wp xa d j (nx, lo, vi e :: st, W, b, c) Q) : wp xa d j (pc, lo, .int y :: .int x :: st, W, b, c) Q :=
  wp.step (by simp only [mm_step, hc, mm_stepI, he]) k
theorem wi_ixor {y x : Int32} {e : Int} (hc : md_cd j pc = some (.ixor, nx, r1, r2, r3)) (he : x ^^^ y = Int32.ofInt e) (k : wp xa d j (nx, lo, vi e :: st, W, b, c) Q) : wp xa d j (pc, lo, .int y :: .int x :: st, W, b, c) Q :=
  wp.step (by simp only [mm_step, hc, mm_stepI, he]) k
theorem wi_ishl {y x : Int32} {e : Int} (hc : md_cd j pc = some (.ishl, nx, r1, r2, r3)) (he : x <<< (y &&& 31) = Int32.ofInt e) (k : wp xa d j (nx, lo, vi e :: st, W, b, c) Q) : wp xa d j (pc, lo, .int y :: .int x :: st, W, b, c) Q :=
  wp.step (by simp only [mm_step, hc, mm_stepI, he]) k
theorem wi_ishr {y x : Int32} {e : Int} (hc : md_cd j pc = some (.ishr, nx, r1, r2, r3)) (he : x >>> (y &&& 31) = Int32.ofInt e) (k : wp xa d j (nx, lo, vi e :: st, W, b, c) Q) : wp xa d j (pc, lo, .int y :: .int x :: st, W, b, c) Q :=
  wp.step (by simp only [mm_step, hc, mm_stepI, he]) k
theorem wi_idiv {y x : Int32} {e : Int} (hc : md_cd j pc = some (.idiv, nx, r1, r2, r3)) (hy : ¬ y = 0) (he : x / y = Int32.ofInt e) (k : wp xa d j (nx, lo, vi e :: st, W, b, c) Q) : wp xa d j (pc, lo, .int y :: .int x :: st, W, b, c) Q :=
  wp.step (by simp only [mm_step, hc, mm_stepI, hy, he, if_false]) k
theorem wi_irem {y x : Int32} {e : Int} (hc : md_cd j pc = some (.irem, nx, r1, r2, r3)) (hy : ¬ y = 0) (he : x - x / y * y = Int32.ofInt e) (k : wp xa d j (nx, lo, vi e :: st, W, b, c) Q) : wp xa d j (pc, lo, .int y :: .int x :: st, W, b, c) Q :=
  wp.step (by simp only [mm_step, hc, mm_stepI, hy, he, if_false]) k
theorem wi_if {cd : Jvm.ClassFile.Cond} {off x : Int} (hc : md_cd j pc = some (.ifCond cd off, nx, r1, r2, r3)) (hx : (-2147483648 ≤ x ∧ x ≤ 2147483647)) (kt : ii_c cd x 0 → wp xa d j (r1, lo, st, W, b, c) Q) (kf : ¬ ii_c cd x 0 → wp xa d j (nx, lo, st, W, b, c) Q) : wp xa d j (pc, lo, vi x :: st, W, b, c) Q := by
  have hz := ii_cmp cd hx.1 hx.2 (b := 0) (by decide) (by decide)
  have h0 : Int32.ofInt 0 = 0 := rfl
  rw [h0] at hz
  by_cases hh : ii_c cd x 0
  · exact wp.step (F' := (r1, lo, st, W, b, c)) (by simp only [mm_step, hc, mm_stepI, hz.mpr hh, if_true]) (kt hh)
  · have hf : mm_cmp cd (Int32.ofInt x) 0 = false := by
      cases hb : mm_cmp cd (Int32.ofInt x) 0 with
      | false => rfl
      | true => exact absurd (hz.mp hb) hh
    exact wp.step (F' := (nx, lo, st, W, b, c)) (by simp only [mm_step, hc, mm_stepI, hf]; rfl) (kf hh)
theorem wi_icmp {cd : Jvm.ClassFile.Cond} {off x y : Int} (hc : md_cd j pc = some (.if_icmp cd off, nx, r1, r2, r3)) (hx : (-2147483648 ≤ x ∧ x ≤ 2147483647)) (hy : (-2147483648 ≤ y ∧ y ≤ 2147483647)) (kt : ii_c cd x y → wp xa d j (r1, lo, st, W, b, c) Q) (kf : ¬ ii_c cd x y → wp xa d j (nx, lo, st, W, b, c) Q) : wp xa d j (pc, lo, vi y :: vi x :: st, W, b, c) Q := by
  have hz := ii_cmp cd hx.1 hx.2 hy.1 hy.2
  by_cases hh : ii_c cd x y
  · exact wp.step (F' := (r1, lo, st, W, b, c)) (by simp only [mm_step, hc, mm_stepI, hz.mpr hh, if_true]) (kt hh)
  · have hf : mm_cmp cd (Int32.ofInt x) (Int32.ofInt y) = false := by
      cases hb : mm_cmp cd (Int32.ofInt x) (Int32.ofInt y) with
      | false => rfl
      | true => exact absurd (hz.mp hb) hh
    exact wp.step (F' := (nx, lo, st, W, b, c)) (by simp only [mm_step, hc, mm_stepI, hf]; rfl) (kf hh)
theorem wi_goto {off : Int} (hc : md_cd j pc = some (.goto off, nx, r1, r2, r3))  (k : wp xa d j (r1, lo, st, W, b, c) Q) : wp xa d j (pc, lo, st, W, b, c) Q :=
  wp.step (by simp only [mm_step, hc, mm_stepI]) k
theorem wi_getf {i k0 : Nat} {v : Value} (hc : md_cd j pc = some (.getfield i, nx, r1, r2, r3)) (h3 : r3 = 0) (hk : k0 < mm_XB) (hv : mm_getf (hp_w h cr) k0 r1 r2 = some v) (k : wp xa d j (nx, lo, v :: st, hp_w h cr, b, c) Q) : wp xa d j (pc, lo, .ref k0 :: st, hp_w h cr, b, c) Q :=
  wp.step (by simp only [mm_step, hc, mm_stepI, h3, hk, hv, if_true, Option.map_some]) k
theorem wi_putf {i k0 : Nat} {v : Value} {h2 : hp} (hc : md_cd j pc = some (.putfield i, nx, r1, r2, r3)) (hk : k0 < mm_XB) (hv : mm_put (hp_w h cr) k0 r1 r2 r3 v = some (hp_w h2 cr)) (k : wp xa d j (nx, lo, st, hp_w h2 cr, b, c) Q) : wp xa d j (pc, lo, v :: .ref k0 :: st, hp_w h cr, b, c) Q :=
  wp.step (by simp only [mm_step, hc, mm_stepI, hk, hv, if_true, Option.map_some]) k
theorem wi_iaload {i : Int32} {k0 : Nat} {v : Value} (hc : md_cd j pc = some (.iaload, nx, r1, r2, r3)) (hg : mm_aget xa W k0 i = some (0, v)) (k : wp xa d j (nx, lo, v :: st, W, b, c) Q) : wp xa d j (pc, lo, .int i :: .ref k0 :: st, W, b, c) Q :=
  wp.step (by simp only [mm_step, hc, mm_stepI, hg, if_true]) k
theorem wi_baload {i : Int32} {k0 t : Nat} {v : Value} (hc : md_cd j pc = some (.baload, nx, r1, r2, r3)) (hg : mm_aget xa W k0 i = some (t, v)) (ht : t = 2 ∨ t = 3) (k : wp xa d j (nx, lo, v :: st, W, b, c) Q) : wp xa d j (pc, lo, .int i :: .ref k0 :: st, W, b, c) Q :=
  wp.step (by simp only [mm_step, hc, mm_stepI, hg, ht, if_true]) k
theorem wi_laload {i : Int32} {k0 : Nat} {v : Value} (hc : md_cd j pc = some (.laload, nx, r1, r2, r3)) (hg : mm_aget xa W k0 i = some (1, v)) (k : wp xa d j (nx, lo, v :: st, W, b, c) Q) : wp xa d j (pc, lo, .int i :: .ref k0 :: st, W, b, c) Q :=
  wp.step (by simp only [mm_step, hc, mm_stepI, hg, if_true]) k
theorem wi_aaload {i : Int32} {k0 t : Nat} {v : Value} (hc : md_cd j pc = some (.aaload, nx, r1, r2, r3)) (hg : mm_aget xa W k0 i = some (t, v)) (ht : 4 ≤ t) (k : wp xa d j (nx, lo, v :: st, W, b, c) Q) : wp xa d j (pc, lo, .int i :: .ref k0 :: st, W, b, c) Q :=
  wp.step (by simp only [mm_step, hc, mm_stepI, hg, ht, if_true]) k
theorem wi_iastore {x i : Int32} {k0 : Nat} {W2 : mm_W} (hc : md_cd j pc = some (.iastore, nx, r1, r2, r3)) (hk : k0 < mm_XB) (hg : mm_aputi W k0 i x = some (0, W2)) (k : wp xa d j (nx, lo, st, W2, b, c) Q) : wp xa d j (pc, lo, .int x :: .int i :: .ref k0 :: st, W, b, c) Q :=
  wp.step (by simp only [mm_step, hc, mm_stepI, hk, hg, if_true]) k
theorem wi_bastore {x i : Int32} {k0 t : Nat} {W2 : mm_W} (hc : md_cd j pc = some (.bastore, nx, r1, r2, r3)) (hk : k0 < mm_XB) (hg : mm_aputi W k0 i x = some (t, W2)) (ht : t = 2 ∨ t = 3) (k : wp xa d j (nx, lo, st, W2, b, c) Q) : wp xa d j (pc, lo, .int x :: .int i :: .ref k0 :: st, W, b, c) Q :=
  wp.step (by simp only [mm_step, hc, mm_stepI, hk, hg, ht, if_true]) k
theorem wi_alen {k0 n : Nat} (hc : md_cd j pc = some (.arraylength, nx, r1, r2, r3)) (hg : mm_alen xa W k0 = some n) (k : wp xa d j (nx, lo, vi n :: st, W, b, c) Q) : wp xa d j (pc, lo, .ref k0 :: st, W, b, c) Q :=
  wp.step (by simp only [mm_step, hc, mm_stepI, hg, Option.map_some]; rfl) k
theorem wi_ireturn {e : Int} (hc : md_cd j pc = some (.ireturn, nx, r1, r2, r3)) (ht : (md_mt j).2.2.2.1 = some .int) (k : Q (.inl (some (vi e))) W b c) : wp xa d j (pc, lo, [vi e], W, b, c) Q :=
  wp.done (by simp only [mm_step, hc, mm_stepI, ht]; exact if_pos rfl) k
theorem wi_zreturn {e : Int} (hc : md_cd j pc = some (.ireturn, nx, r1, r2, r3)) (ht : (md_mt j).2.2.2.1 = some .boolean) (he : e = 0 ∨ e = 1) (k : Q (.inl (some (vi e))) W b c) : wp xa d j (pc, lo, [vi e], W, b, c) Q := by
  rcases he with rfl | rfl
  · exact wp.done (by simp only [mm_step, hc, mm_stepI, ht]; rfl) k
  · exact wp.done (by simp only [mm_step, hc, mm_stepI, ht]; rfl) k
theorem wi_return (hc : md_cd j pc = some (.return_, nx, r1, r2, r3)) (ht : (md_mt j).2.2.2.1 = none) (k : Q (.inl none) W b c) : wp xa d j (pc, lo, [], W, b, c) Q :=
  wp.done (by simp only [mm_step, hc, mm_stepI, ht, if_true]) k
theorem wi_throw {i : Nat} (hc : md_cd j pc = some (.new i, nx, r1, r2, r3)) (h3 : ¬ r3 = 0) (hr : 1 ≤ b ∧ 6 ≤ c ∧ (st.map fun v => v.category).sum ≤ 8) (k : Q (.inr r1) W (b - 1) (c - 6)) : wp xa d j (pc, lo, st, W, b, c) Q :=
  wp.done (by simp only [mm_step, hc, mm_stepI, if_neg h3, if_pos hr]) k
theorem wi_V {i k0 n : Nat} {rest as : List Value} (hc : md_cd j pc = some (.invokevirtual i, nx, r1, r2, r3)) (hk : r2 / 16 = 0) (hn : r2 % 16 = n) (hl : ¬ st.length < n) (hd : st.drop n = .ref k0 :: rest) (has : .ref k0 :: (st.take n).reverse = as) (hcls : mm_cls W k0 = some r3) (hs : (rest.map fun v => v.category).sum ≤ 8) (hL : ¬ (md_mt r1).2.2.1 < (as.map fun v => v.category).sum)
    (k : wp xa d r1 (0, lv_args 0 as, [], W, b, c) (wp_k xa d j pc nx lo rest true Q)) : wp xa (d + 1) j (pc, lo, st, W, b, c) Q :=
  wp.call (j' := r1) (as := as) (nx := nx) (fl := true) (G := (pc, lo, rest, W, b, c)) (by simp only [mm_step, hc, mm_stepI, mm_call, hn, hl, if_false, hk, hd, hcls, hs, has, and_self, if_true]) hL k
theorem wi_S {i n : Nat} {rest as : List Value} (hc : md_cd j pc = some (.invokestatic i, nx, r1, r2, r3)) (hk : r2 / 16 = 1) (hn : r2 % 16 = n) (hl : ¬ st.length < n) (hd : st.drop n = rest) (has : (st.take n).reverse = as) (hs : (rest.map fun v => v.category).sum ≤ 8) (hL : ¬ (md_mt r1).2.2.1 < (as.map fun v => v.category).sum)
    (k : wp xa d r1 (0, lv_args 0 as, [], W, b, c) (wp_k xa d j pc nx lo rest true Q)) : wp xa (d + 1) j (pc, lo, st, W, b, c) Q :=
  wp.call (j' := r1) (as := as) (nx := nx) (fl := true) (G := (pc, lo, rest, W, b, c)) (by simp only [mm_step, hc, mm_stepI, mm_call, hn, hl, if_false, hk, hd, hs, has, if_true]) hL k

theorem ll_r {a : Int} (h1 : -9223372036854775808 ≤ a) (h2 : a ≤ 9223372036854775807) : (Int64.ofInt a).toInt = a := Int64.toInt_ofInt_of_le (by omega) (by omega)
theorem ll_cmp {a b : Int} (a1 : -9223372036854775808 ≤ a) (a2 : a ≤ 9223372036854775807) (b1 : -9223372036854775808 ≤ b) (b2 : b ≤ 9223372036854775807) : (lg_cmp (Int64.ofInt a) (Int64.ofInt b) = Int32.ofInt (-1) ∧ a < b) ∨ (lg_cmp (Int64.ofInt a) (Int64.ofInt b) = Int32.ofInt 0 ∧ a = b) ∨ (lg_cmp (Int64.ofInt a) (Int64.ofInt b) = Int32.ofInt 1 ∧ b < a) := by
  have ea := ll_r a1 a2
  have eb := ll_r b1 b2
  unfold lg_cmp
  by_cases h1 : Int64.ofInt a > Int64.ofInt b
  · rw [if_pos h1]
    have h2 : (Int64.ofInt b).toInt < (Int64.ofInt a).toInt := Int64.lt_iff_toInt_lt.mp h1
    rw [ea, eb] at h2
    exact Or.inr (Or.inr ⟨rfl, h2⟩)
  · rw [if_neg h1]
    have h2 : ¬ b < a := fun hh => h1 (Int64.lt_iff_toInt_lt.mpr (by rw [ea, eb]; exact hh))
    by_cases h3 : Int64.ofInt a = Int64.ofInt b
    · rw [if_pos h3]
      have h4 : (Int64.ofInt a).toInt = (Int64.ofInt b).toInt := by rw [h3]
      rw [ea, eb] at h4
      exact Or.inr (Or.inl ⟨rfl, h4⟩)
    · rw [if_neg h3]
      refine Or.inl ⟨rfl, ?_⟩
      have h4 : a ≠ b := fun hh => h3 (by rw [hh])
      omega
theorem wi_lcmp {a e : Int} (hc : md_cd j pc = some (.lcmp, nx, r1, r2, r3)) (ha : -9223372036854775808 ≤ a ∧ a ≤ 9223372036854775807) (he : -9223372036854775808 ≤ e ∧ e ≤ 9223372036854775807) (k : ∀ r : Int, (r = -1 ∧ a < e) ∨ (r = 0 ∧ a = e) ∨ (r = 1 ∧ e < a) → wp xa d j (nx, lo, vi r :: st, W, b, c) Q) : wp xa d j (pc, lo, vl e :: vl a :: st, W, b, c) Q := by
  rcases ll_cmp ha.1 ha.2 he.1 he.2 with ⟨h1, h2⟩ | ⟨h1, h2⟩ | ⟨h1, h2⟩
  · exact wp.step (by simp only [mm_step, hc, mm_stepI, h1]) (k (-1) (Or.inl ⟨rfl, h2⟩))
  · exact wp.step (by simp only [mm_step, hc, mm_stepI, h1]) (k 0 (Or.inr (Or.inl ⟨rfl, h2⟩)))
  · exact wp.step (by simp only [mm_step, hc, mm_stepI, h1]) (k 1 (Or.inr (Or.inr ⟨rfl, h2⟩)))
theorem ii_l {a : Int} (h1 : -2147483648 ≤ a) (h2 : a ≤ 2147483647) : (Int32.ofInt a).toInt64 = Int64.ofInt a := by
  have e1 := ts_l64 (Int32.ofInt a)
  rw [ii_r h1 h2] at e1
  have e2 := ll_r (a := a) (by omega) (by omega)
  exact Int64.toInt_inj.mp (by rw [e1, e2])
theorem wi_i2l {a : Int} (hc : md_cd j pc = some (.i2l, nx, r1, r2, r3)) (ha : (-2147483648 ≤ a ∧ a ≤ 2147483647)) (k : wp xa d j (nx, lo, vl a :: st, W, b, c) Q) : wp xa d j (pc, lo, vi a :: st, W, b, c) Q :=
  wp.step (by simp only [mm_step, hc, mm_stepI, ii_l ha.1 ha.2]) k
theorem wk_i {v : Value} {rest : List Value} {fl : Bool} (k : wp xa (d + 1) j (nx, lo, v :: rest, W, b, c) Q) : wp_k xa d j pc nx lo rest fl Q (.inl (some v)) W b c := k
theorem wk_n {rest : List Value} {fl : Bool} (k : wp xa (d + 1) j (nx, lo, rest, W, b, c) Q) : wp_k xa d j pc nx lo rest fl Q (.inl none) W b c := k
end WI

theorem ii_and (x : Int32) {m : Int} (h0 : 0 ≤ m) (h1 : m ≤ 2147483647) : ∃ e : Int, x &&& Int32.ofInt m = Int32.ofInt e ∧ 0 ≤ e ∧ e ≤ m := by
  have e1 : fx_u (x &&& Int32.ofInt m) = fx_u x &&& fx_u (Int32.ofInt m) := by
    rw [show fx_u (x &&& Int32.ofInt m) = (x.toBitVec &&& (Int32.ofInt m).toBitVec).toNat from rfl, BitVec.toNat_and]
    rfl
  have e2 := fx_toInt (Int32.ofInt m)
  rw [ii_r (by omega) h1] at e2
  have hlt := fx_u_lt (Int32.ofInt m)
  have e3 : (fx_u (Int32.ofInt m) : Int) = m := by
    split at e2 <;> omega
  have hle : fx_u (x &&& Int32.ofInt m) ≤ fx_u (Int32.ofInt m) := by
    rw [e1]
    exact Nat.and_le_right
  have e4 := fx_toInt (x &&& Int32.ofInt m)
  rw [if_pos (by omega)] at e4
  exact ⟨(x &&& Int32.ofInt m).toInt, (Int32.ofInt_toInt _).symm, by omega, by omega⟩
section WI
variable {xa : mm_Xa} {d j pc nx r1 r2 r3 : Nat} {lo : List (Nat × Value)} {st : List Value} {W : mm_W} {b c : Nat} {Q : Option Value ⊕ Nat → mm_W → Nat → Nat → Prop} {h : hp} {cr : Nat → Nat → Option Nat}
theorem wi_iandm {x : Int32} {m : Int} (hc : md_cd j pc = some (.iand, nx, r1, r2, r3)) (h0 : 0 ≤ m) (h1 : m ≤ 2147483647) (k : ∀ e : Int, 0 ≤ e ∧ e ≤ m → wp xa d j (nx, lo, vi e :: st, W, b, c) Q) : wp xa d j (pc, lo, vi m :: .int x :: st, W, b, c) Q := by
  obtain ⟨e, he, h2, h3⟩ := ii_and x h0 h1
  exact wi_iand hc he (k e ⟨h2, h3⟩)
theorem ll_any (x : Int64) : ∃ e : Int, x = Int64.ofInt e ∧ -9223372036854775808 ≤ e ∧ e ≤ 9223372036854775807 := ⟨x.toInt, (Int64.ofInt_toInt x).symm, Int64.le_toInt x, by have := Int64.toInt_lt x; omega⟩
theorem wi_lor_a {x y : Int64} (hc : md_cd j pc = some (.lor, nx, r1, r2, r3)) (k : ∀ e : Int, -9223372036854775808 ≤ e ∧ e ≤ 9223372036854775807 → wp xa d j (nx, lo, vl e :: st, W, b, c) Q) : wp xa d j (pc, lo, .long y :: .long x :: st, W, b, c) Q := by
  obtain ⟨e, he, h2, h3⟩ := ll_any (x ||| y)
  exact wp.step (by simp only [mm_step, hc, mm_stepI, he]) (k e ⟨h2, h3⟩)
theorem wi_lshl_a {y : Int32} {x : Int64} (hc : md_cd j pc = some (.lshl, nx, r1, r2, r3)) (k : ∀ e : Int, -9223372036854775808 ≤ e ∧ e ≤ 9223372036854775807 → wp xa d j (nx, lo, vl e :: st, W, b, c) Q) : wp xa d j (pc, lo, .int y :: .long x :: st, W, b, c) Q := by
  obtain ⟨e, he, h2, h3⟩ := ll_any (x <<< (y.toInt64 &&& 63))
  exact wp.step (by simp only [mm_step, hc, mm_stepI, he]) (k e ⟨h2, h3⟩)
theorem wi_ishr_a {x y : Int32} (hc : md_cd j pc = some (.ishr, nx, r1, r2, r3)) (k : ∀ e : Int, -2147483648 ≤ e ∧ e ≤ 2147483647 → wp xa d j (nx, lo, vi e :: st, W, b, c) Q) : wp xa d j (pc, lo, .int y :: .int x :: st, W, b, c) Q := by
  obtain ⟨e, he, h2, h3⟩ := ii_any (x >>> (y &&& 31))
  exact wi_ishr hc he (k e ⟨h2, h3⟩)
end WI
