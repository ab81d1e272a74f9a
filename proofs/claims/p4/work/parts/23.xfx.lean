/-! ===== the same machine, put so that it is computed fast ===== -/
noncomputable def g_get {α : Type} (l : List α) : Nat → Option α := List.rec (motive := fun _ => Nat → Option α) (fun _ => none) (fun h _ ih n => Nat.rec (motive := fun _ => Option α) (some h) (fun m _ => ih m) n) l
theorem g_get_eq {α : Type} : ∀ (l : List α) (k : Nat), g_get l k = l[k]?
  | [], _ => rfl
  | _ :: _, 0 => rfl
  | h :: t, k + 1 => by
    rw [List.getElem?_cons_succ]
    exact g_get_eq t k
noncomputable def g_set {α : Type} (l : List α) : Nat → α → List α := List.rec (motive := fun _ => Nat → α → List α) (fun _ _ => []) (fun h t ih n v => Nat.rec (motive := fun _ => List α) (v :: t) (fun m _ => h :: ih m v) n) l
theorem g_set_eq {α : Type} : ∀ (l : List α) (k : Nat) (v : α), g_set l k v = l.set k v
  | [], _, _ => rfl
  | _ :: _, 0, _ => rfl
  | h :: t, k + 1, v => by
    rw [List.set_cons_succ, ← g_set_eq t k v]
    rfl
noncomputable def g_sum (l : List Value) : Nat := List.rec (motive := fun _ => Nat) 0 (fun v _ ih => Nat.add v.category ih) l
theorem g_sum_eq : ∀ l : List Value, g_sum l = (l.map fun v => v.category).sum
  | [] => rfl
  | v :: l => by
    rw [List.map_cons, List.sum_cons, ← g_sum_eq l]
    rfl
noncomputable def g_pop (n : Nat) : List Value → List Value → Option (List Value × List Value) := Nat.rec (motive := fun _ => List Value → List Value → Option (List Value × List Value)) (fun st acc => some (acc, st)) (fun _ ih st acc => List.rec (motive := fun _ => Option (List Value × List Value)) none (fun v t _ => ih t (v :: acc)) st) n
theorem g_pop_eq : ∀ (n : Nat) (st acc : List Value), g_pop n st acc = if st.length < n then none else some ((st.take n).reverse ++ acc, st.drop n)
  | 0, st, acc => by
    rw [if_neg (Nat.not_lt_zero _)]
    rfl
  | n + 1, [], acc => by
    rw [if_pos (by simp)]
    rfl
  | n + 1, v :: st, acc => by
    show g_pop n st (v :: acc) = _
    rw [g_pop_eq n st (v :: acc)]
    by_cases h : st.length < n
    · rw [if_pos h, if_pos (by simp only [List.length_cons]; omega)]
    · rw [if_neg h, if_neg (by simp only [List.length_cons]; omega), List.take_succ_cons, List.drop_succ_cons, List.reverse_cons, List.append_assoc]
      rfl
def fx_u (x : Int32) : Nat := x.toUInt32.toBitVec.toFin.val
def fx_fi (n : Nat) : Int32 := ⟨⟨⟨⟨Nat.mod n 4294967296, Nat.mod_lt n (by decide)⟩⟩⟩⟩
theorem fx_u_eq (x : Int32) : fx_u x = x.toBitVec.toNat := rfl
theorem fx_u_lt (x : Int32) : fx_u x < 4294967296 := x.toUInt32.toBitVec.toFin.isLt
theorem fx_u_fi (n : Nat) : fx_u (fx_fi n) = n % 4294967296 := rfl
theorem fx_u_inj {x y : Int32} (h : fx_u x = fx_u y) : x = y := by
  apply Int32.toBitVec_inj.mp
  exact BitVec.eq_of_toNat_eq h
theorem fx_fi_u (x : Int32) : fx_fi (fx_u x) = x := fx_u_inj (by rw [fx_u_fi, Nat.mod_eq_of_lt (fx_u_lt x)])
theorem fx_toInt (x : Int32) : x.toInt = if fx_u x < 2147483648 then (fx_u x : Int) else (fx_u x : Int) - 4294967296 := by
  have h : x.toInt = x.toBitVec.toInt := rfl
  rw [h, BitVec.toInt_eq_toNat_cond, fx_u_eq]
  by_cases h2 : 2 * x.toBitVec.toNat < 2 ^ 32
  · rw [if_pos h2, if_pos (by omega)]
  · rw [if_neg h2, if_neg (by omega)]
    rfl
def fx_sg (n : Nat) : Nat := Nat.mod (Nat.add n 2147483648) 4294967296
theorem fx_sg_eq (x : Int32) : (fx_sg (fx_u x) : Int) = x.toInt + 2147483648 := by
  have h := fx_u_lt x
  rw [fx_toInt]
  show (((fx_u x + 2147483648) % 4294967296 : Nat) : Int) = _
  split <;> omega
def fx_lt (x y : Int32) : Bool := Nat.blt (fx_sg (fx_u x)) (fx_sg (fx_u y))
def fx_le (x y : Int32) : Bool := Nat.ble (fx_sg (fx_u x)) (fx_sg (fx_u y))
theorem fx_lt_eq (x y : Int32) : fx_lt x y = decide (x < y) := by
  have h1 := fx_sg_eq x
  have h2 := fx_sg_eq y
  have e1 : x < y ↔ x.toInt < y.toInt := Int32.lt_iff_toInt_lt
  unfold fx_lt
  by_cases h : x < y
  · rw [decide_eq_true h]
    have := e1.mp h
    exact Nat.ble_eq.mpr (by show fx_sg (fx_u x) + 1 ≤ _; omega)
  · rw [decide_eq_false h]
    cases hb : Nat.blt (fx_sg (fx_u x)) (fx_sg (fx_u y)) with
    | false => rfl
    | true =>
      have h3 : fx_sg (fx_u x) + 1 ≤ fx_sg (fx_u y) := Nat.ble_eq.mp hb
      exact absurd (e1.mpr (by omega)) h
theorem fx_le_eq (x y : Int32) : fx_le x y = decide (x ≤ y) := by
  have h1 := fx_sg_eq x
  have h2 := fx_sg_eq y
  have e1 : x ≤ y ↔ x.toInt ≤ y.toInt := Int32.le_iff_toInt_le
  unfold fx_le
  by_cases h : x ≤ y
  · rw [decide_eq_true h]
    have := e1.mp h
    exact Nat.ble_eq.mpr (by omega)
  · rw [decide_eq_false h]
    cases hb : Nat.ble (fx_sg (fx_u x)) (fx_sg (fx_u y)) with
    | false => rfl
    | true =>
      have h3 : fx_sg (fx_u x) ≤ fx_sg (fx_u y) := Nat.ble_eq.mp hb
      exact absurd (e1.mpr (by omega)) h
theorem fx_beq_eq (x y : Int32) : Nat.beq (fx_u x) (fx_u y) = decide (x = y) := by
  cases h : Nat.beq (fx_u x) (fx_u y) with
  | true => rw [decide_eq_true (fx_u_inj (Nat.eq_of_beq_eq_true h))]
  | false => rw [decide_eq_false (fun e => Nat.ne_of_beq_eq_false h (by rw [e]))]
def fx_cmp : Jvm.ClassFile.Cond → Int32 → Int32 → Bool
  | .eq, x, y => Nat.beq (fx_u x) (fx_u y)
  | .ne, x, y => !Nat.beq (fx_u x) (fx_u y)
  | .lt, x, y => fx_lt x y
  | .ge, x, y => fx_le y x
  | .gt, x, y => fx_lt y x
  | .le, x, y => fx_le x y
theorem fx_cmp_eq (k : Jvm.ClassFile.Cond) (x y : Int32) : fx_cmp k x y = mm_cmp k x y := by
  cases k <;> unfold fx_cmp mm_cmp <;> dsimp only <;> simp only [fx_beq_eq, fx_lt_eq, fx_le_eq]
def fx_add (x y : Int32) : Int32 := fx_fi (Nat.add (fx_u x) (fx_u y))
theorem fx_add_eq (x y : Int32) : fx_add x y = x + y := fx_u_inj (by
  rw [show fx_u (x + y) = (x.toBitVec + y.toBitVec).toNat from rfl, BitVec.toNat_add]
  rfl)
def fx_sub (x y : Int32) : Int32 := fx_fi (Nat.add (Nat.sub 4294967296 (fx_u y)) (fx_u x))
theorem fx_sub_eq (x y : Int32) : fx_sub x y = x - y := fx_u_inj (by
  rw [show fx_u (x - y) = (x.toBitVec - y.toBitVec).toNat from rfl, BitVec.toNat_sub]
  rfl)
def fx_mul (x y : Int32) : Int32 := fx_fi (Nat.mul (fx_u x) (fx_u y))
theorem fx_mul_eq (x y : Int32) : fx_mul x y = x * y := fx_u_inj (by
  rw [show fx_u (x * y) = (x.toBitVec * y.toBitVec).toNat from rfl, BitVec.toNat_mul]
  rfl)
noncomputable def l_get (lo : List (Nat × Value)) (i : Nat) : Option Value := List.rec (motive := fun _ => Option Value) none (fun q _ ih => Bool.rec ih (some q.2) (Nat.beq q.1 i)) lo
theorem l_get_eq (i : Nat) : ∀ lo : List (Nat × Value), l_get lo i = mm_get lo i
  | [] => rfl
  | q :: lo => by
    show (Bool.rec (l_get lo i) (some q.2) (Nat.beq q.1 i) : Option Value) = if q.1 = i then some q.2 else mm_get lo i
    cases h : Nat.beq q.1 i with
    | true => rw [if_pos (Nat.eq_of_beq_eq_true h)]
    | false => rw [if_neg (Nat.ne_of_beq_eq_false h)]; exact l_get_eq i lo
noncomputable def l_fil (lo : List (Nat × Value)) (i : Nat) : List (Nat × Value) := List.rec (motive := fun _ => List (Nat × Value)) [] (fun q _ ih => Bool.rec (Bool.rec (q :: ih) (Bool.rec (q :: ih) ih (Nat.beq q.2.category 2)) (Nat.beq (q.1 + 1) i)) ih (Nat.beq q.1 i)) lo
theorem l_fil_eq (i : Nat) : ∀ lo : List (Nat × Value), l_fil lo i = lo.filter (fun q => !(q.1 == i) && !(q.1 + 1 == i && q.2.category == 2))
  | [] => rfl
  | q :: lo => by
    show (Bool.rec (Bool.rec (q :: l_fil lo i) (Bool.rec (q :: l_fil lo i) (l_fil lo i) (Nat.beq q.2.category 2)) (Nat.beq (q.1 + 1) i)) (l_fil lo i) (Nat.beq q.1 i) : List (Nat × Value)) = _
    rw [List.filter_cons, l_fil_eq i lo]
    have e1 : ∀ a b : Nat, (a == b) = Nat.beq a b := fun a b => by
      cases h : Nat.beq a b with
      | true => rw [Nat.eq_of_beq_eq_true h]; exact beq_self_eq_true b
      | false => exact beq_eq_false_iff_ne.mpr (Nat.ne_of_beq_eq_false h)
    rw [e1 q.1 i, e1 (q.1 + 1) i, e1 q.2.category 2]
    cases Nat.beq q.1 i <;> cases Nat.beq (q.1 + 1) i <;> cases Nat.beq q.2.category 2 <;> rfl
noncomputable def l_sto (lo : List (Nat × Value)) (i : Nat) (v : Value) : List (Nat × Value) := (i, v) :: l_fil lo i
theorem l_sto_eq (lo : List (Nat × Value)) (i : Nat) (v : Value) : l_sto lo i v = mm_sto lo i v := by
  unfold l_sto mm_sto
  rw [l_fil_eq]
noncomputable def fx_n {α : Type} (n : Nat) (f : Nat → α) : α := Nat.rec (motive := fun _ => α) (f 0) (fun k _ => f (k + 1)) n
theorem fx_n_eq {α : Type} (n : Nat) (f : Nat → α) : fx_n n f = f n := by cases n <;> rfl
noncomputable def fx_v {α : Type} (x : Int32) (f : Int32 → α) : α := fx_n (fx_u x) (fun n => f (fx_fi n))
theorem fx_v_eq {α : Type} (x : Int32) (f : Int32 → α) : fx_v x f = f x := by
  unfold fx_v
  rw [fx_n_eq, fx_fi_u]
noncomputable def fx_ix {α : Type} (i : Int32) (n : Nat) (g : Nat → Option α) : Option α := fx_n (fx_u i) (fun k => Bool.rec none (Bool.rec none (g k) (Nat.blt k 2147483648)) (Nat.blt k n))
theorem fx_ix_eq {α : Type} (i : Int32) (n : Nat) (g : Nat → Option α) : fx_ix i n g = if mm_ib i n = true then g i.toNatClampNeg else none := by
  unfold fx_ix
  rw [fx_n_eq]
  have h1 := fx_toInt i
  have h2 := fx_u_lt i
  have h0 : (0 : Int32).toInt = 0 := rfl
  have e1 : i < 0 ↔ i.toInt < 0 := by rw [Int32.lt_iff_toInt_lt, h0]
  have e2 : i.toNatClampNeg = i.toInt.toNat := rfl
  have hb : ∀ a b : Nat, Nat.blt a b = decide (a < b) := fun a b => by
    cases h : Nat.blt a b with
    | true => exact (decide_eq_true (show a < b from Nat.ble_eq.mp h)).symm
    | false =>
      refine (decide_eq_false (fun hlt => ?_)).symm
      have : Nat.blt a b = true := Nat.ble_eq.mpr hlt
      rw [h] at this
      cases this
  rw [hb, hb]
  by_cases hs : fx_u i < 2147483648
  · rw [if_pos hs] at h1
    have e3 : i.toNatClampNeg = fx_u i := by rw [e2, h1]; exact Int.toNat_natCast _
    have e4 : ¬ i < 0 := fun h => by have := e1.mp h; omega
    have hib : mm_ib i n = decide (fx_u i < n) := by
      unfold mm_ib
      rw [e3, decide_eq_false e4, Bool.false_or]
      by_cases hn : fx_u i < n
      · rw [decide_eq_true hn, decide_eq_false (by omega)]; rfl
      · rw [decide_eq_false hn, decide_eq_true (by omega)]; rfl
    rw [hib, e3, decide_eq_true hs]
    by_cases hn : fx_u i < n
    · rw [decide_eq_true hn, if_pos rfl]
    · rw [decide_eq_false hn, if_neg (by decide)]
  · rw [if_neg hs] at h1
    have e4 : i < 0 := e1.mpr (by omega)
    have hib : mm_ib i n = false := by
      unfold mm_ib
      rw [decide_eq_true e4]; rfl
    rw [hib, decide_eq_false hs, if_neg (by decide)]
    by_cases hn : fx_u i < n
    · rw [decide_eq_true hn]
    · rw [decide_eq_false hn]
/-! worlds as tries of 512 leaves -/
def y_t (d : Nat) : Type := Nat.rec (motive := fun _ => Type) va_E (fun _ T => T × T) d
noncomputable def yt_get (d : Nat) : y_t d → Nat → va_E := Nat.rec (motive := fun d => y_t d → Nat → va_E) (fun e _ => e) (fun d ih t k => Bool.rec (ih (show y_t d × y_t d from t).2 (Nat.div k 2)) (ih (show y_t d × y_t d from t).1 (Nat.div k 2)) (Nat.beq (Nat.mod k 2) 0)) d
noncomputable def yt_set (d : Nat) : y_t d → Nat → va_E → y_t d := Nat.rec (motive := fun d => y_t d → Nat → va_E → y_t d) (fun _ _ e => e) (fun d ih t k e => show y_t d × y_t d from Bool.rec ((show y_t d × y_t d from t).1, ih (show y_t d × y_t d from t).2 (Nat.div k 2) e) (ih (show y_t d × y_t d from t).1 (Nat.div k 2) e, (show y_t d × y_t d from t).2) (Nat.beq (Nat.mod k 2) 0)) d
noncomputable def yt_def (d : Nat) : y_t d := Nat.rec (motive := fun d => y_t d) (Sum.inr (0, []) : va_E) (fun d ih => show y_t d × y_t d from (ih, ih)) d
theorem yt_gs : ∀ (d : Nat) (t : y_t d) (k k' : Nat) (e : va_E), k < 2 ^ d → k' < 2 ^ d → yt_get d (yt_set d t k e) k' = if k' = k then e else yt_get d t k'
  | 0, t, k, k', e, h, h' => by
    have e1 : k' = k := by simp at h h'; omega
    rw [if_pos e1]
    rfl
  | d + 1, t, k, k', e, h, h' => by
    have hp : 2 ^ (d + 1) = 2 * 2 ^ d := by rw [Nat.pow_succ, Nat.mul_comm]
    have q1 : k / 2 < 2 ^ d := by omega
    have q2 : k' / 2 < 2 ^ d := by omega
    have g1 := yt_gs d (show y_t d × y_t d from t).1 (k / 2) (k' / 2) e q1 q2
    have g2 := yt_gs d (show y_t d × y_t d from t).2 (k / 2) (k' / 2) e q1 q2
    have hs : yt_set (d + 1) t k e = (Bool.rec ((show y_t d × y_t d from t).1, yt_set d (show y_t d × y_t d from t).2 (k / 2) e) (yt_set d (show y_t d × y_t d from t).1 (k / 2) e, (show y_t d × y_t d from t).2) (Nat.beq (k % 2) 0) : y_t d × y_t d) := rfl
    have hg : ∀ t2 : y_t d × y_t d, yt_get (d + 1) t2 k' = Bool.rec (yt_get d t2.2 (k' / 2)) (yt_get d t2.1 (k' / 2)) (Nat.beq (k' % 2) 0) := fun _ => rfl
    rw [hs, hg, show yt_get (d + 1) t k' = Bool.rec (yt_get d (show y_t d × y_t d from t).2 (k' / 2)) (yt_get d (show y_t d × y_t d from t).1 (k' / 2)) (Nat.beq (k' % 2) 0) from rfl]
    cases hk : Nat.beq (k % 2) 0 with
    | true =>
      have z1 := Nat.eq_of_beq_eq_true hk
      cases hk' : Nat.beq (k' % 2) 0 with
      | true =>
        have z2 := Nat.eq_of_beq_eq_true hk'
        try dsimp only
        rw [g1]
        by_cases he : k' = k
        · rw [if_pos he, if_pos (by rw [he])]
        · rw [if_neg he, if_neg (by omega)]
      | false =>
        have z2 := Nat.ne_of_beq_eq_false hk'
        try dsimp only
        rw [if_neg (by omega)]
    | false =>
      have z1 := Nat.ne_of_beq_eq_false hk
      cases hk' : Nat.beq (k' % 2) 0 with
      | true =>
        have z2 := Nat.eq_of_beq_eq_true hk'
        try dsimp only
        rw [if_neg (by omega)]
      | false =>
        have z2 := Nat.ne_of_beq_eq_false hk'
        try dsimp only
        rw [g2]
        by_cases he : k' = k
        · rw [if_pos he, if_pos (by rw [he])]
        · rw [if_neg he, if_neg (by omega)]
abbrev y_W : Type := Nat × y_t 9
abbrev y_F : Type := Nat × List (Nat × Value) × List Value × y_W × Nat × Nat
abbrev y_O : Type := (Option Value ⊕ Nat) × y_W × Nat × Nat
abbrev y_T : Type := y_F ⊕ y_O ⊕ (Nat × List Value × Nat × Bool × y_F)
noncomputable def y_a (X : y_W) : mm_W := (List.range (min X.1 512)).map (yt_get 9 X.2)
noncomputable def ya_F (F : y_F) : mm_F := (F.1, F.2.1, F.2.2.1, y_a F.2.2.2.1, F.2.2.2.2)
noncomputable def ya_O (o : y_O) : mm_O := (o.1, y_a o.2.1, o.2.2)
noncomputable def ya_T : y_T → mm_T
  | .inl F => .inl (ya_F F)
  | .inr (.inl o) => .inr (.inl (ya_O o))
  | .inr (.inr (j, as, nx, fl, G)) => .inr (.inr (j, as, nx, fl, ya_F G))
theorem g_blt (a b : Nat) : Nat.blt a b = decide (a < b) := by
  cases h : Nat.blt a b with
  | true => exact (decide_eq_true (show a < b from Nat.ble_eq.mp h)).symm
  | false =>
    refine (decide_eq_false (fun hlt => ?_)).symm
    have : Nat.blt a b = true := Nat.ble_eq.mpr hlt
    rw [h] at this
    cases this
noncomputable def y_get (X : y_W) (k : Nat) : Option va_E := Bool.rec none (Bool.rec none (some (yt_get 9 X.2 k)) (Nat.blt k 512)) (Nat.blt k X.1)
theorem y_len_eq (X : y_W) : (y_a X).length = min X.1 512 := by
  unfold y_a
  rw [List.length_map, List.length_range]
theorem y_get_eq (X : y_W) (k : Nat) : (y_a X)[k]? = y_get X k := by
  unfold y_get
  rw [g_blt, g_blt]
  by_cases h1 : k < X.1
  · rw [decide_eq_true h1]
    by_cases h2 : k < 512
    · rw [decide_eq_true h2]
      unfold y_a
      rw [List.getElem?_map, List.getElem?_range (by omega)]
      rfl
    · rw [decide_eq_false h2, List.getElem?_eq_none (by rw [y_len_eq]; omega)]
  · rw [decide_eq_false h1, List.getElem?_eq_none (by rw [y_len_eq]; omega)]
noncomputable def y_set (X : y_W) (k : Nat) (e : va_E) : y_W := Bool.rec X (X.1, yt_set 9 X.2 k e) (Nat.blt k 512)
theorem y_set_eq (X : y_W) (k : Nat) (e : va_E) : y_a (y_set X k e) = (y_a X).set k e := by
  have hx : ∀ i, ((y_a X).set k e)[i]? = if k = i then (if i < (y_a X).length then some e else none) else (y_a X)[i]? := fun i => by
    rw [List.getElem?_set]
    by_cases hi : k = i
    · subst hi
      rw [if_pos rfl]
      try rw [if_pos rfl]
    · rw [if_neg hi, if_neg hi]
  apply List.ext_getElem?
  intro i
  rw [hx, y_get_eq, y_get_eq, y_len_eq]
  unfold y_set
  rw [g_blt]
  by_cases h2 : k < 512
  · rw [decide_eq_true h2]
    show y_get (X.1, yt_set 9 X.2 k e) i = _
    unfold y_get
    rw [g_blt, g_blt]
    by_cases h1 : i < X.1
    · rw [decide_eq_true h1]
      by_cases h3 : i < 512
      · rw [decide_eq_true h3]
        try dsimp only
        rw [yt_gs 9 X.2 k i e h2 h3]
        by_cases hi : k = i
        · rw [if_pos hi, if_pos hi.symm, if_pos (by omega)]
        · rw [if_neg hi, if_neg (fun h => hi h.symm)]
      · rw [decide_eq_false h3, if_neg (by omega)]
    · rw [decide_eq_false h1]
      by_cases hi : k = i
      · rw [if_pos hi, if_neg (by omega)]
      · rw [if_neg hi]
  · rw [decide_eq_false h2]
    by_cases hi : k = i
    · rw [if_pos hi, if_neg (by omega)]
      show y_get X i = none
      unfold y_get
      rw [g_blt, g_blt, decide_eq_false (by omega : ¬ i < 512)]
      cases decide (i < X.1) <;> rfl
    · rw [if_neg hi]
noncomputable def y_app (X : y_W) (e : va_E) : y_W := (X.1 + 1, yt_set 9 X.2 X.1 e)
theorem y_app_eq (X : y_W) (e : va_E) (h : X.1 < 512) : y_a (y_app X e) = y_a X ++ [e] := by
  apply List.ext_getElem?
  intro i
  rw [y_get_eq, List.getElem?_append, y_get_eq, y_len_eq]
  unfold y_get y_app
  rw [g_blt, g_blt, g_blt]
  try dsimp only
  by_cases h1 : i < X.1
  · rw [decide_eq_true h1, decide_eq_true (by omega : i < X.1 + 1), decide_eq_true (by omega : i < 512), if_pos (by omega)]
    try dsimp only
    rw [yt_gs 9 X.2 X.1 i e h (by show i < 512; omega), if_neg (by omega)]
  · by_cases h2 : i = X.1
    · subst h2
      rw [decide_eq_true (by omega : X.1 < X.1 + 1), decide_eq_true h, if_neg (by omega), show X.1 - min X.1 512 = 0 by omega]
      try dsimp only
      rw [yt_gs 9 X.2 X.1 X.1 e h h, if_pos rfl]
      rfl
    · rw [decide_eq_false (by omega : ¬ i < X.1 + 1), if_neg (by omega), List.getElem?_eq_none (by simp only [List.length_cons, List.length_nil]; omega)]
noncomputable def y_aget (xa : mm_Xa) (W : y_W) (k : Nat) (i : Int32) : Option (Nat × Value) :=
  if k < mm_XB then
    match y_get W k with
    | some (.inl (t, n, .inl f)) => fx_ix i n (fun z => fx_v (f z) (fun v => some (t, .int v)))
    | some (.inl (t, n, .inr (.inl f))) => fx_ix i n (fun z => some (t, .long (f z)))
    | some (.inl (t, n, .inr (.inr (.inr (.inr f))))) => fx_ix i n (fun z => some (t, va_rf (f z)))
    | _ => none
  else
    match xa (k - mm_XB) with
    | some (t, n, f) => fx_ix i n (fun z => some (t, f z))
    | none => none
theorem y_aget_eq (xa : mm_Xa) (W : y_W) (k : Nat) (i : Int32) : y_aget xa W k i = mm_aget xa (y_a W) k i := by
  unfold y_aget mm_aget
  simp only [y_get_eq, fx_ix_eq, fx_v_eq, g_get_eq, g_set_eq, g_sum_eq]
  all_goals first | done | rfl
noncomputable def y_alen (xa : mm_Xa) (W : y_W) (k : Nat) : Option Nat :=
  if k < mm_XB then
    match y_get W k with
    | some (.inl (_, n, _)) => some n
    | _ => none
  else
    match xa (k - mm_XB) with
    | some (_, n, _) => some n
    | none => none
theorem y_alen_eq (xa : mm_Xa) (W : y_W) (k : Nat) : y_alen xa W k = mm_alen xa (y_a W) k := by
  unfold y_alen mm_alen
  simp only [y_get_eq, fx_ix_eq, fx_v_eq, g_get_eq, g_set_eq, g_sum_eq]
  all_goals first | done | rfl
noncomputable def y_aputi (W : y_W) (k : Nat) (i : Int32) (x : Int32) : Option (Nat × y_W) :=
  match y_get W k with
  | some (.inl (t, n, .inl f)) => fx_ix i n (fun z => some (t, y_set W k (.inl (t, n, .inl (upd f z (mm_nar t x))))))
  | _ => none
theorem y_aputi_eq (W : y_W) (k : Nat) (i : Int32) (x : Int32) : mm_aputi (y_a W) k i x = (y_aputi W k i x).map (fun q => (q.1, y_a q.2)) := by
  unfold y_aputi mm_aputi
  simp only [y_get_eq, fx_ix_eq, fx_v_eq, g_get_eq, g_set_eq, g_sum_eq]
  generalize y_get W k = g
  rcases g with _ | ⟨t, n, f | f | f⟩ | ⟨c, fs⟩ <;> (try rfl)
  by_cases hb : mm_ib i n = true
  · try dsimp only
    rw [if_pos hb, if_pos hb, ← y_set_eq]
    rfl
  · try dsimp only
    rw [if_neg hb, if_neg hb]
    rfl
noncomputable def y_aputl (W : y_W) (k : Nat) (i : Int32) (x : Int64) : Option (Nat × y_W) :=
  match y_get W k with
  | some (.inl (t, n, .inr (.inl f))) => fx_ix i n (fun z => some (t, y_set W k (.inl (t, n, .inr (.inl (vp_updL f z x))))))
  | _ => none
theorem y_aputl_eq (W : y_W) (k : Nat) (i : Int32) (x : Int64) : mm_aputl (y_a W) k i x = (y_aputl W k i x).map (fun q => (q.1, y_a q.2)) := by
  unfold y_aputl mm_aputl
  simp only [y_get_eq, fx_ix_eq, fx_v_eq, g_get_eq, g_set_eq, g_sum_eq]
  generalize y_get W k = g
  rcases g with _ | ⟨t, n, f | f | f⟩ | ⟨c, fs⟩ <;> (try rfl)
  by_cases hb : mm_ib i n = true
  · try dsimp only
    rw [if_pos hb, if_pos hb, ← y_set_eq]
    rfl
  · try dsimp only
    rw [if_neg hb, if_neg hb]
    rfl
noncomputable def y_cls (W : y_W) (k : Nat) : Option Nat :=
  if k < mm_XB then
    match y_get W k with
    | some (.inr (ci, _)) => some ci
    | _ => none
  else (md_xc (k - mm_XB)).map (fun n => 1000 + n)
theorem y_cls_eq (W : y_W) (k : Nat) : y_cls W k = mm_cls (y_a W) k := by
  unfold y_cls mm_cls
  simp only [y_get_eq, fx_ix_eq, fx_v_eq, g_get_eq, g_set_eq, g_sum_eq]
  all_goals first | done | rfl
noncomputable def y_aputr (W : y_W) (k : Nat) (i : Int32) (v : Nat) : Option y_W :=
  match y_get W k with
  | some (.inl (t, n, .inr (.inr (.inr (.inr f))))) => if mm_ib i n && decide (4 ≤ t) && decide (y_cls W v = some (md_ac t)) then some (y_set W k (.inl (t, n, .inr (.inr (.inr (.inr (va_up f i.toNatClampNeg (some v)))))))) else none
  | _ => none
theorem y_aputr_eq (W : y_W) (k : Nat) (i : Int32) (v : Nat) : mm_aputr (y_a W) k i v = (y_aputr W k i v).map y_a := by
  unfold y_aputr mm_aputr
  simp only [y_get_eq, y_cls_eq]
  generalize y_get W k = g
  rcases g with _ | ⟨t, n, f | f | f | f | f⟩ | ⟨c, fs⟩ <;> (try rfl)
  try dsimp only
  split
  · rw [← y_set_eq]
    rfl
  · rfl
noncomputable def y_put (W : y_W) (k ci f t : Nat) (v : Value) : Option y_W :=
  match y_get W k with
  | some (.inr (c, fs)) => if c = ci ∧ f < fs.length ∧ mm_nf t v = true then some (y_set W k (.inr (c, g_set fs f v))) else none
  | _ => none
theorem y_put_eq (W : y_W) (k ci f t : Nat) (v : Value) : mm_put (y_a W) k ci f t v = (y_put W k ci f t v).map y_a := by
  unfold y_put mm_put
  simp only [y_get_eq, fx_ix_eq, fx_v_eq, g_get_eq, g_set_eq, g_sum_eq]
  generalize y_get W k = g
  rcases g with _ | e | ⟨c, fs⟩ <;> (try rfl)
  try dsimp only
  split
  · rw [← y_set_eq]
    rfl
  · rfl
noncomputable def y_getf (W : y_W) (k ci f : Nat) : Option Value :=
  match y_get W k with
  | some (.inr (c, fs)) => if c = ci then g_get fs f else none
  | _ => none
theorem y_getf_eq (W : y_W) (k ci f : Nat) : y_getf W k ci f = mm_getf (y_a W) k ci f := by
  unfold y_getf mm_getf
  simp only [y_get_eq, fx_ix_eq, fx_v_eq, g_get_eq, g_set_eq, g_sum_eq]
  all_goals first | done | rfl
noncomputable def y_cpy (W : y_W) (s : Nat) (sp : Int32) (d : Nat) (dp n : Int32) : Option y_W :=
  if sp < 0 ∨ dp < 0 ∨ n < 0 ∨ ¬ s < mm_XB ∨ ¬ d < mm_XB then none else
  match y_get W s, y_get W d with
  | some (.inl (0, n0, .inl f)), some (.inl (0, n1, .inl g)) =>
    if sp.toNatClampNeg + n.toNatClampNeg ≤ n0 ∧ dp.toNatClampNeg + n.toNatClampNeg ≤ n1 then some (y_set W d (.inl (0, n1, .inl (va_cpy f g sp.toNatClampNeg dp.toNatClampNeg n.toNatClampNeg)))) else none
  | some (.inl (1, n0, .inr (.inl f))), some (.inl (1, n1, .inr (.inl g))) =>
    if sp.toNatClampNeg + n.toNatClampNeg ≤ n0 ∧ dp.toNatClampNeg + n.toNatClampNeg ≤ n1 then some (y_set W d (.inl (1, n1, .inr (.inl (va_cpy f g sp.toNatClampNeg dp.toNatClampNeg n.toNatClampNeg))))) else none
  | _, _ => none
theorem y_cpy_eq (W : y_W) (s : Nat) (sp : Int32) (d : Nat) (dp n : Int32) : mm_cpy (y_a W) s sp d dp n = (y_cpy W s sp d dp n).map y_a := by
  unfold y_cpy mm_cpy
  by_cases h0 : sp < 0 ∨ dp < 0 ∨ n < 0 ∨ ¬ s < mm_XB ∨ ¬ d < mm_XB
  · rw [if_pos h0, if_pos h0]
    rfl
  rw [if_neg h0, if_neg h0]
  simp only [y_get_eq]
  generalize y_get W s = g1
  generalize y_get W d = g2
  split
  · rename_i n0 f n1 g
    show (if sp.toNatClampNeg + n.toNatClampNeg ≤ n0 ∧ dp.toNatClampNeg + n.toNatClampNeg ≤ n1 then some ((y_a W).set d (.inl (0, n1, .inl (va_cpy f g sp.toNatClampNeg dp.toNatClampNeg n.toNatClampNeg)))) else none) = Option.map y_a (if sp.toNatClampNeg + n.toNatClampNeg ≤ n0 ∧ dp.toNatClampNeg + n.toNatClampNeg ≤ n1 then some (y_set W d (.inl (0, n1, .inl (va_cpy f g sp.toNatClampNeg dp.toNatClampNeg n.toNatClampNeg)))) else none)
    by_cases hc : sp.toNatClampNeg + n.toNatClampNeg ≤ n0 ∧ dp.toNatClampNeg + n.toNatClampNeg ≤ n1
    · rw [if_pos hc, if_pos hc, ← y_set_eq]
      rfl
    · rw [if_neg hc, if_neg hc]
      rfl
  · rename_i n0 f n1 g
    show (if sp.toNatClampNeg + n.toNatClampNeg ≤ n0 ∧ dp.toNatClampNeg + n.toNatClampNeg ≤ n1 then some ((y_a W).set d (.inl (1, n1, .inr (.inl (va_cpy f g sp.toNatClampNeg dp.toNatClampNeg n.toNatClampNeg))))) else none) = Option.map y_a (if sp.toNatClampNeg + n.toNatClampNeg ≤ n0 ∧ dp.toNatClampNeg + n.toNatClampNeg ≤ n1 then some (y_set W d (.inl (1, n1, .inr (.inl (va_cpy f g sp.toNatClampNeg dp.toNatClampNeg n.toNatClampNeg))))) else none)
    by_cases hc : sp.toNatClampNeg + n.toNatClampNeg ≤ n0 ∧ dp.toNatClampNeg + n.toNatClampNeg ≤ n1
    · rw [if_pos hc, if_pos hc, ← y_set_eq]
      rfl
    · rw [if_neg hc, if_neg hc]
      rfl
  · rename_i h1 h2
    split
    · exact (h1 _ _ _ _ rfl rfl).elim
    · exact (h2 _ _ _ _ rfl rfl).elim
    · rfl
noncomputable def y_call (r1 r2 r3 pc nx : Nat) (lo : List (Nat × Value)) (st : List Value) (W : y_W) (b c : Nat) : Option y_T :=
  match g_pop (r2 % 16) st [] with
  | none => none
  | some (As, rest) =>
  match r2 / 16 with
  | 0 => match rest with
    | .ref k :: rest => if y_cls W k = some r3 ∧ g_sum rest ≤ 8 then some (.inr (.inr (r1, .ref k :: As, nx, true, (pc, lo, rest, W, b, c)))) else none
    | _ => none
  | 2 => match rest with
    | .ref k :: rest => if y_cls W k = some r3 ∧ g_sum rest ≤ 8 then some (.inr (.inr (r1, .ref k :: As, nx, false, (pc, lo, rest, W, b, c)))) else none
    | _ => none
  | 1 => if g_sum rest ≤ 8 then some (.inr (.inr (r1, As, nx, true, (pc, lo, rest, W, b, c)))) else none
  | 5 => match st with
    | .ref _ :: st => if g_sum st ≤ 8 then some (.inl (nx, lo, st, W, b, c)) else none
    | _ => none
  | 6 => match st with
    | .int n :: .int dp :: .ref d :: .int sp :: .ref s :: st => if g_sum st ≤ 8 then (y_cpy W s sp d dp n).map (fun W2 => .inl (nx, lo, st, W2, b, c)) else none
    | _ => none
  | _ => none
theorem y_call_eq (r1 r2 r3 pc nx : Nat) (lo : List (Nat × Value)) (st : List Value) (W : y_W) (b c : Nat) : (y_call r1 r2 r3 pc nx lo st W b c).map ya_T = mm_call r1 r2 r3 pc nx lo st (y_a W) b c := by
  unfold y_call mm_call
  rw [g_pop_eq]
  by_cases h : st.length < r2 % 16
  · rw [if_pos h, if_pos h]
    rfl
  · rw [if_neg h, if_neg h]
    try dsimp only
    rw [List.append_nil]
    simp only [g_sum_eq, y_cls_eq, y_cpy_eq]
    generalize (st.take (r2 % 16)).reverse = As
    generalize st.drop (r2 % 16) = rest
    generalize r2 / 16 = q
    match q with
    | 0 =>
      rcases rest with _ | ⟨v, rest⟩
      · rfl
      · cases v with
        | ref k =>
          show (if mm_cls (y_a W) k = some r3 ∧ (rest.map fun v => v.category).sum ≤ 8 then some (Sum.inr (Sum.inr (r1, Value.ref k :: As, nx, true, (pc, lo, rest, W, b, c))) : y_T) else none).map ya_T = (if mm_cls (y_a W) k = some r3 ∧ (rest.map fun v => v.category).sum ≤ 8 then some (Sum.inr (Sum.inr (r1, Value.ref k :: As, nx, true, (pc, lo, rest, y_a W, b, c))) : mm_T) else none)
          split <;> rfl
        | _ => rfl
    | 2 =>
      rcases rest with _ | ⟨v, rest⟩
      · rfl
      · cases v with
        | ref k =>
          show (if mm_cls (y_a W) k = some r3 ∧ (rest.map fun v => v.category).sum ≤ 8 then some (Sum.inr (Sum.inr (r1, Value.ref k :: As, nx, false, (pc, lo, rest, W, b, c))) : y_T) else none).map ya_T = (if mm_cls (y_a W) k = some r3 ∧ (rest.map fun v => v.category).sum ≤ 8 then some (Sum.inr (Sum.inr (r1, Value.ref k :: As, nx, false, (pc, lo, rest, y_a W, b, c))) : mm_T) else none)
          split <;> rfl
        | _ => rfl
    | 1 =>
      show (if (rest.map fun v => v.category).sum ≤ 8 then some (Sum.inr (Sum.inr (r1, As, nx, true, (pc, lo, rest, W, b, c))) : y_T) else none).map ya_T = (if (rest.map fun v => v.category).sum ≤ 8 then some (Sum.inr (Sum.inr (r1, As, nx, true, (pc, lo, rest, y_a W, b, c))) : mm_T) else none)
      split <;> rfl
    | 5 =>
      rcases st with _ | ⟨v, st⟩
      · rfl
      · cases v with
        | ref k =>
          show (if (st.map fun v => v.category).sum ≤ 8 then some (Sum.inl (nx, lo, st, W, b, c) : y_T) else none).map ya_T = (if (st.map fun v => v.category).sum ≤ 8 then some (Sum.inl (nx, lo, st, y_a W, b, c) : mm_T) else none)
          split <;> rfl
        | _ => rfl
    | 6 =>
      have hn : ∀ st : List Value, (match st with | .int n :: .int dp :: .ref d :: .int sp :: .ref s :: st => (if (st.map fun v : Value => v.category).sum ≤ 8 then (y_cpy W s sp d dp n).map (fun W2 => (Sum.inl (nx, lo, st, W2, b, c) : y_T)) else none) | _ => (none : Option y_T)).map ya_T = (match st with | .int n :: .int dp :: .ref d :: .int sp :: .ref s :: st => (if (st.map fun v : Value => v.category).sum ≤ 8 then ((y_cpy W s sp d dp n).map y_a).map (fun W2 => (Sum.inl (nx, lo, st, W2, b, c) : mm_T)) else none) | _ => none) := by
        intro st
        split
        · rename_i n dp d sp s st
          try dsimp only
          by_cases hc : (st.map fun v => v.category).sum ≤ 8
          · rw [if_pos hc, if_pos hc]
            generalize y_cpy W s sp d dp n = g
            cases g <;> rfl
          · rw [if_neg hc, if_neg hc]
            rfl
        · rfl
      exact hn st
    | 3 => rfl
    | 4 => rfl
    | q + 7 => rfl
noncomputable def fx_mt (j : Nat) : mm_Mt := (g_get ((g_get md_MT (j / 16)).getD []) (j % 16)).getD (⟨"A", "", ""⟩, ⟨#[]⟩, 0, none, [])
theorem fx_mt_eq (j : Nat) : fx_mt j = md_mt j := by
  unfold fx_mt md_mt
  rw [g_get_eq, g_get_eq]
noncomputable def fx_rt (j : Nat) : Option FieldType := (fx_mt j).2.2.2.1
theorem fx_rt_eq (j : Nat) : fx_rt j = (md_mt j).2.2.2.1 := by
  unfold fx_rt
  rw [fx_mt_eq]
noncomputable def fx_iiconst (n : Int) (xa : mm_Xa) (j nx r1 r2 r3 pc : Nat) (lo : List (Nat × Value)) (st : List Value) (W : y_W) (b c : Nat) : Option y_T :=
  fx_v (Int32.ofInt n) (fun v => some (.inl (nx, lo, .int v :: st, W, b, c)))
noncomputable def fx_ibipush (n : Int) (xa : mm_Xa) (j nx r1 r2 r3 pc : Nat) (lo : List (Nat × Value)) (st : List Value) (W : y_W) (b c : Nat) : Option y_T :=
  some (.inl (nx, lo, .int (Int8.ofInt n).toInt32 :: st, W, b, c))
noncomputable def fx_isipush (n : Int) (xa : mm_Xa) (j nx r1 r2 r3 pc : Nat) (lo : List (Nat × Value)) (st : List Value) (W : y_W) (b c : Nat) : Option y_T :=
  fx_v ((Int16.ofInt n).toInt32) (fun v => some (.inl (nx, lo, .int v :: st, W, b, c)))
noncomputable def fx_ilconst (n : Fin 2) (xa : mm_Xa) (j nx r1 r2 r3 pc : Nat) (lo : List (Nat × Value)) (st : List Value) (W : y_W) (b c : Nat) : Option y_T :=
  some (.inl (nx, lo, .long (Int64.ofNat (n : Nat)) :: st, W, b, c))
noncomputable def fx_iaconst_null  (xa : mm_Xa) (j nx r1 r2 r3 pc : Nat) (lo : List (Nat × Value)) (st : List Value) (W : y_W) (b c : Nat) : Option y_T :=
  some (.inl (nx, lo, .null :: st, W, b, c))
noncomputable def fx_ildc  (xa : mm_Xa) (j nx r1 r2 r3 pc : Nat) (lo : List (Nat × Value)) (st : List Value) (W : y_W) (b c : Nat) : Option y_T :=
  if r1 = 0 then fx_v (Int32.ofNat r2) (fun v => some (.inl (nx, lo, .int v :: st, W, b, c))) else some (.inl (nx, lo, .ref (mm_XB + r2) :: st, W, b, c))
noncomputable def fx_ildc_w  (xa : mm_Xa) (j nx r1 r2 r3 pc : Nat) (lo : List (Nat × Value)) (st : List Value) (W : y_W) (b c : Nat) : Option y_T :=
  fx_v (Int32.ofNat r2) (fun v => some (.inl (nx, lo, .int v :: st, W, b, c)))
noncomputable def fx_ildc2_w  (xa : mm_Xa) (j nx r1 r2 r3 pc : Nat) (lo : List (Nat × Value)) (st : List Value) (W : y_W) (b c : Nat) : Option y_T :=
  some (.inl (nx, lo, .long (Int64.ofNat r1) :: st, W, b, c))
noncomputable def fx_iiload (i : Nat) (xa : mm_Xa) (j nx r1 r2 r3 pc : Nat) (lo : List (Nat × Value)) (st : List Value) (W : y_W) (b c : Nat) : Option y_T :=
  match l_get lo i with
    | some (.int x) => some (.inl (nx, lo, .int x :: st, W, b, c))
    | _ => none
noncomputable def fx_iiload_n (i : Fin 4) (xa : mm_Xa) (j nx r1 r2 r3 pc : Nat) (lo : List (Nat × Value)) (st : List Value) (W : y_W) (b c : Nat) : Option y_T :=
  match l_get lo i with
    | some (.int x) => some (.inl (nx, lo, .int x :: st, W, b, c))
    | _ => none
noncomputable def fx_ilload (i : Nat) (xa : mm_Xa) (j nx r1 r2 r3 pc : Nat) (lo : List (Nat × Value)) (st : List Value) (W : y_W) (b c : Nat) : Option y_T :=
  match l_get lo i with
    | some (.long x) => some (.inl (nx, lo, .long x :: st, W, b, c))
    | _ => none
noncomputable def fx_ilload_n (i : Fin 4) (xa : mm_Xa) (j nx r1 r2 r3 pc : Nat) (lo : List (Nat × Value)) (st : List Value) (W : y_W) (b c : Nat) : Option y_T :=
  match l_get lo i with
    | some (.long x) => some (.inl (nx, lo, .long x :: st, W, b, c))
    | _ => none
noncomputable def fx_iaload (i : Nat) (xa : mm_Xa) (j nx r1 r2 r3 pc : Nat) (lo : List (Nat × Value)) (st : List Value) (W : y_W) (b c : Nat) : Option y_T :=
  match l_get lo i with
    | some (.ref x) => some (.inl (nx, lo, .ref x :: st, W, b, c))
    | _ => none
noncomputable def fx_iaload_n (i : Fin 4) (xa : mm_Xa) (j nx r1 r2 r3 pc : Nat) (lo : List (Nat × Value)) (st : List Value) (W : y_W) (b c : Nat) : Option y_T :=
  match l_get lo i with
    | some (.ref x) => some (.inl (nx, lo, .ref x :: st, W, b, c))
    | _ => none
noncomputable def fx_iistore (i : Nat) (xa : mm_Xa) (j nx r1 r2 r3 pc : Nat) (lo : List (Nat × Value)) (st : List Value) (W : y_W) (b c : Nat) : Option y_T :=
  match st with
    | .int x :: st => some (.inl (nx, l_sto lo i (.int x), st, W, b, c))
    | _ => none
noncomputable def fx_iistore_n (i : Fin 4) (xa : mm_Xa) (j nx r1 r2 r3 pc : Nat) (lo : List (Nat × Value)) (st : List Value) (W : y_W) (b c : Nat) : Option y_T :=
  match st with
    | .int x :: st => some (.inl (nx, l_sto lo i (.int x), st, W, b, c))
    | _ => none
noncomputable def fx_ilstore (i : Nat) (xa : mm_Xa) (j nx r1 r2 r3 pc : Nat) (lo : List (Nat × Value)) (st : List Value) (W : y_W) (b c : Nat) : Option y_T :=
  match st with
    | .long x :: st => some (.inl (nx, mm_stl lo i (.long x), st, W, b, c))
    | _ => none
noncomputable def fx_ilstore_n (i : Fin 4) (xa : mm_Xa) (j nx r1 r2 r3 pc : Nat) (lo : List (Nat × Value)) (st : List Value) (W : y_W) (b c : Nat) : Option y_T :=
  match st with
    | .long x :: st => some (.inl (nx, mm_stl lo i (.long x), st, W, b, c))
    | _ => none
noncomputable def fx_iastore (i : Nat) (xa : mm_Xa) (j nx r1 r2 r3 pc : Nat) (lo : List (Nat × Value)) (st : List Value) (W : y_W) (b c : Nat) : Option y_T :=
  match st with
    | .ref x :: st => some (.inl (nx, l_sto lo i (.ref x), st, W, b, c))
    | .retAddr x :: st => some (.inl (nx, l_sto lo i (.retAddr x), st, W, b, c))
    | _ => none
noncomputable def fx_iastore_n (i : Fin 4) (xa : mm_Xa) (j nx r1 r2 r3 pc : Nat) (lo : List (Nat × Value)) (st : List Value) (W : y_W) (b c : Nat) : Option y_T :=
  match st with
    | .ref x :: st => some (.inl (nx, l_sto lo i (.ref x), st, W, b, c))
    | .retAddr x :: st => some (.inl (nx, l_sto lo i (.retAddr x), st, W, b, c))
    | _ => none
noncomputable def fx_iiinc (i : Nat) (n : Int) (xa : mm_Xa) (j nx r1 r2 r3 pc : Nat) (lo : List (Nat × Value)) (st : List Value) (W : y_W) (b c : Nat) : Option y_T :=
  match l_get lo i with
    | some (.int x) => fx_v (fx_add x (Int32.ofInt n)) (fun v => some (.inl (nx, l_sto lo i (.int v), st, W, b, c)))
    | _ => none
noncomputable def fx_idup  (xa : mm_Xa) (j nx r1 r2 r3 pc : Nat) (lo : List (Nat × Value)) (st : List Value) (W : y_W) (b c : Nat) : Option y_T :=
  match st with
    | v :: st => if v.category = 1 then some (.inl (nx, lo, v :: v :: st, W, b, c)) else none
    | _ => none
noncomputable def fx_ipop  (xa : mm_Xa) (j nx r1 r2 r3 pc : Nat) (lo : List (Nat × Value)) (st : List Value) (W : y_W) (b c : Nat) : Option y_T :=
  match st with
    | v :: st => if v.category = 1 then some (.inl (nx, lo, st, W, b, c)) else none
    | _ => none
noncomputable def fx_idup2  (xa : mm_Xa) (j nx r1 r2 r3 pc : Nat) (lo : List (Nat × Value)) (st : List Value) (W : y_W) (b c : Nat) : Option y_T :=
  match st with
    | v :: w :: st => if v.category = 1 ∧ w.category = 1 then some (.inl (nx, lo, v :: w :: v :: w :: st, W, b, c)) else none
    | _ => none
noncomputable def fx_iiadd  (xa : mm_Xa) (j nx r1 r2 r3 pc : Nat) (lo : List (Nat × Value)) (st : List Value) (W : y_W) (b c : Nat) : Option y_T :=
  match st with
    | .int y :: .int x :: st => fx_v (fx_add x y) (fun v => some (.inl (nx, lo, .int v :: st, W, b, c)))
    | _ => none
noncomputable def fx_iisub  (xa : mm_Xa) (j nx r1 r2 r3 pc : Nat) (lo : List (Nat × Value)) (st : List Value) (W : y_W) (b c : Nat) : Option y_T :=
  match st with
    | .int y :: .int x :: st => fx_v (fx_sub x y) (fun v => some (.inl (nx, lo, .int v :: st, W, b, c)))
    | _ => none
noncomputable def fx_iimul  (xa : mm_Xa) (j nx r1 r2 r3 pc : Nat) (lo : List (Nat × Value)) (st : List Value) (W : y_W) (b c : Nat) : Option y_T :=
  match st with
    | .int y :: .int x :: st => fx_v (fx_mul x y) (fun v => some (.inl (nx, lo, .int v :: st, W, b, c)))
    | _ => none
noncomputable def fx_iiand  (xa : mm_Xa) (j nx r1 r2 r3 pc : Nat) (lo : List (Nat × Value)) (st : List Value) (W : y_W) (b c : Nat) : Option y_T :=
  match st with
    | .int y :: .int x :: st => fx_v (x &&& y) (fun v => some (.inl (nx, lo, .int v :: st, W, b, c)))
    | _ => none
noncomputable def fx_iior  (xa : mm_Xa) (j nx r1 r2 r3 pc : Nat) (lo : List (Nat × Value)) (st : List Value) (W : y_W) (b c : Nat) : Option y_T :=
  match st with
    | .int y :: .int x :: st => fx_v (x ||| y) (fun v => some (.inl (nx, lo, .int v :: st, W, b, c)))
    | _ => none
noncomputable def fx_iixor  (xa : mm_Xa) (j nx r1 r2 r3 pc : Nat) (lo : List (Nat × Value)) (st : List Value) (W : y_W) (b c : Nat) : Option y_T :=
  match st with
    | .int y :: .int x :: st => fx_v (x ^^^ y) (fun v => some (.inl (nx, lo, .int v :: st, W, b, c)))
    | _ => none
noncomputable def fx_iidiv  (xa : mm_Xa) (j nx r1 r2 r3 pc : Nat) (lo : List (Nat × Value)) (st : List Value) (W : y_W) (b c : Nat) : Option y_T :=
  match st with
    | .int y :: .int x :: st => if y = 0 then none else fx_v (x / y) (fun v => some (.inl (nx, lo, .int v :: st, W, b, c)))
    | _ => none
noncomputable def fx_iirem  (xa : mm_Xa) (j nx r1 r2 r3 pc : Nat) (lo : List (Nat × Value)) (st : List Value) (W : y_W) (b c : Nat) : Option y_T :=
  match st with
    | .int y :: .int x :: st => if y = 0 then none else fx_v (x - x / y * y) (fun v => some (.inl (nx, lo, .int v :: st, W, b, c)))
    | _ => none
noncomputable def fx_iineg  (xa : mm_Xa) (j nx r1 r2 r3 pc : Nat) (lo : List (Nat × Value)) (st : List Value) (W : y_W) (b c : Nat) : Option y_T :=
  match st with
    | .int x :: st => fx_v (-x) (fun v => some (.inl (nx, lo, .int v :: st, W, b, c)))
    | _ => none
noncomputable def fx_iishl  (xa : mm_Xa) (j nx r1 r2 r3 pc : Nat) (lo : List (Nat × Value)) (st : List Value) (W : y_W) (b c : Nat) : Option y_T :=
  match st with
    | .int y :: .int x :: st => fx_v (x <<< (y &&& 31)) (fun v => some (.inl (nx, lo, .int v :: st, W, b, c)))
    | _ => none
noncomputable def fx_iishr  (xa : mm_Xa) (j nx r1 r2 r3 pc : Nat) (lo : List (Nat × Value)) (st : List Value) (W : y_W) (b c : Nat) : Option y_T :=
  match st with
    | .int y :: .int x :: st => fx_v (x >>> (y &&& 31)) (fun v => some (.inl (nx, lo, .int v :: st, W, b, c)))
    | _ => none
noncomputable def fx_iiushr  (xa : mm_Xa) (j nx r1 r2 r3 pc : Nat) (lo : List (Nat × Value)) (st : List Value) (W : y_W) (b c : Nat) : Option y_T :=
  match st with
    | .int y :: .int x :: st => some (.inl (nx, lo, .int (x.toUInt32 >>> (y.toUInt32 &&& Int32.toUInt32 31)).toInt32 :: st, W, b, c))
    | _ => none
noncomputable def fx_iland  (xa : mm_Xa) (j nx r1 r2 r3 pc : Nat) (lo : List (Nat × Value)) (st : List Value) (W : y_W) (b c : Nat) : Option y_T :=
  match st with
    | .long y :: .long x :: st => some (.inl (nx, lo, .long (x &&& y) :: st, W, b, c))
    | _ => none
noncomputable def fx_ilor  (xa : mm_Xa) (j nx r1 r2 r3 pc : Nat) (lo : List (Nat × Value)) (st : List Value) (W : y_W) (b c : Nat) : Option y_T :=
  match st with
    | .long y :: .long x :: st => some (.inl (nx, lo, .long (x ||| y) :: st, W, b, c))
    | _ => none
noncomputable def fx_ilshl  (xa : mm_Xa) (j nx r1 r2 r3 pc : Nat) (lo : List (Nat × Value)) (st : List Value) (W : y_W) (b c : Nat) : Option y_T :=
  match st with
    | .int y :: .long x :: st => some (.inl (nx, lo, .long (x <<< (y.toInt64 &&& 63)) :: st, W, b, c))
    | _ => none
noncomputable def fx_ilshr  (xa : mm_Xa) (j nx r1 r2 r3 pc : Nat) (lo : List (Nat × Value)) (st : List Value) (W : y_W) (b c : Nat) : Option y_T :=
  match st with
    | .int y :: .long x :: st => some (.inl (nx, lo, .long (x >>> (y.toInt64 &&& 63)) :: st, W, b, c))
    | _ => none
noncomputable def fx_ilcmp  (xa : mm_Xa) (j nx r1 r2 r3 pc : Nat) (lo : List (Nat × Value)) (st : List Value) (W : y_W) (b c : Nat) : Option y_T :=
  match st with
    | .long y :: .long x :: st => fx_v (lg_cmp x y) (fun v => some (.inl (nx, lo, .int v :: st, W, b, c)))
    | _ => none
noncomputable def fx_ii2l  (xa : mm_Xa) (j nx r1 r2 r3 pc : Nat) (lo : List (Nat × Value)) (st : List Value) (W : y_W) (b c : Nat) : Option y_T :=
  match st with
    | .int x :: st => some (.inl (nx, lo, .long x.toInt64 :: st, W, b, c))
    | _ => none
noncomputable def fx_il2i  (xa : mm_Xa) (j nx r1 r2 r3 pc : Nat) (lo : List (Nat × Value)) (st : List Value) (W : y_W) (b c : Nat) : Option y_T :=
  match st with
    | .long x :: st => fx_v (x.toInt32) (fun v => some (.inl (nx, lo, .int v :: st, W, b, c)))
    | _ => none
noncomputable def fx_ii2b  (xa : mm_Xa) (j nx r1 r2 r3 pc : Nat) (lo : List (Nat × Value)) (st : List Value) (W : y_W) (b c : Nat) : Option y_T :=
  match st with
    | .int x :: st => fx_v (x.toInt8.toInt32) (fun v => some (.inl (nx, lo, .int v :: st, W, b, c)))
    | _ => none
noncomputable def fx_ii2c  (xa : mm_Xa) (j nx r1 r2 r3 pc : Nat) (lo : List (Nat × Value)) (st : List Value) (W : y_W) (b c : Nat) : Option y_T :=
  match st with
    | .int x :: st => some (.inl (nx, lo, .int (x.toUInt32 % 65536).toInt32 :: st, W, b, c))
    | _ => none
noncomputable def fx_iifCond (k : Jvm.ClassFile.Cond) (xa : mm_Xa) (j nx r1 r2 r3 pc : Nat) (lo : List (Nat × Value)) (st : List Value) (W : y_W) (b c : Nat) : Option y_T :=
  match st with
    | .int x :: st => some (.inl (if fx_cmp k x 0 then r1 else nx, lo, st, W, b, c))
    | _ => none
noncomputable def fx_iif_icmp (k : Jvm.ClassFile.Cond) (xa : mm_Xa) (j nx r1 r2 r3 pc : Nat) (lo : List (Nat × Value)) (st : List Value) (W : y_W) (b c : Nat) : Option y_T :=
  match st with
    | .int y :: .int x :: st => some (.inl (if fx_cmp k x y then r1 else nx, lo, st, W, b, c))
    | _ => none
noncomputable def fx_iif_acmp (k : Jvm.ClassFile.ACond) (xa : mm_Xa) (j nx r1 r2 r3 pc : Nat) (lo : List (Nat × Value)) (st : List Value) (W : y_W) (b c : Nat) : Option y_T :=
  match st with
    | .ref y :: .ref x :: st =>
      if mm_XB < x ∧ mm_XB < y ∧ x ≤ mm_XB + md_ne ∧ y ≤ mm_XB + md_ne then some (.inl (if decide (x = y) == decide (k = .eq) then r1 else nx, lo, st, W, b, c)) else none
    | _ => none
noncomputable def fx_igoto  (xa : mm_Xa) (j nx r1 r2 r3 pc : Nat) (lo : List (Nat × Value)) (st : List Value) (W : y_W) (b c : Nat) : Option y_T :=
  some (.inl (r1, lo, st, W, b, c))
noncomputable def fx_itableswitch (dflt : Int) (l : Int) (h : Int) (offs : Array Int) (xa : mm_Xa) (j nx r1 r2 r3 pc : Nat) (lo : List (Nat × Value)) (st : List Value) (W : y_W) (b c : Nat) : Option y_T :=
  match st with
    | .int x :: st => match mm_tsw pc dflt l h offs x with
      | some t => some (.inl (t, lo, st, W, b, c))
      | none => none
    | _ => none
noncomputable def fx_ilookupswitch (dflt : Int) (ps : Array (Int × Int)) (xa : mm_Xa) (j nx r1 r2 r3 pc : Nat) (lo : List (Nat × Value)) (st : List Value) (W : y_W) (b c : Nat) : Option y_T :=
  match st with
    | .int x :: st => match mm_at pc (Op.lookupswitch.offset ps.toList dflt x.toInt) with
      | some t => some (.inl (t, lo, st, W, b, c))
      | none => none
    | _ => none
noncomputable def fx_iiaload  (xa : mm_Xa) (j nx r1 r2 r3 pc : Nat) (lo : List (Nat × Value)) (st : List Value) (W : y_W) (b c : Nat) : Option y_T :=
  match st with
    | .int i :: .ref k :: st => match y_aget xa W k i with
      | some (t, v) => if t = 0 then some (.inl (nx, lo, v :: st, W, b, c)) else none
      | none => none
    | _ => none
noncomputable def fx_ibaload  (xa : mm_Xa) (j nx r1 r2 r3 pc : Nat) (lo : List (Nat × Value)) (st : List Value) (W : y_W) (b c : Nat) : Option y_T :=
  match st with
    | .int i :: .ref k :: st => match y_aget xa W k i with
      | some (t, v) => if t = 2 ∨ t = 3 then some (.inl (nx, lo, v :: st, W, b, c)) else none
      | none => none
    | _ => none
noncomputable def fx_ilaload  (xa : mm_Xa) (j nx r1 r2 r3 pc : Nat) (lo : List (Nat × Value)) (st : List Value) (W : y_W) (b c : Nat) : Option y_T :=
  match st with
    | .int i :: .ref k :: st => match y_aget xa W k i with
      | some (t, v) => if t = 1 then some (.inl (nx, lo, v :: st, W, b, c)) else none
      | none => none
    | _ => none
noncomputable def fx_iaaload  (xa : mm_Xa) (j nx r1 r2 r3 pc : Nat) (lo : List (Nat × Value)) (st : List Value) (W : y_W) (b c : Nat) : Option y_T :=
  match st with
    | .int i :: .ref k :: st => match y_aget xa W k i with
      | some (t, v) => if 4 ≤ t then some (.inl (nx, lo, v :: st, W, b, c)) else none
      | none => none
    | _ => none
noncomputable def fx_iiastore  (xa : mm_Xa) (j nx r1 r2 r3 pc : Nat) (lo : List (Nat × Value)) (st : List Value) (W : y_W) (b c : Nat) : Option y_T :=
  match st with
    | .int x :: .int i :: .ref k :: st => if k < mm_XB then match y_aputi W k i x with
      | some (t, W2) => if t = 0 then some (.inl (nx, lo, st, W2, b, c)) else none
      | none => none
      else none
    | _ => none
noncomputable def fx_ibastore  (xa : mm_Xa) (j nx r1 r2 r3 pc : Nat) (lo : List (Nat × Value)) (st : List Value) (W : y_W) (b c : Nat) : Option y_T :=
  match st with
    | .int x :: .int i :: .ref k :: st => if k < mm_XB then match y_aputi W k i x with
      | some (t, W2) => if t = 2 ∨ t = 3 then some (.inl (nx, lo, st, W2, b, c)) else none
      | none => none
      else none
    | _ => none
noncomputable def fx_ilastore  (xa : mm_Xa) (j nx r1 r2 r3 pc : Nat) (lo : List (Nat × Value)) (st : List Value) (W : y_W) (b c : Nat) : Option y_T :=
  match st with
    | .long x :: .int i :: .ref k :: st => if k < mm_XB then match y_aputl W k i x with
      | some (t, W2) => if t = 1 then some (.inl (nx, lo, st, W2, b, c)) else none
      | none => none
      else none
    | _ => none
noncomputable def fx_iaastore  (xa : mm_Xa) (j nx r1 r2 r3 pc : Nat) (lo : List (Nat × Value)) (st : List Value) (W : y_W) (b c : Nat) : Option y_T :=
  match st with
    | .ref v :: .int i :: .ref k :: st => if k < mm_XB then (y_aputr W k i v).map (fun W2 => .inl (nx, lo, st, W2, b, c)) else none
    | _ => none
noncomputable def fx_iarraylength  (xa : mm_Xa) (j nx r1 r2 r3 pc : Nat) (lo : List (Nat × Value)) (st : List Value) (W : y_W) (b c : Nat) : Option y_T :=
  match st with
    | .ref k :: st => (y_alen xa W k).map (fun n => .inl (nx, lo, .int (Int32.ofNat n) :: st, W, b, c))
    | _ => none
noncomputable def fx_igetfield  (xa : mm_Xa) (j nx r1 r2 r3 pc : Nat) (lo : List (Nat × Value)) (st : List Value) (W : y_W) (b c : Nat) : Option y_T :=
  match st with
    | .ref k :: st =>
      if r3 = 0 then (if k < mm_XB then (y_getf W k r1 r2).map (fun v => .inl (nx, lo, v :: st, W, b, c)) else none)
      else if k < mm_XB then none else (md_xo (k - mm_XB) r1).map (fun v => .inl (nx, lo, v :: st, W, b, c))
    | _ => none
noncomputable def fx_iputfield  (xa : mm_Xa) (j nx r1 r2 r3 pc : Nat) (lo : List (Nat × Value)) (st : List Value) (W : y_W) (b c : Nat) : Option y_T :=
  match st with
    | v :: .ref k :: st => if k < mm_XB then (y_put W k r1 r2 r3 v).map (fun W2 => .inl (nx, lo, st, W2, b, c)) else none
    | _ => none
noncomputable def fx_igetstatic  (xa : mm_Xa) (j nx r1 r2 r3 pc : Nat) (lo : List (Nat × Value)) (st : List Value) (W : y_W) (b c : Nat) : Option y_T :=
  if r3 = 0 then some (.inl (nx, lo, md_st r1 :: st, W, b, c)) else some (.inl (nx, lo, .retAddr 0 :: st, W, b, c))
noncomputable def fx_inew  (xa : mm_Xa) (j nx r1 r2 r3 pc : Nat) (lo : List (Nat × Value)) (st : List Value) (W : y_W) (b c : Nat) : Option y_T :=
  if r3 = 0 then
      (if 1 ≤ b ∧ (md_df r1).length ≤ c ∧ W.1 < 512 then fx_n W.1 (fun m => some (.inl (nx, lo, .ref m :: st, y_app W (.inr (r1, md_df r1)), b - 1, c - (md_df r1).length))) else none)
    else if 1 ≤ b ∧ 6 ≤ c ∧ g_sum st ≤ 8 then some (.inr (.inl (.inr r1, W, b - 1, c - 6))) else none
noncomputable def fx_inewarray  (xa : mm_Xa) (j nx r1 r2 r3 pc : Nat) (lo : List (Nat × Value)) (st : List Value) (W : y_W) (b c : Nat) : Option y_T :=
  match st with
    | .int n :: st =>
      if ¬ n < 0 ∧ 1 ≤ b ∧ n.toNatClampNeg ≤ c ∧ W.1 < 512 ∧ n.toNatClampNeg ≤ 1000000 then
        fx_n W.1 (fun m => some (.inl (nx, lo, .ref m :: st, y_app W (.inl (r1, n.toNatClampNeg, if r1 = 1 then .inr (.inl (fun _ => 0)) else .inl (fun _ => 0))), b - 1, c - n.toNatClampNeg)))
      else none
    | _ => none
noncomputable def fx_ianewarray  (xa : mm_Xa) (j nx r1 r2 r3 pc : Nat) (lo : List (Nat × Value)) (st : List Value) (W : y_W) (b c : Nat) : Option y_T :=
  match st with
    | .int n :: st =>
      if ¬ n < 0 ∧ 1 ≤ b ∧ n.toNatClampNeg ≤ c ∧ W.1 < 512 ∧ n.toNatClampNeg ≤ 1000000 then
        fx_n W.1 (fun m => some (.inl (nx, lo, .ref m :: st, y_app W (.inl (r1, n.toNatClampNeg, .inr (.inr (.inr (.inr (fun _ => none)))))), b - 1, c - n.toNatClampNeg)))
      else none
    | _ => none
noncomputable def fx_iinvokevirtual  (xa : mm_Xa) (j nx r1 r2 r3 pc : Nat) (lo : List (Nat × Value)) (st : List Value) (W : y_W) (b c : Nat) : Option y_T :=
  y_call r1 r2 r3 pc nx lo st W b c
noncomputable def fx_iinvokestatic  (xa : mm_Xa) (j nx r1 r2 r3 pc : Nat) (lo : List (Nat × Value)) (st : List Value) (W : y_W) (b c : Nat) : Option y_T :=
  y_call r1 r2 r3 pc nx lo st W b c
noncomputable def fx_iinvokespecial  (xa : mm_Xa) (j nx r1 r2 r3 pc : Nat) (lo : List (Nat × Value)) (st : List Value) (W : y_W) (b c : Nat) : Option y_T :=
  y_call r1 r2 r3 pc nx lo st W b c
noncomputable def fx_iireturn  (xa : mm_Xa) (j nx r1 r2 r3 pc : Nat) (lo : List (Nat × Value)) (st : List Value) (W : y_W) (b c : Nat) : Option y_T :=
  match st with
    | [.int v] => (match fx_rt j with
      | some ty => match ty with
        | .int => some (.inr (.inl (.inl (some (.int v)), W, b, c)))
        | ty => if narrow ty (.int v) = .int v then some (.inr (.inl (.inl (some (.int v)), W, b, c))) else none
      | none => none)
    | _ => none
noncomputable def fx_ilreturn  (xa : mm_Xa) (j nx r1 r2 r3 pc : Nat) (lo : List (Nat × Value)) (st : List Value) (W : y_W) (b c : Nat) : Option y_T :=
  match st with
    | [.long v] => if (md_mt j).2.2.2.1 = some .long then some (.inr (.inl (.inl (some (.long v)), W, b, c))) else none
    | _ => none
noncomputable def fx_iareturn  (xa : mm_Xa) (j nx r1 r2 r3 pc : Nat) (lo : List (Nat × Value)) (st : List Value) (W : y_W) (b c : Nat) : Option y_T :=
  match st with
    | [.ref v] => (match (md_mt j).2.2.2.1 with
      | some (.object _) => some (.inr (.inl (.inl (some (.ref v)), W, b, c)))
      | some (.array _) => some (.inr (.inl (.inl (some (.ref v)), W, b, c)))
      | _ => none)
    | _ => none
noncomputable def fx_ireturn_  (xa : mm_Xa) (j nx r1 r2 r3 pc : Nat) (lo : List (Nat × Value)) (st : List Value) (W : y_W) (b c : Nat) : Option y_T :=
  match st with
    | [] => if (md_mt j).2.2.2.1 = none then some (.inr (.inl (.inl none, W, b, c))) else none
    | _ => none
noncomputable def fx_siload (i : Nat) (R : Nat → Option (Int × Int)) (nx r1 pc : Nat) (lo : List (Nat × Value)) (st : List Value) (W : y_W) (b c : Nat) : Option y_T :=
  match l_get lo i with
    | some (.float u) => some (.inl (nx, lo, .float u :: st, W, b, c))
    | _ => none
noncomputable def fx_siload_n (i : Fin 4) (R : Nat → Option (Int × Int)) (nx r1 pc : Nat) (lo : List (Nat × Value)) (st : List Value) (W : y_W) (b c : Nat) : Option y_T :=
  match l_get lo i with
    | some (.float u) => some (.inl (nx, lo, .float u :: st, W, b, c))
    | _ => none
noncomputable def fx_slload (i : Nat) (R : Nat → Option (Int × Int)) (nx r1 pc : Nat) (lo : List (Nat × Value)) (st : List Value) (W : y_W) (b c : Nat) : Option y_T :=
  match l_get lo i with
    | some (.double u) => some (.inl (nx, lo, .double u :: st, W, b, c))
    | _ => none
noncomputable def fx_slload_n (i : Fin 4) (R : Nat → Option (Int × Int)) (nx r1 pc : Nat) (lo : List (Nat × Value)) (st : List Value) (W : y_W) (b c : Nat) : Option y_T :=
  match l_get lo i with
    | some (.double u) => some (.inl (nx, lo, .double u :: st, W, b, c))
    | _ => none
noncomputable def fx_si2l  (R : Nat → Option (Int × Int)) (nx r1 pc : Nat) (lo : List (Nat × Value)) (st : List Value) (W : y_W) (b c : Nat) : Option y_T :=
  match st with
    | .float u :: st => some (.inl (nx, lo, .double u.toUInt64 :: st, W, b, c))
    | _ => none
noncomputable def fx_slcmp  (R : Nat → Option (Int × Int)) (nx r1 pc : Nat) (lo : List (Nat × Value)) (st : List Value) (W : y_W) (b c : Nat) : Option y_T :=
  match st with
    | .long y :: .double u :: st => match R u.toNat with
      | some (p, q) => if q < y.toInt then some (.inl (nx, lo, .int (-1) :: st, W, b, c)) else if y.toInt < p then some (.inl (nx, lo, .int 1 :: st, W, b, c)) else none
      | none => none
    | _ => none
noncomputable def fx_sifCond (k : Jvm.ClassFile.Cond) (R : Nat → Option (Int × Int)) (nx r1 pc : Nat) (lo : List (Nat × Value)) (st : List Value) (W : y_W) (b c : Nat) : Option y_T :=
  match st with
    | .float u :: st => match R u.toNat with
      | some (p, q) => match ts_rc k p q 0 0 with
        | some r => some (.inl (if r then r1 else nx, lo, st, W, b, c))
        | none => none
      | none => none
    | _ => none
noncomputable def fx_sif_icmp (k : Jvm.ClassFile.Cond) (R : Nat → Option (Int × Int)) (nx r1 pc : Nat) (lo : List (Nat × Value)) (st : List Value) (W : y_W) (b c : Nat) : Option y_T :=
  match st with
    | .int y :: .float u :: st => match R u.toNat with
      | some (p, q) => match ts_rc k p q y.toInt y.toInt with
        | some r => some (.inl (if r then r1 else nx, lo, st, W, b, c))
        | none => none
      | none => none
    | .float u :: .int x :: st => match R u.toNat with
      | some (p, q) => match ts_rc k x.toInt x.toInt p q with
        | some r => some (.inl (if r then r1 else nx, lo, st, W, b, c))
        | none => none
      | none => none
    | _ => none
noncomputable def fx_stableswitch (df : Int) (l : Int) (h : Int) (R : Nat → Option (Int × Int)) (nx r1 pc : Nat) (lo : List (Nat × Value)) (st : List Value) (W : y_W) (b c : Nat) : Option y_T :=
  match st with
    | .float u :: st => match R u.toNat with
      | some (p, q) => if q < l ∨ h < p then (mm_at pc df).map (fun t => .inl (t, lo, st, W, b, c)) else none
      | none => none
    | _ => none
noncomputable def fx_siaload  (R : Nat → Option (Int × Int)) (nx r1 pc : Nat) (lo : List (Nat × Value)) (st : List Value) (W : y_W) (b c : Nat) : Option y_T :=
  match st with
    | .int i :: .ref k :: st =>
      if k = mm_XB ∧ mm_ib i 6 = true then
        match R i.toNatClampNeg with
        | some (p, q) => if p = q then some (.inl (nx, lo, .int (Int32.ofInt p) :: st, W, b, c)) else some (.inl (nx, lo, .float (UInt32.ofNat (i.toNatClampNeg % 8)) :: st, W, b, c))
        | none => some (.inl (nx, lo, .float (UInt32.ofNat (i.toNatClampNeg % 8)) :: st, W, b, c))
      else none
    | _ => none
def fx_s0 (R : Nat → Option (Int × Int)) (nx r1 pc : Nat) (lo : List (Nat × Value)) (st : List Value) (W : y_W) (b c : Nat) : Option y_T := none
def fx_i0 (xa : mm_Xa) (j nx r1 r2 r3 pc : Nat) (lo : List (Nat × Value)) (st : List Value) (W : y_W) (b c : Nat) : Option y_T := none
noncomputable def fx_P (ins : Instr) : (mm_Xa → Nat → Nat → Nat → Nat → Nat → Nat → List (Nat × Value) → List Value → y_W → Nat → Nat → Option y_T) × ((Nat → Option (Int × Int)) → Nat → Nat → Nat → List (Nat × Value) → List Value → y_W → Nat → Nat → Option y_T) × Bool :=
  match ins with
  | .iconst n => ((fx_iiconst n), fx_s0, false)
  | .bipush n => ((fx_ibipush n), fx_s0, false)
  | .sipush n => ((fx_isipush n), fx_s0, false)
  | .lconst n => ((fx_ilconst n), fx_s0, false)
  | .aconst_null => (fx_iaconst_null, fx_s0, false)
  | .ldc _ => (fx_ildc, fx_s0, false)
  | .ldc_w _ => (fx_ildc_w, fx_s0, false)
  | .ldc2_w _ => (fx_ildc2_w, fx_s0, false)
  | .iload i => ((fx_iiload i), (fx_siload i), false)
  | .iload_n i => ((fx_iiload_n i), (fx_siload_n i), false)
  | .lload i => ((fx_ilload i), (fx_slload i), false)
  | .lload_n i => ((fx_ilload_n i), (fx_slload_n i), false)
  | .aload i => ((fx_iaload i), fx_s0, false)
  | .aload_n i => ((fx_iaload_n i), fx_s0, false)
  | .istore i => ((fx_iistore i), fx_s0, false)
  | .istore_n i => ((fx_iistore_n i), fx_s0, false)
  | .lstore i => ((fx_ilstore i), fx_s0, false)
  | .lstore_n i => ((fx_ilstore_n i), fx_s0, false)
  | .astore i => ((fx_iastore i), fx_s0, false)
  | .astore_n i => ((fx_iastore_n i), fx_s0, false)
  | .iinc i n => ((fx_iiinc i n), fx_s0, false)
  | .dup => (fx_idup, fx_s0, false)
  | .pop => (fx_ipop, fx_s0, false)
  | .dup2 => (fx_idup2, fx_s0, false)
  | .iadd => (fx_iiadd, fx_s0, false)
  | .isub => (fx_iisub, fx_s0, false)
  | .imul => (fx_iimul, fx_s0, false)
  | .iand => (fx_iiand, fx_s0, false)
  | .ior => (fx_iior, fx_s0, false)
  | .ixor => (fx_iixor, fx_s0, false)
  | .idiv => (fx_iidiv, fx_s0, false)
  | .irem => (fx_iirem, fx_s0, false)
  | .ineg => (fx_iineg, fx_s0, false)
  | .ishl => (fx_iishl, fx_s0, false)
  | .ishr => (fx_iishr, fx_s0, false)
  | .iushr => (fx_iiushr, fx_s0, false)
  | .land => (fx_iland, fx_s0, false)
  | .lor => (fx_ilor, fx_s0, false)
  | .lshl => (fx_ilshl, fx_s0, false)
  | .lshr => (fx_ilshr, fx_s0, false)
  | .lcmp => (fx_ilcmp, fx_slcmp, false)
  | .i2l => (fx_ii2l, fx_si2l, false)
  | .l2i => (fx_il2i, fx_s0, false)
  | .i2b => (fx_ii2b, fx_s0, false)
  | .i2c => (fx_ii2c, fx_s0, false)
  | .ifCond k _ => ((fx_iifCond k), (fx_sifCond k), false)
  | .if_icmp k _ => ((fx_iif_icmp k), (fx_sif_icmp k), false)
  | .if_acmp k _ => ((fx_iif_acmp k), fx_s0, false)
  | .goto _ => (fx_igoto, fx_s0, false)
  | .tableswitch dflt l h offs => ((fx_itableswitch dflt l h offs), (fx_stableswitch dflt l h), false)
  | .lookupswitch dflt ps => ((fx_ilookupswitch dflt ps), fx_s0, false)
  | .iaload => (fx_iiaload, fx_siaload, true)
  | .baload => (fx_ibaload, fx_s0, true)
  | .laload => (fx_ilaload, fx_s0, true)
  | .aaload => (fx_iaaload, fx_s0, true)
  | .iastore => (fx_iiastore, fx_s0, false)
  | .bastore => (fx_ibastore, fx_s0, false)
  | .lastore => (fx_ilastore, fx_s0, false)
  | .aastore => (fx_iaastore, fx_s0, false)
  | .arraylength => (fx_iarraylength, fx_s0, false)
  | .getfield _ => (fx_igetfield, fx_s0, true)
  | .putfield _ => (fx_iputfield, fx_s0, false)
  | .getstatic _ => (fx_igetstatic, fx_s0, true)
  | .new _ => (fx_inew, fx_s0, false)
  | .newarray _ => (fx_inewarray, fx_s0, false)
  | .anewarray _ => (fx_ianewarray, fx_s0, false)
  | .invokevirtual _ => (fx_iinvokevirtual, fx_s0, false)
  | .invokestatic _ => (fx_iinvokestatic, fx_s0, false)
  | .invokespecial _ => (fx_iinvokespecial, fx_s0, false)
  | .ireturn => (fx_iireturn, fx_s0, false)
  | .lreturn => (fx_ilreturn, fx_s0, false)
  | .areturn => (fx_iareturn, fx_s0, false)
  | .return_ => (fx_ireturn_, fx_s0, false)
  | _ => (fx_i0, fx_s0, false)
set_option maxHeartbeats 8000000 in
theorem fx_I_s (xa : mm_Xa) (j : Nat) (ins : Instr) (nx r1 r2 r3 pc : Nat) (lo : List (Nat × Value)) (st : List Value) (W : y_W) (b c : Nat) (T : y_T) (h : (fx_P ins).1 xa j nx r1 r2 r3 pc lo st W b c = some T) : mm_stepI xa j ins nx r1 r2 r3 pc lo st (y_a W) b c = some (ya_T T) := by
  cases ins
  case iconst a0 =>
    have key : (fx_iiconst a0 xa j nx r1 r2 r3 pc lo st W b c).map ya_T = mm_stepI xa j (.iconst a0) nx r1 r2 r3 pc lo st (y_a W) b c := by
      unfold fx_iiconst
      try simp only [fx_v_eq, fx_cmp_eq, fx_add_eq, fx_sub_eq, fx_mul_eq, g_sum_eq, y_aget_eq, y_alen_eq, y_cls_eq, y_getf_eq, l_get_eq, l_sto_eq]
      simp only [mm_stepI]
      first | rfl | (split <;> rfl)
    rw [← key, show fx_iiconst a0 xa j nx r1 r2 r3 pc lo st W b c = some T from h]
    rfl
  case bipush a0 =>
    have key : (fx_ibipush a0 xa j nx r1 r2 r3 pc lo st W b c).map ya_T = mm_stepI xa j (.bipush a0) nx r1 r2 r3 pc lo st (y_a W) b c := by
      unfold fx_ibipush
      try simp only [fx_v_eq, fx_cmp_eq, fx_add_eq, fx_sub_eq, fx_mul_eq, g_sum_eq, y_aget_eq, y_alen_eq, y_cls_eq, y_getf_eq, l_get_eq, l_sto_eq]
      simp only [mm_stepI]
      first | rfl | (split <;> rfl)
    rw [← key, show fx_ibipush a0 xa j nx r1 r2 r3 pc lo st W b c = some T from h]
    rfl
  case sipush a0 =>
    have key : (fx_isipush a0 xa j nx r1 r2 r3 pc lo st W b c).map ya_T = mm_stepI xa j (.sipush a0) nx r1 r2 r3 pc lo st (y_a W) b c := by
      unfold fx_isipush
      try simp only [fx_v_eq, fx_cmp_eq, fx_add_eq, fx_sub_eq, fx_mul_eq, g_sum_eq, y_aget_eq, y_alen_eq, y_cls_eq, y_getf_eq, l_get_eq, l_sto_eq]
      simp only [mm_stepI]
      first | rfl | (split <;> rfl)
    rw [← key, show fx_isipush a0 xa j nx r1 r2 r3 pc lo st W b c = some T from h]
    rfl
  case lconst a0 =>
    have key : (fx_ilconst a0 xa j nx r1 r2 r3 pc lo st W b c).map ya_T = mm_stepI xa j (.lconst a0) nx r1 r2 r3 pc lo st (y_a W) b c := by
      unfold fx_ilconst
      try simp only [fx_v_eq, fx_cmp_eq, fx_add_eq, fx_sub_eq, fx_mul_eq, g_sum_eq, y_aget_eq, y_alen_eq, y_cls_eq, y_getf_eq, l_get_eq, l_sto_eq]
      simp only [mm_stepI]
      first | rfl | (split <;> rfl)
    rw [← key, show fx_ilconst a0 xa j nx r1 r2 r3 pc lo st W b c = some T from h]
    rfl
  case aconst_null =>
    have key : (fx_iaconst_null xa j nx r1 r2 r3 pc lo st W b c).map ya_T = mm_stepI xa j (.aconst_null) nx r1 r2 r3 pc lo st (y_a W) b c := by
      unfold fx_iaconst_null
      try simp only [fx_v_eq, fx_cmp_eq, fx_add_eq, fx_sub_eq, fx_mul_eq, g_sum_eq, y_aget_eq, y_alen_eq, y_cls_eq, y_getf_eq, l_get_eq, l_sto_eq]
      simp only [mm_stepI]
      first | rfl | (split <;> rfl)
    rw [← key, show fx_iaconst_null xa j nx r1 r2 r3 pc lo st W b c = some T from h]
    rfl
  case ldc a0 =>
    have key : (fx_ildc xa j nx r1 r2 r3 pc lo st W b c).map ya_T = mm_stepI xa j (.ldc a0) nx r1 r2 r3 pc lo st (y_a W) b c := by
      unfold fx_ildc
      try simp only [fx_v_eq, fx_cmp_eq, fx_add_eq, fx_sub_eq, fx_mul_eq, g_sum_eq, y_aget_eq, y_alen_eq, y_cls_eq, y_getf_eq, l_get_eq, l_sto_eq]
      simp only [mm_stepI]
      first | rfl | (split <;> rfl)
    rw [← key, show fx_ildc xa j nx r1 r2 r3 pc lo st W b c = some T from h]
    rfl
  case ldc_w a0 =>
    have key : (fx_ildc_w xa j nx r1 r2 r3 pc lo st W b c).map ya_T = mm_stepI xa j (.ldc_w a0) nx r1 r2 r3 pc lo st (y_a W) b c := by
      unfold fx_ildc_w
      try simp only [fx_v_eq, fx_cmp_eq, fx_add_eq, fx_sub_eq, fx_mul_eq, g_sum_eq, y_aget_eq, y_alen_eq, y_cls_eq, y_getf_eq, l_get_eq, l_sto_eq]
      simp only [mm_stepI]
      first | rfl | (split <;> rfl)
    rw [← key, show fx_ildc_w xa j nx r1 r2 r3 pc lo st W b c = some T from h]
    rfl
  case ldc2_w a0 =>
    have key : (fx_ildc2_w xa j nx r1 r2 r3 pc lo st W b c).map ya_T = mm_stepI xa j (.ldc2_w a0) nx r1 r2 r3 pc lo st (y_a W) b c := by
      unfold fx_ildc2_w
      try simp only [fx_v_eq, fx_cmp_eq, fx_add_eq, fx_sub_eq, fx_mul_eq, g_sum_eq, y_aget_eq, y_alen_eq, y_cls_eq, y_getf_eq, l_get_eq, l_sto_eq]
      simp only [mm_stepI]
      first | rfl | (split <;> rfl)
    rw [← key, show fx_ildc2_w xa j nx r1 r2 r3 pc lo st W b c = some T from h]
    rfl
  case iload a0 =>
    have key : (fx_iiload a0 xa j nx r1 r2 r3 pc lo st W b c).map ya_T = mm_stepI xa j (.iload a0) nx r1 r2 r3 pc lo st (y_a W) b c := by
      unfold fx_iiload
      try simp only [fx_v_eq, fx_cmp_eq, fx_add_eq, fx_sub_eq, fx_mul_eq, g_sum_eq, y_aget_eq, y_alen_eq, y_cls_eq, y_getf_eq, l_get_eq, l_sto_eq]
      simp only [mm_stepI]
      generalize mm_get lo a0 = g
      rcases g with _ | v
      · rfl
      · cases v <;> rfl
    rw [← key, show fx_iiload a0 xa j nx r1 r2 r3 pc lo st W b c = some T from h]
    rfl
  case iload_n a0 =>
    have key : (fx_iiload_n a0 xa j nx r1 r2 r3 pc lo st W b c).map ya_T = mm_stepI xa j (.iload_n a0) nx r1 r2 r3 pc lo st (y_a W) b c := by
      unfold fx_iiload_n
      try simp only [fx_v_eq, fx_cmp_eq, fx_add_eq, fx_sub_eq, fx_mul_eq, g_sum_eq, y_aget_eq, y_alen_eq, y_cls_eq, y_getf_eq, l_get_eq, l_sto_eq]
      simp only [mm_stepI]
      generalize mm_get lo ↑a0 = g
      rcases g with _ | v
      · rfl
      · cases v <;> rfl
    rw [← key, show fx_iiload_n a0 xa j nx r1 r2 r3 pc lo st W b c = some T from h]
    rfl
  case lload a0 =>
    have key : (fx_ilload a0 xa j nx r1 r2 r3 pc lo st W b c).map ya_T = mm_stepI xa j (.lload a0) nx r1 r2 r3 pc lo st (y_a W) b c := by
      unfold fx_ilload
      try simp only [fx_v_eq, fx_cmp_eq, fx_add_eq, fx_sub_eq, fx_mul_eq, g_sum_eq, y_aget_eq, y_alen_eq, y_cls_eq, y_getf_eq, l_get_eq, l_sto_eq]
      simp only [mm_stepI]
      generalize mm_get lo a0 = g
      rcases g with _ | v
      · rfl
      · cases v <;> rfl
    rw [← key, show fx_ilload a0 xa j nx r1 r2 r3 pc lo st W b c = some T from h]
    rfl
  case lload_n a0 =>
    have key : (fx_ilload_n a0 xa j nx r1 r2 r3 pc lo st W b c).map ya_T = mm_stepI xa j (.lload_n a0) nx r1 r2 r3 pc lo st (y_a W) b c := by
      unfold fx_ilload_n
      try simp only [fx_v_eq, fx_cmp_eq, fx_add_eq, fx_sub_eq, fx_mul_eq, g_sum_eq, y_aget_eq, y_alen_eq, y_cls_eq, y_getf_eq, l_get_eq, l_sto_eq]
      simp only [mm_stepI]
      generalize mm_get lo ↑a0 = g
      rcases g with _ | v
      · rfl
      · cases v <;> rfl
    rw [← key, show fx_ilload_n a0 xa j nx r1 r2 r3 pc lo st W b c = some T from h]
    rfl
  case aload a0 =>
    have key : (fx_iaload a0 xa j nx r1 r2 r3 pc lo st W b c).map ya_T = mm_stepI xa j (.aload a0) nx r1 r2 r3 pc lo st (y_a W) b c := by
      unfold fx_iaload
      try simp only [fx_v_eq, fx_cmp_eq, fx_add_eq, fx_sub_eq, fx_mul_eq, g_sum_eq, y_aget_eq, y_alen_eq, y_cls_eq, y_getf_eq, l_get_eq, l_sto_eq]
      simp only [mm_stepI]
      generalize mm_get lo a0 = g
      rcases g with _ | v
      · rfl
      · cases v <;> rfl
    rw [← key, show fx_iaload a0 xa j nx r1 r2 r3 pc lo st W b c = some T from h]
    rfl
  case aload_n a0 =>
    have key : (fx_iaload_n a0 xa j nx r1 r2 r3 pc lo st W b c).map ya_T = mm_stepI xa j (.aload_n a0) nx r1 r2 r3 pc lo st (y_a W) b c := by
      unfold fx_iaload_n
      try simp only [fx_v_eq, fx_cmp_eq, fx_add_eq, fx_sub_eq, fx_mul_eq, g_sum_eq, y_aget_eq, y_alen_eq, y_cls_eq, y_getf_eq, l_get_eq, l_sto_eq]
      simp only [mm_stepI]
      generalize mm_get lo ↑a0 = g
      rcases g with _ | v
      · rfl
      · cases v <;> rfl
    rw [← key, show fx_iaload_n a0 xa j nx r1 r2 r3 pc lo st W b c = some T from h]
    rfl
  case istore a0 =>
    have key : (fx_iistore a0 xa j nx r1 r2 r3 pc lo st W b c).map ya_T = mm_stepI xa j (.istore a0) nx r1 r2 r3 pc lo st (y_a W) b c := by
      unfold fx_iistore
      try simp only [fx_v_eq, fx_cmp_eq, fx_add_eq, fx_sub_eq, fx_mul_eq, g_sum_eq, y_aget_eq, y_alen_eq, y_cls_eq, y_getf_eq, l_get_eq, l_sto_eq]
      simp only [mm_stepI]
      rcases st with _ | ⟨v, st⟩
      · rfl
      · cases v <;> (try dsimp only) <;> first | rfl | (split <;> rfl)
    rw [← key, show fx_iistore a0 xa j nx r1 r2 r3 pc lo st W b c = some T from h]
    rfl
  case istore_n a0 =>
    have key : (fx_iistore_n a0 xa j nx r1 r2 r3 pc lo st W b c).map ya_T = mm_stepI xa j (.istore_n a0) nx r1 r2 r3 pc lo st (y_a W) b c := by
      unfold fx_iistore_n
      try simp only [fx_v_eq, fx_cmp_eq, fx_add_eq, fx_sub_eq, fx_mul_eq, g_sum_eq, y_aget_eq, y_alen_eq, y_cls_eq, y_getf_eq, l_get_eq, l_sto_eq]
      simp only [mm_stepI]
      rcases st with _ | ⟨v, st⟩
      · rfl
      · cases v <;> (try dsimp only) <;> first | rfl | (split <;> rfl)
    rw [← key, show fx_iistore_n a0 xa j nx r1 r2 r3 pc lo st W b c = some T from h]
    rfl
  case lstore a0 =>
    have key : (fx_ilstore a0 xa j nx r1 r2 r3 pc lo st W b c).map ya_T = mm_stepI xa j (.lstore a0) nx r1 r2 r3 pc lo st (y_a W) b c := by
      unfold fx_ilstore
      try simp only [fx_v_eq, fx_cmp_eq, fx_add_eq, fx_sub_eq, fx_mul_eq, g_sum_eq, y_aget_eq, y_alen_eq, y_cls_eq, y_getf_eq, l_get_eq, l_sto_eq]
      simp only [mm_stepI]
      rcases st with _ | ⟨v, st⟩
      · rfl
      · cases v <;> (try dsimp only) <;> first | rfl | (split <;> rfl)
    rw [← key, show fx_ilstore a0 xa j nx r1 r2 r3 pc lo st W b c = some T from h]
    rfl
  case lstore_n a0 =>
    have key : (fx_ilstore_n a0 xa j nx r1 r2 r3 pc lo st W b c).map ya_T = mm_stepI xa j (.lstore_n a0) nx r1 r2 r3 pc lo st (y_a W) b c := by
      unfold fx_ilstore_n
      try simp only [fx_v_eq, fx_cmp_eq, fx_add_eq, fx_sub_eq, fx_mul_eq, g_sum_eq, y_aget_eq, y_alen_eq, y_cls_eq, y_getf_eq, l_get_eq, l_sto_eq]
      simp only [mm_stepI]
      rcases st with _ | ⟨v, st⟩
      · rfl
      · cases v <;> (try dsimp only) <;> first | rfl | (split <;> rfl)
    rw [← key, show fx_ilstore_n a0 xa j nx r1 r2 r3 pc lo st W b c = some T from h]
    rfl
  case astore a0 =>
    have key : (fx_iastore a0 xa j nx r1 r2 r3 pc lo st W b c).map ya_T = mm_stepI xa j (.astore a0) nx r1 r2 r3 pc lo st (y_a W) b c := by
      unfold fx_iastore
      try simp only [fx_v_eq, fx_cmp_eq, fx_add_eq, fx_sub_eq, fx_mul_eq, g_sum_eq, y_aget_eq, y_alen_eq, y_cls_eq, y_getf_eq, l_get_eq, l_sto_eq]
      simp only [mm_stepI]
      rcases st with _ | ⟨v, st⟩
      · rfl
      · cases v <;> (try dsimp only) <;> first | rfl | (split <;> rfl)
    rw [← key, show fx_iastore a0 xa j nx r1 r2 r3 pc lo st W b c = some T from h]
    rfl
  case astore_n a0 =>
    have key : (fx_iastore_n a0 xa j nx r1 r2 r3 pc lo st W b c).map ya_T = mm_stepI xa j (.astore_n a0) nx r1 r2 r3 pc lo st (y_a W) b c := by
      unfold fx_iastore_n
      try simp only [fx_v_eq, fx_cmp_eq, fx_add_eq, fx_sub_eq, fx_mul_eq, g_sum_eq, y_aget_eq, y_alen_eq, y_cls_eq, y_getf_eq, l_get_eq, l_sto_eq]
      simp only [mm_stepI]
      rcases st with _ | ⟨v, st⟩
      · rfl
      · cases v <;> (try dsimp only) <;> first | rfl | (split <;> rfl)
    rw [← key, show fx_iastore_n a0 xa j nx r1 r2 r3 pc lo st W b c = some T from h]
    rfl
  case iinc a0 a1 =>
    have key : (fx_iiinc a0 a1 xa j nx r1 r2 r3 pc lo st W b c).map ya_T = mm_stepI xa j (.iinc a0 a1) nx r1 r2 r3 pc lo st (y_a W) b c := by
      unfold fx_iiinc
      try simp only [fx_v_eq, fx_cmp_eq, fx_add_eq, fx_sub_eq, fx_mul_eq, g_sum_eq, y_aget_eq, y_alen_eq, y_cls_eq, y_getf_eq, l_get_eq, l_sto_eq]
      simp only [mm_stepI]
      generalize mm_get lo a0 = g
      rcases g with _ | v
      · rfl
      · cases v <;> rfl
    rw [← key, show fx_iiinc a0 a1 xa j nx r1 r2 r3 pc lo st W b c = some T from h]
    rfl
  case dup =>
    have key : (fx_idup xa j nx r1 r2 r3 pc lo st W b c).map ya_T = mm_stepI xa j (.dup) nx r1 r2 r3 pc lo st (y_a W) b c := by
      unfold fx_idup
      try simp only [fx_v_eq, fx_cmp_eq, fx_add_eq, fx_sub_eq, fx_mul_eq, g_sum_eq, y_aget_eq, y_alen_eq, y_cls_eq, y_getf_eq, l_get_eq, l_sto_eq]
      simp only [mm_stepI]
      rcases st with _ | ⟨v, st⟩
      · rfl
      · cases v <;> (try dsimp only) <;> first | rfl | (split <;> rfl)
    rw [← key, show fx_idup xa j nx r1 r2 r3 pc lo st W b c = some T from h]
    rfl
  case pop =>
    have key : (fx_ipop xa j nx r1 r2 r3 pc lo st W b c).map ya_T = mm_stepI xa j (.pop) nx r1 r2 r3 pc lo st (y_a W) b c := by
      unfold fx_ipop
      try simp only [fx_v_eq, fx_cmp_eq, fx_add_eq, fx_sub_eq, fx_mul_eq, g_sum_eq, y_aget_eq, y_alen_eq, y_cls_eq, y_getf_eq, l_get_eq, l_sto_eq]
      simp only [mm_stepI]
      rcases st with _ | ⟨v, st⟩
      · rfl
      · cases v <;> (try dsimp only) <;> first | rfl | (split <;> rfl)
    rw [← key, show fx_ipop xa j nx r1 r2 r3 pc lo st W b c = some T from h]
    rfl
  case dup2 =>
    have key : (fx_idup2 xa j nx r1 r2 r3 pc lo st W b c).map ya_T = mm_stepI xa j (.dup2) nx r1 r2 r3 pc lo st (y_a W) b c := by
      unfold fx_idup2
      try simp only [fx_v_eq, fx_cmp_eq, fx_add_eq, fx_sub_eq, fx_mul_eq, g_sum_eq, y_aget_eq, y_alen_eq, y_cls_eq, y_getf_eq, l_get_eq, l_sto_eq]
      simp only [mm_stepI]
      rcases st with _ | ⟨v, _ | ⟨w, st⟩⟩
      · rfl
      · cases v <;> rfl
      · cases v <;> (try rfl) <;> cases w <;> (try dsimp only) <;> first | rfl | (split <;> rfl)
    rw [← key, show fx_idup2 xa j nx r1 r2 r3 pc lo st W b c = some T from h]
    rfl
  case iadd =>
    have key : (fx_iiadd xa j nx r1 r2 r3 pc lo st W b c).map ya_T = mm_stepI xa j (.iadd) nx r1 r2 r3 pc lo st (y_a W) b c := by
      unfold fx_iiadd
      try simp only [fx_v_eq, fx_cmp_eq, fx_add_eq, fx_sub_eq, fx_mul_eq, g_sum_eq, y_aget_eq, y_alen_eq, y_cls_eq, y_getf_eq, l_get_eq, l_sto_eq]
      simp only [mm_stepI]
      rcases st with _ | ⟨v, _ | ⟨w, st⟩⟩
      · rfl
      · cases v <;> rfl
      · cases v <;> (try rfl) <;> cases w <;> (try dsimp only) <;> first | rfl | (split <;> rfl)
    rw [← key, show fx_iiadd xa j nx r1 r2 r3 pc lo st W b c = some T from h]
    rfl
  case isub =>
    have key : (fx_iisub xa j nx r1 r2 r3 pc lo st W b c).map ya_T = mm_stepI xa j (.isub) nx r1 r2 r3 pc lo st (y_a W) b c := by
      unfold fx_iisub
      try simp only [fx_v_eq, fx_cmp_eq, fx_add_eq, fx_sub_eq, fx_mul_eq, g_sum_eq, y_aget_eq, y_alen_eq, y_cls_eq, y_getf_eq, l_get_eq, l_sto_eq]
      simp only [mm_stepI]
      rcases st with _ | ⟨v, _ | ⟨w, st⟩⟩
      · rfl
      · cases v <;> rfl
      · cases v <;> (try rfl) <;> cases w <;> (try dsimp only) <;> first | rfl | (split <;> rfl)
    rw [← key, show fx_iisub xa j nx r1 r2 r3 pc lo st W b c = some T from h]
    rfl
  case imul =>
    have key : (fx_iimul xa j nx r1 r2 r3 pc lo st W b c).map ya_T = mm_stepI xa j (.imul) nx r1 r2 r3 pc lo st (y_a W) b c := by
      unfold fx_iimul
      try simp only [fx_v_eq, fx_cmp_eq, fx_add_eq, fx_sub_eq, fx_mul_eq, g_sum_eq, y_aget_eq, y_alen_eq, y_cls_eq, y_getf_eq, l_get_eq, l_sto_eq]
      simp only [mm_stepI]
      rcases st with _ | ⟨v, _ | ⟨w, st⟩⟩
      · rfl
      · cases v <;> rfl
      · cases v <;> (try rfl) <;> cases w <;> (try dsimp only) <;> first | rfl | (split <;> rfl)
    rw [← key, show fx_iimul xa j nx r1 r2 r3 pc lo st W b c = some T from h]
    rfl
  case iand =>
    have key : (fx_iiand xa j nx r1 r2 r3 pc lo st W b c).map ya_T = mm_stepI xa j (.iand) nx r1 r2 r3 pc lo st (y_a W) b c := by
      unfold fx_iiand
      try simp only [fx_v_eq, fx_cmp_eq, fx_add_eq, fx_sub_eq, fx_mul_eq, g_sum_eq, y_aget_eq, y_alen_eq, y_cls_eq, y_getf_eq, l_get_eq, l_sto_eq]
      simp only [mm_stepI]
      rcases st with _ | ⟨v, _ | ⟨w, st⟩⟩
      · rfl
      · cases v <;> rfl
      · cases v <;> (try rfl) <;> cases w <;> (try dsimp only) <;> first | rfl | (split <;> rfl)
    rw [← key, show fx_iiand xa j nx r1 r2 r3 pc lo st W b c = some T from h]
    rfl
  case ior =>
    have key : (fx_iior xa j nx r1 r2 r3 pc lo st W b c).map ya_T = mm_stepI xa j (.ior) nx r1 r2 r3 pc lo st (y_a W) b c := by
      unfold fx_iior
      try simp only [fx_v_eq, fx_cmp_eq, fx_add_eq, fx_sub_eq, fx_mul_eq, g_sum_eq, y_aget_eq, y_alen_eq, y_cls_eq, y_getf_eq, l_get_eq, l_sto_eq]
      simp only [mm_stepI]
      rcases st with _ | ⟨v, _ | ⟨w, st⟩⟩
      · rfl
      · cases v <;> rfl
      · cases v <;> (try rfl) <;> cases w <;> (try dsimp only) <;> first | rfl | (split <;> rfl)
    rw [← key, show fx_iior xa j nx r1 r2 r3 pc lo st W b c = some T from h]
    rfl
  case ixor =>
    have key : (fx_iixor xa j nx r1 r2 r3 pc lo st W b c).map ya_T = mm_stepI xa j (.ixor) nx r1 r2 r3 pc lo st (y_a W) b c := by
      unfold fx_iixor
      try simp only [fx_v_eq, fx_cmp_eq, fx_add_eq, fx_sub_eq, fx_mul_eq, g_sum_eq, y_aget_eq, y_alen_eq, y_cls_eq, y_getf_eq, l_get_eq, l_sto_eq]
      simp only [mm_stepI]
      rcases st with _ | ⟨v, _ | ⟨w, st⟩⟩
      · rfl
      · cases v <;> rfl
      · cases v <;> (try rfl) <;> cases w <;> (try dsimp only) <;> first | rfl | (split <;> rfl)
    rw [← key, show fx_iixor xa j nx r1 r2 r3 pc lo st W b c = some T from h]
    rfl
  case idiv =>
    have key : (fx_iidiv xa j nx r1 r2 r3 pc lo st W b c).map ya_T = mm_stepI xa j (.idiv) nx r1 r2 r3 pc lo st (y_a W) b c := by
      unfold fx_iidiv
      try simp only [fx_v_eq, fx_cmp_eq, fx_add_eq, fx_sub_eq, fx_mul_eq, g_sum_eq, y_aget_eq, y_alen_eq, y_cls_eq, y_getf_eq, l_get_eq, l_sto_eq]
      simp only [mm_stepI]
      rcases st with _ | ⟨v, _ | ⟨w, st⟩⟩
      · rfl
      · cases v <;> rfl
      · cases v <;> (try rfl) <;> cases w <;> (try dsimp only) <;> first | rfl | (split <;> rfl)
    rw [← key, show fx_iidiv xa j nx r1 r2 r3 pc lo st W b c = some T from h]
    rfl
  case irem =>
    have key : (fx_iirem xa j nx r1 r2 r3 pc lo st W b c).map ya_T = mm_stepI xa j (.irem) nx r1 r2 r3 pc lo st (y_a W) b c := by
      unfold fx_iirem
      try simp only [fx_v_eq, fx_cmp_eq, fx_add_eq, fx_sub_eq, fx_mul_eq, g_sum_eq, y_aget_eq, y_alen_eq, y_cls_eq, y_getf_eq, l_get_eq, l_sto_eq]
      simp only [mm_stepI]
      rcases st with _ | ⟨v, _ | ⟨w, st⟩⟩
      · rfl
      · cases v <;> rfl
      · cases v <;> (try rfl) <;> cases w <;> (try dsimp only) <;> first | rfl | (split <;> rfl)
    rw [← key, show fx_iirem xa j nx r1 r2 r3 pc lo st W b c = some T from h]
    rfl
  case ineg =>
    have key : (fx_iineg xa j nx r1 r2 r3 pc lo st W b c).map ya_T = mm_stepI xa j (.ineg) nx r1 r2 r3 pc lo st (y_a W) b c := by
      unfold fx_iineg
      try simp only [fx_v_eq, fx_cmp_eq, fx_add_eq, fx_sub_eq, fx_mul_eq, g_sum_eq, y_aget_eq, y_alen_eq, y_cls_eq, y_getf_eq, l_get_eq, l_sto_eq]
      simp only [mm_stepI]
      rcases st with _ | ⟨v, st⟩
      · rfl
      · cases v <;> (try dsimp only) <;> first | rfl | (split <;> rfl)
    rw [← key, show fx_iineg xa j nx r1 r2 r3 pc lo st W b c = some T from h]
    rfl
  case ishl =>
    have key : (fx_iishl xa j nx r1 r2 r3 pc lo st W b c).map ya_T = mm_stepI xa j (.ishl) nx r1 r2 r3 pc lo st (y_a W) b c := by
      unfold fx_iishl
      try simp only [fx_v_eq, fx_cmp_eq, fx_add_eq, fx_sub_eq, fx_mul_eq, g_sum_eq, y_aget_eq, y_alen_eq, y_cls_eq, y_getf_eq, l_get_eq, l_sto_eq]
      simp only [mm_stepI]
      rcases st with _ | ⟨v, _ | ⟨w, st⟩⟩
      · rfl
      · cases v <;> rfl
      · cases v <;> (try rfl) <;> cases w <;> (try dsimp only) <;> first | rfl | (split <;> rfl)
    rw [← key, show fx_iishl xa j nx r1 r2 r3 pc lo st W b c = some T from h]
    rfl
  case ishr =>
    have key : (fx_iishr xa j nx r1 r2 r3 pc lo st W b c).map ya_T = mm_stepI xa j (.ishr) nx r1 r2 r3 pc lo st (y_a W) b c := by
      unfold fx_iishr
      try simp only [fx_v_eq, fx_cmp_eq, fx_add_eq, fx_sub_eq, fx_mul_eq, g_sum_eq, y_aget_eq, y_alen_eq, y_cls_eq, y_getf_eq, l_get_eq, l_sto_eq]
      simp only [mm_stepI]
      rcases st with _ | ⟨v, _ | ⟨w, st⟩⟩
      · rfl
      · cases v <;> rfl
      · cases v <;> (try rfl) <;> cases w <;> (try dsimp only) <;> first | rfl | (split <;> rfl)
    rw [← key, show fx_iishr xa j nx r1 r2 r3 pc lo st W b c = some T from h]
    rfl
  case iushr =>
    have key : (fx_iiushr xa j nx r1 r2 r3 pc lo st W b c).map ya_T = mm_stepI xa j (.iushr) nx r1 r2 r3 pc lo st (y_a W) b c := by
      unfold fx_iiushr
      try simp only [fx_v_eq, fx_cmp_eq, fx_add_eq, fx_sub_eq, fx_mul_eq, g_sum_eq, y_aget_eq, y_alen_eq, y_cls_eq, y_getf_eq, l_get_eq, l_sto_eq]
      simp only [mm_stepI]
      rcases st with _ | ⟨v, _ | ⟨w, st⟩⟩
      · rfl
      · cases v <;> rfl
      · cases v <;> (try rfl) <;> cases w <;> (try dsimp only) <;> first | rfl | (split <;> rfl)
    rw [← key, show fx_iiushr xa j nx r1 r2 r3 pc lo st W b c = some T from h]
    rfl
  case land =>
    have key : (fx_iland xa j nx r1 r2 r3 pc lo st W b c).map ya_T = mm_stepI xa j (.land) nx r1 r2 r3 pc lo st (y_a W) b c := by
      unfold fx_iland
      try simp only [fx_v_eq, fx_cmp_eq, fx_add_eq, fx_sub_eq, fx_mul_eq, g_sum_eq, y_aget_eq, y_alen_eq, y_cls_eq, y_getf_eq, l_get_eq, l_sto_eq]
      simp only [mm_stepI]
      rcases st with _ | ⟨v, _ | ⟨w, st⟩⟩
      · rfl
      · cases v <;> rfl
      · cases v <;> (try rfl) <;> cases w <;> (try dsimp only) <;> first | rfl | (split <;> rfl)
    rw [← key, show fx_iland xa j nx r1 r2 r3 pc lo st W b c = some T from h]
    rfl
  case lor =>
    have key : (fx_ilor xa j nx r1 r2 r3 pc lo st W b c).map ya_T = mm_stepI xa j (.lor) nx r1 r2 r3 pc lo st (y_a W) b c := by
      unfold fx_ilor
      try simp only [fx_v_eq, fx_cmp_eq, fx_add_eq, fx_sub_eq, fx_mul_eq, g_sum_eq, y_aget_eq, y_alen_eq, y_cls_eq, y_getf_eq, l_get_eq, l_sto_eq]
      simp only [mm_stepI]
      rcases st with _ | ⟨v, _ | ⟨w, st⟩⟩
      · rfl
      · cases v <;> rfl
      · cases v <;> (try rfl) <;> cases w <;> (try dsimp only) <;> first | rfl | (split <;> rfl)
    rw [← key, show fx_ilor xa j nx r1 r2 r3 pc lo st W b c = some T from h]
    rfl
  case lshl =>
    have key : (fx_ilshl xa j nx r1 r2 r3 pc lo st W b c).map ya_T = mm_stepI xa j (.lshl) nx r1 r2 r3 pc lo st (y_a W) b c := by
      unfold fx_ilshl
      try simp only [fx_v_eq, fx_cmp_eq, fx_add_eq, fx_sub_eq, fx_mul_eq, g_sum_eq, y_aget_eq, y_alen_eq, y_cls_eq, y_getf_eq, l_get_eq, l_sto_eq]
      simp only [mm_stepI]
      rcases st with _ | ⟨v, _ | ⟨w, st⟩⟩
      · rfl
      · cases v <;> rfl
      · cases v <;> (try rfl) <;> cases w <;> (try dsimp only) <;> first | rfl | (split <;> rfl)
    rw [← key, show fx_ilshl xa j nx r1 r2 r3 pc lo st W b c = some T from h]
    rfl
  case lshr =>
    have key : (fx_ilshr xa j nx r1 r2 r3 pc lo st W b c).map ya_T = mm_stepI xa j (.lshr) nx r1 r2 r3 pc lo st (y_a W) b c := by
      unfold fx_ilshr
      try simp only [fx_v_eq, fx_cmp_eq, fx_add_eq, fx_sub_eq, fx_mul_eq, g_sum_eq, y_aget_eq, y_alen_eq, y_cls_eq, y_getf_eq, l_get_eq, l_sto_eq]
      simp only [mm_stepI]
      rcases st with _ | ⟨v, _ | ⟨w, st⟩⟩
      · rfl
      · cases v <;> rfl
      · cases v <;> (try rfl) <;> cases w <;> (try dsimp only) <;> first | rfl | (split <;> rfl)
    rw [← key, show fx_ilshr xa j nx r1 r2 r3 pc lo st W b c = some T from h]
    rfl
  case lcmp =>
    have key : (fx_ilcmp xa j nx r1 r2 r3 pc lo st W b c).map ya_T = mm_stepI xa j (.lcmp) nx r1 r2 r3 pc lo st (y_a W) b c := by
      unfold fx_ilcmp
      try simp only [fx_v_eq, fx_cmp_eq, fx_add_eq, fx_sub_eq, fx_mul_eq, g_sum_eq, y_aget_eq, y_alen_eq, y_cls_eq, y_getf_eq, l_get_eq, l_sto_eq]
      simp only [mm_stepI]
      rcases st with _ | ⟨v, _ | ⟨w, st⟩⟩
      · rfl
      · cases v <;> rfl
      · cases v <;> (try rfl) <;> cases w <;> (try dsimp only) <;> first | rfl | (split <;> rfl)
    rw [← key, show fx_ilcmp xa j nx r1 r2 r3 pc lo st W b c = some T from h]
    rfl
  case i2l =>
    have key : (fx_ii2l xa j nx r1 r2 r3 pc lo st W b c).map ya_T = mm_stepI xa j (.i2l) nx r1 r2 r3 pc lo st (y_a W) b c := by
      unfold fx_ii2l
      try simp only [fx_v_eq, fx_cmp_eq, fx_add_eq, fx_sub_eq, fx_mul_eq, g_sum_eq, y_aget_eq, y_alen_eq, y_cls_eq, y_getf_eq, l_get_eq, l_sto_eq]
      simp only [mm_stepI]
      rcases st with _ | ⟨v, st⟩
      · rfl
      · cases v <;> (try dsimp only) <;> first | rfl | (split <;> rfl)
    rw [← key, show fx_ii2l xa j nx r1 r2 r3 pc lo st W b c = some T from h]
    rfl
  case l2i =>
    have key : (fx_il2i xa j nx r1 r2 r3 pc lo st W b c).map ya_T = mm_stepI xa j (.l2i) nx r1 r2 r3 pc lo st (y_a W) b c := by
      unfold fx_il2i
      try simp only [fx_v_eq, fx_cmp_eq, fx_add_eq, fx_sub_eq, fx_mul_eq, g_sum_eq, y_aget_eq, y_alen_eq, y_cls_eq, y_getf_eq, l_get_eq, l_sto_eq]
      simp only [mm_stepI]
      rcases st with _ | ⟨v, st⟩
      · rfl
      · cases v <;> (try dsimp only) <;> first | rfl | (split <;> rfl)
    rw [← key, show fx_il2i xa j nx r1 r2 r3 pc lo st W b c = some T from h]
    rfl
  case i2b =>
    have key : (fx_ii2b xa j nx r1 r2 r3 pc lo st W b c).map ya_T = mm_stepI xa j (.i2b) nx r1 r2 r3 pc lo st (y_a W) b c := by
      unfold fx_ii2b
      try simp only [fx_v_eq, fx_cmp_eq, fx_add_eq, fx_sub_eq, fx_mul_eq, g_sum_eq, y_aget_eq, y_alen_eq, y_cls_eq, y_getf_eq, l_get_eq, l_sto_eq]
      simp only [mm_stepI]
      rcases st with _ | ⟨v, st⟩
      · rfl
      · cases v <;> (try dsimp only) <;> first | rfl | (split <;> rfl)
    rw [← key, show fx_ii2b xa j nx r1 r2 r3 pc lo st W b c = some T from h]
    rfl
  case i2c =>
    have key : (fx_ii2c xa j nx r1 r2 r3 pc lo st W b c).map ya_T = mm_stepI xa j (.i2c) nx r1 r2 r3 pc lo st (y_a W) b c := by
      unfold fx_ii2c
      try simp only [fx_v_eq, fx_cmp_eq, fx_add_eq, fx_sub_eq, fx_mul_eq, g_sum_eq, y_aget_eq, y_alen_eq, y_cls_eq, y_getf_eq, l_get_eq, l_sto_eq]
      simp only [mm_stepI]
      rcases st with _ | ⟨v, st⟩
      · rfl
      · cases v <;> (try dsimp only) <;> first | rfl | (split <;> rfl)
    rw [← key, show fx_ii2c xa j nx r1 r2 r3 pc lo st W b c = some T from h]
    rfl
  case ifCond a0 a1 =>
    have key : (fx_iifCond a0 xa j nx r1 r2 r3 pc lo st W b c).map ya_T = mm_stepI xa j (.ifCond a0 a1) nx r1 r2 r3 pc lo st (y_a W) b c := by
      unfold fx_iifCond
      try simp only [fx_v_eq, fx_cmp_eq, fx_add_eq, fx_sub_eq, fx_mul_eq, g_sum_eq, y_aget_eq, y_alen_eq, y_cls_eq, y_getf_eq, l_get_eq, l_sto_eq]
      simp only [mm_stepI]
      rcases st with _ | ⟨v, st⟩
      · rfl
      · cases v <;> (try dsimp only) <;> first | rfl | (split <;> rfl)
    rw [← key, show fx_iifCond a0 xa j nx r1 r2 r3 pc lo st W b c = some T from h]
    rfl
  case if_icmp a0 a1 =>
    have key : (fx_iif_icmp a0 xa j nx r1 r2 r3 pc lo st W b c).map ya_T = mm_stepI xa j (.if_icmp a0 a1) nx r1 r2 r3 pc lo st (y_a W) b c := by
      unfold fx_iif_icmp
      try simp only [fx_v_eq, fx_cmp_eq, fx_add_eq, fx_sub_eq, fx_mul_eq, g_sum_eq, y_aget_eq, y_alen_eq, y_cls_eq, y_getf_eq, l_get_eq, l_sto_eq]
      simp only [mm_stepI]
      rcases st with _ | ⟨v, _ | ⟨w, st⟩⟩
      · rfl
      · cases v <;> rfl
      · cases v <;> (try rfl) <;> cases w <;> (try dsimp only) <;> first | rfl | (split <;> rfl)
    rw [← key, show fx_iif_icmp a0 xa j nx r1 r2 r3 pc lo st W b c = some T from h]
    rfl
  case if_acmp a0 a1 =>
    have key : (fx_iif_acmp a0 xa j nx r1 r2 r3 pc lo st W b c).map ya_T = mm_stepI xa j (.if_acmp a0 a1) nx r1 r2 r3 pc lo st (y_a W) b c := by
      unfold fx_iif_acmp
      try simp only [fx_v_eq, fx_cmp_eq, fx_add_eq, fx_sub_eq, fx_mul_eq, g_sum_eq, y_aget_eq, y_alen_eq, y_cls_eq, y_getf_eq, l_get_eq, l_sto_eq]
      simp only [mm_stepI]
      rcases st with _ | ⟨v, _ | ⟨w, st⟩⟩
      · rfl
      · cases v <;> rfl
      · cases v <;> (try rfl) <;> cases w <;> (try dsimp only) <;> first | rfl | (split <;> rfl)
    rw [← key, show fx_iif_acmp a0 xa j nx r1 r2 r3 pc lo st W b c = some T from h]
    rfl
  case goto a0 =>
    have key : (fx_igoto xa j nx r1 r2 r3 pc lo st W b c).map ya_T = mm_stepI xa j (.goto a0) nx r1 r2 r3 pc lo st (y_a W) b c := by
      unfold fx_igoto
      try simp only [fx_v_eq, fx_cmp_eq, fx_add_eq, fx_sub_eq, fx_mul_eq, g_sum_eq, y_aget_eq, y_alen_eq, y_cls_eq, y_getf_eq, l_get_eq, l_sto_eq]
      simp only [mm_stepI]
      first | rfl | (split <;> rfl)
    rw [← key, show fx_igoto xa j nx r1 r2 r3 pc lo st W b c = some T from h]
    rfl
  case tableswitch a0 a1 a2 a3 =>
    have key : (fx_itableswitch a0 a1 a2 a3 xa j nx r1 r2 r3 pc lo st W b c).map ya_T = mm_stepI xa j (.tableswitch a0 a1 a2 a3) nx r1 r2 r3 pc lo st (y_a W) b c := by
      unfold fx_itableswitch
      try simp only [fx_v_eq, fx_cmp_eq, fx_add_eq, fx_sub_eq, fx_mul_eq, g_sum_eq, y_aget_eq, y_alen_eq, y_cls_eq, y_getf_eq, l_get_eq, l_sto_eq]
      simp only [mm_stepI]
      rcases st with _ | ⟨v, st⟩
      · rfl
      · cases v <;> (try rfl)
        rename_i x
        try dsimp only
        generalize mm_tsw pc a0 a1 a2 a3 x = g
        cases g <;> rfl
    rw [← key, show fx_itableswitch a0 a1 a2 a3 xa j nx r1 r2 r3 pc lo st W b c = some T from h]
    rfl
  case lookupswitch a0 a1 =>
    have key : (fx_ilookupswitch a0 a1 xa j nx r1 r2 r3 pc lo st W b c).map ya_T = mm_stepI xa j (.lookupswitch a0 a1) nx r1 r2 r3 pc lo st (y_a W) b c := by
      unfold fx_ilookupswitch
      try simp only [fx_v_eq, fx_cmp_eq, fx_add_eq, fx_sub_eq, fx_mul_eq, g_sum_eq, y_aget_eq, y_alen_eq, y_cls_eq, y_getf_eq, l_get_eq, l_sto_eq]
      simp only [mm_stepI]
      rcases st with _ | ⟨v, st⟩
      · rfl
      · cases v <;> (try rfl)
        rename_i x
        try dsimp only
        generalize mm_at pc (Op.lookupswitch.offset a1.toList a0 x.toInt) = g
        cases g <;> rfl
    rw [← key, show fx_ilookupswitch a0 a1 xa j nx r1 r2 r3 pc lo st W b c = some T from h]
    rfl
  case iaload =>
    have key : (fx_iiaload xa j nx r1 r2 r3 pc lo st W b c).map ya_T = mm_stepI xa j (.iaload) nx r1 r2 r3 pc lo st (y_a W) b c := by
      unfold fx_iiaload
      try simp only [fx_v_eq, fx_cmp_eq, fx_add_eq, fx_sub_eq, fx_mul_eq, g_sum_eq, y_aget_eq, y_alen_eq, y_cls_eq, y_getf_eq, l_get_eq, l_sto_eq]
      simp only [mm_stepI]
      rcases st with _ | ⟨v, _ | ⟨w, st⟩⟩
      · rfl
      · cases v <;> rfl
      · cases v <;> (try rfl) <;> cases w <;> (try rfl)
        rename_i i k
        try dsimp only
        generalize mm_aget xa (y_a W) k i = g
        rcases g with _ | ⟨t, v⟩
        · rfl
        · dsimp only
          split <;> rfl
    rw [← key, show fx_iiaload xa j nx r1 r2 r3 pc lo st W b c = some T from h]
    rfl
  case baload =>
    have key : (fx_ibaload xa j nx r1 r2 r3 pc lo st W b c).map ya_T = mm_stepI xa j (.baload) nx r1 r2 r3 pc lo st (y_a W) b c := by
      unfold fx_ibaload
      try simp only [fx_v_eq, fx_cmp_eq, fx_add_eq, fx_sub_eq, fx_mul_eq, g_sum_eq, y_aget_eq, y_alen_eq, y_cls_eq, y_getf_eq, l_get_eq, l_sto_eq]
      simp only [mm_stepI]
      rcases st with _ | ⟨v, _ | ⟨w, st⟩⟩
      · rfl
      · cases v <;> rfl
      · cases v <;> (try rfl) <;> cases w <;> (try rfl)
        rename_i i k
        try dsimp only
        generalize mm_aget xa (y_a W) k i = g
        rcases g with _ | ⟨t, v⟩
        · rfl
        · dsimp only
          split <;> rfl
    rw [← key, show fx_ibaload xa j nx r1 r2 r3 pc lo st W b c = some T from h]
    rfl
  case laload =>
    have key : (fx_ilaload xa j nx r1 r2 r3 pc lo st W b c).map ya_T = mm_stepI xa j (.laload) nx r1 r2 r3 pc lo st (y_a W) b c := by
      unfold fx_ilaload
      try simp only [fx_v_eq, fx_cmp_eq, fx_add_eq, fx_sub_eq, fx_mul_eq, g_sum_eq, y_aget_eq, y_alen_eq, y_cls_eq, y_getf_eq, l_get_eq, l_sto_eq]
      simp only [mm_stepI]
      rcases st with _ | ⟨v, _ | ⟨w, st⟩⟩
      · rfl
      · cases v <;> rfl
      · cases v <;> (try rfl) <;> cases w <;> (try rfl)
        rename_i i k
        try dsimp only
        generalize mm_aget xa (y_a W) k i = g
        rcases g with _ | ⟨t, v⟩
        · rfl
        · dsimp only
          split <;> rfl
    rw [← key, show fx_ilaload xa j nx r1 r2 r3 pc lo st W b c = some T from h]
    rfl
  case aaload =>
    have key : (fx_iaaload xa j nx r1 r2 r3 pc lo st W b c).map ya_T = mm_stepI xa j (.aaload) nx r1 r2 r3 pc lo st (y_a W) b c := by
      unfold fx_iaaload
      try simp only [fx_v_eq, fx_cmp_eq, fx_add_eq, fx_sub_eq, fx_mul_eq, g_sum_eq, y_aget_eq, y_alen_eq, y_cls_eq, y_getf_eq, l_get_eq, l_sto_eq]
      simp only [mm_stepI]
      rcases st with _ | ⟨v, _ | ⟨w, st⟩⟩
      · rfl
      · cases v <;> rfl
      · cases v <;> (try rfl) <;> cases w <;> (try rfl)
        rename_i i k
        try dsimp only
        generalize mm_aget xa (y_a W) k i = g
        rcases g with _ | ⟨t, v⟩
        · rfl
        · dsimp only
          split <;> rfl
    rw [← key, show fx_iaaload xa j nx r1 r2 r3 pc lo st W b c = some T from h]
    rfl
  case iastore =>
    have key : (fx_iiastore xa j nx r1 r2 r3 pc lo st W b c).map ya_T = mm_stepI xa j (.iastore) nx r1 r2 r3 pc lo st (y_a W) b c := by
      unfold fx_iiastore
      try simp only [fx_v_eq, fx_cmp_eq, fx_add_eq, fx_sub_eq, fx_mul_eq, g_sum_eq, y_aget_eq, y_alen_eq, y_cls_eq, y_getf_eq, l_get_eq, l_sto_eq]
      simp only [mm_stepI, y_aputi_eq]
      rcases st with _ | ⟨v, _ | ⟨w, _ | ⟨z, st⟩⟩⟩
      · rfl
      · cases v <;> rfl
      · cases v <;> (try rfl) <;> cases w <;> rfl
      · cases v <;> (try rfl) <;> cases w <;> (try rfl) <;> cases z <;> (try rfl)
        rename_i x i k
        try dsimp only
        by_cases hk : k < mm_XB
        · rw [if_pos hk, if_pos hk]
          generalize y_aputi W k i x = g
          rcases g with _ | ⟨t, W2⟩
          · rfl
          · dsimp only [Option.map_some]
            split <;> rfl
        · rw [if_neg hk, if_neg hk]
          rfl
    rw [← key, show fx_iiastore xa j nx r1 r2 r3 pc lo st W b c = some T from h]
    rfl
  case bastore =>
    have key : (fx_ibastore xa j nx r1 r2 r3 pc lo st W b c).map ya_T = mm_stepI xa j (.bastore) nx r1 r2 r3 pc lo st (y_a W) b c := by
      unfold fx_ibastore
      try simp only [fx_v_eq, fx_cmp_eq, fx_add_eq, fx_sub_eq, fx_mul_eq, g_sum_eq, y_aget_eq, y_alen_eq, y_cls_eq, y_getf_eq, l_get_eq, l_sto_eq]
      simp only [mm_stepI, y_aputi_eq]
      rcases st with _ | ⟨v, _ | ⟨w, _ | ⟨z, st⟩⟩⟩
      · rfl
      · cases v <;> rfl
      · cases v <;> (try rfl) <;> cases w <;> rfl
      · cases v <;> (try rfl) <;> cases w <;> (try rfl) <;> cases z <;> (try rfl)
        rename_i x i k
        try dsimp only
        by_cases hk : k < mm_XB
        · rw [if_pos hk, if_pos hk]
          generalize y_aputi W k i x = g
          rcases g with _ | ⟨t, W2⟩
          · rfl
          · dsimp only [Option.map_some]
            split <;> rfl
        · rw [if_neg hk, if_neg hk]
          rfl
    rw [← key, show fx_ibastore xa j nx r1 r2 r3 pc lo st W b c = some T from h]
    rfl
  case lastore =>
    have key : (fx_ilastore xa j nx r1 r2 r3 pc lo st W b c).map ya_T = mm_stepI xa j (.lastore) nx r1 r2 r3 pc lo st (y_a W) b c := by
      unfold fx_ilastore
      try simp only [fx_v_eq, fx_cmp_eq, fx_add_eq, fx_sub_eq, fx_mul_eq, g_sum_eq, y_aget_eq, y_alen_eq, y_cls_eq, y_getf_eq, l_get_eq, l_sto_eq]
      simp only [mm_stepI, y_aputl_eq]
      rcases st with _ | ⟨v, _ | ⟨w, _ | ⟨z, st⟩⟩⟩
      · rfl
      · cases v <;> rfl
      · cases v <;> (try rfl) <;> cases w <;> rfl
      · cases v <;> (try rfl) <;> cases w <;> (try rfl) <;> cases z <;> (try rfl)
        rename_i x i k
        try dsimp only
        by_cases hk : k < mm_XB
        · rw [if_pos hk, if_pos hk]
          generalize y_aputl W k i x = g
          rcases g with _ | ⟨t, W2⟩
          · rfl
          · dsimp only [Option.map_some]
            split <;> rfl
        · rw [if_neg hk, if_neg hk]
          rfl
    rw [← key, show fx_ilastore xa j nx r1 r2 r3 pc lo st W b c = some T from h]
    rfl
  case aastore =>
    have key : (fx_iaastore xa j nx r1 r2 r3 pc lo st W b c).map ya_T = mm_stepI xa j (.aastore) nx r1 r2 r3 pc lo st (y_a W) b c := by
      unfold fx_iaastore
      try simp only [fx_v_eq, fx_cmp_eq, fx_add_eq, fx_sub_eq, fx_mul_eq, g_sum_eq, y_aget_eq, y_alen_eq, y_cls_eq, y_getf_eq, l_get_eq, l_sto_eq]
      simp only [mm_stepI, y_aputr_eq]
      rcases st with _ | ⟨v, _ | ⟨w, _ | ⟨z, st⟩⟩⟩
      · rfl
      · cases v <;> rfl
      · cases v <;> (try rfl) <;> cases w <;> rfl
      · cases v <;> (try rfl) <;> cases w <;> (try rfl) <;> cases z <;> (try rfl)
        rename_i v i k
        try dsimp only
        by_cases hk : k < mm_XB
        · rw [if_pos hk, if_pos hk]
          generalize y_aputr W k i v = g
          cases g <;> rfl
        · rw [if_neg hk, if_neg hk]
          rfl
    rw [← key, show fx_iaastore xa j nx r1 r2 r3 pc lo st W b c = some T from h]
    rfl
  case arraylength =>
    have key : (fx_iarraylength xa j nx r1 r2 r3 pc lo st W b c).map ya_T = mm_stepI xa j (.arraylength) nx r1 r2 r3 pc lo st (y_a W) b c := by
      unfold fx_iarraylength
      try simp only [fx_v_eq, fx_cmp_eq, fx_add_eq, fx_sub_eq, fx_mul_eq, g_sum_eq, y_aget_eq, y_alen_eq, y_cls_eq, y_getf_eq, l_get_eq, l_sto_eq]
      simp only [mm_stepI]
      rcases st with _ | ⟨v, st⟩
      · rfl
      · cases v <;> (try rfl)
        rename_i k
        try dsimp only
        generalize mm_alen xa (y_a W) k = g
        cases g <;> rfl
    rw [← key, show fx_iarraylength xa j nx r1 r2 r3 pc lo st W b c = some T from h]
    rfl
  case getfield a0 =>
    have key : (fx_igetfield xa j nx r1 r2 r3 pc lo st W b c).map ya_T = mm_stepI xa j (.getfield a0) nx r1 r2 r3 pc lo st (y_a W) b c := by
      unfold fx_igetfield
      try simp only [fx_v_eq, fx_cmp_eq, fx_add_eq, fx_sub_eq, fx_mul_eq, g_sum_eq, y_aget_eq, y_alen_eq, y_cls_eq, y_getf_eq, l_get_eq, l_sto_eq]
      simp only [mm_stepI]
      rcases st with _ | ⟨v, st⟩
      · rfl
      · cases v <;> (try rfl)
        rename_i k
        try dsimp only
        by_cases h3 : r3 = 0
        · rw [if_pos h3, if_pos h3]
          by_cases hk : k < mm_XB
          · rw [if_pos hk, if_pos hk]
            generalize mm_getf (y_a W) k r1 r2 = g
            cases g <;> rfl
          · rw [if_neg hk, if_neg hk]
            rfl
        · rw [if_neg h3, if_neg h3]
          by_cases hk : k < mm_XB
          · rw [if_pos hk, if_pos hk]
            rfl
          · rw [if_neg hk, if_neg hk]
            generalize md_xo (k - mm_XB) r1 = g
            cases g <;> rfl
    rw [← key, show fx_igetfield xa j nx r1 r2 r3 pc lo st W b c = some T from h]
    rfl
  case putfield a0 =>
    have key : (fx_iputfield xa j nx r1 r2 r3 pc lo st W b c).map ya_T = mm_stepI xa j (.putfield a0) nx r1 r2 r3 pc lo st (y_a W) b c := by
      unfold fx_iputfield
      try simp only [fx_v_eq, fx_cmp_eq, fx_add_eq, fx_sub_eq, fx_mul_eq, g_sum_eq, y_aget_eq, y_alen_eq, y_cls_eq, y_getf_eq, l_get_eq, l_sto_eq]
      simp only [mm_stepI, y_put_eq]
      rcases st with _ | ⟨v, _ | ⟨w, st⟩⟩
      · rfl
      · cases v <;> rfl
      · cases w <;> (try rfl)
        rename_i k
        try dsimp only
        by_cases hk : k < mm_XB
        · rw [if_pos hk, if_pos hk]
          generalize y_put W k r1 r2 r3 v = g
          cases g <;> rfl
        · rw [if_neg hk, if_neg hk]
          rfl
    rw [← key, show fx_iputfield xa j nx r1 r2 r3 pc lo st W b c = some T from h]
    rfl
  case getstatic a0 =>
    have key : (fx_igetstatic xa j nx r1 r2 r3 pc lo st W b c).map ya_T = mm_stepI xa j (.getstatic a0) nx r1 r2 r3 pc lo st (y_a W) b c := by
      unfold fx_igetstatic
      try simp only [fx_v_eq, fx_cmp_eq, fx_add_eq, fx_sub_eq, fx_mul_eq, g_sum_eq, y_aget_eq, y_alen_eq, y_cls_eq, y_getf_eq, l_get_eq, l_sto_eq]
      simp only [mm_stepI]
      first | rfl | (split <;> rfl)
    rw [← key, show fx_igetstatic xa j nx r1 r2 r3 pc lo st W b c = some T from h]
    rfl
  case new a0 =>
    have h2 : fx_inew xa j nx r1 r2 r3 pc lo st W b c = some T := h
    unfold fx_inew at h2
    simp only [fx_n_eq, g_sum_eq] at h2
    have hl := y_len_eq W
    simp only [mm_stepI]
    by_cases h3 : r3 = 0
    · rw [if_pos h3] at h2 ⊢
      by_cases hc : 1 ≤ b ∧ (md_df r1).length ≤ c ∧ W.1 < 512
      · rw [if_pos hc] at h2
        obtain rfl := Option.some.inj h2
        have e : (y_a W).length = W.1 := by omega
        rw [if_pos ⟨hc.1, hc.2.1, by rw [e]; unfold mm_XB; omega⟩, e]
        show _ = some (Sum.inl (nx, lo, .ref W.1 :: st, y_a (y_app W (.inr (r1, md_df r1))), b - 1, c - (md_df r1).length))
        rw [y_app_eq _ _ hc.2.2]
      · rw [if_neg hc] at h2; cases h2
    · rw [if_neg h3] at h2 ⊢
      by_cases hc : 1 ≤ b ∧ 6 ≤ c ∧ (st.map fun v => v.category).sum ≤ 8
      · rw [if_pos hc] at h2 ⊢
        obtain rfl := Option.some.inj h2
        rfl
      · rw [if_neg hc] at h2; cases h2
  case newarray a0 =>
    have h2 : fx_inewarray xa j nx r1 r2 r3 pc lo st W b c = some T := h
    unfold fx_inewarray at h2
    simp only [fx_n_eq, g_sum_eq] at h2
    have hl := y_len_eq W
    match st, h2 with
    | .int n :: st, h2 =>
      have h4 : (if ¬ n < 0 ∧ 1 ≤ b ∧ n.toNatClampNeg ≤ c ∧ W.1 < 512 ∧ n.toNatClampNeg ≤ 1000000 then some (Sum.inl (nx, lo, .ref W.1 :: st, y_app W (.inl (r1, n.toNatClampNeg, if r1 = 1 then .inr (.inl (fun _ => 0)) else .inl (fun _ => 0))), b - 1, c - n.toNatClampNeg) : y_T) else none) = some T := h2
      show (if ¬ n < 0 ∧ 1 ≤ b ∧ n.toNatClampNeg ≤ c ∧ (y_a W).length < mm_XB ∧ n.toNatClampNeg ≤ 1000000 then some (Sum.inl (nx, lo, .ref (y_a W).length :: st, y_a W ++ [.inl (r1, n.toNatClampNeg, if r1 = 1 then .inr (.inl (fun _ => 0)) else .inl (fun _ => 0))], b - 1, c - n.toNatClampNeg) : mm_T) else none) = some (ya_T T)
      by_cases hc : ¬ n < 0 ∧ 1 ≤ b ∧ n.toNatClampNeg ≤ c ∧ W.1 < 512 ∧ n.toNatClampNeg ≤ 1000000
      · rw [if_pos hc] at h4
        obtain rfl := Option.some.inj h4
        have e : (y_a W).length = W.1 := by omega
        rw [if_pos ⟨hc.1, hc.2.1, hc.2.2.1, by rw [e]; unfold mm_XB; omega, hc.2.2.2.2⟩, e]
        show _ = some (Sum.inl (nx, lo, .ref W.1 :: st, y_a (y_app W (.inl (r1, n.toNatClampNeg, if r1 = 1 then .inr (.inl (fun _ => 0)) else .inl (fun _ => 0)))), b - 1, c - n.toNatClampNeg))
        rw [y_app_eq _ _ hc.2.2.2.1]
      · rw [if_neg hc] at h4; cases h4
  case anewarray a0 =>
    have h2 : fx_ianewarray xa j nx r1 r2 r3 pc lo st W b c = some T := h
    unfold fx_ianewarray at h2
    simp only [fx_n_eq, g_sum_eq] at h2
    have hl := y_len_eq W
    match st, h2 with
    | .int n :: st, h2 =>
      have h4 : (if ¬ n < 0 ∧ 1 ≤ b ∧ n.toNatClampNeg ≤ c ∧ W.1 < 512 ∧ n.toNatClampNeg ≤ 1000000 then some (Sum.inl (nx, lo, .ref W.1 :: st, y_app W (.inl (r1, n.toNatClampNeg, .inr (.inr (.inr (.inr (fun _ => none)))))), b - 1, c - n.toNatClampNeg) : y_T) else none) = some T := h2
      show (if ¬ n < 0 ∧ 1 ≤ b ∧ n.toNatClampNeg ≤ c ∧ (y_a W).length < mm_XB ∧ n.toNatClampNeg ≤ 1000000 then some (Sum.inl (nx, lo, .ref (y_a W).length :: st, y_a W ++ [.inl (r1, n.toNatClampNeg, .inr (.inr (.inr (.inr (fun _ => none)))))], b - 1, c - n.toNatClampNeg) : mm_T) else none) = some (ya_T T)
      by_cases hc : ¬ n < 0 ∧ 1 ≤ b ∧ n.toNatClampNeg ≤ c ∧ W.1 < 512 ∧ n.toNatClampNeg ≤ 1000000
      · rw [if_pos hc] at h4
        obtain rfl := Option.some.inj h4
        have e : (y_a W).length = W.1 := by omega
        rw [if_pos ⟨hc.1, hc.2.1, hc.2.2.1, by rw [e]; unfold mm_XB; omega, hc.2.2.2.2⟩, e]
        show _ = some (Sum.inl (nx, lo, .ref W.1 :: st, y_a (y_app W (.inl (r1, n.toNatClampNeg, .inr (.inr (.inr (.inr (fun _ => none))))))), b - 1, c - n.toNatClampNeg))
        rw [y_app_eq _ _ hc.2.2.2.1]
      · rw [if_neg hc] at h4; cases h4
  case invokevirtual a0 =>
    have key : (fx_iinvokevirtual xa j nx r1 r2 r3 pc lo st W b c).map ya_T = mm_stepI xa j (.invokevirtual a0) nx r1 r2 r3 pc lo st (y_a W) b c := by
      exact y_call_eq r1 r2 r3 pc nx lo st W b c
    rw [← key, show fx_iinvokevirtual xa j nx r1 r2 r3 pc lo st W b c = some T from h]
    rfl
  case invokestatic a0 =>
    have key : (fx_iinvokestatic xa j nx r1 r2 r3 pc lo st W b c).map ya_T = mm_stepI xa j (.invokestatic a0) nx r1 r2 r3 pc lo st (y_a W) b c := by
      exact y_call_eq r1 r2 r3 pc nx lo st W b c
    rw [← key, show fx_iinvokestatic xa j nx r1 r2 r3 pc lo st W b c = some T from h]
    rfl
  case invokespecial a0 =>
    have key : (fx_iinvokespecial xa j nx r1 r2 r3 pc lo st W b c).map ya_T = mm_stepI xa j (.invokespecial a0) nx r1 r2 r3 pc lo st (y_a W) b c := by
      exact y_call_eq r1 r2 r3 pc nx lo st W b c
    rw [← key, show fx_iinvokespecial xa j nx r1 r2 r3 pc lo st W b c = some T from h]
    rfl
  case ireturn =>
    have key : (fx_iireturn xa j nx r1 r2 r3 pc lo st W b c).map ya_T = mm_stepI xa j (.ireturn) nx r1 r2 r3 pc lo st (y_a W) b c := by
      unfold fx_iireturn
      rcases st with _ | ⟨v, st⟩
      · rfl
      · rcases st with _ | ⟨w, st⟩
        · cases v with
          | int v =>
            simp only [mm_stepI, fx_rt_eq]
            cases (md_mt j).2.2.2.1 with
            | none => rfl
            | some ty =>
              try dsimp only
              split
              · rw [if_pos (by rfl)]
                rfl
              · split <;> rfl
          | _ => rfl
        · cases v <;> rfl
    rw [← key, show fx_iireturn xa j nx r1 r2 r3 pc lo st W b c = some T from h]
    rfl
  case lreturn =>
    have key : (fx_ilreturn xa j nx r1 r2 r3 pc lo st W b c).map ya_T = mm_stepI xa j (.lreturn) nx r1 r2 r3 pc lo st (y_a W) b c := by
      unfold fx_ilreturn
      try simp only [fx_v_eq, fx_cmp_eq, fx_add_eq, fx_sub_eq, fx_mul_eq, g_sum_eq, y_aget_eq, y_alen_eq, y_cls_eq, y_getf_eq, l_get_eq, l_sto_eq]
      simp only [mm_stepI]
      rcases st with _ | ⟨v, _ | ⟨w, st⟩⟩
      · first | rfl | (try dsimp only; split <;> rfl)
      · cases v <;> (try dsimp only) <;> first | rfl | (split <;> rfl) | ((repeat' split) <;> rfl)
      · cases v <;> rfl
    rw [← key, show fx_ilreturn xa j nx r1 r2 r3 pc lo st W b c = some T from h]
    rfl
  case areturn =>
    have key : (fx_iareturn xa j nx r1 r2 r3 pc lo st W b c).map ya_T = mm_stepI xa j (.areturn) nx r1 r2 r3 pc lo st (y_a W) b c := by
      unfold fx_iareturn
      try simp only [fx_v_eq, fx_cmp_eq, fx_add_eq, fx_sub_eq, fx_mul_eq, g_sum_eq, y_aget_eq, y_alen_eq, y_cls_eq, y_getf_eq, l_get_eq, l_sto_eq]
      simp only [mm_stepI]
      rcases st with _ | ⟨v, _ | ⟨w, st⟩⟩
      · rfl
      · cases v <;> (try rfl)
        dsimp only
        generalize (md_mt j).2.2.2.1 = ty
        rcases ty with _ | ty
        · rfl
        · cases ty <;> rfl
      · cases v <;> rfl
    rw [← key, show fx_iareturn xa j nx r1 r2 r3 pc lo st W b c = some T from h]
    rfl
  case return_ =>
    have key : (fx_ireturn_ xa j nx r1 r2 r3 pc lo st W b c).map ya_T = mm_stepI xa j (.return_) nx r1 r2 r3 pc lo st (y_a W) b c := by
      unfold fx_ireturn_
      try simp only [fx_v_eq, fx_cmp_eq, fx_add_eq, fx_sub_eq, fx_mul_eq, g_sum_eq, y_aget_eq, y_alen_eq, y_cls_eq, y_getf_eq, l_get_eq, l_sto_eq]
      simp only [mm_stepI]
      rcases st with _ | ⟨v, _ | ⟨w, st⟩⟩
      · first | rfl | (try dsimp only; split <;> rfl)
      · cases v <;> (try dsimp only) <;> first | rfl | (split <;> rfl) | ((repeat' split) <;> rfl)
      · cases v <;> rfl
    rw [← key, show fx_ireturn_ xa j nx r1 r2 r3 pc lo st W b c = some T from h]
    rfl
  all_goals exact absurd (show (none : Option y_T) = some T from h) (by simp)
set_option maxHeartbeats 8000000 in
theorem fx_S_eq (R : Nat → Option (Int × Int)) (ins : Instr) (nx r1 pc : Nat) (lo : List (Nat × Value)) (st : List Value) (W : y_W) (b c : Nat) : ((fx_P ins).2.1 R nx r1 pc lo st W b c).map ya_T = ts_sp R ins nx r1 pc lo st (y_a W) b c := by
  cases ins
  case iload a0 =>
    show (fx_siload a0 R nx r1 pc lo st W b c).map ya_T = _
    unfold fx_siload
    simp only [ts_sp]
    try simp only [l_get_eq]
    generalize mm_get lo a0 = g
    rcases g with _ | v
    · rfl
    · cases v <;> rfl
  case iload_n a0 =>
    show (fx_siload_n a0 R nx r1 pc lo st W b c).map ya_T = _
    unfold fx_siload_n
    simp only [ts_sp]
    try simp only [l_get_eq]
    generalize mm_get lo ↑a0 = g
    rcases g with _ | v
    · rfl
    · cases v <;> rfl
  case lload a0 =>
    show (fx_slload a0 R nx r1 pc lo st W b c).map ya_T = _
    unfold fx_slload
    simp only [ts_sp]
    try simp only [l_get_eq]
    generalize mm_get lo a0 = g
    rcases g with _ | v
    · rfl
    · cases v <;> rfl
  case lload_n a0 =>
    show (fx_slload_n a0 R nx r1 pc lo st W b c).map ya_T = _
    unfold fx_slload_n
    simp only [ts_sp]
    try simp only [l_get_eq]
    generalize mm_get lo ↑a0 = g
    rcases g with _ | v
    · rfl
    · cases v <;> rfl
  case i2l =>
    show (fx_si2l R nx r1 pc lo st W b c).map ya_T = _
    unfold fx_si2l
    simp only [ts_sp]
    try simp only [l_get_eq]
    rcases st with _ | ⟨v, st⟩
    · rfl
    · cases v <;> rfl
  case lcmp =>
    show (fx_slcmp R nx r1 pc lo st W b c).map ya_T = _
    unfold fx_slcmp
    simp only [ts_sp]
    try simp only [l_get_eq]
    rcases st with _ | ⟨v, _ | ⟨w, st⟩⟩
    · rfl
    · cases v <;> rfl
    · cases v <;> (try rfl) <;> cases w <;> (try rfl)
      rename_i y u
      dsimp only
      generalize R u.toNat = r
      rcases r with _ | ⟨p, q⟩
      · rfl
      · dsimp only
        split
        · rfl
        · split <;> rfl
  case ifCond a0 a1 =>
    show (fx_sifCond a0 R nx r1 pc lo st W b c).map ya_T = _
    unfold fx_sifCond
    simp only [ts_sp]
    try simp only [l_get_eq]
    rcases st with _ | ⟨v, st⟩
    · rfl
    · cases v <;> (try rfl)
      rename_i u
      dsimp only
      generalize R u.toNat = r
      rcases r with _ | ⟨p, q⟩
      · rfl
      · dsimp only
        generalize ts_rc a0 p q 0 0 = g
        cases g <;> rfl
  case if_icmp a0 a1 =>
    show (fx_sif_icmp a0 R nx r1 pc lo st W b c).map ya_T = _
    unfold fx_sif_icmp
    simp only [ts_sp]
    try simp only [l_get_eq]
    rcases st with _ | ⟨v, _ | ⟨w, st⟩⟩
    · rfl
    · cases v <;> rfl
    · cases v <;> (try rfl) <;> cases w <;> (try rfl)
      · rename_i y u
        dsimp only
        generalize R u.toNat = r
        rcases r with _ | ⟨p, q⟩
        · rfl
        · dsimp only
          generalize ts_rc a0 p q y.toInt y.toInt = g
          cases g <;> rfl
      · rename_i u x
        dsimp only
        generalize R u.toNat = r
        rcases r with _ | ⟨p, q⟩
        · rfl
        · dsimp only
          generalize ts_rc a0 x.toInt x.toInt p q = g
          cases g <;> rfl
  case tableswitch a0 a1 a2 a3 =>
    show (fx_stableswitch a0 a1 a2 R nx r1 pc lo st W b c).map ya_T = _
    unfold fx_stableswitch
    simp only [ts_sp]
    try simp only [l_get_eq]
    rcases st with _ | ⟨v, st⟩
    · rfl
    · cases v <;> (try rfl)
      rename_i u
      dsimp only
      generalize R u.toNat = r
      rcases r with _ | ⟨p, q⟩
      · rfl
      · dsimp only
        split
        · generalize mm_at pc a0 = g
          cases g <;> rfl
        · rfl
  case iaload =>
    show (fx_siaload R nx r1 pc lo st W b c).map ya_T = _
    unfold fx_siaload
    simp only [ts_sp]
    try simp only [l_get_eq]
    rcases st with _ | ⟨v, _ | ⟨w, st⟩⟩
    · rfl
    · cases v <;> rfl
    · cases v <;> (try rfl) <;> cases w <;> (try rfl)
      rename_i i k
      dsimp only
      split
      · generalize R i.toNatClampNeg = r
        rcases r with _ | ⟨p, q⟩
        · rfl
        · dsimp only
          split <;> rfl
      · rfl
  all_goals rfl
theorem fx_L_eq (ins : Instr) : (fx_P ins).2.2 = ts_ld ins := by cases ins <;> rfl
noncomputable def fx_top : y_T → Bool
  | .inl (_, _, v :: _, _) => ts_ok v
  | _ => true
theorem fx_top_eq (T : y_T) : ts_top (ya_T T) = fx_top T := by
  rcases T with ⟨pc, lo, st, r⟩ | o | ⟨j, as, nx, fl, G⟩
  · cases st <;> rfl
  · rfl
  · rfl
noncomputable def fx_find (pc : Nat) (l : List mm_Ln) : Option mm_Ent := List.rec (motive := fun _ => Option mm_Ent) none (fun q _ ih => Bool.rec ih (some q.2.1) (Nat.beq q.1 pc)) l
theorem fx_find_eq (pc : Nat) : ∀ l : List mm_Ln, fx_find pc l = mm_find pc l
  | [] => rfl
  | q :: l => by
    show (Bool.rec (fx_find pc l) (some q.2.1) (Nat.beq q.1 pc) : Option mm_Ent) = if q.1 = pc then some q.2.1 else mm_find pc l
    cases h : Nat.beq q.1 pc with
    | true => rw [if_pos (Nat.eq_of_beq_eq_true h)]
    | false => rw [if_neg (Nat.ne_of_beq_eq_false h)]; exact fx_find_eq pc l
noncomputable def fx_L (j : Nat) : List (List mm_Ln) := (g_get ((g_get md_LL (j / 16)).getD []) (j % 16)).getD []
noncomputable def fx_cd (j pc : Nat) : Option mm_Ent := fx_find pc ((g_get (fx_L j) (pc / 16)).getD [])
theorem fx_cd_eq (j pc : Nat) : fx_cd j pc = md_cd j pc := by
  unfold fx_cd fx_L md_cd md_L
  rw [fx_find_eq, g_get_eq, g_get_eq, g_get_eq]
noncomputable def fx_one (R : Nat → Option (Int × Int)) (j : Nat) (e : mm_Ent) (pc : Nat) (lo : List (Nat × Value)) (st : List Value) (W : y_W) (b c : Nat) : Option y_T :=
  match (fx_P e.1).2.1 R e.2.1 e.2.2.1 pc lo st W b c with
  | some T => some T
  | none =>
    match (fx_P e.1).1 md_xz j e.2.1 e.2.2.1 e.2.2.2.1 e.2.2.2.2 pc lo st W b c with
    | some T => Bool.rec (motive := fun _ => Option y_T) (some T) (Bool.rec (motive := fun _ => Option y_T) none (some T) (fx_top T)) (fx_P e.1).2.2
    | none => none
noncomputable def fx_at (R : Nat → Option (Int × Int)) (F : y_F) (j pc : Nat) : Option y_T :=
  match fx_cd j pc with
  | none => none
  | some e => fx_one R j e pc F.2.1 F.2.2.1 F.2.2.2.1 F.2.2.2.2.1 F.2.2.2.2.2
noncomputable def fx_step (R : Nat → Option (Int × Int)) (j : Nat) (F : y_F) : Option y_T := fx_n F.1 (fx_at R F j)
theorem fx_step_s {R : Nat → Option (Int × Int)} {j : Nat} {F : y_F} {T : y_T} (h : fx_step R j F = some T) : ts_step R j (ya_F F) = some (ya_T T) := by
  unfold fx_step at h
  rw [fx_n_eq] at h
  unfold fx_at at h
  rw [fx_cd_eq] at h
  unfold ts_step
  show (match md_cd j F.1 with | none => none | some e => match ts_sp R e.1 e.2.1 e.2.2.1 F.1 F.2.1 F.2.2.1 (y_a F.2.2.2.1) F.2.2.2.2.1 F.2.2.2.2.2 with | some T => some T | none => match mm_stepI md_xz j e.1 e.2.1 e.2.2.1 e.2.2.2.1 e.2.2.2.2 F.1 F.2.1 F.2.2.1 (y_a F.2.2.2.1) F.2.2.2.2.1 F.2.2.2.2.2 with | some T => if ts_ld e.1 && !ts_top T then none else some T | none => none) = some (ya_T T)
  cases hc : md_cd j F.1 with
  | none => rw [hc] at h; cases h
  | some e =>
    rw [hc] at h
    have h2 : fx_one R j e F.1 F.2.1 F.2.2.1 F.2.2.2.1 F.2.2.2.2.1 F.2.2.2.2.2 = some T := h
    unfold fx_one at h2
    try dsimp only
    rw [← fx_S_eq]
    cases hs : (fx_P e.1).2.1 R e.2.1 e.2.2.1 F.1 F.2.1 F.2.2.1 F.2.2.2.1 F.2.2.2.2.1 F.2.2.2.2.2 with
    | some T' =>
      rw [hs] at h2
      cases Option.some.inj h2
      rfl
    | none =>
      rw [hs] at h2
      try dsimp only [Option.map_none] at h2 ⊢
      cases hi : (fx_P e.1).1 md_xz j e.2.1 e.2.2.1 e.2.2.2.1 e.2.2.2.2 F.1 F.2.1 F.2.2.1 F.2.2.2.1 F.2.2.2.2.1 F.2.2.2.2.2 with
      | none => rw [hi] at h2; cases h2
      | some T' =>
        rw [hi] at h2
        rw [fx_I_s _ _ _ _ _ _ _ _ _ _ _ _ _ _ hi]
        dsimp only at h2 ⊢
        rw [fx_L_eq] at h2
        rw [fx_top_eq]
        cases hl : ts_ld e.1 with
        | false => rw [hl] at h2; cases Option.some.inj h2; rfl
        | true =>
          rw [hl] at h2
          cases ht : fx_top T' with
          | false => rw [ht] at h2; cases h2
          | true => rw [ht] at h2; cases Option.some.inj h2; rfl
noncomputable def fx_call2 (R : Nat → Option (Int × Int)) (ex : Nat → Nat → y_F → Option y_O) (d j : Nat) (j' : Nat) (as : List Value) (nx : Nat) (fl : Bool) (G : y_F) : Option y_O :=
  match d with
  | 0 => none
  | d' + 1 =>
    match fx_n j' (fun j2 => if (fx_mt j2).2.2.1 < g_sum as then none else ex d' j2 (0, lv_args 0 as, [], G.2.2.2.1, G.2.2.2.2.1, G.2.2.2.2.2)) with
    | none => none
    | some (.inl v, W2, b2, c2) => if v.all ts_ok then ex (d' + 1) j (nx, G.2.1, v.toList ++ G.2.2.1, W2, b2, c2) else none
    | some (.inr E, W2, b2, c2) =>
      if fl = false then none else
      if (md_mt j).2.2.2.2 = [] then some (.inr E, W2, b2, c2) else
      match md_hd j G.1 E with
      | none => none
      | some h => ex (d' + 1) j (h, G.2.1, [.retAddr 0], W2, b2, c2)
noncomputable def fx_nxt (R : Nat → Option (Int × Int)) (ex : Nat → Nat → y_F → Option y_O) (d j : Nat) (r : Option y_T) : Option y_O :=
  match r with
  | none => none
  | some (.inl F') => ex d j F'
  | some (.inr (.inl o)) => some o
  | some (.inr (.inr (j', as, nx, fl, G))) => fx_call2 R ex d j j' as nx fl G
noncomputable def fx_ex (R : Nat → Option (Int × Int)) (f : Nat) : Nat → Nat → y_F → Option y_O := Nat.rec (motive := fun _ => Nat → Nat → y_F → Option y_O) (fun _ _ _ => none) (fun _ ih d j F => fx_nxt R ih d j (fx_step R j F)) f
theorem fx_ex_s (R : Nat → Option (Int × Int)) : ∀ (f d j : Nat) (F : y_F) (o : y_O), fx_ex R f d j F = some o → ts_ex R f d j (ya_F F) = some (ya_O o)
  | 0, _, _, _, _, h => by cases (show (none : Option y_O) = some _ from h)
  | f + 1, d, j, F, o, h => by
    have h1 : fx_nxt R (fx_ex R f) d j (fx_step R j F) = some o := h
    unfold fx_nxt at h1
    unfold ts_ex
    cases hs : fx_step R j F with
    | none => rw [hs] at h1; cases h1
    | some T =>
      rw [hs] at h1
      rw [fx_step_s hs]
      rcases T with F' | o' | ⟨j', as, nx, fl, G⟩
      · exact fx_ex_s R f d j F' o h1
      · cases Option.some.inj (show some o' = some o from h1)
        rfl
      · have h2 : fx_call2 R (fx_ex R f) d j j' as nx fl G = some o := h1
        unfold fx_call2 at h2
        try dsimp only [ya_T]
        cases d with
        | zero => cases h2
        | succ d0 =>
          dsimp only at h2 ⊢
          rw [fx_n_eq, fx_mt_eq, g_sum_eq] at h2
          by_cases hl : (md_mt j').2.2.1 < (as.map fun v => v.category).sum
          · rw [if_pos hl] at h2; cases h2
          · rw [if_neg hl] at h2
            rw [if_neg hl]
            cases hx : fx_ex R f d0 j' (0, lv_args 0 as, [], G.2.2.2.1, G.2.2.2.2.1, G.2.2.2.2.2) with
            | none => rw [hx] at h2; cases h2
            | some r =>
              rw [hx] at h2
              have h3 := fx_ex_s R f d0 j' _ _ hx
              rw [show ts_ex R f d0 j' (0, lv_args 0 as, [], (ya_F G).2.2.2.1, (ya_F G).2.2.2.2.1, (ya_F G).2.2.2.2.2) = some (ya_O r) from h3]
              obtain ⟨v | E, W2, b2, c2⟩ := r
              · have h4 : (if v.all ts_ok then fx_ex R f (d0 + 1) j (nx, G.2.1, v.toList ++ G.2.2.1, W2, b2, c2) else none) = some o := h2
                show (if v.all ts_ok then ts_ex R f (d0 + 1) j (nx, G.2.1, v.toList ++ G.2.2.1, y_a W2, b2, c2) else none) = some (ya_O o)
                by_cases hv : v.all ts_ok = true
                · rw [if_pos hv] at h4 ⊢
                  exact fx_ex_s R f (d0 + 1) j _ _ h4
                · rw [if_neg hv] at h4; cases h4
              · have h4 : (if fl = false then none else if (md_mt j).2.2.2.2 = [] then some (.inr E, W2, b2, c2) else match md_hd j G.1 E with | none => none | some h => fx_ex R f (d0 + 1) j (h, G.2.1, [.retAddr 0], W2, b2, c2)) = some o := h2
                show (if fl = false then none else if (md_mt j).2.2.2.2 = [] then some (.inr E, y_a W2, b2, c2) else match md_hd j G.1 E with | none => none | some h => ts_ex R f (d0 + 1) j (h, G.2.1, [.retAddr 0], y_a W2, b2, c2)) = some (ya_O o)
                by_cases hf : fl = false
                · rw [if_pos hf] at h4; cases h4
                · rw [if_neg hf] at h4 ⊢
                  by_cases hh : (md_mt j).2.2.2.2 = []
                  · rw [if_pos hh] at h4 ⊢
                    cases Option.some.inj h4
                    rfl
                  · rw [if_neg hh] at h4 ⊢
                    cases hd : md_hd j G.1 E with
                    | none => rw [hd] at h4; cases h4
                    | some hp => rw [hd] at h4; exact fx_ex_s R f (d0 + 1) j _ _ h4
noncomputable def fx_go (R : Nat → Option (Int × Int)) (f d j : Nat) : Nat → y_F → Option y_F
  | 0, F => some F
  | n + 1, F =>
    match fx_step R j F with
    | some (.inl F') => fx_go R f d j n F'
    | some (.inr (.inr (j', as, nx, _, G))) =>
      match fx_n j' (fun j2 => if (fx_mt j2).2.2.1 < g_sum as then none else fx_ex R f d j2 (0, lv_args 0 as, [], G.2.2.2.1, G.2.2.2.2.1, G.2.2.2.2.2)) with
      | some (.inl v, W2, b2, c2) => if v.all ts_ok then fx_go R f d j n (nx, G.2.1, v.toList ++ G.2.2.1, W2, b2, c2) else none
      | _ => none
    | _ => none
theorem fx_go_s (R : Nat → Option (Int × Int)) (f d j : Nat) : ∀ (n : Nat) (F F' : y_F), fx_go R f d j n F = some F' → ts_go R f d j n (ya_F F) = some (ya_F F')
  | 0, _, _, h => by
    cases Option.some.inj (show some _ = some _ from h)
    rfl
  | n + 1, F, F', h => by
    unfold fx_go at h
    unfold ts_go
    cases hs : fx_step R j F with
    | none => rw [hs] at h; cases h
    | some T =>
      rw [hs] at h
      rw [fx_step_s hs]
      rcases T with F1 | o' | ⟨j', as, nx, fl, G⟩
      · exact fx_go_s R f d j n F1 F' h
      · cases h
      · try dsimp only [ya_T] at h ⊢
        rw [fx_n_eq, fx_mt_eq, g_sum_eq] at h
        by_cases hl : (md_mt j').2.2.1 < (as.map fun v => v.category).sum
        · rw [if_pos hl] at h; cases h
        · rw [if_neg hl] at h
          rw [if_neg hl]
          cases hx : fx_ex R f d j' (0, lv_args 0 as, [], G.2.2.2.1, G.2.2.2.2.1, G.2.2.2.2.2) with
          | none => rw [hx] at h; cases h
          | some r =>
            rw [hx] at h
            have h3 := fx_ex_s R f d j' _ _ hx
            rw [show ts_ex R f d j' (0, lv_args 0 as, [], (ya_F G).2.2.2.1, (ya_F G).2.2.2.2.1, (ya_F G).2.2.2.2.2) = some (ya_O r) from h3]
            obtain ⟨v | E, W2, b2, c2⟩ := r
            · have h4 : (if v.all ts_ok then fx_go R f d j n (nx, G.2.1, v.toList ++ G.2.2.1, W2, b2, c2) else none) = some F' := h
              show (if v.all ts_ok then ts_go R f d j n (nx, G.2.1, v.toList ++ G.2.2.1, y_a W2, b2, c2) else none) = some (ya_F F')
              by_cases hv : v.all ts_ok = true
              · rw [if_pos hv] at h4 ⊢
                exact fx_go_s R f d j n _ _ h4
              · rw [if_neg hv] at h4; cases h4
            · cases h
