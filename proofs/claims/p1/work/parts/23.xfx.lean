/-! ===== the same machine, put so that it is computed fast ===== -/
noncomputable def w_get (W : mm_W) : Nat → Option va_E := List.rec (motive := fun _ => Nat → Option va_E) (fun _ => none) (fun h _ ih n => Nat.rec (motive := fun _ => Option va_E) (some h) (fun m _ => ih m) n) W
theorem w_get_eq : ∀ (W : mm_W) (k : Nat), w_get W k = W[k]?
  | [], _ => rfl
  | _ :: _, 0 => rfl
  | h :: t, k + 1 => by
    rw [List.getElem?_cons_succ]
    exact w_get_eq t k
noncomputable def w_set (W : mm_W) : Nat → va_E → mm_W := List.rec (motive := fun _ => Nat → va_E → mm_W) (fun _ _ => []) (fun h t ih n v => Nat.rec (motive := fun _ => mm_W) (v :: t) (fun m _ => h :: ih m v) n) W
theorem w_set_eq : ∀ (W : mm_W) (k : Nat) (v : va_E), w_set W k v = W.set k v
  | [], _, _ => rfl
  | _ :: _, 0, _ => rfl
  | h :: t, k + 1, v => by
    rw [List.set_cons_succ, ← w_set_eq t k v]
    rfl
noncomputable def w_app (W : mm_W) (v : va_E) : mm_W := List.rec (motive := fun _ => mm_W) [v] (fun h _ ih => h :: ih) W
theorem w_app_eq : ∀ (W : mm_W) (v : va_E), w_app W v = W ++ [v]
  | [], _ => rfl
  | h :: t, v => by
    rw [List.cons_append, ← w_app_eq t v]
    rfl
noncomputable def w_len (W : mm_W) : Nat := List.rec (motive := fun _ => Nat) 0 (fun _ _ ih => ih + 1) W
theorem w_len_eq : ∀ (W : mm_W), w_len W = W.length
  | [] => rfl
  | h :: t => by
    rw [List.length_cons, ← w_len_eq t]
    rfl
noncomputable def g_get {α : Type} (l : List α) : Nat → Option α := List.rec (motive := fun _ => Nat → Option α) (fun _ => none) (fun h _ ih n => Nat.rec (motive := fun _ => Option α) (some h) (fun m _ => ih m) n) l
theorem g_get_eq {α : Type} : ∀ (l : List α) (k : Nat), g_get l k = l[k]?
  | [], _ => rfl
  | _ :: _, 0 => rfl
  | h :: t, k + 1 => by
    rw [List.getElem?_cons_succ]
    exact g_get_eq t k
noncomputable def g_set {α : Type} (l : List α) : Nat → α → List α := List.rec (motive := fun _ => Nat → α → List α) (fun _ _ => []) (fun h t ih n v => Nat.rec (motive := fun _ => List α) (v :: t) (fun m _ => h :: ih m v) n) l
theorem g_set_eq {α : Type} : ∀ (l : List α) (k : Nat) (v : α), g_set l k v = l.set k v
  | [], _, _ => rfl
  | _ :: _, 0, _ => rfl
  | h :: t, k + 1, v => by
    rw [List.set_cons_succ, ← g_set_eq t k v]
    rfl
noncomputable def g_sum (l : List Value) : Nat := List.rec (motive := fun _ => Nat) 0 (fun v _ ih => Nat.add v.category ih) l
theorem g_sum_eq : ∀ l : List Value, g_sum l = (l.map fun v => v.category).sum
  | [] => rfl
  | v :: l => by
    rw [List.map_cons, List.sum_cons, ← g_sum_eq l]
    rfl
noncomputable def g_pop (n : Nat) : List Value → List Value → Option (List Value × List Value) := Nat.rec (motive := fun _ => List Value → List Value → Option (List Value × List Value)) (fun st acc => some (acc, st)) (fun _ ih st acc => List.rec (motive := fun _ => Option (List Value × List Value)) none (fun v t _ => ih t (v :: acc)) st) n
theorem g_pop_eq : ∀ (n : Nat) (st acc : List Value), g_pop n st acc = if st.length < n then none else some ((st.take n).reverse ++ acc, st.drop n)
  | 0, st, acc => by
    rw [if_neg (Nat.not_lt_zero _)]
    rfl
  | n + 1, [], acc => by
    rw [if_pos (by simp)]
    rfl
  | n + 1, v :: st, acc => by
    show g_pop n st (v :: acc) = _
    rw [g_pop_eq n st (v :: acc)]
    by_cases h : st.length < n
    · rw [if_pos h, if_pos (by simp only [List.length_cons]; omega)]
    · rw [if_neg h, if_neg (by simp only [List.length_cons]; omega), List.take_succ_cons, List.drop_succ_cons, List.reverse_cons, List.append_assoc]
      rfl
def fx_u (x : Int32) : Nat := x.toUInt32.toBitVec.toFin.val
def fx_fi (n : Nat) : Int32 := ⟨⟨⟨⟨Nat.mod n 4294967296, Nat.mod_lt n (by decide)⟩⟩⟩⟩
theorem fx_u_eq (x : Int32) : fx_u x = x.toBitVec.toNat := rfl
theorem fx_u_lt (x : Int32) : fx_u x < 4294967296 := x.toUInt32.toBitVec.toFin.isLt
theorem fx_u_fi (n : Nat) : fx_u (fx_fi n) = n % 4294967296 := rfl
theorem fx_u_inj {x y : Int32} (h : fx_u x = fx_u y) : x = y := by
  apply Int32.toBitVec_inj.mp
  exact BitVec.eq_of_toNat_eq h
theorem fx_fi_u (x : Int32) : fx_fi (fx_u x) = x := fx_u_inj (by rw [fx_u_fi, Nat.mod_eq_of_lt (fx_u_lt x)])
theorem fx_toInt (x : Int32) : x.toInt = if fx_u x < 2147483648 then (fx_u x : Int) else (fx_u x : Int) - 4294967296 := by
  have h : x.toInt = x.toBitVec.toInt := rfl
  rw [h, BitVec.toInt_eq_toNat_cond, fx_u_eq]
  by_cases h2 : 2 * x.toBitVec.toNat < 2 ^ 32
  · rw [if_pos h2, if_pos (by omega)]
  · rw [if_neg h2, if_neg (by omega)]
    rfl
def fx_sg (n : Nat) : Nat := Nat.mod (Nat.add n 2147483648) 4294967296
theorem fx_sg_eq (x : Int32) : (fx_sg (fx_u x) : Int) = x.toInt + 2147483648 := by
  have h := fx_u_lt x
  rw [fx_toInt]
  show (((fx_u x + 2147483648) % 4294967296 : Nat) : Int) = _
  split <;> omega
def fx_lt (x y : Int32) : Bool := Nat.blt (fx_sg (fx_u x)) (fx_sg (fx_u y))
def fx_le (x y : Int32) : Bool := Nat.ble (fx_sg (fx_u x)) (fx_sg (fx_u y))
theorem fx_lt_eq (x y : Int32) : fx_lt x y = decide (x < y) := by
  have h1 := fx_sg_eq x
  have h2 := fx_sg_eq y
  have e1 : x < y ↔ x.toInt < y.toInt := Int32.lt_iff_toInt_lt
  unfold fx_lt
  by_cases h : x < y
  · rw [decide_eq_true h]
    have := e1.mp h
    exact Nat.ble_eq.mpr (by show fx_sg (fx_u x) + 1 ≤ _; omega)
  · rw [decide_eq_false h]
    cases hb : Nat.blt (fx_sg (fx_u x)) (fx_sg (fx_u y)) with
    | false => rfl
    | true =>
      have h3 : fx_sg (fx_u x) + 1 ≤ fx_sg (fx_u y) := Nat.ble_eq.mp hb
      exact absurd (e1.mpr (by omega)) h
theorem fx_le_eq (x y : Int32) : fx_le x y = decide (x ≤ y) := by
  have h1 := fx_sg_eq x
  have h2 := fx_sg_eq y
  have e1 : x ≤ y ↔ x.toInt ≤ y.toInt := Int32.le_iff_toInt_le
  unfold fx_le
  by_cases h : x ≤ y
  · rw [decide_eq_true h]
    have := e1.mp h
    exact Nat.ble_eq.mpr (by omega)
  · rw [decide_eq_false h]
    cases hb : Nat.ble (fx_sg (fx_u x)) (fx_sg (fx_u y)) with
    | false => rfl
    | true =>
      have h3 : fx_sg (fx_u x) ≤ fx_sg (fx_u y) := Nat.ble_eq.mp hb
      exact absurd (e1.mpr (by omega)) h
theorem fx_beq_eq (x y : Int32) : Nat.beq (fx_u x) (fx_u y) = decide (x = y) := by
  cases h : Nat.beq (fx_u x) (fx_u y) with
  | true => rw [decide_eq_true (fx_u_inj (Nat.eq_of_beq_eq_true h))]
  | false => rw [decide_eq_false (fun e => Nat.ne_of_beq_eq_false h (by rw [e]))]
def fx_cmp : Jvm.ClassFile.Cond → Int32 → Int32 → Bool
  | .eq, x, y => Nat.beq (fx_u x) (fx_u y)
  | .ne, x, y => !Nat.beq (fx_u x) (fx_u y)
  | .lt, x, y => fx_lt x y
  | .ge, x, y => fx_le y x
  | .gt, x, y => fx_lt y x
  | .le, x, y => fx_le x y
theorem fx_cmp_eq (k : Jvm.ClassFile.Cond) (x y : Int32) : fx_cmp k x y = mm_cmp k x y := by
  cases k <;> unfold fx_cmp mm_cmp <;> dsimp only <;> simp only [fx_beq_eq, fx_lt_eq, fx_le_eq]
def fx_add (x y : Int32) : Int32 := fx_fi (Nat.add (fx_u x) (fx_u y))
theorem fx_add_eq (x y : Int32) : fx_add x y = x + y := fx_u_inj (by
  rw [show fx_u (x + y) = (x.toBitVec + y.toBitVec).toNat from rfl, BitVec.toNat_add]
  rfl)
def fx_sub (x y : Int32) : Int32 := fx_fi (Nat.add (Nat.sub 4294967296 (fx_u y)) (fx_u x))
theorem fx_sub_eq (x y : Int32) : fx_sub x y = x - y := fx_u_inj (by
  rw [show fx_u (x - y) = (x.toBitVec - y.toBitVec).toNat from rfl, BitVec.toNat_sub]
  rfl)
def fx_mul (x y : Int32) : Int32 := fx_fi (Nat.mul (fx_u x) (fx_u y))
theorem fx_mul_eq (x y : Int32) : fx_mul x y = x * y := fx_u_inj (by
  rw [show fx_u (x * y) = (x.toBitVec * y.toBitVec).toNat from rfl, BitVec.toNat_mul]
  rfl)
noncomputable def l_get (lo : List (Nat × Value)) (i : Nat) : Option Value := List.rec (motive := fun _ => Option Value) none (fun q _ ih => Bool.rec ih (some q.2) (Nat.beq q.1 i)) lo
theorem l_get_eq (i : Nat) : ∀ lo : List (Nat × Value), l_get lo i = mm_get lo i
  | [] => rfl
  | q :: lo => by
    show (Bool.rec (l_get lo i) (some q.2) (Nat.beq q.1 i) : Option Value) = if q.1 = i then some q.2 else mm_get lo i
    cases h : Nat.beq q.1 i with
    | true => rw [if_pos (Nat.eq_of_beq_eq_true h)]
    | false => rw [if_neg (Nat.ne_of_beq_eq_false h)]; exact l_get_eq i lo
noncomputable def l_fil (lo : List (Nat × Value)) (i : Nat) : List (Nat × Value) := List.rec (motive := fun _ => List (Nat × Value)) [] (fun q _ ih => Bool.rec (Bool.rec (q :: ih) (Bool.rec (q :: ih) ih (Nat.beq q.2.category 2)) (Nat.beq (q.1 + 1) i)) ih (Nat.beq q.1 i)) lo
theorem l_fil_eq (i : Nat) : ∀ lo : List (Nat × Value), l_fil lo i = lo.filter (fun q => !(q.1 == i) && !(q.1 + 1 == i && q.2.category == 2))
  | [] => rfl
  | q :: lo => by
    show (Bool.rec (Bool.rec (q :: l_fil lo i) (Bool.rec (q :: l_fil lo i) (l_fil lo i) (Nat.beq q.2.category 2)) (Nat.beq (q.1 + 1) i)) (l_fil lo i) (Nat.beq q.1 i) : List (Nat × Value)) = _
    rw [List.filter_cons, l_fil_eq i lo]
    have e1 : ∀ a b : Nat, (a == b) = Nat.beq a b := fun a b => by
      cases h : Nat.beq a b with
      | true => rw [Nat.eq_of_beq_eq_true h]; exact beq_self_eq_true b
      | false => exact beq_eq_false_iff_ne.mpr (Nat.ne_of_beq_eq_false h)
    rw [e1 q.1 i, e1 (q.1 + 1) i, e1 q.2.category 2]
    cases Nat.beq q.1 i <;> cases Nat.beq (q.1 + 1) i <;> cases Nat.beq q.2.category 2 <;> rfl
noncomputable def l_sto (lo : List (Nat × Value)) (i : Nat) (v : Value) : List (Nat × Value) := (i, v) :: l_fil lo i
theorem l_sto_eq (lo : List (Nat × Value)) (i : Nat) (v : Value) : l_sto lo i v = mm_sto lo i v := by
  unfold l_sto mm_sto
  rw [l_fil_eq]
noncomputable def fx_n {α : Type} (n : Nat) (f : Nat → α) : α := Nat.rec (motive := fun _ => α) (f 0) (fun k _ => f (k + 1)) n
theorem fx_n_eq {α : Type} (n : Nat) (f : Nat → α) : fx_n n f = f n := by cases n <;> rfl
noncomputable def fx_v {α : Type} (x : Int32) (f : Int32 → α) : α := fx_n (fx_u x) (fun n => f (fx_fi n))
theorem fx_v_eq {α : Type} (x : Int32) (f : Int32 → α) : fx_v x f = f x := by
  unfold fx_v
  rw [fx_n_eq, fx_fi_u]
noncomputable def fx_ix {α : Type} (i : Int32) (n : Nat) (g : Nat → Option α) : Option α := fx_n (fx_u i) (fun k => Bool.rec none (Bool.rec none (g k) (Nat.blt k 2147483648)) (Nat.blt k n))
theorem fx_ix_eq {α : Type} (i : Int32) (n : Nat) (g : Nat → Option α) : fx_ix i n g = if mm_ib i n = true then g i.toNatClampNeg else none := by
  unfold fx_ix
  rw [fx_n_eq]
  have h1 := fx_toInt i
  have h2 := fx_u_lt i
  have h0 : (0 : Int32).toInt = 0 := rfl
  have e1 : i < 0 ↔ i.toInt < 0 := by rw [Int32.lt_iff_toInt_lt, h0]
  have e2 : i.toNatClampNeg = i.toInt.toNat := rfl
  have hb : ∀ a b : Nat, Nat.blt a b = decide (a < b) := fun a b => by
    cases h : Nat.blt a b with
    | true => exact (decide_eq_true (show a < b from Nat.ble_eq.mp h)).symm
    | false =>
      refine (decide_eq_false (fun hlt => ?_)).symm
      have : Nat.blt a b = true := Nat.ble_eq.mpr hlt
      rw [h] at this
      cases this
  rw [hb, hb]
  by_cases hs : fx_u i < 2147483648
  · rw [if_pos hs] at h1
    have e3 : i.toNatClampNeg = fx_u i := by rw [e2, h1]; exact Int.toNat_natCast _
    have e4 : ¬ i < 0 := fun h => by have := e1.mp h; omega
    have hib : mm_ib i n = decide (fx_u i < n) := by
      unfold mm_ib
      rw [e3, decide_eq_false e4, Bool.false_or]
      by_cases hn : fx_u i < n
      · rw [decide_eq_true hn, decide_eq_false (by omega)]; rfl
      · rw [decide_eq_false hn, decide_eq_true (by omega)]; rfl
    rw [hib, e3, decide_eq_true hs]
    by_cases hn : fx_u i < n
    · rw [decide_eq_true hn, if_pos rfl]
    · rw [decide_eq_false hn, if_neg (by decide)]
  · rw [if_neg hs] at h1
    have e4 : i < 0 := e1.mpr (by omega)
    have hib : mm_ib i n = false := by
      unfold mm_ib
      rw [decide_eq_true e4]; rfl
    rw [hib, decide_eq_false hs, if_neg (by decide)]
    by_cases hn : fx_u i < n
    · rw [decide_eq_true hn]
    · rw [decide_eq_false hn]
noncomputable def fx_aget (xa : mm_Xa) (W : mm_W) (k : Nat) (i : Int32) : Option (Nat × Value) :=
  if k < mm_XB then
    match w_get W k with
    | some (.inl (t, n, .inl f)) => fx_ix i n (fun z => fx_v (f z) (fun v => some (t, .int v)))
    | some (.inl (t, n, .inr (.inl f))) => fx_ix i n (fun z => some (t, .long (f z)))
    | some (.inl (t, n, .inr (.inr (.inr (.inr f))))) => fx_ix i n (fun z => some (t, va_rf (f z)))
    | _ => none
  else
    match xa (k - mm_XB) with
    | some (t, n, f) => fx_ix i n (fun z => some (t, f z))
    | none => none
theorem fx_aget_eq (xa : mm_Xa) (W : mm_W) (k : Nat) (i : Int32) : fx_aget xa W k i = mm_aget xa W k i := by
  unfold fx_aget mm_aget
  try simp only [w_get_eq, w_set_eq, fx_ix_eq, fx_v_eq, g_get_eq, g_set_eq, g_sum_eq]
  all_goals first | done | rfl
noncomputable def fx_alen (xa : mm_Xa) (W : mm_W) (k : Nat) : Option Nat :=
  if k < mm_XB then
    match w_get W k with
    | some (.inl (_, n, _)) => some n
    | _ => none
  else
    match xa (k - mm_XB) with
    | some (_, n, _) => some n
    | none => none
theorem fx_alen_eq (xa : mm_Xa) (W : mm_W) (k : Nat) : fx_alen xa W k = mm_alen xa W k := by
  unfold fx_alen mm_alen
  try simp only [w_get_eq, w_set_eq, fx_ix_eq, fx_v_eq, g_get_eq, g_set_eq, g_sum_eq]
  all_goals first | done | rfl
noncomputable def fx_aputi (W : mm_W) (k : Nat) (i : Int32) (x : Int32) : Option (Nat × mm_W) :=
  match w_get W k with
  | some (.inl (t, n, .inl f)) => fx_ix i n (fun z => some (t, w_set W k (.inl (t, n, .inl (upd f z (mm_nar t x))))))
  | _ => none
theorem fx_aputi_eq (W : mm_W) (k : Nat) (i : Int32) (x : Int32) : fx_aputi W k i x = mm_aputi W k i x := by
  unfold fx_aputi mm_aputi
  try simp only [w_get_eq, w_set_eq, fx_ix_eq, fx_v_eq, g_get_eq, g_set_eq, g_sum_eq]
  all_goals first | done | rfl
noncomputable def fx_aputl (W : mm_W) (k : Nat) (i : Int32) (x : Int64) : Option (Nat × mm_W) :=
  match w_get W k with
  | some (.inl (t, n, .inr (.inl f))) => fx_ix i n (fun z => some (t, w_set W k (.inl (t, n, .inr (.inl (vp_updL f z x))))))
  | _ => none
theorem fx_aputl_eq (W : mm_W) (k : Nat) (i : Int32) (x : Int64) : fx_aputl W k i x = mm_aputl W k i x := by
  unfold fx_aputl mm_aputl
  try simp only [w_get_eq, w_set_eq, fx_ix_eq, fx_v_eq, g_get_eq, g_set_eq, g_sum_eq]
  all_goals first | done | rfl
noncomputable def fx_cls (W : mm_W) (k : Nat) : Option Nat :=
  if k < mm_XB then
    match w_get W k with
    | some (.inr (ci, _)) => some ci
    | _ => none
  else (md_xc (k - mm_XB)).map (fun n => 1000 + n)
theorem fx_cls_eq (W : mm_W) (k : Nat) : fx_cls W k = mm_cls W k := by
  unfold fx_cls mm_cls
  try simp only [w_get_eq, w_set_eq, fx_ix_eq, fx_v_eq, g_get_eq, g_set_eq, g_sum_eq]
  all_goals first | done | rfl
noncomputable def fx_aputr (W : mm_W) (k : Nat) (i : Int32) (v : Nat) : Option mm_W :=
  match w_get W k with
  | some (.inl (t, n, .inr (.inr (.inr (.inr f))))) => if mm_ib i n && decide (4 ≤ t) && decide (fx_cls W v = some (md_ac t)) then some (w_set W k (.inl (t, n, .inr (.inr (.inr (.inr (va_up f i.toNatClampNeg (some v)))))))) else none
  | _ => none
theorem fx_aputr_eq (W : mm_W) (k : Nat) (i : Int32) (v : Nat) : fx_aputr W k i v = mm_aputr W k i v := by
  unfold fx_aputr mm_aputr
  try simp only [w_get_eq, w_set_eq, fx_ix_eq, fx_v_eq, g_get_eq, g_set_eq, g_sum_eq, fx_cls_eq]
  all_goals first | done | rfl
noncomputable def fx_put (W : mm_W) (k ci f t : Nat) (v : Value) : Option mm_W :=
  match w_get W k with
  | some (.inr (c, fs)) => if c = ci ∧ f < fs.length ∧ mm_nf t v = true then some (w_set W k (.inr (c, g_set fs f v))) else none
  | _ => none
theorem fx_put_eq (W : mm_W) (k ci f t : Nat) (v : Value) : fx_put W k ci f t v = mm_put W k ci f t v := by
  unfold fx_put mm_put
  try simp only [w_get_eq, w_set_eq, fx_ix_eq, fx_v_eq, g_get_eq, g_set_eq, g_sum_eq]
  all_goals first | done | rfl
noncomputable def fx_getf (W : mm_W) (k ci f : Nat) : Option Value :=
  match w_get W k with
  | some (.inr (c, fs)) => if c = ci then g_get fs f else none
  | _ => none
theorem fx_getf_eq (W : mm_W) (k ci f : Nat) : fx_getf W k ci f = mm_getf W k ci f := by
  unfold fx_getf mm_getf
  try simp only [w_get_eq, w_set_eq, fx_ix_eq, fx_v_eq, g_get_eq, g_set_eq, g_sum_eq]
  all_goals first | done | rfl
noncomputable def fx_cpy (W : mm_W) (s : Nat) (sp : Int32) (d : Nat) (dp n : Int32) : Option mm_W :=
  if sp < 0 ∨ dp < 0 ∨ n < 0 ∨ ¬ s < mm_XB ∨ ¬ d < mm_XB then none else
  match w_get W s, w_get W d with
  | some (.inl (0, n0, .inl f)), some (.inl (0, n1, .inl g)) =>
    if sp.toNatClampNeg + n.toNatClampNeg ≤ n0 ∧ dp.toNatClampNeg + n.toNatClampNeg ≤ n1 then some (w_set W d (.inl (0, n1, .inl (va_cpy f g sp.toNatClampNeg dp.toNatClampNeg n.toNatClampNeg)))) else none
  | some (.inl (1, n0, .inr (.inl f))), some (.inl (1, n1, .inr (.inl g))) =>
    if sp.toNatClampNeg + n.toNatClampNeg ≤ n0 ∧ dp.toNatClampNeg + n.toNatClampNeg ≤ n1 then some (w_set W d (.inl (1, n1, .inr (.inl (va_cpy f g sp.toNatClampNeg dp.toNatClampNeg n.toNatClampNeg))))) else none
  | _, _ => none
theorem fx_cpy_eq (W : mm_W) (s : Nat) (sp : Int32) (d : Nat) (dp n : Int32) : fx_cpy W s sp d dp n = mm_cpy W s sp d dp n := by
  unfold fx_cpy mm_cpy
  try simp only [w_get_eq, w_set_eq, fx_ix_eq, fx_v_eq, g_get_eq, g_set_eq, g_sum_eq]
  all_goals first | done | rfl
noncomputable def fx_call (r1 r2 r3 pc nx : Nat) (lo : List (Nat × Value)) (st : List Value) (W : mm_W) (b c : Nat) : Option mm_T :=
  match g_pop (r2 % 16) st [] with
  | none => none
  | some (As, rest) =>
  match r2 / 16 with
  | 0 => match rest with
    | .ref k :: rest => if fx_cls W k = some r3 ∧ g_sum rest ≤ 8 then some (.inr (.inr (r1, .ref k :: As, nx, true, (pc, lo, rest, W, b, c)))) else none
    | _ => none
  | 2 => match rest with
    | .ref k :: rest => if fx_cls W k = some r3 ∧ g_sum rest ≤ 8 then some (.inr (.inr (r1, .ref k :: As, nx, false, (pc, lo, rest, W, b, c)))) else none
    | _ => none
  | 1 => if g_sum rest ≤ 8 then some (.inr (.inr (r1, As, nx, true, (pc, lo, rest, W, b, c)))) else none
  | 5 => match st with
    | .ref _ :: st => if g_sum st ≤ 8 then some (.inl (nx, lo, st, W, b, c)) else none
    | _ => none
  | 6 => match st with
    | .int n :: .int dp :: .ref d :: .int sp :: .ref s :: st => if g_sum st ≤ 8 then (fx_cpy W s sp d dp n).map (fun W2 => .inl (nx, lo, st, W2, b, c)) else none
    | _ => none
  | _ => none
theorem fx_call_eq (r1 r2 r3 pc nx : Nat) (lo : List (Nat × Value)) (st : List Value) (W : mm_W) (b c : Nat) : fx_call r1 r2 r3 pc nx lo st W b c = mm_call r1 r2 r3 pc nx lo st W b c := by
  unfold fx_call mm_call
  rw [g_pop_eq]
  by_cases h : st.length < r2 % 16
  · rw [if_pos h, if_pos h]
  · rw [if_neg h, if_neg h]
    dsimp only
    rw [List.append_nil]
    try simp only [g_sum_eq, fx_cls_eq, fx_cpy_eq]
    all_goals first | done | rfl
noncomputable def fx_mt (j : Nat) : mm_Mt := (g_get ((g_get md_MT (j / 16)).getD []) (j % 16)).getD (⟨"A", "", ""⟩, ⟨#[]⟩, 0, none, [])
theorem fx_mt_eq (j : Nat) : fx_mt j = md_mt j := by
  unfold fx_mt md_mt
  rw [g_get_eq, g_get_eq]
noncomputable def fx_rt (j : Nat) : Option FieldType := (fx_mt j).2.2.2.1
theorem fx_rt_eq (j : Nat) : fx_rt j = (md_mt j).2.2.2.1 := by
  unfold fx_rt
  rw [fx_mt_eq]
noncomputable def fx_iiconst (n : Int) (xa : mm_Xa) (j nx r1 r2 r3 pc : Nat) (lo : List (Nat × Value)) (st : List Value) (W : mm_W) (b c : Nat) : Option mm_T :=
  fx_v (Int32.ofInt n) (fun v => some (.inl (nx, lo, .int v :: st, W, b, c)))
noncomputable def fx_ibipush (n : Int) (xa : mm_Xa) (j nx r1 r2 r3 pc : Nat) (lo : List (Nat × Value)) (st : List Value) (W : mm_W) (b c : Nat) : Option mm_T :=
  some (.inl (nx, lo, .int (Int8.ofInt n).toInt32 :: st, W, b, c))
noncomputable def fx_isipush (n : Int) (xa : mm_Xa) (j nx r1 r2 r3 pc : Nat) (lo : List (Nat × Value)) (st : List Value) (W : mm_W) (b c : Nat) : Option mm_T :=
  fx_v ((Int16.ofInt n).toInt32) (fun v => some (.inl (nx, lo, .int v :: st, W, b, c)))
noncomputable def fx_ilconst (n : Fin 2) (xa : mm_Xa) (j nx r1 r2 r3 pc : Nat) (lo : List (Nat × Value)) (st : List Value) (W : mm_W) (b c : Nat) : Option mm_T :=
  some (.inl (nx, lo, .long (Int64.ofNat (n : Nat)) :: st, W, b, c))
noncomputable def fx_iaconst_null  (xa : mm_Xa) (j nx r1 r2 r3 pc : Nat) (lo : List (Nat × Value)) (st : List Value) (W : mm_W) (b c : Nat) : Option mm_T :=
  some (.inl (nx, lo, .null :: st, W, b, c))
noncomputable def fx_ildc  (xa : mm_Xa) (j nx r1 r2 r3 pc : Nat) (lo : List (Nat × Value)) (st : List Value) (W : mm_W) (b c : Nat) : Option mm_T :=
  if r1 = 0 then fx_v (Int32.ofNat r2) (fun v => some (.inl (nx, lo, .int v :: st, W, b, c))) else some (.inl (nx, lo, .ref (mm_XB + r2) :: st, W, b, c))
noncomputable def fx_ildc_w  (xa : mm_Xa) (j nx r1 r2 r3 pc : Nat) (lo : List (Nat × Value)) (st : List Value) (W : mm_W) (b c : Nat) : Option mm_T :=
  fx_v (Int32.ofNat r2) (fun v => some (.inl (nx, lo, .int v :: st, W, b, c)))
noncomputable def fx_ildc2_w  (xa : mm_Xa) (j nx r1 r2 r3 pc : Nat) (lo : List (Nat × Value)) (st : List Value) (W : mm_W) (b c : Nat) : Option mm_T :=
  some (.inl (nx, lo, .long (Int64.ofNat r1) :: st, W, b, c))
noncomputable def fx_iiload (i : Nat) (xa : mm_Xa) (j nx r1 r2 r3 pc : Nat) (lo : List (Nat × Value)) (st : List Value) (W : mm_W) (b c : Nat) : Option mm_T :=
  match l_get lo i with
    | some (.int x) => some (.inl (nx, lo, .int x :: st, W, b, c))
    | _ => none
noncomputable def fx_iiload_n (i : Fin 4) (xa : mm_Xa) (j nx r1 r2 r3 pc : Nat) (lo : List (Nat × Value)) (st : List Value) (W : mm_W) (b c : Nat) : Option mm_T :=
  match l_get lo i with
    | some (.int x) => some (.inl (nx, lo, .int x :: st, W, b, c))
    | _ => none
noncomputable def fx_ilload (i : Nat) (xa : mm_Xa) (j nx r1 r2 r3 pc : Nat) (lo : List (Nat × Value)) (st : List Value) (W : mm_W) (b c : Nat) : Option mm_T :=
  match l_get lo i with
    | some (.long x) => some (.inl (nx, lo, .long x :: st, W, b, c))
    | _ => none
noncomputable def fx_ilload_n (i : Fin 4) (xa : mm_Xa) (j nx r1 r2 r3 pc : Nat) (lo : List (Nat × Value)) (st : List Value) (W : mm_W) (b c : Nat) : Option mm_T :=
  match l_get lo i with
    | some (.long x) => some (.inl (nx, lo, .long x :: st, W, b, c))
    | _ => none
noncomputable def fx_iaload (i : Nat) (xa : mm_Xa) (j nx r1 r2 r3 pc : Nat) (lo : List (Nat × Value)) (st : List Value) (W : mm_W) (b c : Nat) : Option mm_T :=
  match l_get lo i with
    | some (.ref x) => some (.inl (nx, lo, .ref x :: st, W, b, c))
    | _ => none
noncomputable def fx_iaload_n (i : Fin 4) (xa : mm_Xa) (j nx r1 r2 r3 pc : Nat) (lo : List (Nat × Value)) (st : List Value) (W : mm_W) (b c : Nat) : Option mm_T :=
  match l_get lo i with
    | some (.ref x) => some (.inl (nx, lo, .ref x :: st, W, b, c))
    | _ => none
noncomputable def fx_iistore (i : Nat) (xa : mm_Xa) (j nx r1 r2 r3 pc : Nat) (lo : List (Nat × Value)) (st : List Value) (W : mm_W) (b c : Nat) : Option mm_T :=
  match st with
    | .int x :: st => some (.inl (nx, l_sto lo i (.int x), st, W, b, c))
    | _ => none
noncomputable def fx_iistore_n (i : Fin 4) (xa : mm_Xa) (j nx r1 r2 r3 pc : Nat) (lo : List (Nat × Value)) (st : List Value) (W : mm_W) (b c : Nat) : Option mm_T :=
  match st with
    | .int x :: st => some (.inl (nx, l_sto lo i (.int x), st, W, b, c))
    | _ => none
noncomputable def fx_ilstore (i : Nat) (xa : mm_Xa) (j nx r1 r2 r3 pc : Nat) (lo : List (Nat × Value)) (st : List Value) (W : mm_W) (b c : Nat) : Option mm_T :=
  match st with
    | .long x :: st => some (.inl (nx, mm_stl lo i (.long x), st, W, b, c))
    | _ => none
noncomputable def fx_ilstore_n (i : Fin 4) (xa : mm_Xa) (j nx r1 r2 r3 pc : Nat) (lo : List (Nat × Value)) (st : List Value) (W : mm_W) (b c : Nat) : Option mm_T :=
  match st with
    | .long x :: st => some (.inl (nx, mm_stl lo i (.long x), st, W, b, c))
    | _ => none
noncomputable def fx_iastore (i : Nat) (xa : mm_Xa) (j nx r1 r2 r3 pc : Nat) (lo : List (Nat × Value)) (st : List Value) (W : mm_W) (b c : Nat) : Option mm_T :=
  match st with
    | .ref x :: st => some (.inl (nx, l_sto lo i (.ref x), st, W, b, c))
    | .retAddr x :: st => some (.inl (nx, l_sto lo i (.retAddr x), st, W, b, c))
    | _ => none
noncomputable def fx_iastore_n (i : Fin 4) (xa : mm_Xa) (j nx r1 r2 r3 pc : Nat) (lo : List (Nat × Value)) (st : List Value) (W : mm_W) (b c : Nat) : Option mm_T :=
  match st with
    | .ref x :: st => some (.inl (nx, l_sto lo i (.ref x), st, W, b, c))
    | .retAddr x :: st => some (.inl (nx, l_sto lo i (.retAddr x), st, W, b, c))
    | _ => none
noncomputable def fx_iiinc (i : Nat) (n : Int) (xa : mm_Xa) (j nx r1 r2 r3 pc : Nat) (lo : List (Nat × Value)) (st : List Value) (W : mm_W) (b c : Nat) : Option mm_T :=
  match l_get lo i with
    | some (.int x) => fx_v (fx_add x (Int32.ofInt n)) (fun v => some (.inl (nx, l_sto lo i (.int v), st, W, b, c)))
    | _ => none
noncomputable def fx_idup  (xa : mm_Xa) (j nx r1 r2 r3 pc : Nat) (lo : List (Nat × Value)) (st : List Value) (W : mm_W) (b c : Nat) : Option mm_T :=
  match st with
    | v :: st => if v.category = 1 then some (.inl (nx, lo, v :: v :: st, W, b, c)) else none
    | _ => none
noncomputable def fx_ipop  (xa : mm_Xa) (j nx r1 r2 r3 pc : Nat) (lo : List (Nat × Value)) (st : List Value) (W : mm_W) (b c : Nat) : Option mm_T :=
  match st with
    | v :: st => if v.category = 1 then some (.inl (nx, lo, st, W, b, c)) else none
    | _ => none
noncomputable def fx_idup2  (xa : mm_Xa) (j nx r1 r2 r3 pc : Nat) (lo : List (Nat × Value)) (st : List Value) (W : mm_W) (b c : Nat) : Option mm_T :=
  match st with
    | v :: w :: st => if v.category = 1 ∧ w.category = 1 then some (.inl (nx, lo, v :: w :: v :: w :: st, W, b, c)) else none
    | _ => none
noncomputable def fx_iiadd  (xa : mm_Xa) (j nx r1 r2 r3 pc : Nat) (lo : List (Nat × Value)) (st : List Value) (W : mm_W) (b c : Nat) : Option mm_T :=
  match st with
    | .int y :: .int x :: st => fx_v (fx_add x y) (fun v => some (.inl (nx, lo, .int v :: st, W, b, c)))
    | _ => none
noncomputable def fx_iisub  (xa : mm_Xa) (j nx r1 r2 r3 pc : Nat) (lo : List (Nat × Value)) (st : List Value) (W : mm_W) (b c : Nat) : Option mm_T :=
  match st with
    | .int y :: .int x :: st => fx_v (fx_sub x y) (fun v => some (.inl (nx, lo, .int v :: st, W, b, c)))
    | _ => none
noncomputable def fx_iimul  (xa : mm_Xa) (j nx r1 r2 r3 pc : Nat) (lo : List (Nat × Value)) (st : List Value) (W : mm_W) (b c : Nat) : Option mm_T :=
  match st with
    | .int y :: .int x :: st => fx_v (fx_mul x y) (fun v => some (.inl (nx, lo, .int v :: st, W, b, c)))
    | _ => none
noncomputable def fx_iiand  (xa : mm_Xa) (j nx r1 r2 r3 pc : Nat) (lo : List (Nat × Value)) (st : List Value) (W : mm_W) (b c : Nat) : Option mm_T :=
  match st with
    | .int y :: .int x :: st => fx_v (x &&& y) (fun v => some (.inl (nx, lo, .int v :: st, W, b, c)))
    | _ => none
noncomputable def fx_iior  (xa : mm_Xa) (j nx r1 r2 r3 pc : Nat) (lo : List (Nat × Value)) (st : List Value) (W : mm_W) (b c : Nat) : Option mm_T :=
  match st with
    | .int y :: .int x :: st => fx_v (x ||| y) (fun v => some (.inl (nx, lo, .int v :: st, W, b, c)))
    | _ => none
noncomputable def fx_iixor  (xa : mm_Xa) (j nx r1 r2 r3 pc : Nat) (lo : List (Nat × Value)) (st : List Value) (W : mm_W) (b c : Nat) : Option mm_T :=
  match st with
    | .int y :: .int x :: st => fx_v (x ^^^ y) (fun v => some (.inl (nx, lo, .int v :: st, W, b, c)))
    | _ => none
noncomputable def fx_iidiv  (xa : mm_Xa) (j nx r1 r2 r3 pc : Nat) (lo : List (Nat × Value)) (st : List Value) (W : mm_W) (b c : Nat) : Option mm_T :=
  match st with
    | .int y :: .int x :: st => if y = 0 then none else fx_v (x / y) (fun v => some (.inl (nx, lo, .int v :: st, W, b, c)))
    | _ => none
noncomputable def fx_iirem  (xa : mm_Xa) (j nx r1 r2 r3 pc : Nat) (lo : List (Nat × Value)) (st : List Value) (W : mm_W) (b c : Nat) : Option mm_T :=
  match st with
    | .int y :: .int x :: st => if y = 0 then none else fx_v (x - x / y * y) (fun v => some (.inl (nx, lo, .int v :: st, W, b, c)))
    | _ => none
noncomputable def fx_iineg  (xa : mm_Xa) (j nx r1 r2 r3 pc : Nat) (lo : List (Nat × Value)) (st : List Value) (W : mm_W) (b c : Nat) : Option mm_T :=
  match st with
    | .int x :: st => fx_v (-x) (fun v => some (.inl (nx, lo, .int v :: st, W, b, c)))
    | _ => none
noncomputable def fx_iishl  (xa : mm_Xa) (j nx r1 r2 r3 pc : Nat) (lo : List (Nat × Value)) (st : List Value) (W : mm_W) (b c : Nat) : Option mm_T :=
  match st with
    | .int y :: .int x :: st => fx_v (x <<< (y &&& 31)) (fun v => some (.inl (nx, lo, .int v :: st, W, b, c)))
    | _ => none
noncomputable def fx_iishr  (xa : mm_Xa) (j nx r1 r2 r3 pc : Nat) (lo : List (Nat × Value)) (st : List Value) (W : mm_W) (b c : Nat) : Option mm_T :=
  match st with
    | .int y :: .int x :: st => fx_v (x >>> (y &&& 31)) (fun v => some (.inl (nx, lo, .int v :: st, W, b, c)))
    | _ => none
noncomputable def fx_iiushr  (xa : mm_Xa) (j nx r1 r2 r3 pc : Nat) (lo : List (Nat × Value)) (st : List Value) (W : mm_W) (b c : Nat) : Option mm_T :=
  match st with
    | .int y :: .int x :: st => some (.inl (nx, lo, .int (x.toUInt32 >>> (y.toUInt32 &&& Int32.toUInt32 31)).toInt32 :: st, W, b, c))
    | _ => none
noncomputable def fx_iland  (xa : mm_Xa) (j nx r1 r2 r3 pc : Nat) (lo : List (Nat × Value)) (st : List Value) (W : mm_W) (b c : Nat) : Option mm_T :=
  match st with
    | .long y :: .long x :: st => some (.inl (nx, lo, .long (x &&& y) :: st, W, b, c))
    | _ => none
noncomputable def fx_ilor  (xa : mm_Xa) (j nx r1 r2 r3 pc : Nat) (lo : List (Nat × Value)) (st : List Value) (W : mm_W) (b c : Nat) : Option mm_T :=
  match st with
    | .long y :: .long x :: st => some (.inl (nx, lo, .long (x ||| y) :: st, W, b, c))
    | _ => none
noncomputable def fx_ilshl  (xa : mm_Xa) (j nx r1 r2 r3 pc : Nat) (lo : List (Nat × Value)) (st : List Value) (W : mm_W) (b c : Nat) : Option mm_T :=
  match st with
    | .int y :: .long x :: st => some (.inl (nx, lo, .long (x <<< (y.toInt64 &&& 63)) :: st, W, b, c))
    | _ => none
noncomputable def fx_ilshr  (xa : mm_Xa) (j nx r1 r2 r3 pc : Nat) (lo : List (Nat × Value)) (st : List Value) (W : mm_W) (b c : Nat) : Option mm_T :=
  match st with
    | .int y :: .long x :: st => some (.inl (nx, lo, .long (x >>> (y.toInt64 &&& 63)) :: st, W, b, c))
    | _ => none
noncomputable def fx_ilcmp  (xa : mm_Xa) (j nx r1 r2 r3 pc : Nat) (lo : List (Nat × Value)) (st : List Value) (W : mm_W) (b c : Nat) : Option mm_T :=
  match st with
    | .long y :: .long x :: st => fx_v (lg_cmp x y) (fun v => some (.inl (nx, lo, .int v :: st, W, b, c)))
    | _ => none
noncomputable def fx_ii2l  (xa : mm_Xa) (j nx r1 r2 r3 pc : Nat) (lo : List (Nat × Value)) (st : List Value) (W : mm_W) (b c : Nat) : Option mm_T :=
  match st with
    | .int x :: st => some (.inl (nx, lo, .long x.toInt64 :: st, W, b, c))
    | _ => none
noncomputable def fx_il2i  (xa : mm_Xa) (j nx r1 r2 r3 pc : Nat) (lo : List (Nat × Value)) (st : List Value) (W : mm_W) (b c : Nat) : Option mm_T :=
  match st with
    | .long x :: st => fx_v (x.toInt32) (fun v => some (.inl (nx, lo, .int v :: st, W, b, c)))
    | _ => none
noncomputable def fx_ii2b  (xa : mm_Xa) (j nx r1 r2 r3 pc : Nat) (lo : List (Nat × Value)) (st : List Value) (W : mm_W) (b c : Nat) : Option mm_T :=
  match st with
    | .int x :: st => fx_v (x.toInt8.toInt32) (fun v => some (.inl (nx, lo, .int v :: st, W, b, c)))
    | _ => none
noncomputable def fx_ii2c  (xa : mm_Xa) (j nx r1 r2 r3 pc : Nat) (lo : List (Nat × Value)) (st : List Value) (W : mm_W) (b c : Nat) : Option mm_T :=
  match st with
    | .int x :: st => some (.inl (nx, lo, .int (x.toUInt32 % 65536).toInt32 :: st, W, b, c))
    | _ => none
noncomputable def fx_iifCond (k : Jvm.ClassFile.Cond) (xa : mm_Xa) (j nx r1 r2 r3 pc : Nat) (lo : List (Nat × Value)) (st : List Value) (W : mm_W) (b c : Nat) : Option mm_T :=
  match st with
    | .int x :: st => some (.inl (if fx_cmp k x 0 then r1 else nx, lo, st, W, b, c))
    | _ => none
noncomputable def fx_iif_icmp (k : Jvm.ClassFile.Cond) (xa : mm_Xa) (j nx r1 r2 r3 pc : Nat) (lo : List (Nat × Value)) (st : List Value) (W : mm_W) (b c : Nat) : Option mm_T :=
  match st with
    | .int y :: .int x :: st => some (.inl (if fx_cmp k x y then r1 else nx, lo, st, W, b, c))
    | _ => none
noncomputable def fx_iif_acmp (k : Jvm.ClassFile.ACond) (xa : mm_Xa) (j nx r1 r2 r3 pc : Nat) (lo : List (Nat × Value)) (st : List Value) (W : mm_W) (b c : Nat) : Option mm_T :=
  match st with
    | .ref y :: .ref x :: st =>
      if mm_XB < x ∧ mm_XB < y ∧ x ≤ mm_XB + md_ne ∧ y ≤ mm_XB + md_ne then some (.inl (if decide (x = y) == decide (k = .eq) then r1 else nx, lo, st, W, b, c)) else none
    | _ => none
noncomputable def fx_igoto  (xa : mm_Xa) (j nx r1 r2 r3 pc : Nat) (lo : List (Nat × Value)) (st : List Value) (W : mm_W) (b c : Nat) : Option mm_T :=
  some (.inl (r1, lo, st, W, b, c))
noncomputable def fx_itableswitch (dflt : Int) (l : Int) (h : Int) (offs : Array Int) (xa : mm_Xa) (j nx r1 r2 r3 pc : Nat) (lo : List (Nat × Value)) (st : List Value) (W : mm_W) (b c : Nat) : Option mm_T :=
  match st with
    | .int x :: st => match mm_tsw pc dflt l h offs x with
      | some t => some (.inl (t, lo, st, W, b, c))
      | none => none
    | _ => none
noncomputable def fx_ilookupswitch (dflt : Int) (ps : Array (Int × Int)) (xa : mm_Xa) (j nx r1 r2 r3 pc : Nat) (lo : List (Nat × Value)) (st : List Value) (W : mm_W) (b c : Nat) : Option mm_T :=
  match st with
    | .int x :: st => match mm_at pc (Op.lookupswitch.offset ps.toList dflt x.toInt) with
      | some t => some (.inl (t, lo, st, W, b, c))
      | none => none
    | _ => none
noncomputable def fx_iiaload  (xa : mm_Xa) (j nx r1 r2 r3 pc : Nat) (lo : List (Nat × Value)) (st : List Value) (W : mm_W) (b c : Nat) : Option mm_T :=
  match st with
    | .int i :: .ref k :: st => match fx_aget xa W k i with
      | some (t, v) => if t = 0 then some (.inl (nx, lo, v :: st, W, b, c)) else none
      | none => none
    | _ => none
noncomputable def fx_ibaload  (xa : mm_Xa) (j nx r1 r2 r3 pc : Nat) (lo : List (Nat × Value)) (st : List Value) (W : mm_W) (b c : Nat) : Option mm_T :=
  match st with
    | .int i :: .ref k :: st => match fx_aget xa W k i with
      | some (t, v) => if t = 2 ∨ t = 3 then some (.inl (nx, lo, v :: st, W, b, c)) else none
      | none => none
    | _ => none
noncomputable def fx_ilaload  (xa : mm_Xa) (j nx r1 r2 r3 pc : Nat) (lo : List (Nat × Value)) (st : List Value) (W : mm_W) (b c : Nat) : Option mm_T :=
  match st with
    | .int i :: .ref k :: st => match fx_aget xa W k i with
      | some (t, v) => if t = 1 then some (.inl (nx, lo, v :: st, W, b, c)) else none
      | none => none
    | _ => none
noncomputable def fx_iaaload  (xa : mm_Xa) (j nx r1 r2 r3 pc : Nat) (lo : List (Nat × Value)) (st : List Value) (W : mm_W) (b c : Nat) : Option mm_T :=
  match st with
    | .int i :: .ref k :: st => match fx_aget xa W k i with
      | some (t, v) => if 4 ≤ t then some (.inl (nx, lo, v :: st, W, b, c)) else none
      | none => none
    | _ => none
noncomputable def fx_iiastore  (xa : mm_Xa) (j nx r1 r2 r3 pc : Nat) (lo : List (Nat × Value)) (st : List Value) (W : mm_W) (b c : Nat) : Option mm_T :=
  match st with
    | .int x :: .int i :: .ref k :: st => if k < mm_XB then match fx_aputi W k i x with
      | some (t, W2) => if t = 0 then some (.inl (nx, lo, st, W2, b, c)) else none
      | none => none
      else none
    | _ => none
noncomputable def fx_ibastore  (xa : mm_Xa) (j nx r1 r2 r3 pc : Nat) (lo : List (Nat × Value)) (st : List Value) (W : mm_W) (b c : Nat) : Option mm_T :=
  match st with
    | .int x :: .int i :: .ref k :: st => if k < mm_XB then match fx_aputi W k i x with
      | some (t, W2) => if t = 2 ∨ t = 3 then some (.inl (nx, lo, st, W2, b, c)) else none
      | none => none
      else none
    | _ => none
noncomputable def fx_ilastore  (xa : mm_Xa) (j nx r1 r2 r3 pc : Nat) (lo : List (Nat × Value)) (st : List Value) (W : mm_W) (b c : Nat) : Option mm_T :=
  match st with
    | .long x :: .int i :: .ref k :: st => if k < mm_XB then match fx_aputl W k i x with
      | some (t, W2) => if t = 1 then some (.inl (nx, lo, st, W2, b, c)) else none
      | none => none
      else none
    | _ => none
noncomputable def fx_iaastore  (xa : mm_Xa) (j nx r1 r2 r3 pc : Nat) (lo : List (Nat × Value)) (st : List Value) (W : mm_W) (b c : Nat) : Option mm_T :=
  match st with
    | .ref v :: .int i :: .ref k :: st => if k < mm_XB then (fx_aputr W k i v).map (fun W2 => .inl (nx, lo, st, W2, b, c)) else none
    | _ => none
noncomputable def fx_iarraylength  (xa : mm_Xa) (j nx r1 r2 r3 pc : Nat) (lo : List (Nat × Value)) (st : List Value) (W : mm_W) (b c : Nat) : Option mm_T :=
  match st with
    | .ref k :: st => (fx_alen xa W k).map (fun n => .inl (nx, lo, .int (Int32.ofNat n) :: st, W, b, c))
    | _ => none
noncomputable def fx_igetfield  (xa : mm_Xa) (j nx r1 r2 r3 pc : Nat) (lo : List (Nat × Value)) (st : List Value) (W : mm_W) (b c : Nat) : Option mm_T :=
  match st with
    | .ref k :: st =>
      if r3 = 0 then (if k < mm_XB then (fx_getf W k r1 r2).map (fun v => .inl (nx, lo, v :: st, W, b, c)) else none)
      else if k < mm_XB then none else (md_xo (k - mm_XB) r1).map (fun v => .inl (nx, lo, v :: st, W, b, c))
    | _ => none
noncomputable def fx_iputfield  (xa : mm_Xa) (j nx r1 r2 r3 pc : Nat) (lo : List (Nat × Value)) (st : List Value) (W : mm_W) (b c : Nat) : Option mm_T :=
  match st with
    | v :: .ref k :: st => if k < mm_XB then (fx_put W k r1 r2 r3 v).map (fun W2 => .inl (nx, lo, st, W2, b, c)) else none
    | _ => none
noncomputable def fx_igetstatic  (xa : mm_Xa) (j nx r1 r2 r3 pc : Nat) (lo : List (Nat × Value)) (st : List Value) (W : mm_W) (b c : Nat) : Option mm_T :=
  if r3 = 0 then some (.inl (nx, lo, md_st r1 :: st, W, b, c)) else some (.inl (nx, lo, .retAddr 0 :: st, W, b, c))
noncomputable def fx_inew  (xa : mm_Xa) (j nx r1 r2 r3 pc : Nat) (lo : List (Nat × Value)) (st : List Value) (W : mm_W) (b c : Nat) : Option mm_T :=
  if r3 = 0 then
      (if 1 ≤ b ∧ (md_df r1).length ≤ c ∧ w_len W < mm_XB then fx_n (w_len W) (fun m => some (.inl (nx, lo, .ref m :: st, w_app W (.inr (r1, md_df r1)), b - 1, c - (md_df r1).length))) else none)
    else if 1 ≤ b ∧ 6 ≤ c ∧ (st.map fun v => v.category).sum ≤ 8 then some (.inr (.inl (.inr r1, W, b - 1, c - 6))) else none
noncomputable def fx_inewarray  (xa : mm_Xa) (j nx r1 r2 r3 pc : Nat) (lo : List (Nat × Value)) (st : List Value) (W : mm_W) (b c : Nat) : Option mm_T :=
  match st with
    | .int n :: st =>
      if ¬ n < 0 ∧ 1 ≤ b ∧ n.toNatClampNeg ≤ c ∧ w_len W < mm_XB ∧ n.toNatClampNeg ≤ 1000000 then
        fx_n (w_len W) (fun m => some (.inl (nx, lo, .ref m :: st, w_app W (.inl (r1, n.toNatClampNeg, if r1 = 1 then .inr (.inl (fun _ => 0)) else .inl (fun _ => 0))), b - 1, c - n.toNatClampNeg)))
      else none
    | _ => none
noncomputable def fx_ianewarray  (xa : mm_Xa) (j nx r1 r2 r3 pc : Nat) (lo : List (Nat × Value)) (st : List Value) (W : mm_W) (b c : Nat) : Option mm_T :=
  match st with
    | .int n :: st =>
      if ¬ n < 0 ∧ 1 ≤ b ∧ n.toNatClampNeg ≤ c ∧ w_len W < mm_XB ∧ n.toNatClampNeg ≤ 1000000 then
        fx_n (w_len W) (fun m => some (.inl (nx, lo, .ref m :: st, w_app W (.inl (r1, n.toNatClampNeg, .inr (.inr (.inr (.inr (fun _ => none)))))), b - 1, c - n.toNatClampNeg)))
      else none
    | _ => none
noncomputable def fx_iinvokevirtual  (xa : mm_Xa) (j nx r1 r2 r3 pc : Nat) (lo : List (Nat × Value)) (st : List Value) (W : mm_W) (b c : Nat) : Option mm_T :=
  fx_call r1 r2 r3 pc nx lo st W b c
noncomputable def fx_iinvokestatic  (xa : mm_Xa) (j nx r1 r2 r3 pc : Nat) (lo : List (Nat × Value)) (st : List Value) (W : mm_W) (b c : Nat) : Option mm_T :=
  fx_call r1 r2 r3 pc nx lo st W b c
noncomputable def fx_iinvokespecial  (xa : mm_Xa) (j nx r1 r2 r3 pc : Nat) (lo : List (Nat × Value)) (st : List Value) (W : mm_W) (b c : Nat) : Option mm_T :=
  fx_call r1 r2 r3 pc nx lo st W b c
noncomputable def fx_iireturn  (xa : mm_Xa) (j nx r1 r2 r3 pc : Nat) (lo : List (Nat × Value)) (st : List Value) (W : mm_W) (b c : Nat) : Option mm_T :=
  match st with
    | [.int v] => (match fx_rt j with
      | some ty => match ty with
        | .int => some (.inr (.inl (.inl (some (.int v)), W, b, c)))
        | ty => if narrow ty (.int v) = .int v then some (.inr (.inl (.inl (some (.int v)), W, b, c))) else none
      | none => none)
    | _ => none
noncomputable def fx_ilreturn  (xa : mm_Xa) (j nx r1 r2 r3 pc : Nat) (lo : List (Nat × Value)) (st : List Value) (W : mm_W) (b c : Nat) : Option mm_T :=
  match st with
    | [.long v] => if (md_mt j).2.2.2.1 = some .long then some (.inr (.inl (.inl (some (.long v)), W, b, c))) else none
    | _ => none
noncomputable def fx_iareturn  (xa : mm_Xa) (j nx r1 r2 r3 pc : Nat) (lo : List (Nat × Value)) (st : List Value) (W : mm_W) (b c : Nat) : Option mm_T :=
  match st with
    | [.ref v] => (match (md_mt j).2.2.2.1 with
      | some (.object _) => some (.inr (.inl (.inl (some (.ref v)), W, b, c)))
      | some (.array _) => some (.inr (.inl (.inl (some (.ref v)), W, b, c)))
      | _ => none)
    | _ => none
noncomputable def fx_ireturn_  (xa : mm_Xa) (j nx r1 r2 r3 pc : Nat) (lo : List (Nat × Value)) (st : List Value) (W : mm_W) (b c : Nat) : Option mm_T :=
  match st with
    | [] => if (md_mt j).2.2.2.1 = none then some (.inr (.inl (.inl none, W, b, c))) else none
    | _ => none
noncomputable def fx_siload (i : Nat) (R : Nat → Option (Int × Int)) (nx r1 pc : Nat) (lo : List (Nat × Value)) (st : List Value) (W : mm_W) (b c : Nat) : Option mm_T :=
  match l_get lo i with
    | some (.float u) => some (.inl (nx, lo, .float u :: st, W, b, c))
    | _ => none
noncomputable def fx_siload_n (i : Fin 4) (R : Nat → Option (Int × Int)) (nx r1 pc : Nat) (lo : List (Nat × Value)) (st : List Value) (W : mm_W) (b c : Nat) : Option mm_T :=
  match l_get lo i with
    | some (.float u) => some (.inl (nx, lo, .float u :: st, W, b, c))
    | _ => none
noncomputable def fx_slload (i : Nat) (R : Nat → Option (Int × Int)) (nx r1 pc : Nat) (lo : List (Nat × Value)) (st : List Value) (W : mm_W) (b c : Nat) : Option mm_T :=
  match l_get lo i with
    | some (.double u) => some (.inl (nx, lo, .double u :: st, W, b, c))
    | _ => none
noncomputable def fx_slload_n (i : Fin 4) (R : Nat → Option (Int × Int)) (nx r1 pc : Nat) (lo : List (Nat × Value)) (st : List Value) (W : mm_W) (b c : Nat) : Option mm_T :=
  match l_get lo i with
    | some (.double u) => some (.inl (nx, lo, .double u :: st, W, b, c))
    | _ => none
noncomputable def fx_si2l  (R : Nat → Option (Int × Int)) (nx r1 pc : Nat) (lo : List (Nat × Value)) (st : List Value) (W : mm_W) (b c : Nat) : Option mm_T :=
  match st with
    | .float u :: st => some (.inl (nx, lo, .double u.toUInt64 :: st, W, b, c))
    | _ => none
noncomputable def fx_slcmp  (R : Nat → Option (Int × Int)) (nx r1 pc : Nat) (lo : List (Nat × Value)) (st : List Value) (W : mm_W) (b c : Nat) : Option mm_T :=
  match st with
    | .long y :: .double u :: st => match R u.toNat with
      | some (p, q) => if q < y.toInt then some (.inl (nx, lo, .int (-1) :: st, W, b, c)) else if y.toInt < p then some (.inl (nx, lo, .int 1 :: st, W, b, c)) else none
      | none => none
    | _ => none
noncomputable def fx_sifCond (k : Jvm.ClassFile.Cond) (R : Nat → Option (Int × Int)) (nx r1 pc : Nat) (lo : List (Nat × Value)) (st : List Value) (W : mm_W) (b c : Nat) : Option mm_T :=
  match st with
    | .float u :: st => match R u.toNat with
      | some (p, q) => match ts_rc k p q 0 0 with
        | some r => some (.inl (if r then r1 else nx, lo, st, W, b, c))
        | none => none
      | none => none
    | _ => none
noncomputable def fx_sif_icmp (k : Jvm.ClassFile.Cond) (R : Nat → Option (Int × Int)) (nx r1 pc : Nat) (lo : List (Nat × Value)) (st : List Value) (W : mm_W) (b c : Nat) : Option mm_T :=
  match st with
    | .int y :: .float u :: st => match R u.toNat with
      | some (p, q) => match ts_rc k p q y.toInt y.toInt with
        | some r => some (.inl (if r then r1 else nx, lo, st, W, b, c))
        | none => none
      | none => none
    | .float u :: .int x :: st => match R u.toNat with
      | some (p, q) => match ts_rc k x.toInt x.toInt p q with
        | some r => some (.inl (if r then r1 else nx, lo, st, W, b, c))
        | none => none
      | none => none
    | _ => none
noncomputable def fx_stableswitch (df : Int) (l : Int) (h : Int) (R : Nat → Option (Int × Int)) (nx r1 pc : Nat) (lo : List (Nat × Value)) (st : List Value) (W : mm_W) (b c : Nat) : Option mm_T :=
  match st with
    | .float u :: st => match R u.toNat with
      | some (p, q) => if q < l ∨ h < p then (mm_at pc df).map (fun t => .inl (t, lo, st, W, b, c)) else none
      | none => none
    | _ => none
noncomputable def fx_siaload  (R : Nat → Option (Int × Int)) (nx r1 pc : Nat) (lo : List (Nat × Value)) (st : List Value) (W : mm_W) (b c : Nat) : Option mm_T :=
  match st with
    | .int i :: .ref k :: st =>
      if k = mm_XB ∧ mm_ib i 6 = true then
        match R i.toNatClampNeg with
        | some (p, q) => if p = q then some (.inl (nx, lo, .int (Int32.ofInt p) :: st, W, b, c)) else some (.inl (nx, lo, .float (UInt32.ofNat (i.toNatClampNeg % 8)) :: st, W, b, c))
        | none => some (.inl (nx, lo, .float (UInt32.ofNat (i.toNatClampNeg % 8)) :: st, W, b, c))
      else none
    | _ => none
def fx_s0 (R : Nat → Option (Int × Int)) (nx r1 pc : Nat) (lo : List (Nat × Value)) (st : List Value) (W : mm_W) (b c : Nat) : Option mm_T := none
def fx_i0 (xa : mm_Xa) (j nx r1 r2 r3 pc : Nat) (lo : List (Nat × Value)) (st : List Value) (W : mm_W) (b c : Nat) : Option mm_T := none
noncomputable def fx_P (ins : Instr) : (mm_Xa → Nat → Nat → Nat → Nat → Nat → Nat → List (Nat × Value) → List Value → mm_W → Nat → Nat → Option mm_T) × ((Nat → Option (Int × Int)) → Nat → Nat → Nat → List (Nat × Value) → List Value → mm_W → Nat → Nat → Option mm_T) × Bool :=
  match ins with
  | .iconst n => ((fx_iiconst n), fx_s0, false)
  | .bipush n => ((fx_ibipush n), fx_s0, false)
  | .sipush n => ((fx_isipush n), fx_s0, false)
  | .lconst n => ((fx_ilconst n), fx_s0, false)
  | .aconst_null => (fx_iaconst_null, fx_s0, false)
  | .ldc _ => (fx_ildc, fx_s0, false)
  | .ldc_w _ => (fx_ildc_w, fx_s0, false)
  | .ldc2_w _ => (fx_ildc2_w, fx_s0, false)
  | .iload i => ((fx_iiload i), (fx_siload i), false)
  | .iload_n i => ((fx_iiload_n i), (fx_siload_n i), false)
  | .lload i => ((fx_ilload i), (fx_slload i), false)
  | .lload_n i => ((fx_ilload_n i), (fx_slload_n i), false)
  | .aload i => ((fx_iaload i), fx_s0, false)
  | .aload_n i => ((fx_iaload_n i), fx_s0, false)
  | .istore i => ((fx_iistore i), fx_s0, false)
  | .istore_n i => ((fx_iistore_n i), fx_s0, false)
  | .lstore i => ((fx_ilstore i), fx_s0, false)
  | .lstore_n i => ((fx_ilstore_n i), fx_s0, false)
  | .astore i => ((fx_iastore i), fx_s0, false)
  | .astore_n i => ((fx_iastore_n i), fx_s0, false)
  | .iinc i n => ((fx_iiinc i n), fx_s0, false)
  | .dup => (fx_idup, fx_s0, false)
  | .pop => (fx_ipop, fx_s0, false)
  | .dup2 => (fx_idup2, fx_s0, false)
  | .iadd => (fx_iiadd, fx_s0, false)
  | .isub => (fx_iisub, fx_s0, false)
  | .imul => (fx_iimul, fx_s0, false)
  | .iand => (fx_iiand, fx_s0, false)
  | .ior => (fx_iior, fx_s0, false)
  | .ixor => (fx_iixor, fx_s0, false)
  | .idiv => (fx_iidiv, fx_s0, false)
  | .irem => (fx_iirem, fx_s0, false)
  | .ineg => (fx_iineg, fx_s0, false)
  | .ishl => (fx_iishl, fx_s0, false)
  | .ishr => (fx_iishr, fx_s0, false)
  | .iushr => (fx_iiushr, fx_s0, false)
  | .land => (fx_iland, fx_s0, false)
  | .lor => (fx_ilor, fx_s0, false)
  | .lshl => (fx_ilshl, fx_s0, false)
  | .lshr => (fx_ilshr, fx_s0, false)
  | .lcmp => (fx_ilcmp, fx_slcmp, false)
  | .i2l => (fx_ii2l, fx_si2l, false)
  | .l2i => (fx_il2i, fx_s0, false)
  | .i2b => (fx_ii2b, fx_s0, false)
  | .i2c => (fx_ii2c, fx_s0, false)
  | .ifCond k _ => ((fx_iifCond k), (fx_sifCond k), false)
  | .if_icmp k _ => ((fx_iif_icmp k), (fx_sif_icmp k), false)
  | .if_acmp k _ => ((fx_iif_acmp k), fx_s0, false)
  | .goto _ => (fx_igoto, fx_s0, false)
  | .tableswitch dflt l h offs => ((fx_itableswitch dflt l h offs), (fx_stableswitch dflt l h), false)
  | .lookupswitch dflt ps => ((fx_ilookupswitch dflt ps), fx_s0, false)
  | .iaload => (fx_iiaload, fx_siaload, true)
  | .baload => (fx_ibaload, fx_s0, true)
  | .laload => (fx_ilaload, fx_s0, true)
  | .aaload => (fx_iaaload, fx_s0, true)
  | .iastore => (fx_iiastore, fx_s0, false)
  | .bastore => (fx_ibastore, fx_s0, false)
  | .lastore => (fx_ilastore, fx_s0, false)
  | .aastore => (fx_iaastore, fx_s0, false)
  | .arraylength => (fx_iarraylength, fx_s0, false)
  | .getfield _ => (fx_igetfield, fx_s0, true)
  | .putfield _ => (fx_iputfield, fx_s0, false)
  | .getstatic _ => (fx_igetstatic, fx_s0, true)
  | .new _ => (fx_inew, fx_s0, false)
  | .newarray _ => (fx_inewarray, fx_s0, false)
  | .anewarray _ => (fx_ianewarray, fx_s0, false)
  | .invokevirtual _ => (fx_iinvokevirtual, fx_s0, false)
  | .invokestatic _ => (fx_iinvokestatic, fx_s0, false)
  | .invokespecial _ => (fx_iinvokespecial, fx_s0, false)
  | .ireturn => (fx_iireturn, fx_s0, false)
  | .lreturn => (fx_ilreturn, fx_s0, false)
  | .areturn => (fx_iareturn, fx_s0, false)
  | .return_ => (fx_ireturn_, fx_s0, false)
  | _ => (fx_i0, fx_s0, false)
set_option maxHeartbeats 8000000 in
theorem fx_I_eq (xa : mm_Xa) (j : Nat) (ins : Instr) (nx r1 r2 r3 pc : Nat) (lo : List (Nat × Value)) (st : List Value) (W : mm_W) (b c : Nat) : (fx_P ins).1 xa j nx r1 r2 r3 pc lo st W b c = mm_stepI xa j ins nx r1 r2 r3 pc lo st W b c := by
  cases ins
  case iconst a0 =>
    show fx_iiconst a0 xa j nx r1 r2 r3 pc lo st W b c = _
    unfold fx_iiconst
    try simp only [fx_v_eq, fx_cmp_eq, fx_add_eq, fx_sub_eq, fx_mul_eq, g_sum_eq, fx_aget_eq, fx_alen_eq, fx_aputi_eq, fx_aputl_eq, fx_cls_eq, fx_aputr_eq, fx_put_eq, fx_getf_eq, fx_cpy_eq, fx_call_eq, l_get_eq, l_sto_eq, w_len_eq, w_app_eq, fx_n_eq]
    all_goals first | done | rfl
  case bipush a0 => rfl
  case sipush a0 =>
    show fx_isipush a0 xa j nx r1 r2 r3 pc lo st W b c = _
    unfold fx_isipush
    try simp only [fx_v_eq, fx_cmp_eq, fx_add_eq, fx_sub_eq, fx_mul_eq, g_sum_eq, fx_aget_eq, fx_alen_eq, fx_aputi_eq, fx_aputl_eq, fx_cls_eq, fx_aputr_eq, fx_put_eq, fx_getf_eq, fx_cpy_eq, fx_call_eq, l_get_eq, l_sto_eq, w_len_eq, w_app_eq, fx_n_eq]
    all_goals first | done | rfl
  case lconst a0 => rfl
  case aconst_null => rfl
  case ldc a0 =>
    show fx_ildc xa j nx r1 r2 r3 pc lo st W b c = _
    unfold fx_ildc
    try simp only [fx_v_eq, fx_cmp_eq, fx_add_eq, fx_sub_eq, fx_mul_eq, g_sum_eq, fx_aget_eq, fx_alen_eq, fx_aputi_eq, fx_aputl_eq, fx_cls_eq, fx_aputr_eq, fx_put_eq, fx_getf_eq, fx_cpy_eq, fx_call_eq, l_get_eq, l_sto_eq, w_len_eq, w_app_eq, fx_n_eq]
    all_goals first | done | rfl
  case ldc_w a0 =>
    show fx_ildc_w xa j nx r1 r2 r3 pc lo st W b c = _
    unfold fx_ildc_w
    try simp only [fx_v_eq, fx_cmp_eq, fx_add_eq, fx_sub_eq, fx_mul_eq, g_sum_eq, fx_aget_eq, fx_alen_eq, fx_aputi_eq, fx_aputl_eq, fx_cls_eq, fx_aputr_eq, fx_put_eq, fx_getf_eq, fx_cpy_eq, fx_call_eq, l_get_eq, l_sto_eq, w_len_eq, w_app_eq, fx_n_eq]
    all_goals first | done | rfl
  case ldc2_w a0 => rfl
  case iload a0 =>
    show fx_iiload a0 xa j nx r1 r2 r3 pc lo st W b c = _
    unfold fx_iiload
    try simp only [fx_v_eq, fx_cmp_eq, fx_add_eq, fx_sub_eq, fx_mul_eq, g_sum_eq, fx_aget_eq, fx_alen_eq, fx_aputi_eq, fx_aputl_eq, fx_cls_eq, fx_aputr_eq, fx_put_eq, fx_getf_eq, fx_cpy_eq, fx_call_eq, l_get_eq, l_sto_eq, w_len_eq, w_app_eq, fx_n_eq]
    all_goals first | done | rfl
  case iload_n a0 =>
    show fx_iiload_n a0 xa j nx r1 r2 r3 pc lo st W b c = _
    unfold fx_iiload_n
    try simp only [fx_v_eq, fx_cmp_eq, fx_add_eq, fx_sub_eq, fx_mul_eq, g_sum_eq, fx_aget_eq, fx_alen_eq, fx_aputi_eq, fx_aputl_eq, fx_cls_eq, fx_aputr_eq, fx_put_eq, fx_getf_eq, fx_cpy_eq, fx_call_eq, l_get_eq, l_sto_eq, w_len_eq, w_app_eq, fx_n_eq]
    all_goals first | done | rfl
  case lload a0 =>
    show fx_ilload a0 xa j nx r1 r2 r3 pc lo st W b c = _
    unfold fx_ilload
    try simp only [fx_v_eq, fx_cmp_eq, fx_add_eq, fx_sub_eq, fx_mul_eq, g_sum_eq, fx_aget_eq, fx_alen_eq, fx_aputi_eq, fx_aputl_eq, fx_cls_eq, fx_aputr_eq, fx_put_eq, fx_getf_eq, fx_cpy_eq, fx_call_eq, l_get_eq, l_sto_eq, w_len_eq, w_app_eq, fx_n_eq]
    all_goals first | done | rfl
  case lload_n a0 =>
    show fx_ilload_n a0 xa j nx r1 r2 r3 pc lo st W b c = _
    unfold fx_ilload_n
    try simp only [fx_v_eq, fx_cmp_eq, fx_add_eq, fx_sub_eq, fx_mul_eq, g_sum_eq, fx_aget_eq, fx_alen_eq, fx_aputi_eq, fx_aputl_eq, fx_cls_eq, fx_aputr_eq, fx_put_eq, fx_getf_eq, fx_cpy_eq, fx_call_eq, l_get_eq, l_sto_eq, w_len_eq, w_app_eq, fx_n_eq]
    all_goals first | done | rfl
  case aload a0 =>
    show fx_iaload a0 xa j nx r1 r2 r3 pc lo st W b c = _
    unfold fx_iaload
    try simp only [fx_v_eq, fx_cmp_eq, fx_add_eq, fx_sub_eq, fx_mul_eq, g_sum_eq, fx_aget_eq, fx_alen_eq, fx_aputi_eq, fx_aputl_eq, fx_cls_eq, fx_aputr_eq, fx_put_eq, fx_getf_eq, fx_cpy_eq, fx_call_eq, l_get_eq, l_sto_eq, w_len_eq, w_app_eq, fx_n_eq]
    all_goals first | done | rfl
  case aload_n a0 =>
    show fx_iaload_n a0 xa j nx r1 r2 r3 pc lo st W b c = _
    unfold fx_iaload_n
    try simp only [fx_v_eq, fx_cmp_eq, fx_add_eq, fx_sub_eq, fx_mul_eq, g_sum_eq, fx_aget_eq, fx_alen_eq, fx_aputi_eq, fx_aputl_eq, fx_cls_eq, fx_aputr_eq, fx_put_eq, fx_getf_eq, fx_cpy_eq, fx_call_eq, l_get_eq, l_sto_eq, w_len_eq, w_app_eq, fx_n_eq]
    all_goals first | done | rfl
  case istore a0 =>
    show fx_iistore a0 xa j nx r1 r2 r3 pc lo st W b c = _
    unfold fx_iistore
    try simp only [fx_v_eq, fx_cmp_eq, fx_add_eq, fx_sub_eq, fx_mul_eq, g_sum_eq, fx_aget_eq, fx_alen_eq, fx_aputi_eq, fx_aputl_eq, fx_cls_eq, fx_aputr_eq, fx_put_eq, fx_getf_eq, fx_cpy_eq, fx_call_eq, l_get_eq, l_sto_eq, w_len_eq, w_app_eq, fx_n_eq]
    all_goals first | done | rfl
  case istore_n a0 =>
    show fx_iistore_n a0 xa j nx r1 r2 r3 pc lo st W b c = _
    unfold fx_iistore_n
    try simp only [fx_v_eq, fx_cmp_eq, fx_add_eq, fx_sub_eq, fx_mul_eq, g_sum_eq, fx_aget_eq, fx_alen_eq, fx_aputi_eq, fx_aputl_eq, fx_cls_eq, fx_aputr_eq, fx_put_eq, fx_getf_eq, fx_cpy_eq, fx_call_eq, l_get_eq, l_sto_eq, w_len_eq, w_app_eq, fx_n_eq]
    all_goals first | done | rfl
  case lstore a0 => rfl
  case lstore_n a0 => rfl
  case astore a0 =>
    show fx_iastore a0 xa j nx r1 r2 r3 pc lo st W b c = _
    unfold fx_iastore
    try simp only [fx_v_eq, fx_cmp_eq, fx_add_eq, fx_sub_eq, fx_mul_eq, g_sum_eq, fx_aget_eq, fx_alen_eq, fx_aputi_eq, fx_aputl_eq, fx_cls_eq, fx_aputr_eq, fx_put_eq, fx_getf_eq, fx_cpy_eq, fx_call_eq, l_get_eq, l_sto_eq, w_len_eq, w_app_eq, fx_n_eq]
    all_goals first | done | rfl
  case astore_n a0 =>
    show fx_iastore_n a0 xa j nx r1 r2 r3 pc lo st W b c = _
    unfold fx_iastore_n
    try simp only [fx_v_eq, fx_cmp_eq, fx_add_eq, fx_sub_eq, fx_mul_eq, g_sum_eq, fx_aget_eq, fx_alen_eq, fx_aputi_eq, fx_aputl_eq, fx_cls_eq, fx_aputr_eq, fx_put_eq, fx_getf_eq, fx_cpy_eq, fx_call_eq, l_get_eq, l_sto_eq, w_len_eq, w_app_eq, fx_n_eq]
    all_goals first | done | rfl
  case iinc a0 a1 =>
    show fx_iiinc a0 a1 xa j nx r1 r2 r3 pc lo st W b c = _
    unfold fx_iiinc
    try simp only [fx_v_eq, fx_cmp_eq, fx_add_eq, fx_sub_eq, fx_mul_eq, g_sum_eq, fx_aget_eq, fx_alen_eq, fx_aputi_eq, fx_aputl_eq, fx_cls_eq, fx_aputr_eq, fx_put_eq, fx_getf_eq, fx_cpy_eq, fx_call_eq, l_get_eq, l_sto_eq, w_len_eq, w_app_eq, fx_n_eq]
    all_goals first | done | rfl
  case dup => rfl
  case pop => rfl
  case dup2 => rfl
  case iadd =>
    show fx_iiadd xa j nx r1 r2 r3 pc lo st W b c = _
    unfold fx_iiadd
    try simp only [fx_v_eq, fx_cmp_eq, fx_add_eq, fx_sub_eq, fx_mul_eq, g_sum_eq, fx_aget_eq, fx_alen_eq, fx_aputi_eq, fx_aputl_eq, fx_cls_eq, fx_aputr_eq, fx_put_eq, fx_getf_eq, fx_cpy_eq, fx_call_eq, l_get_eq, l_sto_eq, w_len_eq, w_app_eq, fx_n_eq]
    all_goals first | done | rfl
  case isub =>
    show fx_iisub xa j nx r1 r2 r3 pc lo st W b c = _
    unfold fx_iisub
    try simp only [fx_v_eq, fx_cmp_eq, fx_add_eq, fx_sub_eq, fx_mul_eq, g_sum_eq, fx_aget_eq, fx_alen_eq, fx_aputi_eq, fx_aputl_eq, fx_cls_eq, fx_aputr_eq, fx_put_eq, fx_getf_eq, fx_cpy_eq, fx_call_eq, l_get_eq, l_sto_eq, w_len_eq, w_app_eq, fx_n_eq]
    all_goals first | done | rfl
  case imul =>
    show fx_iimul xa j nx r1 r2 r3 pc lo st W b c = _
    unfold fx_iimul
    try simp only [fx_v_eq, fx_cmp_eq, fx_add_eq, fx_sub_eq, fx_mul_eq, g_sum_eq, fx_aget_eq, fx_alen_eq, fx_aputi_eq, fx_aputl_eq, fx_cls_eq, fx_aputr_eq, fx_put_eq, fx_getf_eq, fx_cpy_eq, fx_call_eq, l_get_eq, l_sto_eq, w_len_eq, w_app_eq, fx_n_eq]
    all_goals first | done | rfl
  case iand =>
    show fx_iiand xa j nx r1 r2 r3 pc lo st W b c = _
    unfold fx_iiand
    try simp only [fx_v_eq, fx_cmp_eq, fx_add_eq, fx_sub_eq, fx_mul_eq, g_sum_eq, fx_aget_eq, fx_alen_eq, fx_aputi_eq, fx_aputl_eq, fx_cls_eq, fx_aputr_eq, fx_put_eq, fx_getf_eq, fx_cpy_eq, fx_call_eq, l_get_eq, l_sto_eq, w_len_eq, w_app_eq, fx_n_eq]
    all_goals first | done | rfl
  case ior =>
    show fx_iior xa j nx r1 r2 r3 pc lo st W b c = _
    unfold fx_iior
    try simp only [fx_v_eq, fx_cmp_eq, fx_add_eq, fx_sub_eq, fx_mul_eq, g_sum_eq, fx_aget_eq, fx_alen_eq, fx_aputi_eq, fx_aputl_eq, fx_cls_eq, fx_aputr_eq, fx_put_eq, fx_getf_eq, fx_cpy_eq, fx_call_eq, l_get_eq, l_sto_eq, w_len_eq, w_app_eq, fx_n_eq]
    all_goals first | done | rfl
  case ixor =>
    show fx_iixor xa j nx r1 r2 r3 pc lo st W b c = _
    unfold fx_iixor
    try simp only [fx_v_eq, fx_cmp_eq, fx_add_eq, fx_sub_eq, fx_mul_eq, g_sum_eq, fx_aget_eq, fx_alen_eq, fx_aputi_eq, fx_aputl_eq, fx_cls_eq, fx_aputr_eq, fx_put_eq, fx_getf_eq, fx_cpy_eq, fx_call_eq, l_get_eq, l_sto_eq, w_len_eq, w_app_eq, fx_n_eq]
    all_goals first | done | rfl
  case idiv =>
    show fx_iidiv xa j nx r1 r2 r3 pc lo st W b c = _
    unfold fx_iidiv
    try simp only [fx_v_eq, fx_cmp_eq, fx_add_eq, fx_sub_eq, fx_mul_eq, g_sum_eq, fx_aget_eq, fx_alen_eq, fx_aputi_eq, fx_aputl_eq, fx_cls_eq, fx_aputr_eq, fx_put_eq, fx_getf_eq, fx_cpy_eq, fx_call_eq, l_get_eq, l_sto_eq, w_len_eq, w_app_eq, fx_n_eq]
    all_goals first | done | rfl
  case irem =>
    show fx_iirem xa j nx r1 r2 r3 pc lo st W b c = _
    unfold fx_iirem
    try simp only [fx_v_eq, fx_cmp_eq, fx_add_eq, fx_sub_eq, fx_mul_eq, g_sum_eq, fx_aget_eq, fx_alen_eq, fx_aputi_eq, fx_aputl_eq, fx_cls_eq, fx_aputr_eq, fx_put_eq, fx_getf_eq, fx_cpy_eq, fx_call_eq, l_get_eq, l_sto_eq, w_len_eq, w_app_eq, fx_n_eq]
    all_goals first | done | rfl
  case ineg =>
    show fx_iineg xa j nx r1 r2 r3 pc lo st W b c = _
    unfold fx_iineg
    try simp only [fx_v_eq, fx_cmp_eq, fx_add_eq, fx_sub_eq, fx_mul_eq, g_sum_eq, fx_aget_eq, fx_alen_eq, fx_aputi_eq, fx_aputl_eq, fx_cls_eq, fx_aputr_eq, fx_put_eq, fx_getf_eq, fx_cpy_eq, fx_call_eq, l_get_eq, l_sto_eq, w_len_eq, w_app_eq, fx_n_eq]
    all_goals first | done | rfl
  case ishl =>
    show fx_iishl xa j nx r1 r2 r3 pc lo st W b c = _
    unfold fx_iishl
    try simp only [fx_v_eq, fx_cmp_eq, fx_add_eq, fx_sub_eq, fx_mul_eq, g_sum_eq, fx_aget_eq, fx_alen_eq, fx_aputi_eq, fx_aputl_eq, fx_cls_eq, fx_aputr_eq, fx_put_eq, fx_getf_eq, fx_cpy_eq, fx_call_eq, l_get_eq, l_sto_eq, w_len_eq, w_app_eq, fx_n_eq]
    all_goals first | done | rfl
  case ishr =>
    show fx_iishr xa j nx r1 r2 r3 pc lo st W b c = _
    unfold fx_iishr
    try simp only [fx_v_eq, fx_cmp_eq, fx_add_eq, fx_sub_eq, fx_mul_eq, g_sum_eq, fx_aget_eq, fx_alen_eq, fx_aputi_eq, fx_aputl_eq, fx_cls_eq, fx_aputr_eq, fx_put_eq, fx_getf_eq, fx_cpy_eq, fx_call_eq, l_get_eq, l_sto_eq, w_len_eq, w_app_eq, fx_n_eq]
    all_goals first | done | rfl
  case iushr => rfl
  case land => rfl
  case lor => rfl
  case lshl => rfl
  case lshr => rfl
  case lcmp =>
    show fx_ilcmp xa j nx r1 r2 r3 pc lo st W b c = _
    unfold fx_ilcmp
    try simp only [fx_v_eq, fx_cmp_eq, fx_add_eq, fx_sub_eq, fx_mul_eq, g_sum_eq, fx_aget_eq, fx_alen_eq, fx_aputi_eq, fx_aputl_eq, fx_cls_eq, fx_aputr_eq, fx_put_eq, fx_getf_eq, fx_cpy_eq, fx_call_eq, l_get_eq, l_sto_eq, w_len_eq, w_app_eq, fx_n_eq]
    all_goals first | done | rfl
  case i2l => rfl
  case l2i =>
    show fx_il2i xa j nx r1 r2 r3 pc lo st W b c = _
    unfold fx_il2i
    try simp only [fx_v_eq, fx_cmp_eq, fx_add_eq, fx_sub_eq, fx_mul_eq, g_sum_eq, fx_aget_eq, fx_alen_eq, fx_aputi_eq, fx_aputl_eq, fx_cls_eq, fx_aputr_eq, fx_put_eq, fx_getf_eq, fx_cpy_eq, fx_call_eq, l_get_eq, l_sto_eq, w_len_eq, w_app_eq, fx_n_eq]
    all_goals first | done | rfl
  case i2b =>
    show fx_ii2b xa j nx r1 r2 r3 pc lo st W b c = _
    unfold fx_ii2b
    try simp only [fx_v_eq, fx_cmp_eq, fx_add_eq, fx_sub_eq, fx_mul_eq, g_sum_eq, fx_aget_eq, fx_alen_eq, fx_aputi_eq, fx_aputl_eq, fx_cls_eq, fx_aputr_eq, fx_put_eq, fx_getf_eq, fx_cpy_eq, fx_call_eq, l_get_eq, l_sto_eq, w_len_eq, w_app_eq, fx_n_eq]
    all_goals first | done | rfl
  case i2c => rfl
  case ifCond a0 a1 =>
    show fx_iifCond a0 xa j nx r1 r2 r3 pc lo st W b c = _
    unfold fx_iifCond
    try simp only [fx_v_eq, fx_cmp_eq, fx_add_eq, fx_sub_eq, fx_mul_eq, g_sum_eq, fx_aget_eq, fx_alen_eq, fx_aputi_eq, fx_aputl_eq, fx_cls_eq, fx_aputr_eq, fx_put_eq, fx_getf_eq, fx_cpy_eq, fx_call_eq, l_get_eq, l_sto_eq, w_len_eq, w_app_eq, fx_n_eq]
    all_goals first | done | rfl
  case if_icmp a0 a1 =>
    show fx_iif_icmp a0 xa j nx r1 r2 r3 pc lo st W b c = _
    unfold fx_iif_icmp
    try simp only [fx_v_eq, fx_cmp_eq, fx_add_eq, fx_sub_eq, fx_mul_eq, g_sum_eq, fx_aget_eq, fx_alen_eq, fx_aputi_eq, fx_aputl_eq, fx_cls_eq, fx_aputr_eq, fx_put_eq, fx_getf_eq, fx_cpy_eq, fx_call_eq, l_get_eq, l_sto_eq, w_len_eq, w_app_eq, fx_n_eq]
    all_goals first | done | rfl
  case if_acmp a0 a1 => rfl
  case goto a0 => rfl
  case tableswitch a0 a1 a2 a3 => rfl
  case lookupswitch a0 a1 => rfl
  case iaload =>
    show fx_iiaload xa j nx r1 r2 r3 pc lo st W b c = _
    unfold fx_iiaload
    try simp only [fx_v_eq, fx_cmp_eq, fx_add_eq, fx_sub_eq, fx_mul_eq, g_sum_eq, fx_aget_eq, fx_alen_eq, fx_aputi_eq, fx_aputl_eq, fx_cls_eq, fx_aputr_eq, fx_put_eq, fx_getf_eq, fx_cpy_eq, fx_call_eq, l_get_eq, l_sto_eq, w_len_eq, w_app_eq, fx_n_eq]
    all_goals first | done | rfl
  case baload =>
    show fx_ibaload xa j nx r1 r2 r3 pc lo st W b c = _
    unfold fx_ibaload
    try simp only [fx_v_eq, fx_cmp_eq, fx_add_eq, fx_sub_eq, fx_mul_eq, g_sum_eq, fx_aget_eq, fx_alen_eq, fx_aputi_eq, fx_aputl_eq, fx_cls_eq, fx_aputr_eq, fx_put_eq, fx_getf_eq, fx_cpy_eq, fx_call_eq, l_get_eq, l_sto_eq, w_len_eq, w_app_eq, fx_n_eq]
    all_goals first | done | rfl
  case laload =>
    show fx_ilaload xa j nx r1 r2 r3 pc lo st W b c = _
    unfold fx_ilaload
    try simp only [fx_v_eq, fx_cmp_eq, fx_add_eq, fx_sub_eq, fx_mul_eq, g_sum_eq, fx_aget_eq, fx_alen_eq, fx_aputi_eq, fx_aputl_eq, fx_cls_eq, fx_aputr_eq, fx_put_eq, fx_getf_eq, fx_cpy_eq, fx_call_eq, l_get_eq, l_sto_eq, w_len_eq, w_app_eq, fx_n_eq]
    all_goals first | done | rfl
  case aaload =>
    show fx_iaaload xa j nx r1 r2 r3 pc lo st W b c = _
    unfold fx_iaaload
    try simp only [fx_v_eq, fx_cmp_eq, fx_add_eq, fx_sub_eq, fx_mul_eq, g_sum_eq, fx_aget_eq, fx_alen_eq, fx_aputi_eq, fx_aputl_eq, fx_cls_eq, fx_aputr_eq, fx_put_eq, fx_getf_eq, fx_cpy_eq, fx_call_eq, l_get_eq, l_sto_eq, w_len_eq, w_app_eq, fx_n_eq]
    all_goals first | done | rfl
  case iastore =>
    show fx_iiastore xa j nx r1 r2 r3 pc lo st W b c = _
    unfold fx_iiastore
    try simp only [fx_v_eq, fx_cmp_eq, fx_add_eq, fx_sub_eq, fx_mul_eq, g_sum_eq, fx_aget_eq, fx_alen_eq, fx_aputi_eq, fx_aputl_eq, fx_cls_eq, fx_aputr_eq, fx_put_eq, fx_getf_eq, fx_cpy_eq, fx_call_eq, l_get_eq, l_sto_eq, w_len_eq, w_app_eq, fx_n_eq]
    all_goals first | done | rfl
  case bastore =>
    show fx_ibastore xa j nx r1 r2 r3 pc lo st W b c = _
    unfold fx_ibastore
    try simp only [fx_v_eq, fx_cmp_eq, fx_add_eq, fx_sub_eq, fx_mul_eq, g_sum_eq, fx_aget_eq, fx_alen_eq, fx_aputi_eq, fx_aputl_eq, fx_cls_eq, fx_aputr_eq, fx_put_eq, fx_getf_eq, fx_cpy_eq, fx_call_eq, l_get_eq, l_sto_eq, w_len_eq, w_app_eq, fx_n_eq]
    all_goals first | done | rfl
  case lastore =>
    show fx_ilastore xa j nx r1 r2 r3 pc lo st W b c = _
    unfold fx_ilastore
    try simp only [fx_v_eq, fx_cmp_eq, fx_add_eq, fx_sub_eq, fx_mul_eq, g_sum_eq, fx_aget_eq, fx_alen_eq, fx_aputi_eq, fx_aputl_eq, fx_cls_eq, fx_aputr_eq, fx_put_eq, fx_getf_eq, fx_cpy_eq, fx_call_eq, l_get_eq, l_sto_eq, w_len_eq, w_app_eq, fx_n_eq]
    all_goals first | done | rfl
  case aastore =>
    show fx_iaastore xa j nx r1 r2 r3 pc lo st W b c = _
    unfold fx_iaastore
    try simp only [fx_v_eq, fx_cmp_eq, fx_add_eq, fx_sub_eq, fx_mul_eq, g_sum_eq, fx_aget_eq, fx_alen_eq, fx_aputi_eq, fx_aputl_eq, fx_cls_eq, fx_aputr_eq, fx_put_eq, fx_getf_eq, fx_cpy_eq, fx_call_eq, l_get_eq, l_sto_eq, w_len_eq, w_app_eq, fx_n_eq]
    all_goals first | done | rfl
  case arraylength =>
    show fx_iarraylength xa j nx r1 r2 r3 pc lo st W b c = _
    unfold fx_iarraylength
    try simp only [fx_v_eq, fx_cmp_eq, fx_add_eq, fx_sub_eq, fx_mul_eq, g_sum_eq, fx_aget_eq, fx_alen_eq, fx_aputi_eq, fx_aputl_eq, fx_cls_eq, fx_aputr_eq, fx_put_eq, fx_getf_eq, fx_cpy_eq, fx_call_eq, l_get_eq, l_sto_eq, w_len_eq, w_app_eq, fx_n_eq]
    all_goals first | done | rfl
  case getfield a0 =>
    show fx_igetfield xa j nx r1 r2 r3 pc lo st W b c = _
    unfold fx_igetfield
    try simp only [fx_v_eq, fx_cmp_eq, fx_add_eq, fx_sub_eq, fx_mul_eq, g_sum_eq, fx_aget_eq, fx_alen_eq, fx_aputi_eq, fx_aputl_eq, fx_cls_eq, fx_aputr_eq, fx_put_eq, fx_getf_eq, fx_cpy_eq, fx_call_eq, l_get_eq, l_sto_eq, w_len_eq, w_app_eq, fx_n_eq]
    all_goals first | done | rfl
  case putfield a0 =>
    show fx_iputfield xa j nx r1 r2 r3 pc lo st W b c = _
    unfold fx_iputfield
    try simp only [fx_v_eq, fx_cmp_eq, fx_add_eq, fx_sub_eq, fx_mul_eq, g_sum_eq, fx_aget_eq, fx_alen_eq, fx_aputi_eq, fx_aputl_eq, fx_cls_eq, fx_aputr_eq, fx_put_eq, fx_getf_eq, fx_cpy_eq, fx_call_eq, l_get_eq, l_sto_eq, w_len_eq, w_app_eq, fx_n_eq]
    all_goals first | done | rfl
  case getstatic a0 => rfl
  case new a0 =>
    show fx_inew xa j nx r1 r2 r3 pc lo st W b c = _
    unfold fx_inew
    try simp only [fx_v_eq, fx_cmp_eq, fx_add_eq, fx_sub_eq, fx_mul_eq, g_sum_eq, fx_aget_eq, fx_alen_eq, fx_aputi_eq, fx_aputl_eq, fx_cls_eq, fx_aputr_eq, fx_put_eq, fx_getf_eq, fx_cpy_eq, fx_call_eq, l_get_eq, l_sto_eq, w_len_eq, w_app_eq, fx_n_eq]
    all_goals first | done | rfl
  case newarray a0 =>
    show fx_inewarray xa j nx r1 r2 r3 pc lo st W b c = _
    unfold fx_inewarray
    try simp only [fx_v_eq, fx_cmp_eq, fx_add_eq, fx_sub_eq, fx_mul_eq, g_sum_eq, fx_aget_eq, fx_alen_eq, fx_aputi_eq, fx_aputl_eq, fx_cls_eq, fx_aputr_eq, fx_put_eq, fx_getf_eq, fx_cpy_eq, fx_call_eq, l_get_eq, l_sto_eq, w_len_eq, w_app_eq, fx_n_eq]
    all_goals first | done | rfl
  case anewarray a0 =>
    show fx_ianewarray xa j nx r1 r2 r3 pc lo st W b c = _
    unfold fx_ianewarray
    try simp only [fx_v_eq, fx_cmp_eq, fx_add_eq, fx_sub_eq, fx_mul_eq, g_sum_eq, fx_aget_eq, fx_alen_eq, fx_aputi_eq, fx_aputl_eq, fx_cls_eq, fx_aputr_eq, fx_put_eq, fx_getf_eq, fx_cpy_eq, fx_call_eq, l_get_eq, l_sto_eq, w_len_eq, w_app_eq, fx_n_eq]
    all_goals first | done | rfl
  case invokevirtual a0 =>
    show fx_iinvokevirtual xa j nx r1 r2 r3 pc lo st W b c = _
    unfold fx_iinvokevirtual
    try simp only [fx_v_eq, fx_cmp_eq, fx_add_eq, fx_sub_eq, fx_mul_eq, g_sum_eq, fx_aget_eq, fx_alen_eq, fx_aputi_eq, fx_aputl_eq, fx_cls_eq, fx_aputr_eq, fx_put_eq, fx_getf_eq, fx_cpy_eq, fx_call_eq, l_get_eq, l_sto_eq, w_len_eq, w_app_eq, fx_n_eq]
    all_goals first | done | rfl
  case invokestatic a0 =>
    show fx_iinvokestatic xa j nx r1 r2 r3 pc lo st W b c = _
    unfold fx_iinvokestatic
    try simp only [fx_v_eq, fx_cmp_eq, fx_add_eq, fx_sub_eq, fx_mul_eq, g_sum_eq, fx_aget_eq, fx_alen_eq, fx_aputi_eq, fx_aputl_eq, fx_cls_eq, fx_aputr_eq, fx_put_eq, fx_getf_eq, fx_cpy_eq, fx_call_eq, l_get_eq, l_sto_eq, w_len_eq, w_app_eq, fx_n_eq]
    all_goals first | done | rfl
  case invokespecial a0 =>
    show fx_iinvokespecial xa j nx r1 r2 r3 pc lo st W b c = _
    unfold fx_iinvokespecial
    try simp only [fx_v_eq, fx_cmp_eq, fx_add_eq, fx_sub_eq, fx_mul_eq, g_sum_eq, fx_aget_eq, fx_alen_eq, fx_aputi_eq, fx_aputl_eq, fx_cls_eq, fx_aputr_eq, fx_put_eq, fx_getf_eq, fx_cpy_eq, fx_call_eq, l_get_eq, l_sto_eq, w_len_eq, w_app_eq, fx_n_eq]
    all_goals first | done | rfl
  case ireturn =>
    show fx_iireturn xa j nx r1 r2 r3 pc lo st W b c = _
    unfold fx_iireturn
    rcases st with _ | ⟨v, st⟩
    · rfl
    · rcases st with _ | ⟨w, st⟩
      · cases v with
        | int v =>
          show (match fx_rt j with | some ty => (match ty with | FieldType.int => some (Sum.inr (Sum.inl (Sum.inl (some (Value.int v)), W, b, c)) : mm_T) | ty => if narrow ty (Value.int v) = Value.int v then some (Sum.inr (Sum.inl (Sum.inl (some (Value.int v)), W, b, c)) : mm_T) else none) | none => none) = (match (md_mt j).2.2.2.1 with | some ty => if narrow ty (Value.int v) = Value.int v then some (Sum.inr (Sum.inl (Sum.inl (some (Value.int v)), W, b, c)) : mm_T) else none | none => none)
          rw [fx_rt_eq]
          cases (md_mt j).2.2.2.1 with
          | none => rfl
          | some ty =>
            dsimp only
            split
            · exact (if_pos rfl).symm
            · rfl
        | _ => rfl
      · cases v <;> rfl
  case lreturn => rfl
  case areturn => rfl
  case return_ => rfl
  all_goals rfl
set_option maxHeartbeats 8000000 in
theorem fx_S_eq (R : Nat → Option (Int × Int)) (ins : Instr) (nx r1 pc : Nat) (lo : List (Nat × Value)) (st : List Value) (W : mm_W) (b c : Nat) : (fx_P ins).2.1 R nx r1 pc lo st W b c = ts_sp R ins nx r1 pc lo st W b c := by
  cases ins
  case iload a0 =>
    show fx_siload a0 R nx r1 pc lo st W b c = _
    unfold fx_siload
    try simp only [l_get_eq, l_sto_eq]
    all_goals first | done | rfl
  case iload_n a0 =>
    show fx_siload_n a0 R nx r1 pc lo st W b c = _
    unfold fx_siload_n
    try simp only [l_get_eq, l_sto_eq]
    all_goals first | done | rfl
  case lload a0 =>
    show fx_slload a0 R nx r1 pc lo st W b c = _
    unfold fx_slload
    try simp only [l_get_eq, l_sto_eq]
    all_goals first | done | rfl
  case lload_n a0 =>
    show fx_slload_n a0 R nx r1 pc lo st W b c = _
    unfold fx_slload_n
    try simp only [l_get_eq, l_sto_eq]
    all_goals first | done | rfl
  case i2l =>
    show fx_si2l R nx r1 pc lo st W b c = _
    unfold fx_si2l
    try simp only [l_get_eq, l_sto_eq]
    all_goals first | done | rfl
  case lcmp =>
    show fx_slcmp R nx r1 pc lo st W b c = _
    unfold fx_slcmp
    try simp only [l_get_eq, l_sto_eq]
    all_goals first | done | rfl
  case ifCond a0 a1 =>
    show fx_sifCond a0 R nx r1 pc lo st W b c = _
    unfold fx_sifCond
    try simp only [l_get_eq, l_sto_eq]
    all_goals first | done | rfl
  case if_icmp a0 a1 =>
    show fx_sif_icmp a0 R nx r1 pc lo st W b c = _
    unfold fx_sif_icmp
    try simp only [l_get_eq, l_sto_eq]
    all_goals first | done | rfl
  case tableswitch a0 a1 a2 a3 =>
    show fx_stableswitch a0 a1 a2 R nx r1 pc lo st W b c = _
    unfold fx_stableswitch
    try simp only [l_get_eq, l_sto_eq]
    all_goals first | done | rfl
  case iaload =>
    show fx_siaload R nx r1 pc lo st W b c = _
    unfold fx_siaload
    try simp only [l_get_eq, l_sto_eq]
    all_goals first | done | rfl
  all_goals rfl
theorem fx_L_eq (ins : Instr) : (fx_P ins).2.2 = ts_ld ins := by cases ins <;> rfl
noncomputable def fx_find (pc : Nat) (l : List mm_Ln) : Option mm_Ent := List.rec (motive := fun _ => Option mm_Ent) none (fun q _ ih => Bool.rec ih (some q.2.1) (Nat.beq q.1 pc)) l
theorem fx_find_eq (pc : Nat) : ∀ l : List mm_Ln, fx_find pc l = mm_find pc l
  | [] => rfl
  | q :: l => by
    show (Bool.rec (fx_find pc l) (some q.2.1) (Nat.beq q.1 pc) : Option mm_Ent) = if q.1 = pc then some q.2.1 else mm_find pc l
    cases h : Nat.beq q.1 pc with
    | true => rw [if_pos (Nat.eq_of_beq_eq_true h)]
    | false => rw [if_neg (Nat.ne_of_beq_eq_false h)]; exact fx_find_eq pc l
noncomputable def fx_L (j : Nat) : List (List mm_Ln) := (g_get ((g_get md_LL (j / 16)).getD []) (j % 16)).getD []
noncomputable def fx_cd (j pc : Nat) : Option mm_Ent := fx_find pc ((g_get (fx_L j) (pc / 16)).getD [])
theorem fx_cd_eq (j pc : Nat) : fx_cd j pc = md_cd j pc := by
  unfold fx_cd fx_L md_cd md_L
  rw [fx_find_eq, g_get_eq, g_get_eq, g_get_eq]
noncomputable def fx_one (R : Nat → Option (Int × Int)) (j : Nat) (e : mm_Ent) (pc : Nat) (lo : List (Nat × Value)) (st : List Value) (W : mm_W) (b c : Nat) : Option mm_T :=
  match (fx_P e.1).2.1 R e.2.1 e.2.2.1 pc lo st W b c with
  | some T => some T
  | none =>
    match (fx_P e.1).1 md_xz j e.2.1 e.2.2.1 e.2.2.2.1 e.2.2.2.2 pc lo st W b c with
    | some T => Bool.rec (motive := fun _ => Option mm_T) (some T) (Bool.rec (motive := fun _ => Option mm_T) none (some T) (ts_top T)) (fx_P e.1).2.2
    | none => none
noncomputable def fx_at (R : Nat → Option (Int × Int)) (F : mm_F) (j pc : Nat) : Option mm_T :=
  match fx_cd j pc with
  | none => none
  | some e => fx_one R j e pc F.2.1 F.2.2.1 F.2.2.2.1 F.2.2.2.2.1 F.2.2.2.2.2
noncomputable def fx_step (R : Nat → Option (Int × Int)) (j : Nat) (F : mm_F) : Option mm_T := fx_n F.1 (fx_at R F j)
theorem fx_step_eq (R : Nat → Option (Int × Int)) (j : Nat) (F : mm_F) : fx_step R j F = ts_step R j F := by
  unfold fx_step ts_step
  rw [fx_n_eq]
  unfold fx_at
  rw [fx_cd_eq]
  cases md_cd j F.1 with
  | none => rfl
  | some e =>
    show fx_one R j e F.1 F.2.1 F.2.2.1 F.2.2.2.1 F.2.2.2.2.1 F.2.2.2.2.2 = _
    unfold fx_one
    rw [fx_S_eq, fx_I_eq, fx_L_eq]
    dsimp only
    cases ts_sp R e.1 e.2.1 e.2.2.1 F.1 F.2.1 F.2.2.1 F.2.2.2.1 F.2.2.2.2.1 F.2.2.2.2.2 with
    | some T => rfl
    | none =>
      dsimp only
      cases mm_stepI md_xz j e.1 e.2.1 e.2.2.1 e.2.2.2.1 e.2.2.2.2 F.1 F.2.1 F.2.2.1 F.2.2.2.1 F.2.2.2.2.1 F.2.2.2.2.2 with
      | none => rfl
      | some T =>
        dsimp only
        cases ts_ld e.1 <;> cases ts_top T <;> rfl
noncomputable def fx_call2 (R : Nat → Option (Int × Int)) (ex : Nat → Nat → mm_F → Option mm_O) (d j : Nat) (j' : Nat) (as : List Value) (nx : Nat) (fl : Bool) (G : mm_F) : Option mm_O :=
  match d with
  | 0 => none
  | d' + 1 =>
    match fx_n j' (fun j2 => if (fx_mt j2).2.2.1 < g_sum as then none else ex d' j2 (0, lv_args 0 as, [], G.2.2.2.1, G.2.2.2.2.1, G.2.2.2.2.2)) with
    | none => none
    | some (.inl v, W2, b2, c2) => if v.all ts_ok then ex (d' + 1) j (nx, G.2.1, v.toList ++ G.2.2.1, W2, b2, c2) else none
    | some (.inr E, W2, b2, c2) =>
      if fl = false then none else
      if (md_mt j).2.2.2.2 = [] then some (.inr E, W2, b2, c2) else
      match md_hd j G.1 E with
      | none => none
      | some h => ex (d' + 1) j (h, G.2.1, [.retAddr 0], W2, b2, c2)
noncomputable def fx_nxt (R : Nat → Option (Int × Int)) (ex : Nat → Nat → mm_F → Option mm_O) (d j : Nat) (r : Option mm_T) : Option mm_O :=
  match r with
  | none => none
  | some (.inl F') => ex d j F'
  | some (.inr (.inl o)) => some o
  | some (.inr (.inr (j', as, nx, fl, G))) => fx_call2 R ex d j j' as nx fl G
noncomputable def fx_ex (R : Nat → Option (Int × Int)) (f : Nat) : Nat → Nat → mm_F → Option mm_O := Nat.rec (motive := fun _ => Nat → Nat → mm_F → Option mm_O) (fun _ _ _ => none) (fun _ ih d j F => fx_nxt R ih d j (fx_step R j F)) f
theorem fx_ex_eq (R : Nat → Option (Int × Int)) : ∀ (f d j : Nat) (F : mm_F), fx_ex R f d j F = ts_ex R f d j F
  | 0, _, _, _ => rfl
  | f + 1, d, j, F => by
    show fx_nxt R (fx_ex R f) d j (fx_step R j F) = _
    unfold ts_ex
    rw [fx_step_eq]
    cases ts_step R j F with
    | none => rfl
    | some T =>
      rcases T with F' | o' | ⟨j', as, nx, fl, G⟩
      · exact fx_ex_eq R f d j F'
      · rfl
      · show fx_call2 R (fx_ex R f) d j j' as nx fl G = _
        unfold fx_call2
        cases d with
        | zero => rfl
        | succ d0 =>
          dsimp only
          rw [fx_n_eq, fx_ex_eq R f d0 j', fx_mt_eq, g_sum_eq]
          by_cases hl : (md_mt j').2.2.1 < (as.map fun v => v.category).sum
          · rw [if_pos hl, if_pos hl]
          · rw [if_neg hl, if_neg hl]
            cases ts_ex R f d0 j' (0, lv_args 0 as, [], G.2.2.2.1, G.2.2.2.2.1, G.2.2.2.2.2) with
            | none => rfl
            | some r =>
              obtain ⟨v | E, W2, b2, c2⟩ := r
              · dsimp only
                rw [fx_ex_eq R f (d0 + 1) j]
              · dsimp only
                cases md_hd j G.1 E with
                | none => rfl
                | some h => dsimp only; rw [fx_ex_eq R f (d0 + 1) j]
noncomputable def fx_go (R : Nat → Option (Int × Int)) (f d j : Nat) : Nat → mm_F → Option mm_F
  | 0, F => some F
  | n + 1, F =>
    match fx_step R j F with
    | some (.inl F') => fx_go R f d j n F'
    | some (.inr (.inr (j', as, nx, _, G))) =>
      match fx_n j' (fun j2 => if (fx_mt j2).2.2.1 < g_sum as then none else fx_ex R f d j2 (0, lv_args 0 as, [], G.2.2.2.1, G.2.2.2.2.1, G.2.2.2.2.2)) with
      | some (.inl v, W2, b2, c2) => if v.all ts_ok then fx_go R f d j n (nx, G.2.1, v.toList ++ G.2.2.1, W2, b2, c2) else none
      | _ => none
    | _ => none
theorem fx_go_eq (R : Nat → Option (Int × Int)) (f d j : Nat) : ∀ (n : Nat) (F : mm_F), fx_go R f d j n F = ts_go R f d j n F
  | 0, _ => rfl
  | n + 1, F => by
    unfold fx_go ts_go
    rw [fx_step_eq]
    cases ts_step R j F with
    | none => rfl
    | some T =>
      rcases T with F' | o' | ⟨j', as, nx, fl, G⟩
      · exact fx_go_eq R f d j n F'
      · rfl
      · dsimp only
        rw [fx_n_eq, fx_ex_eq, fx_mt_eq, g_sum_eq]
        by_cases hl : (md_mt j').2.2.1 < (as.map fun v => v.category).sum
        · rw [if_pos hl, if_pos hl]
        · rw [if_neg hl, if_neg hl]
          cases ts_ex R f d j' (0, lv_args 0 as, [], G.2.2.2.1, G.2.2.2.2.1, G.2.2.2.2.2) with
          | none => rfl
          | some r =>
            obtain ⟨v | E, W2, b2, c2⟩ := r
            · dsimp only
              rw [fx_go_eq R f d j n]
            · rfl
