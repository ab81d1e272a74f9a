/-! ===== script values that are carried unread: .float u stands for the script's u-th int, .double u for the same as a long; R has what is known of their range ===== -/
def ts_v (xs : Nat → Int32) : Value → Value
  | .float u => .int (xs u.toNat)
  | .double u => .long (xs u.toNat).toInt64
  | .int x => .int x
  | .long x => .long x
  | .null => .null
  | .ref k => .ref k
  | .retAddr k => .retAddr k
def ts_l (xs : Nat → Int32) (lo : List (Nat × Value)) : List (Nat × Value) := lo.map (fun q => (q.1, ts_v xs q.2))
def ts_s (xs : Nat → Int32) (st : List Value) : List Value := st.map (ts_v xs)
def ts_F (xs : Nat → Int32) (F : mm_F) : mm_F := (F.1, ts_l xs F.2.1, ts_s xs F.2.2.1, F.2.2.2)
def ts_T (xs : Nat → Int32) : mm_T → mm_T
  | .inl F => .inl (ts_F xs F)
  | .inr (.inl o) => .inr (.inl o)
  | .inr (.inr (j, as, nx, fl, G)) => .inr (.inr (j, ts_s xs as, nx, fl, ts_F xs G))
def ts_ok : Value → Bool
  | .float _ => false
  | .double _ => false
  | _ => true
theorem ts_okv {xs : Nat → Int32} : ∀ {v : Value}, ts_ok v = true → ts_v xs v = v
  | .int _, _ => rfl
  | .long _, _ => rfl
  | .null, _ => rfl
  | .ref _, _ => rfl
  | .retAddr _, _ => rfl
  | .float _, h => by cases h
  | .double _, h => by cases h
theorem ts_cat (xs : Nat → Int32) (v : Value) : (ts_v xs v).category = v.category := by cases v <;> rfl
theorem ts_sum (xs : Nat → Int32) : ∀ st : List Value, ((ts_s xs st).map fun v => v.category).sum = (st.map fun v => v.category).sum
  | [] => rfl
  | v :: st => by
    show ((ts_v xs v).category :: (ts_s xs st).map fun v => v.category).sum = (v.category :: st.map fun v => v.category).sum
    rw [List.sum_cons, List.sum_cons, ts_sum xs st, ts_cat]
theorem ts_get (xs : Nat → Int32) (i : Nat) : ∀ lo : List (Nat × Value), mm_get (ts_l xs lo) i = (mm_get lo i).map (ts_v xs)
  | [] => rfl
  | q :: lo => by
    show (if q.1 = i then some (ts_v xs q.2) else mm_get (ts_l xs lo) i) = (if q.1 = i then some q.2 else mm_get lo i).map (ts_v xs)
    by_cases h : q.1 = i
    · rw [if_pos h, if_pos h]; rfl
    · rw [if_neg h, if_neg h, ts_get xs i lo]
theorem ts_fil (xs : Nat → Int32) (p : Nat → Nat → Bool) : ∀ lo : List (Nat × Value), (ts_l xs lo).filter (fun q => p q.1 q.2.category) = ts_l xs (lo.filter (fun q => p q.1 q.2.category))
  | [] => rfl
  | q :: lo => by
    show ((q.1, ts_v xs q.2) :: ts_l xs lo).filter (fun q => p q.1 q.2.category) = _
    rw [List.filter_cons, List.filter_cons, ts_fil xs p lo]
    dsimp only
    rw [ts_cat]
    by_cases h : p q.1 q.2.category = true
    · rw [if_pos h, if_pos h]; rfl
    · rw [if_neg h, if_neg h]
theorem ts_sto (xs : Nat → Int32) (lo : List (Nat × Value)) (i : Nat) (v : Value) : mm_sto (ts_l xs lo) i (ts_v xs v) = ts_l xs (mm_sto lo i v) := by
  unfold mm_sto
  rw [ts_fil xs (fun a c => !(a == i) && !(a + 1 == i && c == 2))]
  rfl
theorem ts_stl (xs : Nat → Int32) (lo : List (Nat × Value)) (i : Nat) (v : Value) : mm_stl (ts_l xs lo) i (ts_v xs v) = ts_l xs (mm_stl lo i v) := by
  unfold mm_stl
  rw [ts_fil xs (fun a c => !(a == i) && (!(a == i + 1) && !(a + 1 == i && c == 2)))]
  rfl
theorem ts_args (xs : Nat → Int32) : ∀ (as : List Value) (i : Nat), lv_args i (ts_s xs as) = ts_l xs (lv_args i as)
  | [], _ => rfl
  | v :: as, i => by
    show (i, ts_v xs v) :: lv_args (if (ts_v xs v).category = 2 then i + 2 else i + 1) (ts_s xs as) = (i, ts_v xs v) :: ts_l xs (lv_args (if v.category = 2 then i + 2 else i + 1) as)
    rw [ts_cat, ts_args xs as]
theorem ts_ap (xs : Nat → Int32) (r : Option Value) (hr : ∀ v, r = some v → ts_ok v = true) (st : List Value) : ts_s xs (r.toList ++ st) = r.toList ++ ts_s xs st := by
  cases r with
  | none => rfl
  | some v =>
    show ts_v xs v :: ts_s xs st = v :: ts_s xs st
    rw [ts_okv (hr v rfl)]
theorem ts_call {xs : Nat → Int32} {r1 r2 r3 pc nx : Nat} {lo : List (Nat × Value)} {st : List Value} {W : mm_W} {b c : Nat} {T : mm_T} (h : mm_call r1 r2 r3 pc nx lo st W b c = some T) : mm_call r1 r2 r3 pc nx (ts_l xs lo) (ts_s xs st) W b c = some (ts_T xs T) := by
  unfold mm_call at h ⊢
  rw [show (ts_s xs st).length = st.length from List.length_map _]
  by_cases hl : st.length < r2 % 16
  · rw [if_pos hl] at h; cases h
  rw [if_neg hl] at h ⊢
  dsimp only at h ⊢
  have e1 : ((ts_s xs st).take (r2 % 16)).reverse = ts_s xs ((st.take (r2 % 16)).reverse) := by
    unfold ts_s
    rw [← List.map_take, ← List.map_reverse]
  have e2 : (ts_s xs st).drop (r2 % 16) = ts_s xs (st.drop (r2 % 16)) := by
    unfold ts_s
    rw [← List.map_drop]
  rw [e1, e2]
  generalize (st.take (r2 % 16)).reverse = As at h ⊢
  generalize st.drop (r2 % 16) = rest at h ⊢
  generalize r2 / 16 = q at h ⊢
  have hs := ts_sum xs
  match q, h with
  | 0, h =>
    try dsimp only at h ⊢
    match rest, h with
    | .ref k :: rest, h =>
      have h2 : (if mm_cls W k = some r3 ∧ (rest.map fun v => v.category).sum ≤ 8 then some (Sum.inr (Sum.inr (r1, Value.ref k :: As, nx, true, (pc, lo, rest, W, b, c))) : mm_T) else none) = some T := h
      show (if mm_cls W k = some r3 ∧ ((ts_s xs rest).map fun v => v.category).sum ≤ 8 then some (Sum.inr (Sum.inr (r1, Value.ref k :: ts_s xs As, nx, true, (pc, ts_l xs lo, ts_s xs rest, W, b, c))) : mm_T) else none) = some (ts_T xs T)
      rw [hs]
      by_cases hc : mm_cls W k = some r3 ∧ (rest.map fun v => v.category).sum ≤ 8
      · rw [if_pos hc] at h2 ⊢
        cases Option.some.inj h2
        rfl
      · rw [if_neg hc] at h2; cases h2
  | 2, h =>
    try dsimp only at h ⊢
    match rest, h with
    | .ref k :: rest, h =>
      have h2 : (if mm_cls W k = some r3 ∧ (rest.map fun v => v.category).sum ≤ 8 then some (Sum.inr (Sum.inr (r1, Value.ref k :: As, nx, false, (pc, lo, rest, W, b, c))) : mm_T) else none) = some T := h
      show (if mm_cls W k = some r3 ∧ ((ts_s xs rest).map fun v => v.category).sum ≤ 8 then some (Sum.inr (Sum.inr (r1, Value.ref k :: ts_s xs As, nx, false, (pc, ts_l xs lo, ts_s xs rest, W, b, c))) : mm_T) else none) = some (ts_T xs T)
      rw [hs]
      by_cases hc : mm_cls W k = some r3 ∧ (rest.map fun v => v.category).sum ≤ 8
      · rw [if_pos hc] at h2 ⊢
        cases Option.some.inj h2
        rfl
      · rw [if_neg hc] at h2; cases h2
  | 1, h =>
    try dsimp only at h ⊢
    rw [hs]
    by_cases hc : (rest.map fun v => v.category).sum ≤ 8
    · rw [if_pos hc] at h ⊢
      cases Option.some.inj h
      rfl
    · rw [if_neg hc] at h; cases h
  | 5, h =>
    try dsimp only at h ⊢
    match st, h with
    | .ref k :: st, h =>
      have h2 : (if (st.map fun v => v.category).sum ≤ 8 then some (Sum.inl (nx, lo, st, W, b, c) : mm_T) else none) = some T := h
      show (if ((ts_s xs st).map fun v => v.category).sum ≤ 8 then some (Sum.inl (nx, ts_l xs lo, ts_s xs st, W, b, c) : mm_T) else none) = some (ts_T xs T)
      rw [hs]
      by_cases hc : (st.map fun v => v.category).sum ≤ 8
      · rw [if_pos hc] at h2 ⊢
        cases Option.some.inj h2
        rfl
      · rw [if_neg hc] at h2; cases h2
  | 6, h =>
    try dsimp only at h ⊢
    match st, h with
    | .int n :: .int dp :: .ref d :: .int sp :: .ref s :: st, h =>
      have h2 : (if (st.map fun v => v.category).sum ≤ 8 then (mm_cpy W s sp d dp n).map (fun W2 => (Sum.inl (nx, lo, st, W2, b, c) : mm_T)) else none) = some T := h
      show (if ((ts_s xs st).map fun v => v.category).sum ≤ 8 then (mm_cpy W s sp d dp n).map (fun W2 => (Sum.inl (nx, ts_l xs lo, ts_s xs st, W2, b, c) : mm_T)) else none) = some (ts_T xs T)
      rw [hs]
      by_cases hc : (st.map fun v => v.category).sum ≤ 8
      · rw [if_pos hc] at h2 ⊢
        obtain ⟨W2, hW, h3⟩ := Option.map_eq_some_iff.mp h2
        rw [hW]
        cases h3
        rfl
      · rw [if_neg hc] at h2; cases h2
def ts_ld : Instr → Bool
  | .getfield _ => true
  | .getstatic _ => true
  | .iaload => true
  | .baload => true
  | .laload => true
  | .aaload => true
  | _ => false
def ts_top : mm_T → Bool
  | .inl (_, _, v :: _, _) => ts_ok v
  | _ => true
theorem ts_putok {W W2 : mm_W} {k ci f t : Nat} {v : Value} (h : mm_put W k ci f t v = some W2) : ts_ok v = true := by
  unfold mm_put at h
  split at h
  · split at h
    · rename_i hc
      obtain ⟨-, -, hn⟩ := hc
      unfold mm_nf at hn
      split at hn <;> first | rfl | cases hn
    · cases h
  · cases h
set_option maxHeartbeats 8000000 in
theorem ts_stepI {xs : Nat → Int32} {j : Nat} {ins : Instr} {nx r1 r2 r3 pc : Nat} {lo : List (Nat × Value)} {st : List Value} {W : mm_W} {b c : Nat} {T : mm_T} (h : mm_stepI md_xz j ins nx r1 r2 r3 pc lo st W b c = some T) (htop : ts_ld ins = true → ts_top T = true) : mm_stepI md_xz j ins nx r1 r2 r3 pc (ts_l xs lo) (ts_s xs st) W b c = some (ts_T xs T) := by
  cases ins
  case iconst n => obtain rfl := Option.some.inj h; rfl
  case bipush n => obtain rfl := Option.some.inj h; rfl
  case sipush n => obtain rfl := Option.some.inj h; rfl
  case lconst n => obtain rfl := Option.some.inj h; rfl
  case aconst_null => obtain rfl := Option.some.inj h; rfl
  case ldc_w n => obtain rfl := Option.some.inj h; rfl
  case ldc2_w n => obtain rfl := Option.some.inj h; rfl
  case goto n => obtain rfl := Option.some.inj h; rfl
  case ldc n =>
    simp only [mm_stepI] at h ⊢
    by_cases h0 : r1 = 0
    · rw [if_pos h0] at h ⊢; obtain rfl := Option.some.inj h; rfl
    · rw [if_neg h0] at h ⊢; obtain rfl := Option.some.inj h; rfl
  case iload i =>
    simp only [mm_stepI] at h ⊢
    rw [ts_get]
    split at h
    · next x hg => rw [hg]; obtain rfl := Option.some.inj h; rfl
    · cases h
  case iload_n i =>
    simp only [mm_stepI] at h ⊢
    rw [ts_get]
    split at h
    · next x hg => rw [hg]; obtain rfl := Option.some.inj h; rfl
    · cases h
  case lload i =>
    simp only [mm_stepI] at h ⊢
    rw [ts_get]
    split at h
    · next x hg => rw [hg]; obtain rfl := Option.some.inj h; rfl
    · cases h
  case lload_n i =>
    simp only [mm_stepI] at h ⊢
    rw [ts_get]
    split at h
    · next x hg => rw [hg]; obtain rfl := Option.some.inj h; rfl
    · cases h
  case aload i =>
    simp only [mm_stepI] at h ⊢
    rw [ts_get]
    split at h
    · next x hg => rw [hg]; obtain rfl := Option.some.inj h; rfl
    · cases h
  case aload_n i =>
    simp only [mm_stepI] at h ⊢
    rw [ts_get]
    split at h
    · next x hg => rw [hg]; obtain rfl := Option.some.inj h; rfl
    · cases h
  case iinc i n =>
    simp only [mm_stepI] at h ⊢
    rw [ts_get]
    split at h
    · next x hg =>
      rw [hg]
      obtain rfl := Option.some.inj h
      exact congrArg (fun z => (some (Sum.inl (nx, z, ts_s xs st, W, b, c)) : Option mm_T)) (ts_sto xs lo i (.int (x + Int32.ofInt n)))
    · cases h
  case istore i =>
    match st, h with
    | .int x :: st, h =>
      obtain rfl := Option.some.inj h
      exact congrArg (fun z => (some (Sum.inl (nx, z, ts_s xs st, W, b, c)) : Option mm_T)) (ts_sto xs lo _ (.int x))
  case istore_n i =>
    match st, h with
    | .int x :: st, h =>
      obtain rfl := Option.some.inj h
      exact congrArg (fun z => (some (Sum.inl (nx, z, ts_s xs st, W, b, c)) : Option mm_T)) (ts_sto xs lo _ (.int x))
  case lstore i =>
    match st, h with
    | .long x :: st, h =>
      obtain rfl := Option.some.inj h
      exact congrArg (fun z => (some (Sum.inl (nx, z, ts_s xs st, W, b, c)) : Option mm_T)) (ts_stl xs lo _ (.long x))
  case lstore_n i =>
    match st, h with
    | .long x :: st, h =>
      obtain rfl := Option.some.inj h
      exact congrArg (fun z => (some (Sum.inl (nx, z, ts_s xs st, W, b, c)) : Option mm_T)) (ts_stl xs lo _ (.long x))
  case astore i =>
    match st, h with
    | .ref x :: st, h =>
      obtain rfl := Option.some.inj h
      exact congrArg (fun z => (some (Sum.inl (nx, z, ts_s xs st, W, b, c)) : Option mm_T)) (ts_sto xs lo _ (.ref x))
    | .retAddr x :: st, h =>
      obtain rfl := Option.some.inj h
      exact congrArg (fun z => (some (Sum.inl (nx, z, ts_s xs st, W, b, c)) : Option mm_T)) (ts_sto xs lo _ (.retAddr x))
  case astore_n i =>
    match st, h with
    | .ref x :: st, h =>
      obtain rfl := Option.some.inj h
      exact congrArg (fun z => (some (Sum.inl (nx, z, ts_s xs st, W, b, c)) : Option mm_T)) (ts_sto xs lo _ (.ref x))
    | .retAddr x :: st, h =>
      obtain rfl := Option.some.inj h
      exact congrArg (fun z => (some (Sum.inl (nx, z, ts_s xs st, W, b, c)) : Option mm_T)) (ts_sto xs lo _ (.retAddr x))
  case dup =>
    match st, h with
    | v :: st, h =>
      have h2 : (if v.category = 1 then some (Sum.inl (nx, lo, v :: v :: st, W, b, c) : mm_T) else none) = some T := h
      show (if (ts_v xs v).category = 1 then some (Sum.inl (nx, ts_l xs lo, ts_v xs v :: ts_v xs v :: ts_s xs st, W, b, c) : mm_T) else none) = some (ts_T xs T)
      rw [ts_cat]
      by_cases hc : v.category = 1
      · rw [if_pos hc] at h2 ⊢; cases Option.some.inj h2; rfl
      · rw [if_neg hc] at h2; cases h2
  case pop =>
    match st, h with
    | v :: st, h =>
      have h2 : (if v.category = 1 then some (Sum.inl (nx, lo, st, W, b, c) : mm_T) else none) = some T := h
      show (if (ts_v xs v).category = 1 then some (Sum.inl (nx, ts_l xs lo, ts_s xs st, W, b, c) : mm_T) else none) = some (ts_T xs T)
      rw [ts_cat]
      by_cases hc : v.category = 1
      · rw [if_pos hc] at h2 ⊢; cases Option.some.inj h2; rfl
      · rw [if_neg hc] at h2; cases h2
  case dup2 =>
    match st, h with
    | v :: w :: st, h =>
      have h2 : (if v.category = 1 ∧ w.category = 1 then some (Sum.inl (nx, lo, v :: w :: v :: w :: st, W, b, c) : mm_T) else none) = some T := h
      show (if (ts_v xs v).category = 1 ∧ (ts_v xs w).category = 1 then some (Sum.inl (nx, ts_l xs lo, ts_v xs v :: ts_v xs w :: ts_v xs v :: ts_v xs w :: ts_s xs st, W, b, c) : mm_T) else none) = some (ts_T xs T)
      rw [ts_cat, ts_cat]
      by_cases hc : v.category = 1 ∧ w.category = 1
      · rw [if_pos hc] at h2 ⊢; cases Option.some.inj h2; rfl
      · rw [if_neg hc] at h2; cases h2
  case iadd =>
    match st, h with
    | .int y :: .int x :: st, h =>
      obtain rfl := Option.some.inj h; rfl
  case isub =>
    match st, h with
    | .int y :: .int x :: st, h =>
      obtain rfl := Option.some.inj h; rfl
  case imul =>
    match st, h with
    | .int y :: .int x :: st, h =>
      obtain rfl := Option.some.inj h; rfl
  case iand =>
    match st, h with
    | .int y :: .int x :: st, h =>
      obtain rfl := Option.some.inj h; rfl
  case ior =>
    match st, h with
    | .int y :: .int x :: st, h =>
      obtain rfl := Option.some.inj h; rfl
  case ixor =>
    match st, h with
    | .int y :: .int x :: st, h =>
      obtain rfl := Option.some.inj h; rfl
  case ishl =>
    match st, h with
    | .int y :: .int x :: st, h =>
      obtain rfl := Option.some.inj h; rfl
  case ishr =>
    match st, h with
    | .int y :: .int x :: st, h =>
      obtain rfl := Option.some.inj h; rfl
  case iushr =>
    match st, h with
    | .int y :: .int x :: st, h =>
      obtain rfl := Option.some.inj h; rfl
  case land =>
    match st, h with
    | .long y :: .long x :: st, h =>
      obtain rfl := Option.some.inj h; rfl
  case lor =>
    match st, h with
    | .long y :: .long x :: st, h =>
      obtain rfl := Option.some.inj h; rfl
  case lcmp =>
    match st, h with
    | .long y :: .long x :: st, h =>
      obtain rfl := Option.some.inj h; rfl
  case lshl =>
    match st, h with
    | .int y :: .long x :: st, h =>
      obtain rfl := Option.some.inj h; rfl
  case lshr =>
    match st, h with
    | .int y :: .long x :: st, h =>
      obtain rfl := Option.some.inj h; rfl
  case ineg =>
    match st, h with
    | .int x :: st, h =>
      obtain rfl := Option.some.inj h; rfl
  case i2l =>
    match st, h with
    | .int x :: st, h =>
      obtain rfl := Option.some.inj h; rfl
  case i2b =>
    match st, h with
    | .int x :: st, h =>
      obtain rfl := Option.some.inj h; rfl
  case i2c =>
    match st, h with
    | .int x :: st, h =>
      obtain rfl := Option.some.inj h; rfl
  case l2i =>
    match st, h with
    | .long x :: st, h =>
      obtain rfl := Option.some.inj h; rfl
  case idiv =>
    match st, h with
    | .int y :: .int x :: st, h =>
      have h2 : (if y = 0 then none else some (Sum.inl (nx, lo, .int (x / y) :: st, W, b, c) : mm_T)) = some T := h
      show (if y = 0 then none else some (Sum.inl (nx, ts_l xs lo, .int (x / y) :: ts_s xs st, W, b, c) : mm_T)) = some (ts_T xs T)
      by_cases hc : y = 0
      · rw [if_pos hc] at h2; cases h2
      · rw [if_neg hc] at h2 ⊢; cases Option.some.inj h2; rfl
  case irem =>
    match st, h with
    | .int y :: .int x :: st, h =>
      have h2 : (if y = 0 then none else some (Sum.inl (nx, lo, .int (x - x / y * y) :: st, W, b, c) : mm_T)) = some T := h
      show (if y = 0 then none else some (Sum.inl (nx, ts_l xs lo, .int (x - x / y * y) :: ts_s xs st, W, b, c) : mm_T)) = some (ts_T xs T)
      by_cases hc : y = 0
      · rw [if_pos hc] at h2; cases h2
      · rw [if_neg hc] at h2 ⊢; cases Option.some.inj h2; rfl
  case ifCond k n =>
    match st, h with
    | .int x :: st, h =>
      obtain rfl := Option.some.inj h; rfl
  case if_icmp k n =>
    match st, h with
    | .int y :: .int x :: st, h =>
      obtain rfl := Option.some.inj h; rfl
  case if_acmp k n =>
    match st, h with
    | .ref y :: .ref x :: st, h =>
      have h2 : (if mm_XB < x ∧ mm_XB < y ∧ x ≤ mm_XB + md_ne ∧ y ≤ mm_XB + md_ne then some (Sum.inl (if decide (x = y) == decide (k = .eq) then r1 else nx, lo, st, W, b, c) : mm_T) else none) = some T := h
      show (if mm_XB < x ∧ mm_XB < y ∧ x ≤ mm_XB + md_ne ∧ y ≤ mm_XB + md_ne then some (Sum.inl (if decide (x = y) == decide (k = .eq) then r1 else nx, ts_l xs lo, ts_s xs st, W, b, c) : mm_T) else none) = some (ts_T xs T)
      by_cases hc : mm_XB < x ∧ mm_XB < y ∧ x ≤ mm_XB + md_ne ∧ y ≤ mm_XB + md_ne
      · rw [if_pos hc] at h2 ⊢; cases Option.some.inj h2; rfl
      · rw [if_neg hc] at h2; cases h2
  case tableswitch df l hh offs =>
    match st, h with
    | .int x :: st, h =>
      have h2 : (match mm_tsw pc df l hh offs x with | some t => some (Sum.inl (t, lo, st, W, b, c) : mm_T) | none => none) = some T := h
      show (match mm_tsw pc df l hh offs x with | some t => some (Sum.inl (t, ts_l xs lo, ts_s xs st, W, b, c) : mm_T) | none => none) = some (ts_T xs T)
      cases ht : mm_tsw pc df l hh offs x with
      | none => rw [ht] at h2; cases h2
      | some t => rw [ht] at h2; cases Option.some.inj h2; rfl
  case lookupswitch df ps =>
    match st, h with
    | .int x :: st, h =>
      have h2 : (match mm_at pc (Op.lookupswitch.offset ps.toList df x.toInt) with | some t => some (Sum.inl (t, lo, st, W, b, c) : mm_T) | none => none) = some T := h
      show (match mm_at pc (Op.lookupswitch.offset ps.toList df x.toInt) with | some t => some (Sum.inl (t, ts_l xs lo, ts_s xs st, W, b, c) : mm_T) | none => none) = some (ts_T xs T)
      cases ht : mm_at pc (Op.lookupswitch.offset ps.toList df x.toInt) with
      | none => rw [ht] at h2; cases h2
      | some t => rw [ht] at h2; cases Option.some.inj h2; rfl
  case iaload =>
    match st, h with
    | .int i :: .ref k :: st, h =>
      have h2 : (match mm_aget md_xz W k i with | some (t, v) => if t = 0 then some (Sum.inl (nx, lo, v :: st, W, b, c) : mm_T) else none | none => none) = some T := h
      show (match mm_aget md_xz W k i with | some (t, v) => if t = 0 then some (Sum.inl (nx, ts_l xs lo, v :: ts_s xs st, W, b, c) : mm_T) else none | none => none) = some (ts_T xs T)
      cases hg : mm_aget md_xz W k i with
      | none => rw [hg] at h2; cases h2
      | some q =>
        obtain ⟨t, v⟩ := q
        rw [hg] at h2
        dsimp only at h2 ⊢
        by_cases hc : t = 0
        · rw [if_pos hc] at h2 ⊢
          cases Option.some.inj h2
          exact congrArg (fun z => (some (Sum.inl (nx, ts_l xs lo, z :: ts_s xs st, W, b, c)) : Option mm_T)) (ts_okv (htop rfl)).symm
        · rw [if_neg hc] at h2; cases h2
  case baload =>
    match st, h with
    | .int i :: .ref k :: st, h =>
      have h2 : (match mm_aget md_xz W k i with | some (t, v) => if t = 2 ∨ t = 3 then some (Sum.inl (nx, lo, v :: st, W, b, c) : mm_T) else none | none => none) = some T := h
      show (match mm_aget md_xz W k i with | some (t, v) => if t = 2 ∨ t = 3 then some (Sum.inl (nx, ts_l xs lo, v :: ts_s xs st, W, b, c) : mm_T) else none | none => none) = some (ts_T xs T)
      cases hg : mm_aget md_xz W k i with
      | none => rw [hg] at h2; cases h2
      | some q =>
        obtain ⟨t, v⟩ := q
        rw [hg] at h2
        dsimp only at h2 ⊢
        by_cases hc : t = 2 ∨ t = 3
        · rw [if_pos hc] at h2 ⊢
          cases Option.some.inj h2
          exact congrArg (fun z => (some (Sum.inl (nx, ts_l xs lo, z :: ts_s xs st, W, b, c)) : Option mm_T)) (ts_okv (htop rfl)).symm
        · rw [if_neg hc] at h2; cases h2
  case laload =>
    match st, h with
    | .int i :: .ref k :: st, h =>
      have h2 : (match mm_aget md_xz W k i with | some (t, v) => if t = 1 then some (Sum.inl (nx, lo, v :: st, W, b, c) : mm_T) else none | none => none) = some T := h
      show (match mm_aget md_xz W k i with | some (t, v) => if t = 1 then some (Sum.inl (nx, ts_l xs lo, v :: ts_s xs st, W, b, c) : mm_T) else none | none => none) = some (ts_T xs T)
      cases hg : mm_aget md_xz W k i with
      | none => rw [hg] at h2; cases h2
      | some q =>
        obtain ⟨t, v⟩ := q
        rw [hg] at h2
        dsimp only at h2 ⊢
        by_cases hc : t = 1
        · rw [if_pos hc] at h2 ⊢
          cases Option.some.inj h2
          exact congrArg (fun z => (some (Sum.inl (nx, ts_l xs lo, z :: ts_s xs st, W, b, c)) : Option mm_T)) (ts_okv (htop rfl)).symm
        · rw [if_neg hc] at h2; cases h2
  case aaload =>
    match st, h with
    | .int i :: .ref k :: st, h =>
      have h2 : (match mm_aget md_xz W k i with | some (t, v) => if 4 ≤ t then some (Sum.inl (nx, lo, v :: st, W, b, c) : mm_T) else none | none => none) = some T := h
      show (match mm_aget md_xz W k i with | some (t, v) => if 4 ≤ t then some (Sum.inl (nx, ts_l xs lo, v :: ts_s xs st, W, b, c) : mm_T) else none | none => none) = some (ts_T xs T)
      cases hg : mm_aget md_xz W k i with
      | none => rw [hg] at h2; cases h2
      | some q =>
        obtain ⟨t, v⟩ := q
        rw [hg] at h2
        dsimp only at h2 ⊢
        by_cases hc : 4 ≤ t
        · rw [if_pos hc] at h2 ⊢
          cases Option.some.inj h2
          exact congrArg (fun z => (some (Sum.inl (nx, ts_l xs lo, z :: ts_s xs st, W, b, c)) : Option mm_T)) (ts_okv (htop rfl)).symm
        · rw [if_neg hc] at h2; cases h2
  case iastore =>
    match st, h with
    | .int x :: .int i :: .ref k :: st, h =>
      have h2 : (if k < mm_XB then match mm_aputi W k i x with | some (t, W2) => if t = 0 then some (Sum.inl (nx, lo, st, W2, b, c) : mm_T) else none | none => none else none) = some T := h
      show (if k < mm_XB then match mm_aputi W k i x with | some (t, W2) => if t = 0 then some (Sum.inl (nx, ts_l xs lo, ts_s xs st, W2, b, c) : mm_T) else none | none => none else none) = some (ts_T xs T)
      by_cases hk : k < mm_XB
      · rw [if_pos hk] at h2 ⊢
        cases hg : mm_aputi W k i x with
        | none => rw [hg] at h2; cases h2
        | some q =>
          obtain ⟨t, W2⟩ := q
          rw [hg] at h2
          dsimp only at h2 ⊢
          by_cases hc : t = 0
          · rw [if_pos hc] at h2 ⊢; cases Option.some.inj h2; rfl
          · rw [if_neg hc] at h2; cases h2
      · rw [if_neg hk] at h2; cases h2
  case bastore =>
    match st, h with
    | .int x :: .int i :: .ref k :: st, h =>
      have h2 : (if k < mm_XB then match mm_aputi W k i x with | some (t, W2) => if t = 2 ∨ t = 3 then some (Sum.inl (nx, lo, st, W2, b, c) : mm_T) else none | none => none else none) = some T := h
      show (if k < mm_XB then match mm_aputi W k i x with | some (t, W2) => if t = 2 ∨ t = 3 then some (Sum.inl (nx, ts_l xs lo, ts_s xs st, W2, b, c) : mm_T) else none | none => none else none) = some (ts_T xs T)
      by_cases hk : k < mm_XB
      · rw [if_pos hk] at h2 ⊢
        cases hg : mm_aputi W k i x with
        | none => rw [hg] at h2; cases h2
        | some q =>
          obtain ⟨t, W2⟩ := q
          rw [hg] at h2
          dsimp only at h2 ⊢
          by_cases hc : t = 2 ∨ t = 3
          · rw [if_pos hc] at h2 ⊢; cases Option.some.inj h2; rfl
          · rw [if_neg hc] at h2; cases h2
      · rw [if_neg hk] at h2; cases h2
  case lastore =>
    match st, h with
    | .long x :: .int i :: .ref k :: st, h =>
      have h2 : (if k < mm_XB then match mm_aputl W k i x with | some (t, W2) => if t = 1 then some (Sum.inl (nx, lo, st, W2, b, c) : mm_T) else none | none => none else none) = some T := h
      show (if k < mm_XB then match mm_aputl W k i x with | some (t, W2) => if t = 1 then some (Sum.inl (nx, ts_l xs lo, ts_s xs st, W2, b, c) : mm_T) else none | none => none else none) = some (ts_T xs T)
      by_cases hk : k < mm_XB
      · rw [if_pos hk] at h2 ⊢
        cases hg : mm_aputl W k i x with
        | none => rw [hg] at h2; cases h2
        | some q =>
          obtain ⟨t, W2⟩ := q
          rw [hg] at h2
          dsimp only at h2 ⊢
          by_cases hc : t = 1
          · rw [if_pos hc] at h2 ⊢; cases Option.some.inj h2; rfl
          · rw [if_neg hc] at h2; cases h2
      · rw [if_neg hk] at h2; cases h2
  case aastore =>
    match st, h with
    | .ref v :: .int i :: .ref k :: st, h =>
      have h2 : (if k < mm_XB then (mm_aputr W k i v).map (fun W2 => (Sum.inl (nx, lo, st, W2, b, c) : mm_T)) else none) = some T := h
      show (if k < mm_XB then (mm_aputr W k i v).map (fun W2 => (Sum.inl (nx, ts_l xs lo, ts_s xs st, W2, b, c) : mm_T)) else none) = some (ts_T xs T)
      by_cases hk : k < mm_XB
      · rw [if_pos hk] at h2 ⊢
        obtain ⟨W2, hW, h3⟩ := Option.map_eq_some_iff.mp h2
        rw [hW]
        cases h3
        rfl
      · rw [if_neg hk] at h2; cases h2
  case arraylength =>
    match st, h with
    | .ref k :: st, h =>
      have h2 : (mm_alen md_xz W k).map (fun n => (Sum.inl (nx, lo, .int (Int32.ofNat n) :: st, W, b, c) : mm_T)) = some T := h
      show (mm_alen md_xz W k).map (fun n => (Sum.inl (nx, ts_l xs lo, .int (Int32.ofNat n) :: ts_s xs st, W, b, c) : mm_T)) = some (ts_T xs T)
      obtain ⟨n, hn, h3⟩ := Option.map_eq_some_iff.mp h2
      rw [hn]
      cases h3
      rfl
  case getfield i =>
    match st, h with
    | .ref k :: st, h =>
      have h2 : (if r3 = 0 then (if k < mm_XB then (mm_getf W k r1 r2).map (fun v => (Sum.inl (nx, lo, v :: st, W, b, c) : mm_T)) else none) else if k < mm_XB then none else (md_xo (k - mm_XB) r1).map (fun v => (Sum.inl (nx, lo, v :: st, W, b, c) : mm_T))) = some T := h
      show (if r3 = 0 then (if k < mm_XB then (mm_getf W k r1 r2).map (fun v => (Sum.inl (nx, ts_l xs lo, v :: ts_s xs st, W, b, c) : mm_T)) else none) else if k < mm_XB then none else (md_xo (k - mm_XB) r1).map (fun v => (Sum.inl (nx, ts_l xs lo, v :: ts_s xs st, W, b, c) : mm_T))) = some (ts_T xs T)
      by_cases h3 : r3 = 0
      · rw [if_pos h3] at h2 ⊢
        by_cases hk : k < mm_XB
        · rw [if_pos hk] at h2 ⊢
          obtain ⟨v, hv, h4⟩ := Option.map_eq_some_iff.mp h2
          rw [hv]
          cases h4
          exact congrArg (fun z => (some (Sum.inl (nx, ts_l xs lo, z :: ts_s xs st, W, b, c)) : Option mm_T)) (ts_okv (htop rfl)).symm
        · rw [if_neg hk] at h2; cases h2
      · rw [if_neg h3] at h2 ⊢
        by_cases hk : k < mm_XB
        · rw [if_pos hk] at h2; cases h2
        · rw [if_neg hk] at h2 ⊢
          obtain ⟨v, hv, h4⟩ := Option.map_eq_some_iff.mp h2
          rw [hv]
          cases h4
          exact congrArg (fun z => (some (Sum.inl (nx, ts_l xs lo, z :: ts_s xs st, W, b, c)) : Option mm_T)) (ts_okv (htop rfl)).symm
  case putfield i =>
    match st, h with
    | v :: .ref k :: st, h =>
      have h2 : (if k < mm_XB then (mm_put W k r1 r2 r3 v).map (fun W2 => (Sum.inl (nx, lo, st, W2, b, c) : mm_T)) else none) = some T := h
      show (if k < mm_XB then (mm_put W k r1 r2 r3 (ts_v xs v)).map (fun W2 => (Sum.inl (nx, ts_l xs lo, ts_s xs st, W2, b, c) : mm_T)) else none) = some (ts_T xs T)
      by_cases hk : k < mm_XB
      · rw [if_pos hk] at h2 ⊢
        obtain ⟨W2, hW, h3⟩ := Option.map_eq_some_iff.mp h2
        rw [ts_okv (ts_putok hW), hW]
        cases h3
        rfl
      · rw [if_neg hk] at h2; cases h2
  case getstatic i =>
    simp only [mm_stepI] at h ⊢
    by_cases h0 : r3 = 0
    · rw [if_pos h0] at h ⊢
      obtain rfl := Option.some.inj h
      exact congrArg (fun z => (some (Sum.inl (nx, ts_l xs lo, z :: ts_s xs st, W, b, c)) : Option mm_T)) (ts_okv (htop rfl)).symm
    · rw [if_neg h0] at h ⊢; obtain rfl := Option.some.inj h; rfl
  case new i =>
    simp only [mm_stepI] at h ⊢
    by_cases h0 : r3 = 0
    · rw [if_pos h0] at h ⊢
      by_cases hc : 1 ≤ b ∧ (md_df r1).length ≤ c ∧ W.length < mm_XB
      · rw [if_pos hc] at h ⊢; obtain rfl := Option.some.inj h; rfl
      · rw [if_neg hc] at h; cases h
    · rw [if_neg h0] at h ⊢
      rw [ts_sum]
      by_cases hc : 1 ≤ b ∧ 6 ≤ c ∧ (st.map fun v => v.category).sum ≤ 8
      · rw [if_pos hc] at h ⊢; obtain rfl := Option.some.inj h; rfl
      · rw [if_neg hc] at h; cases h
  case newarray a =>
    match st, h with
    | .int n :: st, h =>
      have h2 : (if ¬ n < 0 ∧ 1 ≤ b ∧ n.toNatClampNeg ≤ c ∧ W.length < mm_XB ∧ n.toNatClampNeg ≤ 1000000 then some (Sum.inl (nx, lo, .ref W.length :: st, W ++ [.inl (r1, n.toNatClampNeg, if r1 = 1 then .inr (.inl (fun _ => 0)) else .inl (fun _ => 0))], b - 1, c - n.toNatClampNeg) : mm_T) else none) = some T := h
      show (if ¬ n < 0 ∧ 1 ≤ b ∧ n.toNatClampNeg ≤ c ∧ W.length < mm_XB ∧ n.toNatClampNeg ≤ 1000000 then some (Sum.inl (nx, ts_l xs lo, .ref W.length :: ts_s xs st, W ++ [.inl (r1, n.toNatClampNeg, if r1 = 1 then .inr (.inl (fun _ => 0)) else .inl (fun _ => 0))], b - 1, c - n.toNatClampNeg) : mm_T) else none) = some (ts_T xs T)
      by_cases hc : ¬ n < 0 ∧ 1 ≤ b ∧ n.toNatClampNeg ≤ c ∧ W.length < mm_XB ∧ n.toNatClampNeg ≤ 1000000
      · rw [if_pos hc] at h2 ⊢; cases Option.some.inj h2; rfl
      · rw [if_neg hc] at h2; cases h2
  case anewarray i =>
    match st, h with
    | .int n :: st, h =>
      have h2 : (if ¬ n < 0 ∧ 1 ≤ b ∧ n.toNatClampNeg ≤ c ∧ W.length < mm_XB ∧ n.toNatClampNeg ≤ 1000000 then some (Sum.inl (nx, lo, .ref W.length :: st, W ++ [.inl (r1, n.toNatClampNeg, .inr (.inr (.inr (.inr (fun _ => none)))))], b - 1, c - n.toNatClampNeg) : mm_T) else none) = some T := h
      show (if ¬ n < 0 ∧ 1 ≤ b ∧ n.toNatClampNeg ≤ c ∧ W.length < mm_XB ∧ n.toNatClampNeg ≤ 1000000 then some (Sum.inl (nx, ts_l xs lo, .ref W.length :: ts_s xs st, W ++ [.inl (r1, n.toNatClampNeg, .inr (.inr (.inr (.inr (fun _ => none)))))], b - 1, c - n.toNatClampNeg) : mm_T) else none) = some (ts_T xs T)
      by_cases hc : ¬ n < 0 ∧ 1 ≤ b ∧ n.toNatClampNeg ≤ c ∧ W.length < mm_XB ∧ n.toNatClampNeg ≤ 1000000
      · rw [if_pos hc] at h2 ⊢; cases Option.some.inj h2; rfl
      · rw [if_neg hc] at h2; cases h2
  case invokevirtual i => exact ts_call h
  case invokestatic i => exact ts_call h
  case invokespecial i => exact ts_call h
  case ireturn =>
    match st, h with
    | [.int v], h =>
      have hT : ts_T xs T = T := by
        simp only [mm_stepI] at h
        (repeat' split at h) <;> first | (obtain rfl := Option.some.inj h; rfl) | cases h
      rw [hT]
      exact h
  case lreturn =>
    match st, h with
    | [.long v], h =>
      have hT : ts_T xs T = T := by
        simp only [mm_stepI] at h
        (repeat' split at h) <;> first | (obtain rfl := Option.some.inj h; rfl) | cases h
      rw [hT]
      exact h
  case areturn =>
    match st, h with
    | [.ref v], h =>
      have hT : ts_T xs T = T := by
        simp only [mm_stepI] at h
        (repeat' split at h) <;> first | (obtain rfl := Option.some.inj h; rfl) | cases h
      rw [hT]
      exact h
  case return_ =>
    match st, h with
    | [], h =>
      have hT : ts_T xs T = T := by
        simp only [mm_stepI] at h
        (repeat' split at h) <;> first | (obtain rfl := Option.some.inj h; rfl) | cases h
      rw [hT]
      exact h
  all_goals exact absurd (show (none : Option mm_T) = some T from h) (by simp)
/-! what is known of ranges decides a comparison -/
def ts_rc : Jvm.ClassFile.Cond → Int → Int → Int → Int → Option Bool
  | .lt, a, b, c, d => if b < c then some true else if d ≤ a then some false else none
  | .ge, a, b, c, d => if d ≤ a then some true else if b < c then some false else none
  | .gt, a, b, c, d => if d < a then some true else if b ≤ c then some false else none
  | .le, a, b, c, d => if b ≤ c then some true else if d < a then some false else none
  | .eq, a, b, c, d => if b < c ∨ d < a then some false else none
  | .ne, a, b, c, d => if b < c ∨ d < a then some true else none
theorem ts_rcs {k : Jvm.ClassFile.Cond} {a b c d : Int} {r : Bool} {x y : Int32} (h : ts_rc k a b c d = some r) (ha : a ≤ x.toInt) (hb : x.toInt ≤ b) (hc : c ≤ y.toInt) (hd : y.toInt ≤ d) : mm_cmp k x y = r := by
  have e1 : x < y ↔ x.toInt < y.toInt := Int32.lt_iff_toInt_lt
  have e2 : y < x ↔ y.toInt < x.toInt := Int32.lt_iff_toInt_lt
  have e3 : x ≤ y ↔ x.toInt ≤ y.toInt := Int32.le_iff_toInt_le
  have e4 : y ≤ x ↔ y.toInt ≤ x.toInt := Int32.le_iff_toInt_le
  have e5 : x = y → x.toInt = y.toInt := fun e => by rw [e]
  cases k <;> unfold ts_rc at h <;> unfold mm_cmp <;> dsimp only at h ⊢
  · split at h
    · rename_i q; cases h; exact decide_eq_false (fun e => by have := e5 e; omega)
    · cases h
  · split at h
    · rename_i q; cases h; rw [decide_eq_false (fun e => by have := e5 e; omega)]; rfl
    · cases h
  · split at h
    · cases h; exact decide_eq_true (e1.mpr (by omega))
    · split at h
      · cases h; exact decide_eq_false (fun e => by have := e1.mp e; omega)
      · cases h
  · split at h
    · cases h; exact decide_eq_true (e4.mpr (by omega))
    · split at h
      · cases h; exact decide_eq_false (fun e => by have := e4.mp e; omega)
      · cases h
  · split at h
    · cases h; exact decide_eq_true (e2.mpr (by omega))
    · split at h
      · cases h; exact decide_eq_false (fun e => by have := e2.mp e; omega)
      · cases h
  · split at h
    · cases h; exact decide_eq_true (e3.mpr (by omega))
    · split at h
      · cases h; exact decide_eq_false (fun e => by have := e3.mp e; omega)
      · cases h
def ts_R (R : Nat → Option (Int × Int)) (xs : Nat → Int32) : Prop := ∀ u a b, R u = some (a, b) → a ≤ (xs u).toInt ∧ (xs u).toInt ≤ b
noncomputable def ts_sp (R : Nat → Option (Int × Int)) (ins : Instr) (nx r1 pc : Nat) (lo : List (Nat × Value)) (st : List Value) (W : mm_W) (b c : Nat) : Option mm_T :=
  match ins with
  | .iload i => match mm_get lo i with
    | some (.float u) => some (.inl (nx, lo, .float u :: st, W, b, c))
    | _ => none
  | .iload_n i => match mm_get lo i with
    | some (.float u) => some (.inl (nx, lo, .float u :: st, W, b, c))
    | _ => none
  | .lload i => match mm_get lo i with
    | some (.double u) => some (.inl (nx, lo, .double u :: st, W, b, c))
    | _ => none
  | .lload_n i => match mm_get lo i with
    | some (.double u) => some (.inl (nx, lo, .double u :: st, W, b, c))
    | _ => none
  | .i2l => match st with
    | .float u :: st => some (.inl (nx, lo, .double u.toUInt64 :: st, W, b, c))
    | _ => none
  | .lcmp => match st with
    | .long y :: .double u :: st => match R u.toNat with
      | some (p, q) => if q < y.toInt then some (.inl (nx, lo, .int (-1) :: st, W, b, c)) else if y.toInt < p then some (.inl (nx, lo, .int 1 :: st, W, b, c)) else none
      | none => none
    | _ => none
  | .ifCond k _ => match st with
    | .float u :: st => match R u.toNat with
      | some (p, q) => match ts_rc k p q 0 0 with
        | some r => some (.inl (if r then r1 else nx, lo, st, W, b, c))
        | none => none
      | none => none
    | _ => none
  | .if_icmp k _ => match st with
    | .int y :: .float u :: st => match R u.toNat with
      | some (p, q) => match ts_rc k p q y.toInt y.toInt with
        | some r => some (.inl (if r then r1 else nx, lo, st, W, b, c))
        | none => none
      | none => none
    | .float u :: .int x :: st => match R u.toNat with
      | some (p, q) => match ts_rc k x.toInt x.toInt p q with
        | some r => some (.inl (if r then r1 else nx, lo, st, W, b, c))
        | none => none
      | none => none
    | _ => none
  | .tableswitch df l h _ => match st with
    | .float u :: st => match R u.toNat with
      | some (p, q) => if q < l ∨ h < p then (mm_at pc df).map (fun t => .inl (t, lo, st, W, b, c)) else none
      | none => none
    | _ => none
  | .iaload => match st with
    | .int i :: .ref k :: st =>
      if k = mm_XB ∧ mm_ib i 6 = true then
        match R i.toNatClampNeg with
        | some (p, q) => if p = q then some (.inl (nx, lo, .int (Int32.ofInt p) :: st, W, b, c)) else some (.inl (nx, lo, .float (UInt32.ofNat (i.toNatClampNeg % 8)) :: st, W, b, c))
        | none => some (.inl (nx, lo, .float (UInt32.ofNat (i.toNatClampNeg % 8)) :: st, W, b, c))
      else none
    | _ => none
  | _ => none
theorem ts_l64 (x : Int32) : x.toInt64.toInt = x.toInt := Int32.toInt_toInt64 x
theorem ts_u8 (n : Nat) (h : n < 8) : (UInt32.ofNat (n % 8)).toNat = n := by
  rw [Nat.mod_eq_of_lt h]
  exact UInt32.toNat_ofNat_of_lt' (by show n < 4294967296; omega)
set_option maxHeartbeats 8000000 in
theorem ts_sps {R : Nat → Option (Int × Int)} {xs : Nat → Int32} (hR : ts_R R xs) {j : Nat} {ins : Instr} {nx r1 r2 r3 pc : Nat} {lo : List (Nat × Value)} {st : List Value} {W : mm_W} {b c : Nat} {T : mm_T} (h : ts_sp R ins nx r1 pc lo st W b c = some T) : mm_stepI (md_xa (6, xs)) j ins nx r1 r2 r3 pc (ts_l xs lo) (ts_s xs st) W b c = some (ts_T xs T) := by
  cases ins
  case iload i =>
    simp only [ts_sp] at h
    simp only [mm_stepI]
    rw [ts_get]
    split at h
    · next x hg => rw [hg]; obtain rfl := Option.some.inj h; rfl
    · cases h
  case iload_n i =>
    simp only [ts_sp] at h
    simp only [mm_stepI]
    rw [ts_get]
    split at h
    · next x hg => rw [hg]; obtain rfl := Option.some.inj h; rfl
    · cases h
  case lload i =>
    simp only [ts_sp] at h
    simp only [mm_stepI]
    rw [ts_get]
    split at h
    · next x hg => rw [hg]; obtain rfl := Option.some.inj h; rfl
    · cases h
  case lload_n i =>
    simp only [ts_sp] at h
    simp only [mm_stepI]
    rw [ts_get]
    split at h
    · next x hg => rw [hg]; obtain rfl := Option.some.inj h; rfl
    · cases h
  case i2l =>
    match st, h with
    | .float u :: st, h =>
      obtain rfl := Option.some.inj h
      show _ = some (Sum.inl (nx, ts_l xs lo, .long (xs u.toUInt64.toNat).toInt64 :: ts_s xs st, W, b, c))
      rw [UInt32.toNat_toUInt64]
      rfl
  case lcmp =>
    match st, h with
    | .long y :: .double u :: st, h =>
      simp only [ts_sp] at h
      show (some (Sum.inl (nx, ts_l xs lo, .int (lg_cmp (xs u.toNat).toInt64 y) :: ts_s xs st, W, b, c)) : Option mm_T) = some (ts_T xs T)
      split at h
      · rename_i p q hq
        obtain ⟨h1, h2⟩ := hR _ _ _ hq
        have e1 : y < (xs u.toNat).toInt64 ↔ y.toInt < (xs u.toNat).toInt64.toInt := Int64.lt_iff_toInt_lt
        have e2 : (xs u.toNat).toInt64 = y → (xs u.toNat).toInt64.toInt = y.toInt := fun e => by rw [e]
        rw [ts_l64] at e1 e2
        split at h
        · rename_i hlt
          obtain rfl := Option.some.inj h
          have hz : lg_cmp (xs u.toNat).toInt64 y = -1 := by
            unfold lg_cmp
            rw [if_neg (fun e => by have := e1.mp e; omega), if_neg (fun e => by have := e2 e; omega)]
          rw [hz]
          rfl
        · split at h
          · rename_i hlt
            obtain rfl := Option.some.inj h
            have hz : lg_cmp (xs u.toNat).toInt64 y = 1 := by
              unfold lg_cmp
              rw [if_pos (e1.mpr (by omega))]
            rw [hz]
            rfl
          · cases h
      · cases h
  case ifCond k n =>
    match st, h with
    | .float u :: st, h =>
      simp only [ts_sp] at h
      show (some (Sum.inl (if mm_cmp k (xs u.toNat) (0) then r1 else nx, ts_l xs lo, ts_s xs st, W, b, c)) : Option mm_T) = some (ts_T xs T)
      split at h
      · rename_i p q hq
        obtain ⟨h1, h2⟩ := hR _ _ _ hq
        split at h
        · rename_i r hr
          obtain rfl := Option.some.inj h
          rw [ts_rcs hr h1 h2 (by decide) (by decide)]
          rfl
        · cases h
      · cases h
  case if_icmp k n =>
    match st, h with
    | .int y :: .float u :: st, h =>
      simp only [ts_sp] at h
      show (some (Sum.inl (if mm_cmp k (xs u.toNat) (y) then r1 else nx, ts_l xs lo, ts_s xs st, W, b, c)) : Option mm_T) = some (ts_T xs T)
      split at h
      · rename_i p q hq
        obtain ⟨h1, h2⟩ := hR _ _ _ hq
        split at h
        · rename_i r hr
          obtain rfl := Option.some.inj h
          rw [ts_rcs hr h1 h2 (Int.le_refl _) (Int.le_refl _)]
          rfl
        · cases h
      · cases h
    | .float u :: .int x :: st, h =>
      simp only [ts_sp] at h
      show (some (Sum.inl (if mm_cmp k (x) (xs u.toNat) then r1 else nx, ts_l xs lo, ts_s xs st, W, b, c)) : Option mm_T) = some (ts_T xs T)
      split at h
      · rename_i p q hq
        obtain ⟨h1, h2⟩ := hR _ _ _ hq
        split at h
        · rename_i r hr
          obtain rfl := Option.some.inj h
          rw [ts_rcs hr (Int.le_refl _) (Int.le_refl _) h1 h2]
          rfl
        · cases h
      · cases h
  case tableswitch df l hh offs =>
    match st, h with
    | .float u :: st, h =>
      simp only [ts_sp] at h
      show (match mm_tsw pc df l hh offs (xs u.toNat) with | some t => some (Sum.inl (t, ts_l xs lo, ts_s xs st, W, b, c) : mm_T) | none => none) = some (ts_T xs T)
      split at h
      · rename_i p q hq
        obtain ⟨h1, h2⟩ := hR _ _ _ hq
        split at h
        · rename_i hc
          obtain ⟨t, ht, h3⟩ := Option.map_eq_some_iff.mp h
          have hz : mm_tsw pc df l hh offs (xs u.toNat) = some t := by
            unfold mm_tsw
            rw [if_pos (by omega), ht]
          rw [hz]
          cases h3
          rfl
        · cases h
      · cases h
  case iaload =>
    match st, h with
    | .int i :: .ref k :: st, h =>
      simp only [ts_sp] at h
      split at h
      · rename_i hk
        obtain ⟨rfl, hi⟩ := hk
        have hlt : i.toNatClampNeg < 8 := by
          unfold mm_ib at hi
          simp only [Bool.not_eq_true', Bool.or_eq_false_iff, decide_eq_false_iff_not] at hi
          omega
        have hg : mm_aget (md_xa (6, xs)) W mm_XB i = some (0, .int (xs i.toNatClampNeg)) := by
          unfold mm_aget
          rw [if_neg (Nat.lt_irrefl _), Nat.sub_self]
          show (if mm_ib i 6 then some ((0 : Nat), Value.int (xs i.toNatClampNeg)) else none) = _
          rw [if_pos hi]
        have hgo : mm_stepI (md_xa (6, xs)) j .iaload nx r1 r2 r3 pc (ts_l xs lo) (ts_s xs (.int i :: .ref mm_XB :: st)) W b c = some (.inl (nx, ts_l xs lo, .int (xs i.toNatClampNeg) :: ts_s xs st, W, b, c)) := by
          show (match mm_aget (md_xa (6, xs)) W mm_XB i with | some (t, v) => if t = 0 then some (Sum.inl (nx, ts_l xs lo, v :: ts_s xs st, W, b, c) : mm_T) else none | none => none) = _
          rw [hg]
          rfl
        rw [hgo]
        split at h
        · rename_i p q hq
          obtain ⟨h1, h2⟩ := hR _ _ _ hq
          split at h
          · rename_i hpq
            obtain rfl := Option.some.inj h
            have hx : xs i.toNatClampNeg = Int32.ofInt p := by
              rw [show p = (xs i.toNatClampNeg).toInt by omega, Int32.ofInt_toInt]
            rw [hx]
            rfl
          · obtain rfl := Option.some.inj h
            show _ = some (Sum.inl (nx, ts_l xs lo, .int (xs (UInt32.ofNat (i.toNatClampNeg % 8)).toNat) :: ts_s xs st, W, b, c))
            rw [ts_u8 _ hlt]
        · obtain rfl := Option.some.inj h
          show _ = some (Sum.inl (nx, ts_l xs lo, .int (xs (UInt32.ofNat (i.toNatClampNeg % 8)).toNat) :: ts_s xs st, W, b, c))
          rw [ts_u8 _ hlt]
      · cases h
  all_goals exact absurd (show (none : Option mm_T) = some T from h) (by simp)
noncomputable def ts_step (R : Nat → Option (Int × Int)) (j : Nat) (F : mm_F) : Option mm_T :=
  match md_cd j F.1 with
  | none => none
  | some e =>
    match ts_sp R e.1 e.2.1 e.2.2.1 F.1 F.2.1 F.2.2.1 F.2.2.2.1 F.2.2.2.2.1 F.2.2.2.2.2 with
    | some T => some T
    | none =>
      match mm_stepI md_xz j e.1 e.2.1 e.2.2.1 e.2.2.2.1 e.2.2.2.2 F.1 F.2.1 F.2.2.1 F.2.2.2.1 F.2.2.2.2.1 F.2.2.2.2.2 with
      | some T => if ts_ld e.1 && !ts_top T then none else some T
      | none => none
theorem ts_steps {R : Nat → Option (Int × Int)} {xs : Nat → Int32} (hR : ts_R R xs) {j : Nat} {F : mm_F} {T : mm_T} (h : ts_step R j F = some T) : mm_step (md_xa (6, xs)) j (ts_F xs F) = some (ts_T xs T) := by
  unfold ts_step at h
  unfold mm_step
  show (match md_cd j F.1 with | none => none | some e => mm_stepI (md_xa (6, xs)) j e.1 e.2.1 e.2.2.1 e.2.2.2.1 e.2.2.2.2 F.1 (ts_l xs F.2.1) (ts_s xs F.2.2.1) F.2.2.2.1 F.2.2.2.2.1 F.2.2.2.2.2) = _
  cases hc : md_cd j F.1 with
  | none => rw [hc] at h; cases h
  | some e =>
    rw [hc] at h
    dsimp only at h ⊢
    split at h
    · rename_i T' hs
      cases Option.some.inj h
      exact ts_sps hR hs
    · split at h
      · rename_i T' hs
        split at h
        · cases h
        · rename_i htop
          cases Option.some.inj h
          refine mm_stepI_xa (md_xz_le _) (ts_stepI hs (fun hl => ?_))
          rw [hl] at htop
          cases ht : ts_top T with
          | true => rfl
          | false => rw [ht] at htop; exact absurd rfl htop
      · cases h
noncomputable def ts_ex (R : Nat → Option (Int × Int)) : Nat → Nat → Nat → mm_F → Option mm_O
  | 0, _, _, _ => none
  | f + 1, d, j, F =>
    match ts_step R j F with
    | none => none
    | some (.inl F') => ts_ex R f d j F'
    | some (.inr (.inl o)) => some o
    | some (.inr (.inr (j', as, nx, fl, G))) =>
      match d with
      | 0 => none
      | d' + 1 =>
        if (md_mt j').2.2.1 < (as.map fun v => v.category).sum then none else
        match ts_ex R f d' j' (0, lv_args 0 as, [], G.2.2.2.1, G.2.2.2.2.1, G.2.2.2.2.2) with
        | none => none
        | some (.inl v, W2, b2, c2) => if v.all ts_ok then ts_ex R f (d' + 1) j (nx, G.2.1, v.toList ++ G.2.2.1, W2, b2, c2) else none
        | some (.inr E, W2, b2, c2) =>
          if fl = false then none else
          if (md_mt j).2.2.2.2 = [] then some (.inr E, W2, b2, c2) else
          match md_hd j G.1 E with
          | none => none
          | some h => ts_ex R f (d' + 1) j (h, G.2.1, [.retAddr 0], W2, b2, c2)
theorem ts_all {v : Option Value} (h : v.all ts_ok = true) : ∀ w, v = some w → ts_ok w = true := by
  intro w hw
  subst hw
  exact h
theorem ts_exs {R : Nat → Option (Int × Int)} {xs : Nat → Int32} (hR : ts_R R xs) : ∀ (f d j : Nat) (F : mm_F) (o : mm_O), ts_ex R f d j F = some o → mm_ex (md_xa (6, xs)) f d j (ts_F xs F) = some o
  | 0, _, _, _, _, h => by cases h
  | f + 1, d, j, F, o, h => by
    unfold ts_ex at h
    unfold mm_ex
    cases hs : ts_step R j F with
    | none => rw [hs] at h; cases h
    | some T =>
      rw [ts_steps hR hs]
      rw [hs] at h
      rcases T with F' | o' | ⟨j', as, nx, fl, G⟩
      · exact ts_exs hR f d j F' o h
      · exact h
      · dsimp only [ts_T] at h ⊢
        cases d with
        | zero => cases h
        | succ d0 =>
          dsimp only at h ⊢
          rw [ts_sum]
          split at h
          · cases h
          · rename_i hlen
            rw [if_neg hlen, ts_args]
            split at h
            · cases h
            · rename_i v W2 b2 c2 hcall
              have h1 := ts_exs hR f d0 j' _ _ hcall
              split at h
              · rename_i hv
                have h2 := ts_exs hR f (d0 + 1) j _ o h
                dsimp only [ts_F] at h1 h2 ⊢
                rw [show mm_ex (md_xa (6, xs)) f d0 j' (0, ts_l xs (lv_args 0 as), [], G.2.2.2.1, G.2.2.2.2.1, G.2.2.2.2.2) = some (.inl v, W2, b2, c2) from h1]
                rw [ts_ap xs v (ts_all hv)] at h2
                exact h2
              · cases h
            · rename_i E W2 b2 c2 hcall
              have h1 := ts_exs hR f d0 j' _ _ hcall
              dsimp only [ts_F] at h1 ⊢
              rw [show mm_ex (md_xa (6, xs)) f d0 j' (0, ts_l xs (lv_args 0 as), [], G.2.2.2.1, G.2.2.2.2.1, G.2.2.2.2.2) = some (.inr E, W2, b2, c2) from h1]
              dsimp only
              split at h
              · cases h
              · rename_i hfl
                rw [if_neg hfl]
                split at h
                · rename_i hh
                  rw [if_pos hh]
                  exact h
                · rename_i hh
                  rw [if_neg hh]
                  split at h
                  · cases h
                  · rename_i hp hhd
                    rw [hhd]
                    exact ts_exs hR f (d0 + 1) j _ o h
noncomputable def ts_go (R : Nat → Option (Int × Int)) (f d j : Nat) : Nat → mm_F → Option mm_F
  | 0, F => some F
  | n + 1, F =>
    match ts_step R j F with
    | some (.inl F') => ts_go R f d j n F'
    | some (.inr (.inr (j', as, nx, _, G))) =>
      if (md_mt j').2.2.1 < (as.map fun v => v.category).sum then none else
      match ts_ex R f d j' (0, lv_args 0 as, [], G.2.2.2.1, G.2.2.2.2.1, G.2.2.2.2.2) with
      | some (.inl v, W2, b2, c2) => if v.all ts_ok then ts_go R f d j n (nx, G.2.1, v.toList ++ G.2.2.1, W2, b2, c2) else none
      | _ => none
    | _ => none
theorem ts_gos {R : Nat → Option (Int × Int)} {xs : Nat → Int32} (hR : ts_R R xs) {f d j : Nat} {o : mm_O} : ∀ (n : Nat) (F F' : mm_F), ts_go R f d j n F = some F' → Ev (md_xa (6, xs)) (d + 1) j (ts_F xs F') o → Ev (md_xa (6, xs)) (d + 1) j (ts_F xs F) o
  | 0, F, F', h, k => by
    cases Option.some.inj h
    exact k
  | n + 1, F, F', h, k => by
    unfold ts_go at h
    split at h
    · rename_i F1 hs
      exact Ev.step (F' := ts_F xs F1) (ts_steps hR hs) (ts_gos hR n F1 F' h k)
    · rename_i j' as nx fl G hs
      split at h
      · cases h
      · rename_i hlen
        split at h
        · rename_i v W2 b2 c2 hcall
          split at h
          · rename_i hv
            have h1 := ts_exs hR _ _ _ _ _ hcall
            have h2 := ts_gos hR n _ F' h k
            dsimp only [ts_F] at h1 h2
            rw [ts_ap xs v (ts_all hv)] at h2
            refine Ev.call (j' := j') (as := ts_s xs as) (nx := nx) (fl := fl) (G := ts_F xs G) (ts_steps hR hs) (by rw [ts_sum]; exact hlen) ⟨f, ?_⟩ h2
            rw [ts_args]
            exact h1
          · cases h
        · cases h
    · cases h
