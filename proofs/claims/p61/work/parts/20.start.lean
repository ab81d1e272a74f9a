/-! ===== the start: what lies outside, and the law's first frame ===== -/
theorem md_exo {args : Array Value} {s : State} {t : Term} {E : String} {A : Nat → Prop} (hex : (Jvm.Cond.exactly t E).before args s = true) (hA : ∀ a : Nat, a < s.heap.size → ¬ A a) : ∃ a, t.eval args s none [] s = some (.ref a) ∧ va_O E a A s s.heap := by
  obtain ⟨a, c, cell, k, q1, q2, q3, q4, q5, q6, -⟩ := Cond.exactly_spec (args := args) (first := s) (o := none) (s := s) (idx := []) (t := t) (cls := E) hex
  exact ⟨a, q1, cell, q3, q5, by rw [q6]; exact q2, hA a (Array.getElem?_eq_some_iff.mp q3).1⟩
theorem md_Tc {ty : FieldType} {t N : Nat} {f f' : Nat → Value} {A : Nat → Prop} {U : State} {H : Heap} (h : va_T ty t N f A U H) (hf : ∀ j, j < N → f j = f' j) : va_T ty t N f' A U H := by
  obtain ⟨cell, h1, h2, h3, h4, h5, h6, h7⟩ := h
  exact ⟨cell, h1, h2, h3, h4, h5, fun j hj => by rw [h6 j hj, hf j hj], h7⟩
theorem md_OFu {o n d : String} {v v' : Value} {a : Nat} {A : Nat → Prop} {U : State} {H : Heap} (h : va_OF o n d v a A U H) (h2 : va_OF o n d v' a A U H) : v = v' := by
  obtain ⟨cf, k, i, f, cell, h1, -, h3, -, h4, -⟩ := h
  obtain ⟨cf', k', i', f', cell', g1, -, g3, -, g4, -⟩ := h2
  cases h1.symm.trans g1
  cases h3.symm.trans g3
  exact Option.some.inj (h4.symm.trans g4)
theorem md_ord : ∀ i, i < 21 → md_xo (i + 1) 4 = some (.int (Int32.ofNat i)) := by decide +kernel
theorem md_ordu : ∀ i, i < 21 → ∀ k, k < 21 → Int32.ofNat i = Int32.ofNat k → i = k := by decide +kernel
theorem md_ca : ∀ j : Nat, j < 256 → Int32.ofInt (((92 + j : Nat) : Int) - 220) = vb_c j := by decide +kernel
set_option maxRecDepth 1000000 in
set_option maxHeartbeats 16000000 in
theorem md_start {s : State} {b L : Nat} {xs : Nat → Int32} (hts : ∀ w ∈ p6_tbl, w.before #[Value.ref b] s = true) (hX : va_X b L xs s s.heap) (hbl : b < s.heap.size) (hgv : (Jvm.Cond.and given_1 narrow_1).before #[Value.ref b] s = true) : ∃ xl : Nat → Nat, xl 0 = b ∧ mm_X xl (fun q => s.heap.size ≤ q) (L, xs) s := by
  have hs := flat_of_before _ hgv
  have hA : ∀ a : Nat, a < s.heap.size → ¬ (fun q : Nat => s.heap.size ≤ q) a := fun a h h2 => absurd h2 (Nat.not_le.mpr h)
  obtain ⟨a0, ea0, oa0⟩ := md_exo (hs (.exactly (.static "PaintBank$Word" "COLOR" "LPaintBank$Word;") "PaintBank$Word") (by decide +kernel)) hA
  obtain ⟨a1, ea1, oa1⟩ := md_exo (hs (.exactly (.static "PaintBank$Word" "CHANGE" "LPaintBank$Word;") "PaintBank$Word") (by decide +kernel)) hA
  obtain ⟨a2, ea2, oa2⟩ := md_exo (hs (.exactly (.static "PaintBank$Word" "LANE" "LPaintBank$Word;") "PaintBank$Word") (by decide +kernel)) hA
  obtain ⟨a3, ea3, oa3⟩ := md_exo (hs (.exactly (.static "PaintBank$Word" "CAR" "LPaintBank$Word;") "PaintBank$Word") (by decide +kernel)) hA
  obtain ⟨a4, ea4, oa4⟩ := md_exo (hs (.exactly (.static "PaintBank$Word" "BODY" "LPaintBank$Word;") "PaintBank$Word") (by decide +kernel)) hA
  obtain ⟨a5, ea5, oa5⟩ := md_exo (hs (.exactly (.static "PaintBank$Word" "BAD" "LPaintBank$Word;") "PaintBank$Word") (by decide +kernel)) hA
  obtain ⟨a6, ea6, oa6⟩ := md_exo (hs (.exactly (.static "PaintBank$Word" "WINDOW" "LPaintBank$Word;") "PaintBank$Word") (by decide +kernel)) hA
  obtain ⟨a7, ea7, oa7⟩ := md_exo (hs (.exactly (.static "PaintBank$Word" "BATCH" "LPaintBank$Word;") "PaintBank$Word") (by decide +kernel)) hA
  obtain ⟨a8, ea8, oa8⟩ := md_exo (hs (.exactly (.static "PaintBank$Word" "PURGE" "LPaintBank$Word;") "PaintBank$Word") (by decide +kernel)) hA
  obtain ⟨a9, ea9, oa9⟩ := md_exo (hs (.exactly (.static "PaintBank$Word" "REWORK" "LPaintBank$Word;") "PaintBank$Word") (by decide +kernel)) hA
  obtain ⟨a10, ea10, oa10⟩ := md_exo (hs (.exactly (.static "PaintBank$Word" "DELAY" "LPaintBank$Word;") "PaintBank$Word") (by decide +kernel)) hA
  obtain ⟨a11, ea11, oa11⟩ := md_exo (hs (.exactly (.static "PaintBank$Word" "SPAN" "LPaintBank$Word;") "PaintBank$Word") (by decide +kernel)) hA
  obtain ⟨a12, ea12, oa12⟩ := md_exo (hs (.exactly (.static "PaintBank$Word" "ENTER" "LPaintBank$Word;") "PaintBank$Word") (by decide +kernel)) hA
  obtain ⟨a13, ea13, oa13⟩ := md_exo (hs (.exactly (.static "PaintBank$Word" "LEAVE" "LPaintBank$Word;") "PaintBank$Word") (by decide +kernel)) hA
  obtain ⟨a14, ea14, oa14⟩ := md_exo (hs (.exactly (.static "PaintBank$Word" "BACK" "LPaintBank$Word;") "PaintBank$Word") (by decide +kernel)) hA
  obtain ⟨a15, ea15, oa15⟩ := md_exo (hs (.exactly (.static "PaintBank$Word" "WAIT" "LPaintBank$Word;") "PaintBank$Word") (by decide +kernel)) hA
  obtain ⟨a16, ea16, oa16⟩ := md_exo (hs (.exactly (.static "PaintBank$Word" "STEP" "LPaintBank$Word;") "PaintBank$Word") (by decide +kernel)) hA
  obtain ⟨a17, ea17, oa17⟩ := md_exo (hs (.exactly (.static "PaintBank$Word" "UNLOAD" "LPaintBank$Word;") "PaintBank$Word") (by decide +kernel)) hA
  obtain ⟨a18, ea18, oa18⟩ := md_exo (hs (.exactly (.static "PaintBank$Word" "SWAP" "LPaintBank$Word;") "PaintBank$Word") (by decide +kernel)) hA
  obtain ⟨a19, ea19, oa19⟩ := md_exo (hs (.exactly (.static "PaintBank$Word" "REPEAT" "LPaintBank$Word;") "PaintBank$Word") (by decide +kernel)) hA
  obtain ⟨a20, ea20, oa20⟩ := md_exo (hs (.exactly (.static "PaintBank$Word" "OTHER" "LPaintBank$Word;") "PaintBank$Word") (by decide +kernel)) hA
  obtain ⟨tA, etA, TA⟩ := va_Tof (tm := .static "PaintBank$Word" "ALL" "[LPaintBank$Word;") (ty := .object "PaintBank$Word") (N := 21) (f := fun j => ([.ref a0, .ref a1, .ref a2, .ref a3, .ref a4, .ref a5, .ref a6, .ref a7, .ref a8, .ref a9, .ref a10, .ref a11, .ref a12, .ref a13, .ref a14, .ref a15, .ref a16, .ref a17, .ref a18, .ref a19, .ref a20] : List Value).getD j .null) (by decide) (hs _ (by decide +kernel)) (va_eqt (hs (.eq (.length (.static "PaintBank$Word" "ALL" "[LPaintBank$Word;")) (.int 21)) (by decide +kernel))) (fun j hj => by
    match j, hj with
    | 0, _ => exact va_eqv (hs (.eq (.elem (.static "PaintBank$Word" "ALL" "[LPaintBank$Word;") (.int 0)) (.static "PaintBank$Word" "COLOR" "LPaintBank$Word;")) (by decide +kernel)) ea0
    | 1, _ => exact va_eqv (hs (.eq (.elem (.static "PaintBank$Word" "ALL" "[LPaintBank$Word;") (.int 1)) (.static "PaintBank$Word" "CHANGE" "LPaintBank$Word;")) (by decide +kernel)) ea1
    | 2, _ => exact va_eqv (hs (.eq (.elem (.static "PaintBank$Word" "ALL" "[LPaintBank$Word;") (.int 2)) (.static "PaintBank$Word" "LANE" "LPaintBank$Word;")) (by decide +kernel)) ea2
    | 3, _ => exact va_eqv (hs (.eq (.elem (.static "PaintBank$Word" "ALL" "[LPaintBank$Word;") (.int 3)) (.static "PaintBank$Word" "CAR" "LPaintBank$Word;")) (by decide +kernel)) ea3
    | 4, _ => exact va_eqv (hs (.eq (.elem (.static "PaintBank$Word" "ALL" "[LPaintBank$Word;") (.int 4)) (.static "PaintBank$Word" "BODY" "LPaintBank$Word;")) (by decide +kernel)) ea4
    | 5, _ => exact va_eqv (hs (.eq (.elem (.static "PaintBank$Word" "ALL" "[LPaintBank$Word;") (.int 5)) (.static "PaintBank$Word" "BAD" "LPaintBank$Word;")) (by decide +kernel)) ea5
    | 6, _ => exact va_eqv (hs (.eq (.elem (.static "PaintBank$Word" "ALL" "[LPaintBank$Word;") (.int 6)) (.static "PaintBank$Word" "WINDOW" "LPaintBank$Word;")) (by decide +kernel)) ea6
    | 7, _ => exact va_eqv (hs (.eq (.elem (.static "PaintBank$Word" "ALL" "[LPaintBank$Word;") (.int 7)) (.static "PaintBank$Word" "BATCH" "LPaintBank$Word;")) (by decide +kernel)) ea7
    | 8, _ => exact va_eqv (hs (.eq (.elem (.static "PaintBank$Word" "ALL" "[LPaintBank$Word;") (.int 8)) (.static "PaintBank$Word" "PURGE" "LPaintBank$Word;")) (by decide +kernel)) ea8
    | 9, _ => exact va_eqv (hs (.eq (.elem (.static "PaintBank$Word" "ALL" "[LPaintBank$Word;") (.int 9)) (.static "PaintBank$Word" "REWORK" "LPaintBank$Word;")) (by decide +kernel)) ea9
    | 10, _ => exact va_eqv (hs (.eq (.elem (.static "PaintBank$Word" "ALL" "[LPaintBank$Word;") (.int 10)) (.static "PaintBank$Word" "DELAY" "LPaintBank$Word;")) (by decide +kernel)) ea10
    | 11, _ => exact va_eqv (hs (.eq (.elem (.static "PaintBank$Word" "ALL" "[LPaintBank$Word;") (.int 11)) (.static "PaintBank$Word" "SPAN" "LPaintBank$Word;")) (by decide +kernel)) ea11
    | 12, _ => exact va_eqv (hs (.eq (.elem (.static "PaintBank$Word" "ALL" "[LPaintBank$Word;") (.int 12)) (.static "PaintBank$Word" "ENTER" "LPaintBank$Word;")) (by decide +kernel)) ea12
    | 13, _ => exact va_eqv (hs (.eq (.elem (.static "PaintBank$Word" "ALL" "[LPaintBank$Word;") (.int 13)) (.static "PaintBank$Word" "LEAVE" "LPaintBank$Word;")) (by decide +kernel)) ea13
    | 14, _ => exact va_eqv (hs (.eq (.elem (.static "PaintBank$Word" "ALL" "[LPaintBank$Word;") (.int 14)) (.static "PaintBank$Word" "BACK" "LPaintBank$Word;")) (by decide +kernel)) ea14
    | 15, _ => exact va_eqv (hs (.eq (.elem (.static "PaintBank$Word" "ALL" "[LPaintBank$Word;") (.int 15)) (.static "PaintBank$Word" "WAIT" "LPaintBank$Word;")) (by decide +kernel)) ea15
    | 16, _ => exact va_eqv (hs (.eq (.elem (.static "PaintBank$Word" "ALL" "[LPaintBank$Word;") (.int 16)) (.static "PaintBank$Word" "STEP" "LPaintBank$Word;")) (by decide +kernel)) ea16
    | 17, _ => exact va_eqv (hs (.eq (.elem (.static "PaintBank$Word" "ALL" "[LPaintBank$Word;") (.int 17)) (.static "PaintBank$Word" "UNLOAD" "LPaintBank$Word;")) (by decide +kernel)) ea17
    | 18, _ => exact va_eqv (hs (.eq (.elem (.static "PaintBank$Word" "ALL" "[LPaintBank$Word;") (.int 18)) (.static "PaintBank$Word" "SWAP" "LPaintBank$Word;")) (by decide +kernel)) ea18
    | 19, _ => exact va_eqv (hs (.eq (.elem (.static "PaintBank$Word" "ALL" "[LPaintBank$Word;") (.int 19)) (.static "PaintBank$Word" "REPEAT" "LPaintBank$Word;")) (by decide +kernel)) ea19
    | 20, _ => exact va_eqv (hs (.eq (.elem (.static "PaintBank$Word" "ALL" "[LPaintBank$Word;") (.int 20)) (.static "PaintBank$Word" "OTHER" "LPaintBank$Word;")) (by decide +kernel)) ea20
    | n + 21, hj => exact absurd hj (by omega)) hA
  obtain ⟨tS, etS, TS⟩ := va_Tof (tm := .static "PaintBank$1" "$SwitchMap$PaintBank$Word" "[I") (ty := .int) (N := 21) (f := fun j => md_xaS.getD j .null) (by decide) (hs _ (by decide +kernel)) (va_eqt (hs (.eq (.length (.static "PaintBank$1" "$SwitchMap$PaintBank$Word" "[I")) (.int 21)) (by decide +kernel))) (fun j hj => by
    match j, hj with
    | 0, _ => exact va_eqt (hs (.eq (.elem (.static "PaintBank$1" "$SwitchMap$PaintBank$Word" "[I") (.int 0)) (.int 1)) (by decide +kernel))
    | 1, _ => exact va_eqt (hs (.eq (.elem (.static "PaintBank$1" "$SwitchMap$PaintBank$Word" "[I") (.int 1)) (.int 0)) (by decide +kernel))
    | 2, _ => exact va_eqt (hs (.eq (.elem (.static "PaintBank$1" "$SwitchMap$PaintBank$Word" "[I") (.int 2)) (.int 2)) (by decide +kernel))
    | 3, _ => exact va_eqt (hs (.eq (.elem (.static "PaintBank$1" "$SwitchMap$PaintBank$Word" "[I") (.int 3)) (.int 3)) (by decide +kernel))
    | 4, _ => exact va_eqt (hs (.eq (.elem (.static "PaintBank$1" "$SwitchMap$PaintBank$Word" "[I") (.int 4)) (.int 0)) (by decide +kernel))
    | 5, _ => exact va_eqt (hs (.eq (.elem (.static "PaintBank$1" "$SwitchMap$PaintBank$Word" "[I") (.int 5)) (.int 0)) (by decide +kernel))
    | 6, _ => exact va_eqt (hs (.eq (.elem (.static "PaintBank$1" "$SwitchMap$PaintBank$Word" "[I") (.int 6)) (.int 4)) (by decide +kernel))
    | 7, _ => exact va_eqt (hs (.eq (.elem (.static "PaintBank$1" "$SwitchMap$PaintBank$Word" "[I") (.int 7)) (.int 5)) (by decide +kernel))
    | 8, _ => exact va_eqt (hs (.eq (.elem (.static "PaintBank$1" "$SwitchMap$PaintBank$Word" "[I") (.int 8)) (.int 0)) (by decide +kernel))
    | 9, _ => exact va_eqt (hs (.eq (.elem (.static "PaintBank$1" "$SwitchMap$PaintBank$Word" "[I") (.int 9)) (.int 6)) (by decide +kernel))
    | 10, _ => exact va_eqt (hs (.eq (.elem (.static "PaintBank$1" "$SwitchMap$PaintBank$Word" "[I") (.int 10)) (.int 0)) (by decide +kernel))
    | 11, _ => exact va_eqt (hs (.eq (.elem (.static "PaintBank$1" "$SwitchMap$PaintBank$Word" "[I") (.int 11)) (.int 7)) (by decide +kernel))
    | 12, _ => exact va_eqt (hs (.eq (.elem (.static "PaintBank$1" "$SwitchMap$PaintBank$Word" "[I") (.int 12)) (.int 8)) (by decide +kernel))
    | 13, _ => exact va_eqt (hs (.eq (.elem (.static "PaintBank$1" "$SwitchMap$PaintBank$Word" "[I") (.int 13)) (.int 9)) (by decide +kernel))
    | 14, _ => exact va_eqt (hs (.eq (.elem (.static "PaintBank$1" "$SwitchMap$PaintBank$Word" "[I") (.int 14)) (.int 10)) (by decide +kernel))
    | 15, _ => exact va_eqt (hs (.eq (.elem (.static "PaintBank$1" "$SwitchMap$PaintBank$Word" "[I") (.int 15)) (.int 11)) (by decide +kernel))
    | 16, _ => exact va_eqt (hs (.eq (.elem (.static "PaintBank$1" "$SwitchMap$PaintBank$Word" "[I") (.int 16)) (.int 12)) (by decide +kernel))
    | 17, _ => exact va_eqt (hs (.eq (.elem (.static "PaintBank$1" "$SwitchMap$PaintBank$Word" "[I") (.int 17)) (.int 13)) (by decide +kernel))
    | 18, _ => exact va_eqt (hs (.eq (.elem (.static "PaintBank$1" "$SwitchMap$PaintBank$Word" "[I") (.int 18)) (.int 14)) (by decide +kernel))
    | 19, _ => exact va_eqt (hs (.eq (.elem (.static "PaintBank$1" "$SwitchMap$PaintBank$Word" "[I") (.int 19)) (.int 0)) (by decide +kernel))
    | 20, _ => exact va_eqt (hs (.eq (.elem (.static "PaintBank$1" "$SwitchMap$PaintBank$Word" "[I") (.int 20)) (.int 0)) (by decide +kernel))
    | n + 21, hj => exact absurd hj (by omega)) hA
  obtain ⟨k0, ek0, ok0⟩ := md_exo (hs (.exactly (.string "PaintBankLaw$World" 70) "java/lang/String") (by decide +kernel)) hA
  obtain ⟨v0, ev0, Tv0⟩ := va_Tof (tm := .field (.string "PaintBankLaw$World" 70) "java/lang/String" "value" "[B") (ty := .byte) (N := 0) (f := fun j => md_xaT0.getD j .null) (by decide) (hs _ (by decide +kernel)) (va_eqt (hs (.eq (.length (.field (.string "PaintBankLaw$World" 70) "java/lang/String" "value" "[B")) (.int 0)) (by decide +kernel))) (fun j hj => by
    exact absurd hj (Nat.not_lt_zero j)) hA
  obtain ⟨k1, ek1, ok1⟩ := md_exo (hs (.exactly (.string "PaintBankLaw$World" 128) "java/lang/String") (by decide +kernel)) hA
  obtain ⟨v1, ev1, Tv1⟩ := va_Tof (tm := .field (.string "PaintBankLaw$World" 128) "java/lang/String" "value" "[B") (ty := .byte) (N := 6) (f := fun j => md_xaT1.getD j .null) (by decide) (hs _ (by decide +kernel)) (va_eqt (hs (.eq (.length (.field (.string "PaintBankLaw$World" 128) "java/lang/String" "value" "[B")) (.int 6)) (by decide +kernel))) (fun j hj => by
    match j, hj with
    | 0, _ => exact va_eqt (hs (.eq (.elem (.field (.string "PaintBankLaw$World" 128) "java/lang/String" "value" "[B") (.int 0)) (.int 99)) (by decide +kernel))
    | 1, _ => exact va_eqt (hs (.eq (.elem (.field (.string "PaintBankLaw$World" 128) "java/lang/String" "value" "[B") (.int 1)) (.int 111)) (by decide +kernel))
    | 2, _ => exact va_eqt (hs (.eq (.elem (.field (.string "PaintBankLaw$World" 128) "java/lang/String" "value" "[B") (.int 2)) (.int 108)) (by decide +kernel))
    | 3, _ => exact va_eqt (hs (.eq (.elem (.field (.string "PaintBankLaw$World" 128) "java/lang/String" "value" "[B") (.int 3)) (.int 111)) (by decide +kernel))
    | 4, _ => exact va_eqt (hs (.eq (.elem (.field (.string "PaintBankLaw$World" 128) "java/lang/String" "value" "[B") (.int 4)) (.int 114)) (by decide +kernel))
    | 5, _ => exact va_eqt (hs (.eq (.elem (.field (.string "PaintBankLaw$World" 128) "java/lang/String" "value" "[B") (.int 5)) (.int 32)) (by decide +kernel))
    | n + 6, hj => exact absurd hj (by omega)) hA
  obtain ⟨k2, ek2, ok2⟩ := md_exo (hs (.exactly (.string "PaintBankLaw$World" 102) "java/lang/String") (by decide +kernel)) hA
  obtain ⟨v2, ev2, Tv2⟩ := va_Tof (tm := .field (.string "PaintBankLaw$World" 102) "java/lang/String" "value" "[B") (ty := .byte) (N := 1) (f := fun j => md_xaT2.getD j .null) (by decide) (hs _ (by decide +kernel)) (va_eqt (hs (.eq (.length (.field (.string "PaintBankLaw$World" 102) "java/lang/String" "value" "[B")) (.int 1)) (by decide +kernel))) (fun j hj => by
    match j, hj with
    | 0, _ => exact va_eqt (hs (.eq (.elem (.field (.string "PaintBankLaw$World" 102) "java/lang/String" "value" "[B") (.int 0)) (.int 99)) (by decide +kernel))
    | n + 1, hj => exact absurd hj (by omega)) hA
  obtain ⟨k3, ek3, ok3⟩ := md_exo (hs (.exactly (.string "PaintBankLaw$World" 134) "java/lang/String") (by decide +kernel)) hA
  obtain ⟨v3, ev3, Tv3⟩ := va_Tof (tm := .field (.string "PaintBankLaw$World" 134) "java/lang/String" "value" "[B") (ty := .byte) (N := 8) (f := fun j => md_xaT3.getD j .null) (by decide) (hs _ (by decide +kernel)) (va_eqt (hs (.eq (.length (.field (.string "PaintBankLaw$World" 134) "java/lang/String" "value" "[B")) (.int 8)) (by decide +kernel))) (fun j hj => by
    match j, hj with
    | 0, _ => exact va_eqt (hs (.eq (.elem (.field (.string "PaintBankLaw$World" 134) "java/lang/String" "value" "[B") (.int 0)) (.int 32)) (by decide +kernel))
    | 1, _ => exact va_eqt (hs (.eq (.elem (.field (.string "PaintBankLaw$World" 134) "java/lang/String" "value" "[B") (.int 1)) (.int 99)) (by decide +kernel))
    | 2, _ => exact va_eqt (hs (.eq (.elem (.field (.string "PaintBankLaw$World" 134) "java/lang/String" "value" "[B") (.int 2)) (.int 104)) (by decide +kernel))
    | 3, _ => exact va_eqt (hs (.eq (.elem (.field (.string "PaintBankLaw$World" 134) "java/lang/String" "value" "[B") (.int 3)) (.int 97)) (by decide +kernel))
    | 4, _ => exact va_eqt (hs (.eq (.elem (.field (.string "PaintBankLaw$World" 134) "java/lang/String" "value" "[B") (.int 4)) (.int 110)) (by decide +kernel))
    | 5, _ => exact va_eqt (hs (.eq (.elem (.field (.string "PaintBankLaw$World" 134) "java/lang/String" "value" "[B") (.int 5)) (.int 103)) (by decide +kernel))
    | 6, _ => exact va_eqt (hs (.eq (.elem (.field (.string "PaintBankLaw$World" 134) "java/lang/String" "value" "[B") (.int 6)) (.int 101)) (by decide +kernel))
    | 7, _ => exact va_eqt (hs (.eq (.elem (.field (.string "PaintBankLaw$World" 134) "java/lang/String" "value" "[B") (.int 7)) (.int 32)) (by decide +kernel))
    | n + 8, hj => exact absurd hj (by omega)) hA
  obtain ⟨k4, ek4, ok4⟩ := md_exo (hs (.exactly (.string "PaintBankLaw$World" 91) "java/lang/String") (by decide +kernel)) hA
  obtain ⟨v4, ev4, Tv4⟩ := va_Tof (tm := .field (.string "PaintBankLaw$World" 91) "java/lang/String" "value" "[B") (ty := .byte) (N := 3) (f := fun j => md_xaT4.getD j .null) (by decide) (hs _ (by decide +kernel)) (va_eqt (hs (.eq (.length (.field (.string "PaintBankLaw$World" 91) "java/lang/String" "value" "[B")) (.int 3)) (by decide +kernel))) (fun j hj => by
    match j, hj with
    | 0, _ => exact va_eqt (hs (.eq (.elem (.field (.string "PaintBankLaw$World" 91) "java/lang/String" "value" "[B") (.int 0)) (.int 32)) (by decide +kernel))
    | 1, _ => exact va_eqt (hs (.eq (.elem (.field (.string "PaintBankLaw$World" 91) "java/lang/String" "value" "[B") (.int 1)) (.int 59)) (by decide +kernel))
    | 2, _ => exact va_eqt (hs (.eq (.elem (.field (.string "PaintBankLaw$World" 91) "java/lang/String" "value" "[B") (.int 2)) (.int 10)) (by decide +kernel))
    | n + 3, hj => exact absurd hj (by omega)) hA
  obtain ⟨k5, ek5, ok5⟩ := md_exo (hs (.exactly (.string "PaintBankLaw$World" 93) "java/lang/String") (by decide +kernel)) hA
  obtain ⟨v5, ev5, Tv5⟩ := va_Tof (tm := .field (.string "PaintBankLaw$World" 93) "java/lang/String" "value" "[B") (ty := .byte) (N := 1) (f := fun j => md_xaT5.getD j .null) (by decide) (hs _ (by decide +kernel)) (va_eqt (hs (.eq (.length (.field (.string "PaintBankLaw$World" 93) "java/lang/String" "value" "[B")) (.int 1)) (by decide +kernel))) (fun j hj => by
    match j, hj with
    | 0, _ => exact va_eqt (hs (.eq (.elem (.field (.string "PaintBankLaw$World" 93) "java/lang/String" "value" "[B") (.int 0)) (.int 59)) (by decide +kernel))
    | n + 1, hj => exact absurd hj (by omega)) hA
  obtain ⟨k6, ek6, ok6⟩ := md_exo (hs (.exactly (.string "PaintBankLaw$World" 147) "java/lang/String") (by decide +kernel)) hA
  obtain ⟨v6, ev6, Tv6⟩ := va_Tof (tm := .field (.string "PaintBankLaw$World" 147) "java/lang/String" "value" "[B") (ty := .byte) (N := 5) (f := fun j => md_xaT6.getD j .null) (by decide) (hs _ (by decide +kernel)) (va_eqt (hs (.eq (.length (.field (.string "PaintBankLaw$World" 147) "java/lang/String" "value" "[B")) (.int 5)) (by decide +kernel))) (fun j hj => by
    match j, hj with
    | 0, _ => exact va_eqt (hs (.eq (.elem (.field (.string "PaintBankLaw$World" 147) "java/lang/String" "value" "[B") (.int 0)) (.int 108)) (by decide +kernel))
    | 1, _ => exact va_eqt (hs (.eq (.elem (.field (.string "PaintBankLaw$World" 147) "java/lang/String" "value" "[B") (.int 1)) (.int 97)) (by decide +kernel))
    | 2, _ => exact va_eqt (hs (.eq (.elem (.field (.string "PaintBankLaw$World" 147) "java/lang/String" "value" "[B") (.int 2)) (.int 110)) (by decide +kernel))
    | 3, _ => exact va_eqt (hs (.eq (.elem (.field (.string "PaintBankLaw$World" 147) "java/lang/String" "value" "[B") (.int 3)) (.int 101)) (by decide +kernel))
    | 4, _ => exact va_eqt (hs (.eq (.elem (.field (.string "PaintBankLaw$World" 147) "java/lang/String" "value" "[B") (.int 4)) (.int 32)) (by decide +kernel))
    | n + 5, hj => exact absurd hj (by omega)) hA
  obtain ⟨k7, ek7, ok7⟩ := md_exo (hs (.exactly (.string "PaintBankLaw$World" 156) "java/lang/String") (by decide +kernel)) hA
  obtain ⟨v7, ev7, Tv7⟩ := va_Tof (tm := .field (.string "PaintBankLaw$World" 156) "java/lang/String" "value" "[B") (ty := .byte) (N := 4) (f := fun j => md_xaT7.getD j .null) (by decide) (hs _ (by decide +kernel)) (va_eqt (hs (.eq (.length (.field (.string "PaintBankLaw$World" 156) "java/lang/String" "value" "[B")) (.int 4)) (by decide +kernel))) (fun j hj => by
    match j, hj with
    | 0, _ => exact va_eqt (hs (.eq (.elem (.field (.string "PaintBankLaw$World" 156) "java/lang/String" "value" "[B") (.int 0)) (.int 99)) (by decide +kernel))
    | 1, _ => exact va_eqt (hs (.eq (.elem (.field (.string "PaintBankLaw$World" 156) "java/lang/String" "value" "[B") (.int 1)) (.int 97)) (by decide +kernel))
    | 2, _ => exact va_eqt (hs (.eq (.elem (.field (.string "PaintBankLaw$World" 156) "java/lang/String" "value" "[B") (.int 2)) (.int 114)) (by decide +kernel))
    | 3, _ => exact va_eqt (hs (.eq (.elem (.field (.string "PaintBankLaw$World" 156) "java/lang/String" "value" "[B") (.int 3)) (.int 32)) (by decide +kernel))
    | n + 4, hj => exact absurd hj (by omega)) hA
  obtain ⟨k8, ek8, ok8⟩ := md_exo (hs (.exactly (.string "PaintBankLaw$World" 158) "java/lang/String") (by decide +kernel)) hA
  obtain ⟨v8, ev8, Tv8⟩ := va_Tof (tm := .field (.string "PaintBankLaw$World" 158) "java/lang/String" "value" "[B") (ty := .byte) (N := 6) (f := fun j => md_xaT8.getD j .null) (by decide) (hs _ (by decide +kernel)) (va_eqt (hs (.eq (.length (.field (.string "PaintBankLaw$World" 158) "java/lang/String" "value" "[B")) (.int 6)) (by decide +kernel))) (fun j hj => by
    match j, hj with
    | 0, _ => exact va_eqt (hs (.eq (.elem (.field (.string "PaintBankLaw$World" 158) "java/lang/String" "value" "[B") (.int 0)) (.int 32)) (by decide +kernel))
    | 1, _ => exact va_eqt (hs (.eq (.elem (.field (.string "PaintBankLaw$World" 158) "java/lang/String" "value" "[B") (.int 1)) (.int 98)) (by decide +kernel))
    | 2, _ => exact va_eqt (hs (.eq (.elem (.field (.string "PaintBankLaw$World" 158) "java/lang/String" "value" "[B") (.int 2)) (.int 111)) (by decide +kernel))
    | 3, _ => exact va_eqt (hs (.eq (.elem (.field (.string "PaintBankLaw$World" 158) "java/lang/String" "value" "[B") (.int 3)) (.int 100)) (by decide +kernel))
    | 4, _ => exact va_eqt (hs (.eq (.elem (.field (.string "PaintBankLaw$World" 158) "java/lang/String" "value" "[B") (.int 4)) (.int 121)) (by decide +kernel))
    | 5, _ => exact va_eqt (hs (.eq (.elem (.field (.string "PaintBankLaw$World" 158) "java/lang/String" "value" "[B") (.int 5)) (.int 32)) (by decide +kernel))
    | n + 6, hj => exact absurd hj (by omega)) hA
  obtain ⟨k9, ek9, ok9⟩ := md_exo (hs (.exactly (.string "PaintBankLaw$World" 160) "java/lang/String") (by decide +kernel)) hA
  obtain ⟨v9, ev9, Tv9⟩ := va_Tof (tm := .field (.string "PaintBankLaw$World" 160) "java/lang/String" "value" "[B") (ty := .byte) (N := 5) (f := fun j => md_xaT9.getD j .null) (by decide) (hs _ (by decide +kernel)) (va_eqt (hs (.eq (.length (.field (.string "PaintBankLaw$World" 160) "java/lang/String" "value" "[B")) (.int 5)) (by decide +kernel))) (fun j hj => by
    match j, hj with
    | 0, _ => exact va_eqt (hs (.eq (.elem (.field (.string "PaintBankLaw$World" 160) "java/lang/String" "value" "[B") (.int 0)) (.int 32)) (by decide +kernel))
    | 1, _ => exact va_eqt (hs (.eq (.elem (.field (.string "PaintBankLaw$World" 160) "java/lang/String" "value" "[B") (.int 1)) (.int 98)) (by decide +kernel))
    | 2, _ => exact va_eqt (hs (.eq (.elem (.field (.string "PaintBankLaw$World" 160) "java/lang/String" "value" "[B") (.int 2)) (.int 97)) (by decide +kernel))
    | 3, _ => exact va_eqt (hs (.eq (.elem (.field (.string "PaintBankLaw$World" 160) "java/lang/String" "value" "[B") (.int 3)) (.int 100)) (by decide +kernel))
    | 4, _ => exact va_eqt (hs (.eq (.elem (.field (.string "PaintBankLaw$World" 160) "java/lang/String" "value" "[B") (.int 4)) (.int 32)) (by decide +kernel))
    | n + 5, hj => exact absurd hj (by omega)) hA
  obtain ⟨k10, ek10, ok10⟩ := md_exo (hs (.exactly (.string "PaintBankLaw$World" 165) "java/lang/String") (by decide +kernel)) hA
  obtain ⟨v10, ev10, Tv10⟩ := va_Tof (tm := .field (.string "PaintBankLaw$World" 165) "java/lang/String" "value" "[B") (ty := .byte) (N := 7) (f := fun j => md_xaT10.getD j .null) (by decide) (hs _ (by decide +kernel)) (va_eqt (hs (.eq (.length (.field (.string "PaintBankLaw$World" 165) "java/lang/String" "value" "[B")) (.int 7)) (by decide +kernel))) (fun j hj => by
    match j, hj with
    | 0, _ => exact va_eqt (hs (.eq (.elem (.field (.string "PaintBankLaw$World" 165) "java/lang/String" "value" "[B") (.int 0)) (.int 119)) (by decide +kernel))
    | 1, _ => exact va_eqt (hs (.eq (.elem (.field (.string "PaintBankLaw$World" 165) "java/lang/String" "value" "[B") (.int 1)) (.int 105)) (by decide +kernel))
    | 2, _ => exact va_eqt (hs (.eq (.elem (.field (.string "PaintBankLaw$World" 165) "java/lang/String" "value" "[B") (.int 2)) (.int 110)) (by decide +kernel))
    | 3, _ => exact va_eqt (hs (.eq (.elem (.field (.string "PaintBankLaw$World" 165) "java/lang/String" "value" "[B") (.int 3)) (.int 100)) (by decide +kernel))
    | 4, _ => exact va_eqt (hs (.eq (.elem (.field (.string "PaintBankLaw$World" 165) "java/lang/String" "value" "[B") (.int 4)) (.int 111)) (by decide +kernel))
    | 5, _ => exact va_eqt (hs (.eq (.elem (.field (.string "PaintBankLaw$World" 165) "java/lang/String" "value" "[B") (.int 5)) (.int 119)) (by decide +kernel))
    | 6, _ => exact va_eqt (hs (.eq (.elem (.field (.string "PaintBankLaw$World" 165) "java/lang/String" "value" "[B") (.int 6)) (.int 32)) (by decide +kernel))
    | n + 7, hj => exact absurd hj (by omega)) hA
  obtain ⟨k11, ek11, ok11⟩ := md_exo (hs (.exactly (.string "PaintBankLaw$World" 167) "java/lang/String") (by decide +kernel)) hA
  obtain ⟨v11, ev11, Tv11⟩ := va_Tof (tm := .field (.string "PaintBankLaw$World" 167) "java/lang/String" "value" "[B") (ty := .byte) (N := 1) (f := fun j => md_xaT11.getD j .null) (by decide) (hs _ (by decide +kernel)) (va_eqt (hs (.eq (.length (.field (.string "PaintBankLaw$World" 167) "java/lang/String" "value" "[B")) (.int 1)) (by decide +kernel))) (fun j hj => by
    match j, hj with
    | 0, _ => exact va_eqt (hs (.eq (.elem (.field (.string "PaintBankLaw$World" 167) "java/lang/String" "value" "[B") (.int 0)) (.int 32)) (by decide +kernel))
    | n + 1, hj => exact absurd hj (by omega)) hA
  obtain ⟨k12, ek12, ok12⟩ := md_exo (hs (.exactly (.string "PaintBankLaw$World" 169) "java/lang/String") (by decide +kernel)) hA
  obtain ⟨v12, ev12, Tv12⟩ := va_Tof (tm := .field (.string "PaintBankLaw$World" 169) "java/lang/String" "value" "[B") (ty := .byte) (N := 6) (f := fun j => md_xaT12.getD j .null) (by decide) (hs _ (by decide +kernel)) (va_eqt (hs (.eq (.length (.field (.string "PaintBankLaw$World" 169) "java/lang/String" "value" "[B")) (.int 6)) (by decide +kernel))) (fun j hj => by
    match j, hj with
    | 0, _ => exact va_eqt (hs (.eq (.elem (.field (.string "PaintBankLaw$World" 169) "java/lang/String" "value" "[B") (.int 0)) (.int 98)) (by decide +kernel))
    | 1, _ => exact va_eqt (hs (.eq (.elem (.field (.string "PaintBankLaw$World" 169) "java/lang/String" "value" "[B") (.int 1)) (.int 97)) (by decide +kernel))
    | 2, _ => exact va_eqt (hs (.eq (.elem (.field (.string "PaintBankLaw$World" 169) "java/lang/String" "value" "[B") (.int 2)) (.int 116)) (by decide +kernel))
    | 3, _ => exact va_eqt (hs (.eq (.elem (.field (.string "PaintBankLaw$World" 169) "java/lang/String" "value" "[B") (.int 3)) (.int 99)) (by decide +kernel))
    | 4, _ => exact va_eqt (hs (.eq (.elem (.field (.string "PaintBankLaw$World" 169) "java/lang/String" "value" "[B") (.int 4)) (.int 104)) (by decide +kernel))
    | 5, _ => exact va_eqt (hs (.eq (.elem (.field (.string "PaintBankLaw$World" 169) "java/lang/String" "value" "[B") (.int 5)) (.int 32)) (by decide +kernel))
    | n + 6, hj => exact absurd hj (by omega)) hA
  obtain ⟨k13, ek13, ok13⟩ := md_exo (hs (.exactly (.string "PaintBankLaw$World" 171) "java/lang/String") (by decide +kernel)) hA
  obtain ⟨v13, ev13, Tv13⟩ := va_Tof (tm := .field (.string "PaintBankLaw$World" 171) "java/lang/String" "value" "[B") (ty := .byte) (N := 7) (f := fun j => md_xaT13.getD j .null) (by decide) (hs _ (by decide +kernel)) (va_eqt (hs (.eq (.length (.field (.string "PaintBankLaw$World" 171) "java/lang/String" "value" "[B")) (.int 7)) (by decide +kernel))) (fun j hj => by
    match j, hj with
    | 0, _ => exact va_eqt (hs (.eq (.elem (.field (.string "PaintBankLaw$World" 171) "java/lang/String" "value" "[B") (.int 0)) (.int 32)) (by decide +kernel))
    | 1, _ => exact va_eqt (hs (.eq (.elem (.field (.string "PaintBankLaw$World" 171) "java/lang/String" "value" "[B") (.int 1)) (.int 112)) (by decide +kernel))
    | 2, _ => exact va_eqt (hs (.eq (.elem (.field (.string "PaintBankLaw$World" 171) "java/lang/String" "value" "[B") (.int 2)) (.int 117)) (by decide +kernel))
    | 3, _ => exact va_eqt (hs (.eq (.elem (.field (.string "PaintBankLaw$World" 171) "java/lang/String" "value" "[B") (.int 3)) (.int 114)) (by decide +kernel))
    | 4, _ => exact va_eqt (hs (.eq (.elem (.field (.string "PaintBankLaw$World" 171) "java/lang/String" "value" "[B") (.int 4)) (.int 103)) (by decide +kernel))
    | 5, _ => exact va_eqt (hs (.eq (.elem (.field (.string "PaintBankLaw$World" 171) "java/lang/String" "value" "[B") (.int 5)) (.int 101)) (by decide +kernel))
    | 6, _ => exact va_eqt (hs (.eq (.elem (.field (.string "PaintBankLaw$World" 171) "java/lang/String" "value" "[B") (.int 6)) (.int 32)) (by decide +kernel))
    | n + 7, hj => exact absurd hj (by omega)) hA
  obtain ⟨k14, ek14, ok14⟩ := md_exo (hs (.exactly (.string "PaintBankLaw$World" 176) "java/lang/String") (by decide +kernel)) hA
  obtain ⟨v14, ev14, Tv14⟩ := va_Tof (tm := .field (.string "PaintBankLaw$World" 176) "java/lang/String" "value" "[B") (ty := .byte) (N := 7) (f := fun j => md_xaT14.getD j .null) (by decide) (hs _ (by decide +kernel)) (va_eqt (hs (.eq (.length (.field (.string "PaintBankLaw$World" 176) "java/lang/String" "value" "[B")) (.int 7)) (by decide +kernel))) (fun j hj => by
    match j, hj with
    | 0, _ => exact va_eqt (hs (.eq (.elem (.field (.string "PaintBankLaw$World" 176) "java/lang/String" "value" "[B") (.int 0)) (.int 114)) (by decide +kernel))
    | 1, _ => exact va_eqt (hs (.eq (.elem (.field (.string "PaintBankLaw$World" 176) "java/lang/String" "value" "[B") (.int 1)) (.int 101)) (by decide +kernel))
    | 2, _ => exact va_eqt (hs (.eq (.elem (.field (.string "PaintBankLaw$World" 176) "java/lang/String" "value" "[B") (.int 2)) (.int 119)) (by decide +kernel))
    | 3, _ => exact va_eqt (hs (.eq (.elem (.field (.string "PaintBankLaw$World" 176) "java/lang/String" "value" "[B") (.int 3)) (.int 111)) (by decide +kernel))
    | 4, _ => exact va_eqt (hs (.eq (.elem (.field (.string "PaintBankLaw$World" 176) "java/lang/String" "value" "[B") (.int 4)) (.int 114)) (by decide +kernel))
    | 5, _ => exact va_eqt (hs (.eq (.elem (.field (.string "PaintBankLaw$World" 176) "java/lang/String" "value" "[B") (.int 5)) (.int 107)) (by decide +kernel))
    | 6, _ => exact va_eqt (hs (.eq (.elem (.field (.string "PaintBankLaw$World" 176) "java/lang/String" "value" "[B") (.int 6)) (.int 32)) (by decide +kernel))
    | n + 7, hj => exact absurd hj (by omega)) hA
  obtain ⟨k15, ek15, ok15⟩ := md_exo (hs (.exactly (.string "PaintBankLaw$World" 178) "java/lang/String") (by decide +kernel)) hA
  obtain ⟨v15, ev15, Tv15⟩ := va_Tof (tm := .field (.string "PaintBankLaw$World" 178) "java/lang/String" "value" "[B") (ty := .byte) (N := 7) (f := fun j => md_xaT15.getD j .null) (by decide) (hs _ (by decide +kernel)) (va_eqt (hs (.eq (.length (.field (.string "PaintBankLaw$World" 178) "java/lang/String" "value" "[B")) (.int 7)) (by decide +kernel))) (fun j hj => by
    match j, hj with
    | 0, _ => exact va_eqt (hs (.eq (.elem (.field (.string "PaintBankLaw$World" 178) "java/lang/String" "value" "[B") (.int 0)) (.int 32)) (by decide +kernel))
    | 1, _ => exact va_eqt (hs (.eq (.elem (.field (.string "PaintBankLaw$World" 178) "java/lang/String" "value" "[B") (.int 1)) (.int 100)) (by decide +kernel))
    | 2, _ => exact va_eqt (hs (.eq (.elem (.field (.string "PaintBankLaw$World" 178) "java/lang/String" "value" "[B") (.int 2)) (.int 101)) (by decide +kernel))
    | 3, _ => exact va_eqt (hs (.eq (.elem (.field (.string "PaintBankLaw$World" 178) "java/lang/String" "value" "[B") (.int 3)) (.int 108)) (by decide +kernel))
    | 4, _ => exact va_eqt (hs (.eq (.elem (.field (.string "PaintBankLaw$World" 178) "java/lang/String" "value" "[B") (.int 4)) (.int 97)) (by decide +kernel))
    | 5, _ => exact va_eqt (hs (.eq (.elem (.field (.string "PaintBankLaw$World" 178) "java/lang/String" "value" "[B") (.int 5)) (.int 121)) (by decide +kernel))
    | 6, _ => exact va_eqt (hs (.eq (.elem (.field (.string "PaintBankLaw$World" 178) "java/lang/String" "value" "[B") (.int 6)) (.int 32)) (by decide +kernel))
    | n + 7, hj => exact absurd hj (by omega)) hA
  obtain ⟨k16, ek16, ok16⟩ := md_exo (hs (.exactly (.string "PaintBankLaw$World" 180) "java/lang/String") (by decide +kernel)) hA
  obtain ⟨v16, ev16, Tv16⟩ := va_Tof (tm := .field (.string "PaintBankLaw$World" 180) "java/lang/String" "value" "[B") (ty := .byte) (N := 5) (f := fun j => md_xaT16.getD j .null) (by decide) (hs _ (by decide +kernel)) (va_eqt (hs (.eq (.length (.field (.string "PaintBankLaw$World" 180) "java/lang/String" "value" "[B")) (.int 5)) (by decide +kernel))) (fun j hj => by
    match j, hj with
    | 0, _ => exact va_eqt (hs (.eq (.elem (.field (.string "PaintBankLaw$World" 180) "java/lang/String" "value" "[B") (.int 0)) (.int 115)) (by decide +kernel))
    | 1, _ => exact va_eqt (hs (.eq (.elem (.field (.string "PaintBankLaw$World" 180) "java/lang/String" "value" "[B") (.int 1)) (.int 112)) (by decide +kernel))
    | 2, _ => exact va_eqt (hs (.eq (.elem (.field (.string "PaintBankLaw$World" 180) "java/lang/String" "value" "[B") (.int 2)) (.int 97)) (by decide +kernel))
    | 3, _ => exact va_eqt (hs (.eq (.elem (.field (.string "PaintBankLaw$World" 180) "java/lang/String" "value" "[B") (.int 3)) (.int 110)) (by decide +kernel))
    | 4, _ => exact va_eqt (hs (.eq (.elem (.field (.string "PaintBankLaw$World" 180) "java/lang/String" "value" "[B") (.int 4)) (.int 32)) (by decide +kernel))
    | n + 5, hj => exact absurd hj (by omega)) hA
  obtain ⟨m0, em0, om0⟩ := md_exo (hs (.exactly (.string "PaintBank" 117) "java/lang/String") (by decide +kernel)) hA
  obtain ⟨m1, em1, om1⟩ := md_exo (hs (.exactly (.string "PaintBank" 376) "java/lang/String") (by decide +kernel)) hA
  obtain ⟨m2, em2, om2⟩ := md_exo (hs (.exactly (.string "java/lang/String" 1005) "java/lang/String") (by decide +kernel)) hA
  obtain ⟨m3, em3, om3⟩ := md_exo (hs (.exactly (.string "java/lang/Throwable" 81) "java/lang/String") (by decide +kernel)) hA
  obtain ⟨m4, em4, om4⟩ := md_exo (hs (.exactly (.string "PaintBank" 99) "java/lang/String") (by decide +kernel)) hA
  obtain ⟨m5, em5, om5⟩ := md_exo (hs (.exactly (.string "PaintBank" 110) "java/lang/String") (by decide +kernel)) hA
  obtain ⟨m6, em6, om6⟩ := md_exo (hs (.exactly (.string "PaintBank" 374) "java/lang/String") (by decide +kernel)) hA
  obtain ⟨m7, em7, om7⟩ := md_exo (hs (.exactly (.string "PaintBank" 347) "java/lang/String") (by decide +kernel)) hA
  obtain ⟨m8, em8, om8⟩ := md_exo (hs (.exactly (.string "PaintBank" 349) "java/lang/String") (by decide +kernel)) hA
  obtain ⟨m9, em9, om9⟩ := md_exo (hs (.exactly (.string "PaintBank$Word" 184) "java/lang/String") (by decide +kernel)) hA
  obtain ⟨m10, em10, om10⟩ := md_exo (hs (.exactly (.string "PaintBank$Word" 124) "java/lang/String") (by decide +kernel)) hA
  obtain ⟨m11, em11, om11⟩ := md_exo (hs (.exactly (.string "PaintBank$Word" 133) "java/lang/String") (by decide +kernel)) hA
  obtain ⟨m12, em12, om12⟩ := md_exo (hs (.exactly (.string "PaintBank$Word" 136) "java/lang/String") (by decide +kernel)) hA
  obtain ⟨m13, em13, om13⟩ := md_exo (hs (.exactly (.string "PaintBank$Word" 145) "java/lang/String") (by decide +kernel)) hA
  obtain ⟨m14, em14, om14⟩ := md_exo (hs (.exactly (.string "PaintBank$Word" 151) "java/lang/String") (by decide +kernel)) hA
  obtain ⟨m15, em15, om15⟩ := md_exo (hs (.exactly (.string "PaintBank$Word" 118) "java/lang/String") (by decide +kernel)) hA
  obtain ⟨m16, em16, om16⟩ := md_exo (hs (.exactly (.string "PaintBank$Word" 127) "java/lang/String") (by decide +kernel)) hA
  obtain ⟨m17, em17, om17⟩ := md_exo (hs (.exactly (.string "PaintBank$Word" 130) "java/lang/String") (by decide +kernel)) hA
  obtain ⟨m18, em18, om18⟩ := md_exo (hs (.exactly (.string "PaintBank$Word" 139) "java/lang/String") (by decide +kernel)) hA
  obtain ⟨m19, em19, om19⟩ := md_exo (hs (.exactly (.string "PaintBank$Word" 142) "java/lang/String") (by decide +kernel)) hA
  obtain ⟨m20, em20, om20⟩ := md_exo (hs (.exactly (.string "PaintBank$Word" 148) "java/lang/String") (by decide +kernel)) hA
  obtain ⟨m21, em21, om21⟩ := md_exo (hs (.exactly (.string "PaintBank$Word" 154) "java/lang/String") (by decide +kernel)) hA
  obtain ⟨m22, em22, om22⟩ := md_exo (hs (.exactly (.string "PaintBank$Word" 157) "java/lang/String") (by decide +kernel)) hA
  obtain ⟨m23, em23, om23⟩ := md_exo (hs (.exactly (.string "PaintBank$Word" 163) "java/lang/String") (by decide +kernel)) hA
  obtain ⟨m24, em24, om24⟩ := md_exo (hs (.exactly (.string "PaintBank$Word" 166) "java/lang/String") (by decide +kernel)) hA
  obtain ⟨m25, em25, om25⟩ := md_exo (hs (.exactly (.string "PaintBank$Word" 169) "java/lang/String") (by decide +kernel)) hA
  obtain ⟨m26, em26, om26⟩ := md_exo (hs (.exactly (.string "PaintBank$Word" 172) "java/lang/String") (by decide +kernel)) hA
  obtain ⟨m27, em27, om27⟩ := md_exo (hs (.exactly (.string "PaintBank$Word" 175) "java/lang/String") (by decide +kernel)) hA
  obtain ⟨m28, em28, om28⟩ := md_exo (hs (.exactly (.string "PaintBank$Word" 178) "java/lang/String") (by decide +kernel)) hA
  obtain ⟨m29, em29, om29⟩ := md_exo (hs (.exactly (.string "PaintBank$Word" 181) "java/lang/String") (by decide +kernel)) hA
  obtain ⟨g0, eg0, Tg0⟩ := va_Tof (tm := .static "java/lang/Integer" "DigitOnes" "[B") (ty := .byte) (N := 100) (f := fun j => md_xaD0.getD j .null) (by decide) (hs _ (by decide +kernel)) (va_eqt (hs (.eq (.length (.static "java/lang/Integer" "DigitOnes" "[B")) (.int 100)) (by decide +kernel))) (fun j hj => by
    match j, hj with
    | 0, _ => exact va_eqt (hs (.eq (.elem (.static "java/lang/Integer" "DigitOnes" "[B") (.int 0)) (.int 48)) (by decide +kernel))
    | 1, _ => exact va_eqt (hs (.eq (.elem (.static "java/lang/Integer" "DigitOnes" "[B") (.int 1)) (.int 49)) (by decide +kernel))
    | 2, _ => exact va_eqt (hs (.eq (.elem (.static "java/lang/Integer" "DigitOnes" "[B") (.int 2)) (.int 50)) (by decide +kernel))
    | 3, _ => exact va_eqt (hs (.eq (.elem (.static "java/lang/Integer" "DigitOnes" "[B") (.int 3)) (.int 51)) (by decide +kernel))
    | 4, _ => exact va_eqt (hs (.eq (.elem (.static "java/lang/Integer" "DigitOnes" "[B") (.int 4)) (.int 52)) (by decide +kernel))
    | 5, _ => exact va_eqt (hs (.eq (.elem (.static "java/lang/Integer" "DigitOnes" "[B") (.int 5)) (.int 53)) (by decide +kernel))
    | 6, _ => exact va_eqt (hs (.eq (.elem (.static "java/lang/Integer" "DigitOnes" "[B") (.int 6)) (.int 54)) (by decide +kernel))
    | 7, _ => exact va_eqt (hs (.eq (.elem (.static "java/lang/Integer" "DigitOnes" "[B") (.int 7)) (.int 55)) (by decide +kernel))
    | 8, _ => exact va_eqt (hs (.eq (.elem (.static "java/lang/Integer" "DigitOnes" "[B") (.int 8)) (.int 56)) (by decide +kernel))
    | 9, _ => exact va_eqt (hs (.eq (.elem (.static "java/lang/Integer" "DigitOnes" "[B") (.int 9)) (.int 57)) (by decide +kernel))
    | 10, _ => exact va_eqt (hs (.eq (.elem (.static "java/lang/Integer" "DigitOnes" "[B") (.int 10)) (.int 48)) (by decide +kernel))
    | 11, _ => exact va_eqt (hs (.eq (.elem (.static "java/lang/Integer" "DigitOnes" "[B") (.int 11)) (.int 49)) (by decide +kernel))
    | 12, _ => exact va_eqt (hs (.eq (.elem (.static "java/lang/Integer" "DigitOnes" "[B") (.int 12)) (.int 50)) (by decide +kernel))
    | 13, _ => exact va_eqt (hs (.eq (.elem (.static "java/lang/Integer" "DigitOnes" "[B") (.int 13)) (.int 51)) (by decide +kernel))
    | 14, _ => exact va_eqt (hs (.eq (.elem (.static "java/lang/Integer" "DigitOnes" "[B") (.int 14)) (.int 52)) (by decide +kernel))
    | 15, _ => exact va_eqt (hs (.eq (.elem (.static "java/lang/Integer" "DigitOnes" "[B") (.int 15)) (.int 53)) (by decide +kernel))
    | 16, _ => exact va_eqt (hs (.eq (.elem (.static "java/lang/Integer" "DigitOnes" "[B") (.int 16)) (.int 54)) (by decide +kernel))
    | 17, _ => exact va_eqt (hs (.eq (.elem (.static "java/lang/Integer" "DigitOnes" "[B") (.int 17)) (.int 55)) (by decide +kernel))
    | 18, _ => exact va_eqt (hs (.eq (.elem (.static "java/lang/Integer" "DigitOnes" "[B") (.int 18)) (.int 56)) (by decide +kernel))
    | 19, _ => exact va_eqt (hs (.eq (.elem (.static "java/lang/Integer" "DigitOnes" "[B") (.int 19)) (.int 57)) (by decide +kernel))
    | 20, _ => exact va_eqt (hs (.eq (.elem (.static "java/lang/Integer" "DigitOnes" "[B") (.int 20)) (.int 48)) (by decide +kernel))
    | 21, _ => exact va_eqt (hs (.eq (.elem (.static "java/lang/Integer" "DigitOnes" "[B") (.int 21)) (.int 49)) (by decide +kernel))
    | 22, _ => exact va_eqt (hs (.eq (.elem (.static "java/lang/Integer" "DigitOnes" "[B") (.int 22)) (.int 50)) (by decide +kernel))
    | 23, _ => exact va_eqt (hs (.eq (.elem (.static "java/lang/Integer" "DigitOnes" "[B") (.int 23)) (.int 51)) (by decide +kernel))
    | 24, _ => exact va_eqt (hs (.eq (.elem (.static "java/lang/Integer" "DigitOnes" "[B") (.int 24)) (.int 52)) (by decide +kernel))
    | 25, _ => exact va_eqt (hs (.eq (.elem (.static "java/lang/Integer" "DigitOnes" "[B") (.int 25)) (.int 53)) (by decide +kernel))
    | 26, _ => exact va_eqt (hs (.eq (.elem (.static "java/lang/Integer" "DigitOnes" "[B") (.int 26)) (.int 54)) (by decide +kernel))
    | 27, _ => exact va_eqt (hs (.eq (.elem (.static "java/lang/Integer" "DigitOnes" "[B") (.int 27)) (.int 55)) (by decide +kernel))
    | 28, _ => exact va_eqt (hs (.eq (.elem (.static "java/lang/Integer" "DigitOnes" "[B") (.int 28)) (.int 56)) (by decide +kernel))
    | 29, _ => exact va_eqt (hs (.eq (.elem (.static "java/lang/Integer" "DigitOnes" "[B") (.int 29)) (.int 57)) (by decide +kernel))
    | 30, _ => exact va_eqt (hs (.eq (.elem (.static "java/lang/Integer" "DigitOnes" "[B") (.int 30)) (.int 48)) (by decide +kernel))
    | 31, _ => exact va_eqt (hs (.eq (.elem (.static "java/lang/Integer" "DigitOnes" "[B") (.int 31)) (.int 49)) (by decide +kernel))
    | 32, _ => exact va_eqt (hs (.eq (.elem (.static "java/lang/Integer" "DigitOnes" "[B") (.int 32)) (.int 50)) (by decide +kernel))
    | 33, _ => exact va_eqt (hs (.eq (.elem (.static "java/lang/Integer" "DigitOnes" "[B") (.int 33)) (.int 51)) (by decide +kernel))
    | 34, _ => exact va_eqt (hs (.eq (.elem (.static "java/lang/Integer" "DigitOnes" "[B") (.int 34)) (.int 52)) (by decide +kernel))
    | 35, _ => exact va_eqt (hs (.eq (.elem (.static "java/lang/Integer" "DigitOnes" "[B") (.int 35)) (.int 53)) (by decide +kernel))
    | 36, _ => exact va_eqt (hs (.eq (.elem (.static "java/lang/Integer" "DigitOnes" "[B") (.int 36)) (.int 54)) (by decide +kernel))
    | 37, _ => exact va_eqt (hs (.eq (.elem (.static "java/lang/Integer" "DigitOnes" "[B") (.int 37)) (.int 55)) (by decide +kernel))
    | 38, _ => exact va_eqt (hs (.eq (.elem (.static "java/lang/Integer" "DigitOnes" "[B") (.int 38)) (.int 56)) (by decide +kernel))
    | 39, _ => exact va_eqt (hs (.eq (.elem (.static "java/lang/Integer" "DigitOnes" "[B") (.int 39)) (.int 57)) (by decide +kernel))
    | 40, _ => exact va_eqt (hs (.eq (.elem (.static "java/lang/Integer" "DigitOnes" "[B") (.int 40)) (.int 48)) (by decide +kernel))
    | 41, _ => exact va_eqt (hs (.eq (.elem (.static "java/lang/Integer" "DigitOnes" "[B") (.int 41)) (.int 49)) (by decide +kernel))
    | 42, _ => exact va_eqt (hs (.eq (.elem (.static "java/lang/Integer" "DigitOnes" "[B") (.int 42)) (.int 50)) (by decide +kernel))
    | 43, _ => exact va_eqt (hs (.eq (.elem (.static "java/lang/Integer" "DigitOnes" "[B") (.int 43)) (.int 51)) (by decide +kernel))
    | 44, _ => exact va_eqt (hs (.eq (.elem (.static "java/lang/Integer" "DigitOnes" "[B") (.int 44)) (.int 52)) (by decide +kernel))
    | 45, _ => exact va_eqt (hs (.eq (.elem (.static "java/lang/Integer" "DigitOnes" "[B") (.int 45)) (.int 53)) (by decide +kernel))
    | 46, _ => exact va_eqt (hs (.eq (.elem (.static "java/lang/Integer" "DigitOnes" "[B") (.int 46)) (.int 54)) (by decide +kernel))
    | 47, _ => exact va_eqt (hs (.eq (.elem (.static "java/lang/Integer" "DigitOnes" "[B") (.int 47)) (.int 55)) (by decide +kernel))
    | 48, _ => exact va_eqt (hs (.eq (.elem (.static "java/lang/Integer" "DigitOnes" "[B") (.int 48)) (.int 56)) (by decide +kernel))
    | 49, _ => exact va_eqt (hs (.eq (.elem (.static "java/lang/Integer" "DigitOnes" "[B") (.int 49)) (.int 57)) (by decide +kernel))
    | 50, _ => exact va_eqt (hs (.eq (.elem (.static "java/lang/Integer" "DigitOnes" "[B") (.int 50)) (.int 48)) (by decide +kernel))
    | 51, _ => exact va_eqt (hs (.eq (.elem (.static "java/lang/Integer" "DigitOnes" "[B") (.int 51)) (.int 49)) (by decide +kernel))
    | 52, _ => exact va_eqt (hs (.eq (.elem (.static "java/lang/Integer" "DigitOnes" "[B") (.int 52)) (.int 50)) (by decide +kernel))
    | 53, _ => exact va_eqt (hs (.eq (.elem (.static "java/lang/Integer" "DigitOnes" "[B") (.int 53)) (.int 51)) (by decide +kernel))
    | 54, _ => exact va_eqt (hs (.eq (.elem (.static "java/lang/Integer" "DigitOnes" "[B") (.int 54)) (.int 52)) (by decide +kernel))
    | 55, _ => exact va_eqt (hs (.eq (.elem (.static "java/lang/Integer" "DigitOnes" "[B") (.int 55)) (.int 53)) (by decide +kernel))
    | 56, _ => exact va_eqt (hs (.eq (.elem (.static "java/lang/Integer" "DigitOnes" "[B") (.int 56)) (.int 54)) (by decide +kernel))
    | 57, _ => exact va_eqt (hs (.eq (.elem (.static "java/lang/Integer" "DigitOnes" "[B") (.int 57)) (.int 55)) (by decide +kernel))
    | 58, _ => exact va_eqt (hs (.eq (.elem (.static "java/lang/Integer" "DigitOnes" "[B") (.int 58)) (.int 56)) (by decide +kernel))
    | 59, _ => exact va_eqt (hs (.eq (.elem (.static "java/lang/Integer" "DigitOnes" "[B") (.int 59)) (.int 57)) (by decide +kernel))
    | 60, _ => exact va_eqt (hs (.eq (.elem (.static "java/lang/Integer" "DigitOnes" "[B") (.int 60)) (.int 48)) (by decide +kernel))
    | 61, _ => exact va_eqt (hs (.eq (.elem (.static "java/lang/Integer" "DigitOnes" "[B") (.int 61)) (.int 49)) (by decide +kernel))
    | 62, _ => exact va_eqt (hs (.eq (.elem (.static "java/lang/Integer" "DigitOnes" "[B") (.int 62)) (.int 50)) (by decide +kernel))
    | 63, _ => exact va_eqt (hs (.eq (.elem (.static "java/lang/Integer" "DigitOnes" "[B") (.int 63)) (.int 51)) (by decide +kernel))
    | 64, _ => exact va_eqt (hs (.eq (.elem (.static "java/lang/Integer" "DigitOnes" "[B") (.int 64)) (.int 52)) (by decide +kernel))
    | 65, _ => exact va_eqt (hs (.eq (.elem (.static "java/lang/Integer" "DigitOnes" "[B") (.int 65)) (.int 53)) (by decide +kernel))
    | 66, _ => exact va_eqt (hs (.eq (.elem (.static "java/lang/Integer" "DigitOnes" "[B") (.int 66)) (.int 54)) (by decide +kernel))
    | 67, _ => exact va_eqt (hs (.eq (.elem (.static "java/lang/Integer" "DigitOnes" "[B") (.int 67)) (.int 55)) (by decide +kernel))
    | 68, _ => exact va_eqt (hs (.eq (.elem (.static "java/lang/Integer" "DigitOnes" "[B") (.int 68)) (.int 56)) (by decide +kernel))
    | 69, _ => exact va_eqt (hs (.eq (.elem (.static "java/lang/Integer" "DigitOnes" "[B") (.int 69)) (.int 57)) (by decide +kernel))
    | 70, _ => exact va_eqt (hs (.eq (.elem (.static "java/lang/Integer" "DigitOnes" "[B") (.int 70)) (.int 48)) (by decide +kernel))
    | 71, _ => exact va_eqt (hs (.eq (.elem (.static "java/lang/Integer" "DigitOnes" "[B") (.int 71)) (.int 49)) (by decide +kernel))
    | 72, _ => exact va_eqt (hs (.eq (.elem (.static "java/lang/Integer" "DigitOnes" "[B") (.int 72)) (.int 50)) (by decide +kernel))
    | 73, _ => exact va_eqt (hs (.eq (.elem (.static "java/lang/Integer" "DigitOnes" "[B") (.int 73)) (.int 51)) (by decide +kernel))
    | 74, _ => exact va_eqt (hs (.eq (.elem (.static "java/lang/Integer" "DigitOnes" "[B") (.int 74)) (.int 52)) (by decide +kernel))
    | 75, _ => exact va_eqt (hs (.eq (.elem (.static "java/lang/Integer" "DigitOnes" "[B") (.int 75)) (.int 53)) (by decide +kernel))
    | 76, _ => exact va_eqt (hs (.eq (.elem (.static "java/lang/Integer" "DigitOnes" "[B") (.int 76)) (.int 54)) (by decide +kernel))
    | 77, _ => exact va_eqt (hs (.eq (.elem (.static "java/lang/Integer" "DigitOnes" "[B") (.int 77)) (.int 55)) (by decide +kernel))
    | 78, _ => exact va_eqt (hs (.eq (.elem (.static "java/lang/Integer" "DigitOnes" "[B") (.int 78)) (.int 56)) (by decide +kernel))
    | 79, _ => exact va_eqt (hs (.eq (.elem (.static "java/lang/Integer" "DigitOnes" "[B") (.int 79)) (.int 57)) (by decide +kernel))
    | 80, _ => exact va_eqt (hs (.eq (.elem (.static "java/lang/Integer" "DigitOnes" "[B") (.int 80)) (.int 48)) (by decide +kernel))
    | 81, _ => exact va_eqt (hs (.eq (.elem (.static "java/lang/Integer" "DigitOnes" "[B") (.int 81)) (.int 49)) (by decide +kernel))
    | 82, _ => exact va_eqt (hs (.eq (.elem (.static "java/lang/Integer" "DigitOnes" "[B") (.int 82)) (.int 50)) (by decide +kernel))
    | 83, _ => exact va_eqt (hs (.eq (.elem (.static "java/lang/Integer" "DigitOnes" "[B") (.int 83)) (.int 51)) (by decide +kernel))
    | 84, _ => exact va_eqt (hs (.eq (.elem (.static "java/lang/Integer" "DigitOnes" "[B") (.int 84)) (.int 52)) (by decide +kernel))
    | 85, _ => exact va_eqt (hs (.eq (.elem (.static "java/lang/Integer" "DigitOnes" "[B") (.int 85)) (.int 53)) (by decide +kernel))
    | 86, _ => exact va_eqt (hs (.eq (.elem (.static "java/lang/Integer" "DigitOnes" "[B") (.int 86)) (.int 54)) (by decide +kernel))
    | 87, _ => exact va_eqt (hs (.eq (.elem (.static "java/lang/Integer" "DigitOnes" "[B") (.int 87)) (.int 55)) (by decide +kernel))
    | 88, _ => exact va_eqt (hs (.eq (.elem (.static "java/lang/Integer" "DigitOnes" "[B") (.int 88)) (.int 56)) (by decide +kernel))
    | 89, _ => exact va_eqt (hs (.eq (.elem (.static "java/lang/Integer" "DigitOnes" "[B") (.int 89)) (.int 57)) (by decide +kernel))
    | 90, _ => exact va_eqt (hs (.eq (.elem (.static "java/lang/Integer" "DigitOnes" "[B") (.int 90)) (.int 48)) (by decide +kernel))
    | 91, _ => exact va_eqt (hs (.eq (.elem (.static "java/lang/Integer" "DigitOnes" "[B") (.int 91)) (.int 49)) (by decide +kernel))
    | 92, _ => exact va_eqt (hs (.eq (.elem (.static "java/lang/Integer" "DigitOnes" "[B") (.int 92)) (.int 50)) (by decide +kernel))
    | 93, _ => exact va_eqt (hs (.eq (.elem (.static "java/lang/Integer" "DigitOnes" "[B") (.int 93)) (.int 51)) (by decide +kernel))
    | 94, _ => exact va_eqt (hs (.eq (.elem (.static "java/lang/Integer" "DigitOnes" "[B") (.int 94)) (.int 52)) (by decide +kernel))
    | 95, _ => exact va_eqt (hs (.eq (.elem (.static "java/lang/Integer" "DigitOnes" "[B") (.int 95)) (.int 53)) (by decide +kernel))
    | 96, _ => exact va_eqt (hs (.eq (.elem (.static "java/lang/Integer" "DigitOnes" "[B") (.int 96)) (.int 54)) (by decide +kernel))
    | 97, _ => exact va_eqt (hs (.eq (.elem (.static "java/lang/Integer" "DigitOnes" "[B") (.int 97)) (.int 55)) (by decide +kernel))
    | 98, _ => exact va_eqt (hs (.eq (.elem (.static "java/lang/Integer" "DigitOnes" "[B") (.int 98)) (.int 56)) (by decide +kernel))
    | 99, _ => exact va_eqt (hs (.eq (.elem (.static "java/lang/Integer" "DigitOnes" "[B") (.int 99)) (.int 57)) (by decide +kernel))
    | n + 100, hj => exact absurd hj (by omega)) hA
  obtain ⟨g1, eg1, Tg1⟩ := va_Tof (tm := .static "java/lang/Integer" "DigitTens" "[B") (ty := .byte) (N := 100) (f := fun j => md_xaD1.getD j .null) (by decide) (hs _ (by decide +kernel)) (va_eqt (hs (.eq (.length (.static "java/lang/Integer" "DigitTens" "[B")) (.int 100)) (by decide +kernel))) (fun j hj => by
    match j, hj with
    | 0, _ => exact va_eqt (hs (.eq (.elem (.static "java/lang/Integer" "DigitTens" "[B") (.int 0)) (.int 48)) (by decide +kernel))
    | 1, _ => exact va_eqt (hs (.eq (.elem (.static "java/lang/Integer" "DigitTens" "[B") (.int 1)) (.int 48)) (by decide +kernel))
    | 2, _ => exact va_eqt (hs (.eq (.elem (.static "java/lang/Integer" "DigitTens" "[B") (.int 2)) (.int 48)) (by decide +kernel))
    | 3, _ => exact va_eqt (hs (.eq (.elem (.static "java/lang/Integer" "DigitTens" "[B") (.int 3)) (.int 48)) (by decide +kernel))
    | 4, _ => exact va_eqt (hs (.eq (.elem (.static "java/lang/Integer" "DigitTens" "[B") (.int 4)) (.int 48)) (by decide +kernel))
    | 5, _ => exact va_eqt (hs (.eq (.elem (.static "java/lang/Integer" "DigitTens" "[B") (.int 5)) (.int 48)) (by decide +kernel))
    | 6, _ => exact va_eqt (hs (.eq (.elem (.static "java/lang/Integer" "DigitTens" "[B") (.int 6)) (.int 48)) (by decide +kernel))
    | 7, _ => exact va_eqt (hs (.eq (.elem (.static "java/lang/Integer" "DigitTens" "[B") (.int 7)) (.int 48)) (by decide +kernel))
    | 8, _ => exact va_eqt (hs (.eq (.elem (.static "java/lang/Integer" "DigitTens" "[B") (.int 8)) (.int 48)) (by decide +kernel))
    | 9, _ => exact va_eqt (hs (.eq (.elem (.static "java/lang/Integer" "DigitTens" "[B") (.int 9)) (.int 48)) (by decide +kernel))
    | 10, _ => exact va_eqt (hs (.eq (.elem (.static "java/lang/Integer" "DigitTens" "[B") (.int 10)) (.int 49)) (by decide +kernel))
    | 11, _ => exact va_eqt (hs (.eq (.elem (.static "java/lang/Integer" "DigitTens" "[B") (.int 11)) (.int 49)) (by decide +kernel))
    | 12, _ => exact va_eqt (hs (.eq (.elem (.static "java/lang/Integer" "DigitTens" "[B") (.int 12)) (.int 49)) (by decide +kernel))
    | 13, _ => exact va_eqt (hs (.eq (.elem (.static "java/lang/Integer" "DigitTens" "[B") (.int 13)) (.int 49)) (by decide +kernel))
    | 14, _ => exact va_eqt (hs (.eq (.elem (.static "java/lang/Integer" "DigitTens" "[B") (.int 14)) (.int 49)) (by decide +kernel))
    | 15, _ => exact va_eqt (hs (.eq (.elem (.static "java/lang/Integer" "DigitTens" "[B") (.int 15)) (.int 49)) (by decide +kernel))
    | 16, _ => exact va_eqt (hs (.eq (.elem (.static "java/lang/Integer" "DigitTens" "[B") (.int 16)) (.int 49)) (by decide +kernel))
    | 17, _ => exact va_eqt (hs (.eq (.elem (.static "java/lang/Integer" "DigitTens" "[B") (.int 17)) (.int 49)) (by decide +kernel))
    | 18, _ => exact va_eqt (hs (.eq (.elem (.static "java/lang/Integer" "DigitTens" "[B") (.int 18)) (.int 49)) (by decide +kernel))
    | 19, _ => exact va_eqt (hs (.eq (.elem (.static "java/lang/Integer" "DigitTens" "[B") (.int 19)) (.int 49)) (by decide +kernel))
    | 20, _ => exact va_eqt (hs (.eq (.elem (.static "java/lang/Integer" "DigitTens" "[B") (.int 20)) (.int 50)) (by decide +kernel))
    | 21, _ => exact va_eqt (hs (.eq (.elem (.static "java/lang/Integer" "DigitTens" "[B") (.int 21)) (.int 50)) (by decide +kernel))
    | 22, _ => exact va_eqt (hs (.eq (.elem (.static "java/lang/Integer" "DigitTens" "[B") (.int 22)) (.int 50)) (by decide +kernel))
    | 23, _ => exact va_eqt (hs (.eq (.elem (.static "java/lang/Integer" "DigitTens" "[B") (.int 23)) (.int 50)) (by decide +kernel))
    | 24, _ => exact va_eqt (hs (.eq (.elem (.static "java/lang/Integer" "DigitTens" "[B") (.int 24)) (.int 50)) (by decide +kernel))
    | 25, _ => exact va_eqt (hs (.eq (.elem (.static "java/lang/Integer" "DigitTens" "[B") (.int 25)) (.int 50)) (by decide +kernel))
    | 26, _ => exact va_eqt (hs (.eq (.elem (.static "java/lang/Integer" "DigitTens" "[B") (.int 26)) (.int 50)) (by decide +kernel))
    | 27, _ => exact va_eqt (hs (.eq (.elem (.static "java/lang/Integer" "DigitTens" "[B") (.int 27)) (.int 50)) (by decide +kernel))
    | 28, _ => exact va_eqt (hs (.eq (.elem (.static "java/lang/Integer" "DigitTens" "[B") (.int 28)) (.int 50)) (by decide +kernel))
    | 29, _ => exact va_eqt (hs (.eq (.elem (.static "java/lang/Integer" "DigitTens" "[B") (.int 29)) (.int 50)) (by decide +kernel))
    | 30, _ => exact va_eqt (hs (.eq (.elem (.static "java/lang/Integer" "DigitTens" "[B") (.int 30)) (.int 51)) (by decide +kernel))
    | 31, _ => exact va_eqt (hs (.eq (.elem (.static "java/lang/Integer" "DigitTens" "[B") (.int 31)) (.int 51)) (by decide +kernel))
    | 32, _ => exact va_eqt (hs (.eq (.elem (.static "java/lang/Integer" "DigitTens" "[B") (.int 32)) (.int 51)) (by decide +kernel))
    | 33, _ => exact va_eqt (hs (.eq (.elem (.static "java/lang/Integer" "DigitTens" "[B") (.int 33)) (.int 51)) (by decide +kernel))
    | 34, _ => exact va_eqt (hs (.eq (.elem (.static "java/lang/Integer" "DigitTens" "[B") (.int 34)) (.int 51)) (by decide +kernel))
    | 35, _ => exact va_eqt (hs (.eq (.elem (.static "java/lang/Integer" "DigitTens" "[B") (.int 35)) (.int 51)) (by decide +kernel))
    | 36, _ => exact va_eqt (hs (.eq (.elem (.static "java/lang/Integer" "DigitTens" "[B") (.int 36)) (.int 51)) (by decide +kernel))
    | 37, _ => exact va_eqt (hs (.eq (.elem (.static "java/lang/Integer" "DigitTens" "[B") (.int 37)) (.int 51)) (by decide +kernel))
    | 38, _ => exact va_eqt (hs (.eq (.elem (.static "java/lang/Integer" "DigitTens" "[B") (.int 38)) (.int 51)) (by decide +kernel))
    | 39, _ => exact va_eqt (hs (.eq (.elem (.static "java/lang/Integer" "DigitTens" "[B") (.int 39)) (.int 51)) (by decide +kernel))
    | 40, _ => exact va_eqt (hs (.eq (.elem (.static "java/lang/Integer" "DigitTens" "[B") (.int 40)) (.int 52)) (by decide +kernel))
    | 41, _ => exact va_eqt (hs (.eq (.elem (.static "java/lang/Integer" "DigitTens" "[B") (.int 41)) (.int 52)) (by decide +kernel))
    | 42, _ => exact va_eqt (hs (.eq (.elem (.static "java/lang/Integer" "DigitTens" "[B") (.int 42)) (.int 52)) (by decide +kernel))
    | 43, _ => exact va_eqt (hs (.eq (.elem (.static "java/lang/Integer" "DigitTens" "[B") (.int 43)) (.int 52)) (by decide +kernel))
    | 44, _ => exact va_eqt (hs (.eq (.elem (.static "java/lang/Integer" "DigitTens" "[B") (.int 44)) (.int 52)) (by decide +kernel))
    | 45, _ => exact va_eqt (hs (.eq (.elem (.static "java/lang/Integer" "DigitTens" "[B") (.int 45)) (.int 52)) (by decide +kernel))
    | 46, _ => exact va_eqt (hs (.eq (.elem (.static "java/lang/Integer" "DigitTens" "[B") (.int 46)) (.int 52)) (by decide +kernel))
    | 47, _ => exact va_eqt (hs (.eq (.elem (.static "java/lang/Integer" "DigitTens" "[B") (.int 47)) (.int 52)) (by decide +kernel))
    | 48, _ => exact va_eqt (hs (.eq (.elem (.static "java/lang/Integer" "DigitTens" "[B") (.int 48)) (.int 52)) (by decide +kernel))
    | 49, _ => exact va_eqt (hs (.eq (.elem (.static "java/lang/Integer" "DigitTens" "[B") (.int 49)) (.int 52)) (by decide +kernel))
    | 50, _ => exact va_eqt (hs (.eq (.elem (.static "java/lang/Integer" "DigitTens" "[B") (.int 50)) (.int 53)) (by decide +kernel))
    | 51, _ => exact va_eqt (hs (.eq (.elem (.static "java/lang/Integer" "DigitTens" "[B") (.int 51)) (.int 53)) (by decide +kernel))
    | 52, _ => exact va_eqt (hs (.eq (.elem (.static "java/lang/Integer" "DigitTens" "[B") (.int 52)) (.int 53)) (by decide +kernel))
    | 53, _ => exact va_eqt (hs (.eq (.elem (.static "java/lang/Integer" "DigitTens" "[B") (.int 53)) (.int 53)) (by decide +kernel))
    | 54, _ => exact va_eqt (hs (.eq (.elem (.static "java/lang/Integer" "DigitTens" "[B") (.int 54)) (.int 53)) (by decide +kernel))
    | 55, _ => exact va_eqt (hs (.eq (.elem (.static "java/lang/Integer" "DigitTens" "[B") (.int 55)) (.int 53)) (by decide +kernel))
    | 56, _ => exact va_eqt (hs (.eq (.elem (.static "java/lang/Integer" "DigitTens" "[B") (.int 56)) (.int 53)) (by decide +kernel))
    | 57, _ => exact va_eqt (hs (.eq (.elem (.static "java/lang/Integer" "DigitTens" "[B") (.int 57)) (.int 53)) (by decide +kernel))
    | 58, _ => exact va_eqt (hs (.eq (.elem (.static "java/lang/Integer" "DigitTens" "[B") (.int 58)) (.int 53)) (by decide +kernel))
    | 59, _ => exact va_eqt (hs (.eq (.elem (.static "java/lang/Integer" "DigitTens" "[B") (.int 59)) (.int 53)) (by decide +kernel))
    | 60, _ => exact va_eqt (hs (.eq (.elem (.static "java/lang/Integer" "DigitTens" "[B") (.int 60)) (.int 54)) (by decide +kernel))
    | 61, _ => exact va_eqt (hs (.eq (.elem (.static "java/lang/Integer" "DigitTens" "[B") (.int 61)) (.int 54)) (by decide +kernel))
    | 62, _ => exact va_eqt (hs (.eq (.elem (.static "java/lang/Integer" "DigitTens" "[B") (.int 62)) (.int 54)) (by decide +kernel))
    | 63, _ => exact va_eqt (hs (.eq (.elem (.static "java/lang/Integer" "DigitTens" "[B") (.int 63)) (.int 54)) (by decide +kernel))
    | 64, _ => exact va_eqt (hs (.eq (.elem (.static "java/lang/Integer" "DigitTens" "[B") (.int 64)) (.int 54)) (by decide +kernel))
    | 65, _ => exact va_eqt (hs (.eq (.elem (.static "java/lang/Integer" "DigitTens" "[B") (.int 65)) (.int 54)) (by decide +kernel))
    | 66, _ => exact va_eqt (hs (.eq (.elem (.static "java/lang/Integer" "DigitTens" "[B") (.int 66)) (.int 54)) (by decide +kernel))
    | 67, _ => exact va_eqt (hs (.eq (.elem (.static "java/lang/Integer" "DigitTens" "[B") (.int 67)) (.int 54)) (by decide +kernel))
    | 68, _ => exact va_eqt (hs (.eq (.elem (.static "java/lang/Integer" "DigitTens" "[B") (.int 68)) (.int 54)) (by decide +kernel))
    | 69, _ => exact va_eqt (hs (.eq (.elem (.static "java/lang/Integer" "DigitTens" "[B") (.int 69)) (.int 54)) (by decide +kernel))
    | 70, _ => exact va_eqt (hs (.eq (.elem (.static "java/lang/Integer" "DigitTens" "[B") (.int 70)) (.int 55)) (by decide +kernel))
    | 71, _ => exact va_eqt (hs (.eq (.elem (.static "java/lang/Integer" "DigitTens" "[B") (.int 71)) (.int 55)) (by decide +kernel))
    | 72, _ => exact va_eqt (hs (.eq (.elem (.static "java/lang/Integer" "DigitTens" "[B") (.int 72)) (.int 55)) (by decide +kernel))
    | 73, _ => exact va_eqt (hs (.eq (.elem (.static "java/lang/Integer" "DigitTens" "[B") (.int 73)) (.int 55)) (by decide +kernel))
    | 74, _ => exact va_eqt (hs (.eq (.elem (.static "java/lang/Integer" "DigitTens" "[B") (.int 74)) (.int 55)) (by decide +kernel))
    | 75, _ => exact va_eqt (hs (.eq (.elem (.static "java/lang/Integer" "DigitTens" "[B") (.int 75)) (.int 55)) (by decide +kernel))
    | 76, _ => exact va_eqt (hs (.eq (.elem (.static "java/lang/Integer" "DigitTens" "[B") (.int 76)) (.int 55)) (by decide +kernel))
    | 77, _ => exact va_eqt (hs (.eq (.elem (.static "java/lang/Integer" "DigitTens" "[B") (.int 77)) (.int 55)) (by decide +kernel))
    | 78, _ => exact va_eqt (hs (.eq (.elem (.static "java/lang/Integer" "DigitTens" "[B") (.int 78)) (.int 55)) (by decide +kernel))
    | 79, _ => exact va_eqt (hs (.eq (.elem (.static "java/lang/Integer" "DigitTens" "[B") (.int 79)) (.int 55)) (by decide +kernel))
    | 80, _ => exact va_eqt (hs (.eq (.elem (.static "java/lang/Integer" "DigitTens" "[B") (.int 80)) (.int 56)) (by decide +kernel))
    | 81, _ => exact va_eqt (hs (.eq (.elem (.static "java/lang/Integer" "DigitTens" "[B") (.int 81)) (.int 56)) (by decide +kernel))
    | 82, _ => exact va_eqt (hs (.eq (.elem (.static "java/lang/Integer" "DigitTens" "[B") (.int 82)) (.int 56)) (by decide +kernel))
    | 83, _ => exact va_eqt (hs (.eq (.elem (.static "java/lang/Integer" "DigitTens" "[B") (.int 83)) (.int 56)) (by decide +kernel))
    | 84, _ => exact va_eqt (hs (.eq (.elem (.static "java/lang/Integer" "DigitTens" "[B") (.int 84)) (.int 56)) (by decide +kernel))
    | 85, _ => exact va_eqt (hs (.eq (.elem (.static "java/lang/Integer" "DigitTens" "[B") (.int 85)) (.int 56)) (by decide +kernel))
    | 86, _ => exact va_eqt (hs (.eq (.elem (.static "java/lang/Integer" "DigitTens" "[B") (.int 86)) (.int 56)) (by decide +kernel))
    | 87, _ => exact va_eqt (hs (.eq (.elem (.static "java/lang/Integer" "DigitTens" "[B") (.int 87)) (.int 56)) (by decide +kernel))
    | 88, _ => exact va_eqt (hs (.eq (.elem (.static "java/lang/Integer" "DigitTens" "[B") (.int 88)) (.int 56)) (by decide +kernel))
    | 89, _ => exact va_eqt (hs (.eq (.elem (.static "java/lang/Integer" "DigitTens" "[B") (.int 89)) (.int 56)) (by decide +kernel))
    | 90, _ => exact va_eqt (hs (.eq (.elem (.static "java/lang/Integer" "DigitTens" "[B") (.int 90)) (.int 57)) (by decide +kernel))
    | 91, _ => exact va_eqt (hs (.eq (.elem (.static "java/lang/Integer" "DigitTens" "[B") (.int 91)) (.int 57)) (by decide +kernel))
    | 92, _ => exact va_eqt (hs (.eq (.elem (.static "java/lang/Integer" "DigitTens" "[B") (.int 92)) (.int 57)) (by decide +kernel))
    | 93, _ => exact va_eqt (hs (.eq (.elem (.static "java/lang/Integer" "DigitTens" "[B") (.int 93)) (.int 57)) (by decide +kernel))
    | 94, _ => exact va_eqt (hs (.eq (.elem (.static "java/lang/Integer" "DigitTens" "[B") (.int 94)) (.int 57)) (by decide +kernel))
    | 95, _ => exact va_eqt (hs (.eq (.elem (.static "java/lang/Integer" "DigitTens" "[B") (.int 95)) (.int 57)) (by decide +kernel))
    | 96, _ => exact va_eqt (hs (.eq (.elem (.static "java/lang/Integer" "DigitTens" "[B") (.int 96)) (.int 57)) (by decide +kernel))
    | 97, _ => exact va_eqt (hs (.eq (.elem (.static "java/lang/Integer" "DigitTens" "[B") (.int 97)) (.int 57)) (by decide +kernel))
    | 98, _ => exact va_eqt (hs (.eq (.elem (.static "java/lang/Integer" "DigitTens" "[B") (.int 98)) (.int 57)) (by decide +kernel))
    | 99, _ => exact va_eqt (hs (.eq (.elem (.static "java/lang/Integer" "DigitTens" "[B") (.int 99)) (.int 57)) (by decide +kernel))
    | n + 100, hj => exact absurd hj (by omega)) hA
  obtain ⟨tE, etE, TE⟩ := va_Tof (tm := .static "java/util/ArrayList" "DEFAULTCAPACITY_EMPTY_ELEMENTDATA" "[Ljava/lang/Object;") (ty := .object "java/lang/Object") (N := 0) (f := fun _ => .null) (by decide) (hs _ (by decide +kernel)) (va_eqt (hs (.eq (.length (.static "java/util/ArrayList" "DEFAULTCAPACITY_EMPTY_ELEMENTDATA" "[Ljava/lang/Object;")) (.int 0)) (by decide +kernel))) (fun j hj => absurd hj (Nat.not_lt_zero j)) hA
  obtain ⟨ad, hC, hCe⟩ := vb_Cof (st := .static "java/lang/Integer$IntegerCache" "cache" "[Ljava/lang/Integer;") rfl (va_eqt (hs (.eq (.length (.static "java/lang/Integer$IntegerCache" "cache" "[Ljava/lang/Integer;")) (.int 256)) (by decide +kernel))) (hs _ (by decide +kernel)) hA
  obtain ⟨tC, etC, TC⟩ := va_Tof (tm := .static "java/lang/Integer$IntegerCache" "cache" "[Ljava/lang/Integer;") (ty := .object "java/lang/Integer") (N := 256) (f := fun j => .ref (ad j)) (by decide) (hs _ (by decide +kernel)) (va_eqt (hs (.eq (.length (.static "java/lang/Integer$IntegerCache" "cache" "[Ljava/lang/Integer;")) (.int 256)) (by decide +kernel))) hCe hA
  let xl : Nat → Nat := fun i => ([b, a0, a1, a2, a3, a4, a5, a6, a7, a8, a9, a10, a11, a12, a13, a14, a15, a16, a17, a18, a19, a20, tA, tS, k0, k1, k2, k3, k4, k5, k6, k7, k8, k9, k10, k11, k12, k13, k14, k15, k16, v0, v1, v2, v3, v4, v5, v6, v7, v8, v9, v10, v11, v12, v13, v14, v15, v16, m0, m1, m2, m3, m4, m5, m6, m7, m8, m9, m10, m11, m12, m13, m14, m15, m16, m17, m18, m19, m20, m21, m22, m23, m24, m25, m26, m27, m28, m29, g0, g1, tE, tC] : List Nat).getD i (ad (i - 92))
  have hxc : ∀ j, xl (92 + j) = ad j := fun j => by
    show ([b, a0, a1, a2, a3, a4, a5, a6, a7, a8, a9, a10, a11, a12, a13, a14, a15, a16, a17, a18, a19, a20, tA, tS, k0, k1, k2, k3, k4, k5, k6, k7, k8, k9, k10, k11, k12, k13, k14, k15, k16, v0, v1, v2, v3, v4, v5, v6, v7, v8, v9, v10, v11, v12, v13, v14, v15, v16, m0, m1, m2, m3, m4, m5, m6, m7, m8, m9, m10, m11, m12, m13, m14, m15, m16, m17, m18, m19, m20, m21, m22, m23, m24, m25, m26, m27, m28, m29, g0, g1, tE, tC] : List Nat).getD (92 + j) (ad (92 + j - 92)) = ad j
    rw [List.getD_eq_getElem?_getD, List.getElem?_eq_none (by show 92 ≤ 92 + j; omega), Nat.add_sub_cancel_left]; rfl
  have hxo : ∀ i k v, md_xo i k = some v → va_OF (md_xf k).1 (md_xf k).2.1 (md_xf k).2.2 (mm_xv xl v) (xl i) (fun q => s.heap.size ≤ q) s s.heap ∧ mm_isx v = true := by
    intro i k v h
    unfold md_xo at h
    by_cases hc : 92 ≤ i ∧ i < 348 ∧ k = 7
    · rw [if_pos hc] at h
      obtain ⟨j, rfl⟩ : ∃ j, i = 92 + j := ⟨i - 92, by omega⟩
      obtain ⟨-, hj, rfl⟩ := hc
      cases h
      rw [md_ca j (by omega), hxc j]
      exact ⟨hC.2 j (by omega), rfl⟩
    rw [if_neg hc] at h
    match i, h with
    | 0, h =>
      have h2 : (([] : List (Option Value))[k]?).getD none = some v := h
      simp at h2
    | 1, h =>
      match k, h with
      | 0, h =>
        have h2 : some (Value.long 427071139698) = some v := h
        cases h2
        exact ⟨vk_OFof ea0 (va_eqtl (hs (.eq (.field (.static "PaintBank$Word" "COLOR" "LPaintBank$Word;") "PaintBank$Word" "letters" "J") (.long 427071139698)) (by decide +kernel))) hA, rfl⟩
      | 1, h =>
        have h2 : some (Value.int 0) = some v := h
        cases h2
        exact ⟨vk_OFof ea0 (va_eqt (hs (.eq (.field (.static "PaintBank$Word" "COLOR" "LPaintBank$Word;") "PaintBank$Word" "isCommand" "Z") (.int 0)) (by decide +kernel))) hA, rfl⟩
      | 2, h =>
        have h2 : some (Value.int 0) = some v := h
        cases h2
        exact ⟨vk_OFof ea0 (va_eqt (hs (.eq (.field (.static "PaintBank$Word" "COLOR" "LPaintBank$Word;") "PaintBank$Word" "least" "I") (.int 0)) (by decide +kernel))) hA, rfl⟩
      | 3, h =>
        have h2 : some (Value.int 0) = some v := h
        cases h2
        exact ⟨vk_OFof ea0 (va_eqt (hs (.eq (.field (.static "PaintBank$Word" "COLOR" "LPaintBank$Word;") "PaintBank$Word" "greatest" "I") (.int 0)) (by decide +kernel))) hA, rfl⟩
      | 4, h =>
        have h2 : some (Value.int 0) = some v := h
        cases h2
        exact ⟨vk_OFof ea0 (va_eqt (hs (.eq (.field (.static "PaintBank$Word" "COLOR" "LPaintBank$Word;") "java/lang/Enum" "ordinal" "I") (.int 0)) (by decide +kernel))) hA, rfl⟩
      | n + 5, h => exact absurd (show (none : Option Value) = some v from h) (by simp)
    | 2, h =>
      match k, h with
      | 0, h =>
        have h2 : some (Value.long 109299962373989) = some v := h
        cases h2
        exact ⟨vk_OFof ea1 (va_eqtl (hs (.eq (.field (.static "PaintBank$Word" "CHANGE" "LPaintBank$Word;") "PaintBank$Word" "letters" "J") (.long 109299962373989)) (by decide +kernel))) hA, rfl⟩
      | 1, h =>
        have h2 : some (Value.int 0) = some v := h
        cases h2
        exact ⟨vk_OFof ea1 (va_eqt (hs (.eq (.field (.static "PaintBank$Word" "CHANGE" "LPaintBank$Word;") "PaintBank$Word" "isCommand" "Z") (.int 0)) (by decide +kernel))) hA, rfl⟩
      | 2, h =>
        have h2 : some (Value.int 0) = some v := h
        cases h2
        exact ⟨vk_OFof ea1 (va_eqt (hs (.eq (.field (.static "PaintBank$Word" "CHANGE" "LPaintBank$Word;") "PaintBank$Word" "least" "I") (.int 0)) (by decide +kernel))) hA, rfl⟩
      | 3, h =>
        have h2 : some (Value.int 0) = some v := h
        cases h2
        exact ⟨vk_OFof ea1 (va_eqt (hs (.eq (.field (.static "PaintBank$Word" "CHANGE" "LPaintBank$Word;") "PaintBank$Word" "greatest" "I") (.int 0)) (by decide +kernel))) hA, rfl⟩
      | 4, h =>
        have h2 : some (Value.int 1) = some v := h
        cases h2
        exact ⟨vk_OFof ea1 (va_eqt (hs (.eq (.field (.static "PaintBank$Word" "CHANGE" "LPaintBank$Word;") "java/lang/Enum" "ordinal" "I") (.int 1)) (by decide +kernel))) hA, rfl⟩
      | n + 5, h => exact absurd (show (none : Option Value) = some v from h) (by simp)
    | 3, h =>
      match k, h with
      | 0, h =>
        have h2 : some (Value.long 1818324581) = some v := h
        cases h2
        exact ⟨vk_OFof ea2 (va_eqtl (hs (.eq (.field (.static "PaintBank$Word" "LANE" "LPaintBank$Word;") "PaintBank$Word" "letters" "J") (.long 1818324581)) (by decide +kernel))) hA, rfl⟩
      | 1, h =>
        have h2 : some (Value.int 0) = some v := h
        cases h2
        exact ⟨vk_OFof ea2 (va_eqt (hs (.eq (.field (.static "PaintBank$Word" "LANE" "LPaintBank$Word;") "PaintBank$Word" "isCommand" "Z") (.int 0)) (by decide +kernel))) hA, rfl⟩
      | 2, h =>
        have h2 : some (Value.int 0) = some v := h
        cases h2
        exact ⟨vk_OFof ea2 (va_eqt (hs (.eq (.field (.static "PaintBank$Word" "LANE" "LPaintBank$Word;") "PaintBank$Word" "least" "I") (.int 0)) (by decide +kernel))) hA, rfl⟩
      | 3, h =>
        have h2 : some (Value.int 0) = some v := h
        cases h2
        exact ⟨vk_OFof ea2 (va_eqt (hs (.eq (.field (.static "PaintBank$Word" "LANE" "LPaintBank$Word;") "PaintBank$Word" "greatest" "I") (.int 0)) (by decide +kernel))) hA, rfl⟩
      | 4, h =>
        have h2 : some (Value.int 2) = some v := h
        cases h2
        exact ⟨vk_OFof ea2 (va_eqt (hs (.eq (.field (.static "PaintBank$Word" "LANE" "LPaintBank$Word;") "java/lang/Enum" "ordinal" "I") (.int 2)) (by decide +kernel))) hA, rfl⟩
      | n + 5, h => exact absurd (show (none : Option Value) = some v from h) (by simp)
    | 4, h =>
      match k, h with
      | 0, h =>
        have h2 : some (Value.long 6513010) = some v := h
        cases h2
        exact ⟨vk_OFof ea3 (va_eqtl (hs (.eq (.field (.static "PaintBank$Word" "CAR" "LPaintBank$Word;") "PaintBank$Word" "letters" "J") (.long 6513010)) (by decide +kernel))) hA, rfl⟩
      | 1, h =>
        have h2 : some (Value.int 0) = some v := h
        cases h2
        exact ⟨vk_OFof ea3 (va_eqt (hs (.eq (.field (.static "PaintBank$Word" "CAR" "LPaintBank$Word;") "PaintBank$Word" "isCommand" "Z") (.int 0)) (by decide +kernel))) hA, rfl⟩
      | 2, h =>
        have h2 : some (Value.int 0) = some v := h
        cases h2
        exact ⟨vk_OFof ea3 (va_eqt (hs (.eq (.field (.static "PaintBank$Word" "CAR" "LPaintBank$Word;") "PaintBank$Word" "least" "I") (.int 0)) (by decide +kernel))) hA, rfl⟩
      | 3, h =>
        have h2 : some (Value.int 0) = some v := h
        cases h2
        exact ⟨vk_OFof ea3 (va_eqt (hs (.eq (.field (.static "PaintBank$Word" "CAR" "LPaintBank$Word;") "PaintBank$Word" "greatest" "I") (.int 0)) (by decide +kernel))) hA, rfl⟩
      | 4, h =>
        have h2 : some (Value.int 3) = some v := h
        cases h2
        exact ⟨vk_OFof ea3 (va_eqt (hs (.eq (.field (.static "PaintBank$Word" "CAR" "LPaintBank$Word;") "java/lang/Enum" "ordinal" "I") (.int 3)) (by decide +kernel))) hA, rfl⟩
      | n + 5, h => exact absurd (show (none : Option Value) = some v from h) (by simp)
    | 5, h =>
      match k, h with
      | 0, h =>
        have h2 : some (Value.long 1651467385) = some v := h
        cases h2
        exact ⟨vk_OFof ea4 (va_eqtl (hs (.eq (.field (.static "PaintBank$Word" "BODY" "LPaintBank$Word;") "PaintBank$Word" "letters" "J") (.long 1651467385)) (by decide +kernel))) hA, rfl⟩
      | 1, h =>
        have h2 : some (Value.int 0) = some v := h
        cases h2
        exact ⟨vk_OFof ea4 (va_eqt (hs (.eq (.field (.static "PaintBank$Word" "BODY" "LPaintBank$Word;") "PaintBank$Word" "isCommand" "Z") (.int 0)) (by decide +kernel))) hA, rfl⟩
      | 2, h =>
        have h2 : some (Value.int 0) = some v := h
        cases h2
        exact ⟨vk_OFof ea4 (va_eqt (hs (.eq (.field (.static "PaintBank$Word" "BODY" "LPaintBank$Word;") "PaintBank$Word" "least" "I") (.int 0)) (by decide +kernel))) hA, rfl⟩
      | 3, h =>
        have h2 : some (Value.int 0) = some v := h
        cases h2
        exact ⟨vk_OFof ea4 (va_eqt (hs (.eq (.field (.static "PaintBank$Word" "BODY" "LPaintBank$Word;") "PaintBank$Word" "greatest" "I") (.int 0)) (by decide +kernel))) hA, rfl⟩
      | 4, h =>
        have h2 : some (Value.int 4) = some v := h
        cases h2
        exact ⟨vk_OFof ea4 (va_eqt (hs (.eq (.field (.static "PaintBank$Word" "BODY" "LPaintBank$Word;") "java/lang/Enum" "ordinal" "I") (.int 4)) (by decide +kernel))) hA, rfl⟩
      | n + 5, h => exact absurd (show (none : Option Value) = some v from h) (by simp)
    | 6, h =>
      match k, h with
      | 0, h =>
        have h2 : some (Value.long 6447460) = some v := h
        cases h2
        exact ⟨vk_OFof ea5 (va_eqtl (hs (.eq (.field (.static "PaintBank$Word" "BAD" "LPaintBank$Word;") "PaintBank$Word" "letters" "J") (.long 6447460)) (by decide +kernel))) hA, rfl⟩
      | 1, h =>
        have h2 : some (Value.int 0) = some v := h
        cases h2
        exact ⟨vk_OFof ea5 (va_eqt (hs (.eq (.field (.static "PaintBank$Word" "BAD" "LPaintBank$Word;") "PaintBank$Word" "isCommand" "Z") (.int 0)) (by decide +kernel))) hA, rfl⟩
      | 2, h =>
        have h2 : some (Value.int 0) = some v := h
        cases h2
        exact ⟨vk_OFof ea5 (va_eqt (hs (.eq (.field (.static "PaintBank$Word" "BAD" "LPaintBank$Word;") "PaintBank$Word" "least" "I") (.int 0)) (by decide +kernel))) hA, rfl⟩
      | 3, h =>
        have h2 : some (Value.int 0) = some v := h
        cases h2
        exact ⟨vk_OFof ea5 (va_eqt (hs (.eq (.field (.static "PaintBank$Word" "BAD" "LPaintBank$Word;") "PaintBank$Word" "greatest" "I") (.int 0)) (by decide +kernel))) hA, rfl⟩
      | 4, h =>
        have h2 : some (Value.int 5) = some v := h
        cases h2
        exact ⟨vk_OFof ea5 (va_eqt (hs (.eq (.field (.static "PaintBank$Word" "BAD" "LPaintBank$Word;") "java/lang/Enum" "ordinal" "I") (.int 5)) (by decide +kernel))) hA, rfl⟩
      | n + 5, h => exact absurd (show (none : Option Value) = some v from h) (by simp)
    | 7, h =>
      match k, h with
      | 0, h =>
        have h2 : some (Value.long 131294707347319) = some v := h
        cases h2
        exact ⟨vk_OFof ea6 (va_eqtl (hs (.eq (.field (.static "PaintBank$Word" "WINDOW" "LPaintBank$Word;") "PaintBank$Word" "letters" "J") (.long 131294707347319)) (by decide +kernel))) hA, rfl⟩
      | 1, h =>
        have h2 : some (Value.int 0) = some v := h
        cases h2
        exact ⟨vk_OFof ea6 (va_eqt (hs (.eq (.field (.static "PaintBank$Word" "WINDOW" "LPaintBank$Word;") "PaintBank$Word" "isCommand" "Z") (.int 0)) (by decide +kernel))) hA, rfl⟩
      | 2, h =>
        have h2 : some (Value.int 0) = some v := h
        cases h2
        exact ⟨vk_OFof ea6 (va_eqt (hs (.eq (.field (.static "PaintBank$Word" "WINDOW" "LPaintBank$Word;") "PaintBank$Word" "least" "I") (.int 0)) (by decide +kernel))) hA, rfl⟩
      | 3, h =>
        have h2 : some (Value.int 0) = some v := h
        cases h2
        exact ⟨vk_OFof ea6 (va_eqt (hs (.eq (.field (.static "PaintBank$Word" "WINDOW" "LPaintBank$Word;") "PaintBank$Word" "greatest" "I") (.int 0)) (by decide +kernel))) hA, rfl⟩
      | 4, h =>
        have h2 : some (Value.int 6) = some v := h
        cases h2
        exact ⟨vk_OFof ea6 (va_eqt (hs (.eq (.field (.static "PaintBank$Word" "WINDOW" "LPaintBank$Word;") "java/lang/Enum" "ordinal" "I") (.int 6)) (by decide +kernel))) hA, rfl⟩
      | n + 5, h => exact absurd (show (none : Option Value) = some v from h) (by simp)
    | 8, h =>
      match k, h with
      | 0, h =>
        have h2 : some (Value.long 422541812584) = some v := h
        cases h2
        exact ⟨vk_OFof ea7 (va_eqtl (hs (.eq (.field (.static "PaintBank$Word" "BATCH" "LPaintBank$Word;") "PaintBank$Word" "letters" "J") (.long 422541812584)) (by decide +kernel))) hA, rfl⟩
      | 1, h =>
        have h2 : some (Value.int 0) = some v := h
        cases h2
        exact ⟨vk_OFof ea7 (va_eqt (hs (.eq (.field (.static "PaintBank$Word" "BATCH" "LPaintBank$Word;") "PaintBank$Word" "isCommand" "Z") (.int 0)) (by decide +kernel))) hA, rfl⟩
      | 2, h =>
        have h2 : some (Value.int 0) = some v := h
        cases h2
        exact ⟨vk_OFof ea7 (va_eqt (hs (.eq (.field (.static "PaintBank$Word" "BATCH" "LPaintBank$Word;") "PaintBank$Word" "least" "I") (.int 0)) (by decide +kernel))) hA, rfl⟩
      | 3, h =>
        have h2 : some (Value.int 0) = some v := h
        cases h2
        exact ⟨vk_OFof ea7 (va_eqt (hs (.eq (.field (.static "PaintBank$Word" "BATCH" "LPaintBank$Word;") "PaintBank$Word" "greatest" "I") (.int 0)) (by decide +kernel))) hA, rfl⟩
      | 4, h =>
        have h2 : some (Value.int 7) = some v := h
        cases h2
        exact ⟨vk_OFof ea7 (va_eqt (hs (.eq (.field (.static "PaintBank$Word" "BATCH" "LPaintBank$Word;") "java/lang/Enum" "ordinal" "I") (.int 7)) (by decide +kernel))) hA, rfl⟩
      | n + 5, h => exact absurd (show (none : Option Value) = some v from h) (by simp)
    | 9, h =>
      match k, h with
      | 0, h =>
        have h2 : some (Value.long 483006768997) = some v := h
        cases h2
        exact ⟨vk_OFof ea8 (va_eqtl (hs (.eq (.field (.static "PaintBank$Word" "PURGE" "LPaintBank$Word;") "PaintBank$Word" "letters" "J") (.long 483006768997)) (by decide +kernel))) hA, rfl⟩
      | 1, h =>
        have h2 : some (Value.int 0) = some v := h
        cases h2
        exact ⟨vk_OFof ea8 (va_eqt (hs (.eq (.field (.static "PaintBank$Word" "PURGE" "LPaintBank$Word;") "PaintBank$Word" "isCommand" "Z") (.int 0)) (by decide +kernel))) hA, rfl⟩
      | 2, h =>
        have h2 : some (Value.int 0) = some v := h
        cases h2
        exact ⟨vk_OFof ea8 (va_eqt (hs (.eq (.field (.static "PaintBank$Word" "PURGE" "LPaintBank$Word;") "PaintBank$Word" "least" "I") (.int 0)) (by decide +kernel))) hA, rfl⟩
      | 3, h =>
        have h2 : some (Value.int 0) = some v := h
        cases h2
        exact ⟨vk_OFof ea8 (va_eqt (hs (.eq (.field (.static "PaintBank$Word" "PURGE" "LPaintBank$Word;") "PaintBank$Word" "greatest" "I") (.int 0)) (by decide +kernel))) hA, rfl⟩
      | 4, h =>
        have h2 : some (Value.int 8) = some v := h
        cases h2
        exact ⟨vk_OFof ea8 (va_eqt (hs (.eq (.field (.static "PaintBank$Word" "PURGE" "LPaintBank$Word;") "java/lang/Enum" "ordinal" "I") (.int 8)) (by decide +kernel))) hA, rfl⟩
      | n + 5, h => exact absurd (show (none : Option Value) = some v from h) (by simp)
    | 10, h =>
      match k, h with
      | 0, h =>
        have h2 : some (Value.long 125780121055851) = some v := h
        cases h2
        exact ⟨vk_OFof ea9 (va_eqtl (hs (.eq (.field (.static "PaintBank$Word" "REWORK" "LPaintBank$Word;") "PaintBank$Word" "letters" "J") (.long 125780121055851)) (by decide +kernel))) hA, rfl⟩
      | 1, h =>
        have h2 : some (Value.int 0) = some v := h
        cases h2
        exact ⟨vk_OFof ea9 (va_eqt (hs (.eq (.field (.static "PaintBank$Word" "REWORK" "LPaintBank$Word;") "PaintBank$Word" "isCommand" "Z") (.int 0)) (by decide +kernel))) hA, rfl⟩
      | 2, h =>
        have h2 : some (Value.int 0) = some v := h
        cases h2
        exact ⟨vk_OFof ea9 (va_eqt (hs (.eq (.field (.static "PaintBank$Word" "REWORK" "LPaintBank$Word;") "PaintBank$Word" "least" "I") (.int 0)) (by decide +kernel))) hA, rfl⟩
      | 3, h =>
        have h2 : some (Value.int 0) = some v := h
        cases h2
        exact ⟨vk_OFof ea9 (va_eqt (hs (.eq (.field (.static "PaintBank$Word" "REWORK" "LPaintBank$Word;") "PaintBank$Word" "greatest" "I") (.int 0)) (by decide +kernel))) hA, rfl⟩
      | 4, h =>
        have h2 : some (Value.int 9) = some v := h
        cases h2
        exact ⟨vk_OFof ea9 (va_eqt (hs (.eq (.field (.static "PaintBank$Word" "REWORK" "LPaintBank$Word;") "java/lang/Enum" "ordinal" "I") (.int 9)) (by decide +kernel))) hA, rfl⟩
      | n + 5, h => exact absurd (show (none : Option Value) = some v from h) (by simp)
    | 11, h =>
      match k, h with
      | 0, h =>
        have h2 : some (Value.long 431198331257) = some v := h
        cases h2
        exact ⟨vk_OFof ea10 (va_eqtl (hs (.eq (.field (.static "PaintBank$Word" "DELAY" "LPaintBank$Word;") "PaintBank$Word" "letters" "J") (.long 431198331257)) (by decide +kernel))) hA, rfl⟩
      | 1, h =>
        have h2 : some (Value.int 0) = some v := h
        cases h2
        exact ⟨vk_OFof ea10 (va_eqt (hs (.eq (.field (.static "PaintBank$Word" "DELAY" "LPaintBank$Word;") "PaintBank$Word" "isCommand" "Z") (.int 0)) (by decide +kernel))) hA, rfl⟩
      | 2, h =>
        have h2 : some (Value.int 0) = some v := h
        cases h2
        exact ⟨vk_OFof ea10 (va_eqt (hs (.eq (.field (.static "PaintBank$Word" "DELAY" "LPaintBank$Word;") "PaintBank$Word" "least" "I") (.int 0)) (by decide +kernel))) hA, rfl⟩
      | 3, h =>
        have h2 : some (Value.int 0) = some v := h
        cases h2
        exact ⟨vk_OFof ea10 (va_eqt (hs (.eq (.field (.static "PaintBank$Word" "DELAY" "LPaintBank$Word;") "PaintBank$Word" "greatest" "I") (.int 0)) (by decide +kernel))) hA, rfl⟩
      | 4, h =>
        have h2 : some (Value.int 10) = some v := h
        cases h2
        exact ⟨vk_OFof ea10 (va_eqt (hs (.eq (.field (.static "PaintBank$Word" "DELAY" "LPaintBank$Word;") "java/lang/Enum" "ordinal" "I") (.int 10)) (by decide +kernel))) hA, rfl⟩
      | n + 5, h => exact absurd (show (none : Option Value) = some v from h) (by simp)
    | 12, h =>
      match k, h with
      | 0, h =>
        have h2 : some (Value.long 1936744814) = some v := h
        cases h2
        exact ⟨vk_OFof ea11 (va_eqtl (hs (.eq (.field (.static "PaintBank$Word" "SPAN" "LPaintBank$Word;") "PaintBank$Word" "letters" "J") (.long 1936744814)) (by decide +kernel))) hA, rfl⟩
      | 1, h =>
        have h2 : some (Value.int 0) = some v := h
        cases h2
        exact ⟨vk_OFof ea11 (va_eqt (hs (.eq (.field (.static "PaintBank$Word" "SPAN" "LPaintBank$Word;") "PaintBank$Word" "isCommand" "Z") (.int 0)) (by decide +kernel))) hA, rfl⟩
      | 2, h =>
        have h2 : some (Value.int 0) = some v := h
        cases h2
        exact ⟨vk_OFof ea11 (va_eqt (hs (.eq (.field (.static "PaintBank$Word" "SPAN" "LPaintBank$Word;") "PaintBank$Word" "least" "I") (.int 0)) (by decide +kernel))) hA, rfl⟩
      | 3, h =>
        have h2 : some (Value.int 0) = some v := h
        cases h2
        exact ⟨vk_OFof ea11 (va_eqt (hs (.eq (.field (.static "PaintBank$Word" "SPAN" "LPaintBank$Word;") "PaintBank$Word" "greatest" "I") (.int 0)) (by decide +kernel))) hA, rfl⟩
      | 4, h =>
        have h2 : some (Value.int 11) = some v := h
        cases h2
        exact ⟨vk_OFof ea11 (va_eqt (hs (.eq (.field (.static "PaintBank$Word" "SPAN" "LPaintBank$Word;") "java/lang/Enum" "ordinal" "I") (.int 11)) (by decide +kernel))) hA, rfl⟩
      | n + 5, h => exact absurd (show (none : Option Value) = some v from h) (by simp)
    | 13, h =>
      match k, h with
      | 0, h =>
        have h2 : some (Value.long 435644818802) = some v := h
        cases h2
        exact ⟨vk_OFof ea12 (va_eqtl (hs (.eq (.field (.static "PaintBank$Word" "ENTER" "LPaintBank$Word;") "PaintBank$Word" "letters" "J") (.long 435644818802)) (by decide +kernel))) hA, rfl⟩
      | 1, h =>
        have h2 : some (Value.int 1) = some v := h
        cases h2
        exact ⟨vk_OFof ea12 (va_eqt (hs (.eq (.field (.static "PaintBank$Word" "ENTER" "LPaintBank$Word;") "PaintBank$Word" "isCommand" "Z") (.int 1)) (by decide +kernel))) hA, rfl⟩
      | 2, h =>
        have h2 : some (Value.int 0) = some v := h
        cases h2
        exact ⟨vk_OFof ea12 (va_eqt (hs (.eq (.field (.static "PaintBank$Word" "ENTER" "LPaintBank$Word;") "PaintBank$Word" "least" "I") (.int 0)) (by decide +kernel))) hA, rfl⟩
      | 3, h =>
        have h2 : some (Value.int 3) = some v := h
        cases h2
        exact ⟨vk_OFof ea12 (va_eqt (hs (.eq (.field (.static "PaintBank$Word" "ENTER" "LPaintBank$Word;") "PaintBank$Word" "greatest" "I") (.int 3)) (by decide +kernel))) hA, rfl⟩
      | 4, h =>
        have h2 : some (Value.int 12) = some v := h
        cases h2
        exact ⟨vk_OFof ea12 (va_eqt (hs (.eq (.field (.static "PaintBank$Word" "ENTER" "LPaintBank$Word;") "java/lang/Enum" "ordinal" "I") (.int 12)) (by decide +kernel))) hA, rfl⟩
      | n + 5, h => exact absurd (show (none : Option Value) = some v from h) (by simp)
    | 14, h =>
      match k, h with
      | 0, h =>
        have h2 : some (Value.long 465557354085) = some v := h
        cases h2
        exact ⟨vk_OFof ea13 (va_eqtl (hs (.eq (.field (.static "PaintBank$Word" "LEAVE" "LPaintBank$Word;") "PaintBank$Word" "letters" "J") (.long 465557354085)) (by decide +kernel))) hA, rfl⟩
      | 1, h =>
        have h2 : some (Value.int 1) = some v := h
        cases h2
        exact ⟨vk_OFof ea13 (va_eqt (hs (.eq (.field (.static "PaintBank$Word" "LEAVE" "LPaintBank$Word;") "PaintBank$Word" "isCommand" "Z") (.int 1)) (by decide +kernel))) hA, rfl⟩
      | 2, h =>
        have h2 : some (Value.int 0) = some v := h
        cases h2
        exact ⟨vk_OFof ea13 (va_eqt (hs (.eq (.field (.static "PaintBank$Word" "LEAVE" "LPaintBank$Word;") "PaintBank$Word" "least" "I") (.int 0)) (by decide +kernel))) hA, rfl⟩
      | 3, h =>
        have h2 : some (Value.int 3) = some v := h
        cases h2
        exact ⟨vk_OFof ea13 (va_eqt (hs (.eq (.field (.static "PaintBank$Word" "LEAVE" "LPaintBank$Word;") "PaintBank$Word" "greatest" "I") (.int 3)) (by decide +kernel))) hA, rfl⟩
      | 4, h =>
        have h2 : some (Value.int 13) = some v := h
        cases h2
        exact ⟨vk_OFof ea13 (va_eqt (hs (.eq (.field (.static "PaintBank$Word" "LEAVE" "LPaintBank$Word;") "java/lang/Enum" "ordinal" "I") (.int 13)) (by decide +kernel))) hA, rfl⟩
      | n + 5, h => exact absurd (show (none : Option Value) = some v from h) (by simp)
    | 15, h =>
      match k, h with
      | 0, h =>
        have h2 : some (Value.long 1650549611) = some v := h
        cases h2
        exact ⟨vk_OFof ea14 (va_eqtl (hs (.eq (.field (.static "PaintBank$Word" "BACK" "LPaintBank$Word;") "PaintBank$Word" "letters" "J") (.long 1650549611)) (by decide +kernel))) hA, rfl⟩
      | 1, h =>
        have h2 : some (Value.int 1) = some v := h
        cases h2
        exact ⟨vk_OFof ea14 (va_eqt (hs (.eq (.field (.static "PaintBank$Word" "BACK" "LPaintBank$Word;") "PaintBank$Word" "isCommand" "Z") (.int 1)) (by decide +kernel))) hA, rfl⟩
      | 2, h =>
        have h2 : some (Value.int 0) = some v := h
        cases h2
        exact ⟨vk_OFof ea14 (va_eqt (hs (.eq (.field (.static "PaintBank$Word" "BACK" "LPaintBank$Word;") "PaintBank$Word" "least" "I") (.int 0)) (by decide +kernel))) hA, rfl⟩
      | 3, h =>
        have h2 : some (Value.int 3) = some v := h
        cases h2
        exact ⟨vk_OFof ea14 (va_eqt (hs (.eq (.field (.static "PaintBank$Word" "BACK" "LPaintBank$Word;") "PaintBank$Word" "greatest" "I") (.int 3)) (by decide +kernel))) hA, rfl⟩
      | 4, h =>
        have h2 : some (Value.int 14) = some v := h
        cases h2
        exact ⟨vk_OFof ea14 (va_eqt (hs (.eq (.field (.static "PaintBank$Word" "BACK" "LPaintBank$Word;") "java/lang/Enum" "ordinal" "I") (.int 14)) (by decide +kernel))) hA, rfl⟩
      | n + 5, h => exact absurd (show (none : Option Value) = some v from h) (by simp)
    | 16, h =>
      match k, h with
      | 0, h =>
        have h2 : some (Value.long 2002872692) = some v := h
        cases h2
        exact ⟨vk_OFof ea15 (va_eqtl (hs (.eq (.field (.static "PaintBank$Word" "WAIT" "LPaintBank$Word;") "PaintBank$Word" "letters" "J") (.long 2002872692)) (by decide +kernel))) hA, rfl⟩
      | 1, h =>
        have h2 : some (Value.int 1) = some v := h
        cases h2
        exact ⟨vk_OFof ea15 (va_eqt (hs (.eq (.field (.static "PaintBank$Word" "WAIT" "LPaintBank$Word;") "PaintBank$Word" "isCommand" "Z") (.int 1)) (by decide +kernel))) hA, rfl⟩
      | 2, h =>
        have h2 : some (Value.int 1) = some v := h
        cases h2
        exact ⟨vk_OFof ea15 (va_eqt (hs (.eq (.field (.static "PaintBank$Word" "WAIT" "LPaintBank$Word;") "PaintBank$Word" "least" "I") (.int 1)) (by decide +kernel))) hA, rfl⟩
      | 3, h =>
        have h2 : some (Value.int 99) = some v := h
        cases h2
        exact ⟨vk_OFof ea15 (va_eqt (hs (.eq (.field (.static "PaintBank$Word" "WAIT" "LPaintBank$Word;") "PaintBank$Word" "greatest" "I") (.int 99)) (by decide +kernel))) hA, rfl⟩
      | 4, h =>
        have h2 : some (Value.int 15) = some v := h
        cases h2
        exact ⟨vk_OFof ea15 (va_eqt (hs (.eq (.field (.static "PaintBank$Word" "WAIT" "LPaintBank$Word;") "java/lang/Enum" "ordinal" "I") (.int 15)) (by decide +kernel))) hA, rfl⟩
      | n + 5, h => exact absurd (show (none : Option Value) = some v from h) (by simp)
    | 17, h =>
      match k, h with
      | 0, h =>
        have h2 : some (Value.long 1937007984) = some v := h
        cases h2
        exact ⟨vk_OFof ea16 (va_eqtl (hs (.eq (.field (.static "PaintBank$Word" "STEP" "LPaintBank$Word;") "PaintBank$Word" "letters" "J") (.long 1937007984)) (by decide +kernel))) hA, rfl⟩
      | 1, h =>
        have h2 : some (Value.int 1) = some v := h
        cases h2
        exact ⟨vk_OFof ea16 (va_eqt (hs (.eq (.field (.static "PaintBank$Word" "STEP" "LPaintBank$Word;") "PaintBank$Word" "isCommand" "Z") (.int 1)) (by decide +kernel))) hA, rfl⟩
      | 2, h =>
        have h2 : some (Value.int 1) = some v := h
        cases h2
        exact ⟨vk_OFof ea16 (va_eqt (hs (.eq (.field (.static "PaintBank$Word" "STEP" "LPaintBank$Word;") "PaintBank$Word" "least" "I") (.int 1)) (by decide +kernel))) hA, rfl⟩
      | 3, h =>
        have h2 : some (Value.int 99) = some v := h
        cases h2
        exact ⟨vk_OFof ea16 (va_eqt (hs (.eq (.field (.static "PaintBank$Word" "STEP" "LPaintBank$Word;") "PaintBank$Word" "greatest" "I") (.int 99)) (by decide +kernel))) hA, rfl⟩
      | 4, h =>
        have h2 : some (Value.int 16) = some v := h
        cases h2
        exact ⟨vk_OFof ea16 (va_eqt (hs (.eq (.field (.static "PaintBank$Word" "STEP" "LPaintBank$Word;") "java/lang/Enum" "ordinal" "I") (.int 16)) (by decide +kernel))) hA, rfl⟩
      | n + 5, h => exact absurd (show (none : Option Value) = some v from h) (by simp)
    | 18, h =>
      match k, h with
      | 0, h =>
        have h2 : some (Value.long 129117126091108) = some v := h
        cases h2
        exact ⟨vk_OFof ea17 (va_eqtl (hs (.eq (.field (.static "PaintBank$Word" "UNLOAD" "LPaintBank$Word;") "PaintBank$Word" "letters" "J") (.long 129117126091108)) (by decide +kernel))) hA, rfl⟩
      | 1, h =>
        have h2 : some (Value.int 1) = some v := h
        cases h2
        exact ⟨vk_OFof ea17 (va_eqt (hs (.eq (.field (.static "PaintBank$Word" "UNLOAD" "LPaintBank$Word;") "PaintBank$Word" "isCommand" "Z") (.int 1)) (by decide +kernel))) hA, rfl⟩
      | 2, h =>
        have h2 : some (Value.int 0) = some v := h
        cases h2
        exact ⟨vk_OFof ea17 (va_eqt (hs (.eq (.field (.static "PaintBank$Word" "UNLOAD" "LPaintBank$Word;") "PaintBank$Word" "least" "I") (.int 0)) (by decide +kernel))) hA, rfl⟩
      | 3, h =>
        have h2 : some (Value.int 0) = some v := h
        cases h2
        exact ⟨vk_OFof ea17 (va_eqt (hs (.eq (.field (.static "PaintBank$Word" "UNLOAD" "LPaintBank$Word;") "PaintBank$Word" "greatest" "I") (.int 0)) (by decide +kernel))) hA, rfl⟩
      | 4, h =>
        have h2 : some (Value.int 17) = some v := h
        cases h2
        exact ⟨vk_OFof ea17 (va_eqt (hs (.eq (.field (.static "PaintBank$Word" "UNLOAD" "LPaintBank$Word;") "java/lang/Enum" "ordinal" "I") (.int 17)) (by decide +kernel))) hA, rfl⟩
      | n + 5, h => exact absurd (show (none : Option Value) = some v from h) (by simp)
    | 19, h =>
      match k, h with
      | 0, h =>
        have h2 : some (Value.long 1937203568) = some v := h
        cases h2
        exact ⟨vk_OFof ea18 (va_eqtl (hs (.eq (.field (.static "PaintBank$Word" "SWAP" "LPaintBank$Word;") "PaintBank$Word" "letters" "J") (.long 1937203568)) (by decide +kernel))) hA, rfl⟩
      | 1, h =>
        have h2 : some (Value.int 1) = some v := h
        cases h2
        exact ⟨vk_OFof ea18 (va_eqt (hs (.eq (.field (.static "PaintBank$Word" "SWAP" "LPaintBank$Word;") "PaintBank$Word" "isCommand" "Z") (.int 1)) (by decide +kernel))) hA, rfl⟩
      | 2, h =>
        have h2 : some (Value.int 0) = some v := h
        cases h2
        exact ⟨vk_OFof ea18 (va_eqt (hs (.eq (.field (.static "PaintBank$Word" "SWAP" "LPaintBank$Word;") "PaintBank$Word" "least" "I") (.int 0)) (by decide +kernel))) hA, rfl⟩
      | 3, h =>
        have h2 : some (Value.int 0) = some v := h
        cases h2
        exact ⟨vk_OFof ea18 (va_eqt (hs (.eq (.field (.static "PaintBank$Word" "SWAP" "LPaintBank$Word;") "PaintBank$Word" "greatest" "I") (.int 0)) (by decide +kernel))) hA, rfl⟩
      | 4, h =>
        have h2 : some (Value.int 18) = some v := h
        cases h2
        exact ⟨vk_OFof ea18 (va_eqt (hs (.eq (.field (.static "PaintBank$Word" "SWAP" "LPaintBank$Word;") "java/lang/Enum" "ordinal" "I") (.int 18)) (by decide +kernel))) hA, rfl⟩
      | n + 5, h => exact absurd (show (none : Option Value) = some v from h) (by simp)
    | 20, h =>
      match k, h with
      | 0, h =>
        have h2 : some (Value.long 125780002955636) = some v := h
        cases h2
        exact ⟨vk_OFof ea19 (va_eqtl (hs (.eq (.field (.static "PaintBank$Word" "REPEAT" "LPaintBank$Word;") "PaintBank$Word" "letters" "J") (.long 125780002955636)) (by decide +kernel))) hA, rfl⟩
      | 1, h =>
        have h2 : some (Value.int 1) = some v := h
        cases h2
        exact ⟨vk_OFof ea19 (va_eqt (hs (.eq (.field (.static "PaintBank$Word" "REPEAT" "LPaintBank$Word;") "PaintBank$Word" "isCommand" "Z") (.int 1)) (by decide +kernel))) hA, rfl⟩
      | 2, h =>
        have h2 : some (Value.int 1) = some v := h
        cases h2
        exact ⟨vk_OFof ea19 (va_eqt (hs (.eq (.field (.static "PaintBank$Word" "REPEAT" "LPaintBank$Word;") "PaintBank$Word" "least" "I") (.int 1)) (by decide +kernel))) hA, rfl⟩
      | 3, h =>
        have h2 : some (Value.int 20) = some v := h
        cases h2
        exact ⟨vk_OFof ea19 (va_eqt (hs (.eq (.field (.static "PaintBank$Word" "REPEAT" "LPaintBank$Word;") "PaintBank$Word" "greatest" "I") (.int 20)) (by decide +kernel))) hA, rfl⟩
      | 4, h =>
        have h2 : some (Value.int 19) = some v := h
        cases h2
        exact ⟨vk_OFof ea19 (va_eqt (hs (.eq (.field (.static "PaintBank$Word" "REPEAT" "LPaintBank$Word;") "java/lang/Enum" "ordinal" "I") (.int 19)) (by decide +kernel))) hA, rfl⟩
      | n + 5, h => exact absurd (show (none : Option Value) = some v from h) (by simp)
    | 21, h =>
      match k, h with
      | 0, h =>
        have h2 : some (Value.long 0) = some v := h
        cases h2
        exact ⟨vk_OFof ea20 (va_eqtl (hs (.eq (.field (.static "PaintBank$Word" "OTHER" "LPaintBank$Word;") "PaintBank$Word" "letters" "J") (.long 0)) (by decide +kernel))) hA, rfl⟩
      | 1, h =>
        have h2 : some (Value.int 0) = some v := h
        cases h2
        exact ⟨vk_OFof ea20 (va_eqt (hs (.eq (.field (.static "PaintBank$Word" "OTHER" "LPaintBank$Word;") "PaintBank$Word" "isCommand" "Z") (.int 0)) (by decide +kernel))) hA, rfl⟩
      | 2, h =>
        have h2 : some (Value.int 0) = some v := h
        cases h2
        exact ⟨vk_OFof ea20 (va_eqt (hs (.eq (.field (.static "PaintBank$Word" "OTHER" "LPaintBank$Word;") "PaintBank$Word" "least" "I") (.int 0)) (by decide +kernel))) hA, rfl⟩
      | 3, h =>
        have h2 : some (Value.int 0) = some v := h
        cases h2
        exact ⟨vk_OFof ea20 (va_eqt (hs (.eq (.field (.static "PaintBank$Word" "OTHER" "LPaintBank$Word;") "PaintBank$Word" "greatest" "I") (.int 0)) (by decide +kernel))) hA, rfl⟩
      | 4, h =>
        have h2 : some (Value.int 20) = some v := h
        cases h2
        exact ⟨vk_OFof ea20 (va_eqt (hs (.eq (.field (.static "PaintBank$Word" "OTHER" "LPaintBank$Word;") "java/lang/Enum" "ordinal" "I") (.int 20)) (by decide +kernel))) hA, rfl⟩
      | n + 5, h => exact absurd (show (none : Option Value) = some v from h) (by simp)
    | 22, h =>
      have h2 : (([] : List (Option Value))[k]?).getD none = some v := h
      simp at h2
    | 23, h =>
      have h2 : (([] : List (Option Value))[k]?).getD none = some v := h
      simp at h2
    | 24, h =>
      match k, h with
      | 0, h => exact absurd (show (none : Option Value) = some v from h) (by simp)
      | 1, h => exact absurd (show (none : Option Value) = some v from h) (by simp)
      | 2, h => exact absurd (show (none : Option Value) = some v from h) (by simp)
      | 3, h => exact absurd (show (none : Option Value) = some v from h) (by simp)
      | 4, h => exact absurd (show (none : Option Value) = some v from h) (by simp)
      | 5, h =>
        have h2 : some (Value.ref 1000041) = some v := h
        cases h2
        exact ⟨vk_OFof ek0 ev0 hA, rfl⟩
      | 6, h =>
        have h2 : some (Value.int 0) = some v := h
        cases h2
        exact ⟨vk_OFof ek0 (va_eqt (hs (.eq (.field (.string "PaintBankLaw$World" 70) "java/lang/String" "coder" "B") (.int 0)) (by decide +kernel))) hA, rfl⟩
      | n + 7, h => exact absurd (show (none : Option Value) = some v from h) (by simp)
    | 25, h =>
      match k, h with
      | 0, h => exact absurd (show (none : Option Value) = some v from h) (by simp)
      | 1, h => exact absurd (show (none : Option Value) = some v from h) (by simp)
      | 2, h => exact absurd (show (none : Option Value) = some v from h) (by simp)
      | 3, h => exact absurd (show (none : Option Value) = some v from h) (by simp)
      | 4, h => exact absurd (show (none : Option Value) = some v from h) (by simp)
      | 5, h =>
        have h2 : some (Value.ref 1000042) = some v := h
        cases h2
        exact ⟨vk_OFof ek1 ev1 hA, rfl⟩
      | 6, h =>
        have h2 : some (Value.int 0) = some v := h
        cases h2
        exact ⟨vk_OFof ek1 (va_eqt (hs (.eq (.field (.string "PaintBankLaw$World" 128) "java/lang/String" "coder" "B") (.int 0)) (by decide +kernel))) hA, rfl⟩
      | n + 7, h => exact absurd (show (none : Option Value) = some v from h) (by simp)
    | 26, h =>
      match k, h with
      | 0, h => exact absurd (show (none : Option Value) = some v from h) (by simp)
      | 1, h => exact absurd (show (none : Option Value) = some v from h) (by simp)
      | 2, h => exact absurd (show (none : Option Value) = some v from h) (by simp)
      | 3, h => exact absurd (show (none : Option Value) = some v from h) (by simp)
      | 4, h => exact absurd (show (none : Option Value) = some v from h) (by simp)
      | 5, h =>
        have h2 : some (Value.ref 1000043) = some v := h
        cases h2
        exact ⟨vk_OFof ek2 ev2 hA, rfl⟩
      | 6, h =>
        have h2 : some (Value.int 0) = some v := h
        cases h2
        exact ⟨vk_OFof ek2 (va_eqt (hs (.eq (.field (.string "PaintBankLaw$World" 102) "java/lang/String" "coder" "B") (.int 0)) (by decide +kernel))) hA, rfl⟩
      | n + 7, h => exact absurd (show (none : Option Value) = some v from h) (by simp)
    | 27, h =>
      match k, h with
      | 0, h => exact absurd (show (none : Option Value) = some v from h) (by simp)
      | 1, h => exact absurd (show (none : Option Value) = some v from h) (by simp)
      | 2, h => exact absurd (show (none : Option Value) = some v from h) (by simp)
      | 3, h => exact absurd (show (none : Option Value) = some v from h) (by simp)
      | 4, h => exact absurd (show (none : Option Value) = some v from h) (by simp)
      | 5, h =>
        have h2 : some (Value.ref 1000044) = some v := h
        cases h2
        exact ⟨vk_OFof ek3 ev3 hA, rfl⟩
      | 6, h =>
        have h2 : some (Value.int 0) = some v := h
        cases h2
        exact ⟨vk_OFof ek3 (va_eqt (hs (.eq (.field (.string "PaintBankLaw$World" 134) "java/lang/String" "coder" "B") (.int 0)) (by decide +kernel))) hA, rfl⟩
      | n + 7, h => exact absurd (show (none : Option Value) = some v from h) (by simp)
    | 28, h =>
      match k, h with
      | 0, h => exact absurd (show (none : Option Value) = some v from h) (by simp)
      | 1, h => exact absurd (show (none : Option Value) = some v from h) (by simp)
      | 2, h => exact absurd (show (none : Option Value) = some v from h) (by simp)
      | 3, h => exact absurd (show (none : Option Value) = some v from h) (by simp)
      | 4, h => exact absurd (show (none : Option Value) = some v from h) (by simp)
      | 5, h =>
        have h2 : some (Value.ref 1000045) = some v := h
        cases h2
        exact ⟨vk_OFof ek4 ev4 hA, rfl⟩
      | 6, h =>
        have h2 : some (Value.int 0) = some v := h
        cases h2
        exact ⟨vk_OFof ek4 (va_eqt (hs (.eq (.field (.string "PaintBankLaw$World" 91) "java/lang/String" "coder" "B") (.int 0)) (by decide +kernel))) hA, rfl⟩
      | n + 7, h => exact absurd (show (none : Option Value) = some v from h) (by simp)
    | 29, h =>
      match k, h with
      | 0, h => exact absurd (show (none : Option Value) = some v from h) (by simp)
      | 1, h => exact absurd (show (none : Option Value) = some v from h) (by simp)
      | 2, h => exact absurd (show (none : Option Value) = some v from h) (by simp)
      | 3, h => exact absurd (show (none : Option Value) = some v from h) (by simp)
      | 4, h => exact absurd (show (none : Option Value) = some v from h) (by simp)
      | 5, h =>
        have h2 : some (Value.ref 1000046) = some v := h
        cases h2
        exact ⟨vk_OFof ek5 ev5 hA, rfl⟩
      | 6, h =>
        have h2 : some (Value.int 0) = some v := h
        cases h2
        exact ⟨vk_OFof ek5 (va_eqt (hs (.eq (.field (.string "PaintBankLaw$World" 93) "java/lang/String" "coder" "B") (.int 0)) (by decide +kernel))) hA, rfl⟩
      | n + 7, h => exact absurd (show (none : Option Value) = some v from h) (by simp)
    | 30, h =>
      match k, h with
      | 0, h => exact absurd (show (none : Option Value) = some v from h) (by simp)
      | 1, h => exact absurd (show (none : Option Value) = some v from h) (by simp)
      | 2, h => exact absurd (show (none : Option Value) = some v from h) (by simp)
      | 3, h => exact absurd (show (none : Option Value) = some v from h) (by simp)
      | 4, h => exact absurd (show (none : Option Value) = some v from h) (by simp)
      | 5, h =>
        have h2 : some (Value.ref 1000047) = some v := h
        cases h2
        exact ⟨vk_OFof ek6 ev6 hA, rfl⟩
      | 6, h =>
        have h2 : some (Value.int 0) = some v := h
        cases h2
        exact ⟨vk_OFof ek6 (va_eqt (hs (.eq (.field (.string "PaintBankLaw$World" 147) "java/lang/String" "coder" "B") (.int 0)) (by decide +kernel))) hA, rfl⟩
      | n + 7, h => exact absurd (show (none : Option Value) = some v from h) (by simp)
    | 31, h =>
      match k, h with
      | 0, h => exact absurd (show (none : Option Value) = some v from h) (by simp)
      | 1, h => exact absurd (show (none : Option Value) = some v from h) (by simp)
      | 2, h => exact absurd (show (none : Option Value) = some v from h) (by simp)
      | 3, h => exact absurd (show (none : Option Value) = some v from h) (by simp)
      | 4, h => exact absurd (show (none : Option Value) = some v from h) (by simp)
      | 5, h =>
        have h2 : some (Value.ref 1000048) = some v := h
        cases h2
        exact ⟨vk_OFof ek7 ev7 hA, rfl⟩
      | 6, h =>
        have h2 : some (Value.int 0) = some v := h
        cases h2
        exact ⟨vk_OFof ek7 (va_eqt (hs (.eq (.field (.string "PaintBankLaw$World" 156) "java/lang/String" "coder" "B") (.int 0)) (by decide +kernel))) hA, rfl⟩
      | n + 7, h => exact absurd (show (none : Option Value) = some v from h) (by simp)
    | 32, h =>
      match k, h with
      | 0, h => exact absurd (show (none : Option Value) = some v from h) (by simp)
      | 1, h => exact absurd (show (none : Option Value) = some v from h) (by simp)
      | 2, h => exact absurd (show (none : Option Value) = some v from h) (by simp)
      | 3, h => exact absurd (show (none : Option Value) = some v from h) (by simp)
      | 4, h => exact absurd (show (none : Option Value) = some v from h) (by simp)
      | 5, h =>
        have h2 : some (Value.ref 1000049) = some v := h
        cases h2
        exact ⟨vk_OFof ek8 ev8 hA, rfl⟩
      | 6, h =>
        have h2 : some (Value.int 0) = some v := h
        cases h2
        exact ⟨vk_OFof ek8 (va_eqt (hs (.eq (.field (.string "PaintBankLaw$World" 158) "java/lang/String" "coder" "B") (.int 0)) (by decide +kernel))) hA, rfl⟩
      | n + 7, h => exact absurd (show (none : Option Value) = some v from h) (by simp)
    | 33, h =>
      match k, h with
      | 0, h => exact absurd (show (none : Option Value) = some v from h) (by simp)
      | 1, h => exact absurd (show (none : Option Value) = some v from h) (by simp)
      | 2, h => exact absurd (show (none : Option Value) = some v from h) (by simp)
      | 3, h => exact absurd (show (none : Option Value) = some v from h) (by simp)
      | 4, h => exact absurd (show (none : Option Value) = some v from h) (by simp)
      | 5, h =>
        have h2 : some (Value.ref 1000050) = some v := h
        cases h2
        exact ⟨vk_OFof ek9 ev9 hA, rfl⟩
      | 6, h =>
        have h2 : some (Value.int 0) = some v := h
        cases h2
        exact ⟨vk_OFof ek9 (va_eqt (hs (.eq (.field (.string "PaintBankLaw$World" 160) "java/lang/String" "coder" "B") (.int 0)) (by decide +kernel))) hA, rfl⟩
      | n + 7, h => exact absurd (show (none : Option Value) = some v from h) (by simp)
    | 34, h =>
      match k, h with
      | 0, h => exact absurd (show (none : Option Value) = some v from h) (by simp)
      | 1, h => exact absurd (show (none : Option Value) = some v from h) (by simp)
      | 2, h => exact absurd (show (none : Option Value) = some v from h) (by simp)
      | 3, h => exact absurd (show (none : Option Value) = some v from h) (by simp)
      | 4, h => exact absurd (show (none : Option Value) = some v from h) (by simp)
      | 5, h =>
        have h2 : some (Value.ref 1000051) = some v := h
        cases h2
        exact ⟨vk_OFof ek10 ev10 hA, rfl⟩
      | 6, h =>
        have h2 : some (Value.int 0) = some v := h
        cases h2
        exact ⟨vk_OFof ek10 (va_eqt (hs (.eq (.field (.string "PaintBankLaw$World" 165) "java/lang/String" "coder" "B") (.int 0)) (by decide +kernel))) hA, rfl⟩
      | n + 7, h => exact absurd (show (none : Option Value) = some v from h) (by simp)
    | 35, h =>
      match k, h with
      | 0, h => exact absurd (show (none : Option Value) = some v from h) (by simp)
      | 1, h => exact absurd (show (none : Option Value) = some v from h) (by simp)
      | 2, h => exact absurd (show (none : Option Value) = some v from h) (by simp)
      | 3, h => exact absurd (show (none : Option Value) = some v from h) (by simp)
      | 4, h => exact absurd (show (none : Option Value) = some v from h) (by simp)
      | 5, h =>
        have h2 : some (Value.ref 1000052) = some v := h
        cases h2
        exact ⟨vk_OFof ek11 ev11 hA, rfl⟩
      | 6, h =>
        have h2 : some (Value.int 0) = some v := h
        cases h2
        exact ⟨vk_OFof ek11 (va_eqt (hs (.eq (.field (.string "PaintBankLaw$World" 167) "java/lang/String" "coder" "B") (.int 0)) (by decide +kernel))) hA, rfl⟩
      | n + 7, h => exact absurd (show (none : Option Value) = some v from h) (by simp)
    | 36, h =>
      match k, h with
      | 0, h => exact absurd (show (none : Option Value) = some v from h) (by simp)
      | 1, h => exact absurd (show (none : Option Value) = some v from h) (by simp)
      | 2, h => exact absurd (show (none : Option Value) = some v from h) (by simp)
      | 3, h => exact absurd (show (none : Option Value) = some v from h) (by simp)
      | 4, h => exact absurd (show (none : Option Value) = some v from h) (by simp)
      | 5, h =>
        have h2 : some (Value.ref 1000053) = some v := h
        cases h2
        exact ⟨vk_OFof ek12 ev12 hA, rfl⟩
      | 6, h =>
        have h2 : some (Value.int 0) = some v := h
        cases h2
        exact ⟨vk_OFof ek12 (va_eqt (hs (.eq (.field (.string "PaintBankLaw$World" 169) "java/lang/String" "coder" "B") (.int 0)) (by decide +kernel))) hA, rfl⟩
      | n + 7, h => exact absurd (show (none : Option Value) = some v from h) (by simp)
    | 37, h =>
      match k, h with
      | 0, h => exact absurd (show (none : Option Value) = some v from h) (by simp)
      | 1, h => exact absurd (show (none : Option Value) = some v from h) (by simp)
      | 2, h => exact absurd (show (none : Option Value) = some v from h) (by simp)
      | 3, h => exact absurd (show (none : Option Value) = some v from h) (by simp)
      | 4, h => exact absurd (show (none : Option Value) = some v from h) (by simp)
      | 5, h =>
        have h2 : some (Value.ref 1000054) = some v := h
        cases h2
        exact ⟨vk_OFof ek13 ev13 hA, rfl⟩
      | 6, h =>
        have h2 : some (Value.int 0) = some v := h
        cases h2
        exact ⟨vk_OFof ek13 (va_eqt (hs (.eq (.field (.string "PaintBankLaw$World" 171) "java/lang/String" "coder" "B") (.int 0)) (by decide +kernel))) hA, rfl⟩
      | n + 7, h => exact absurd (show (none : Option Value) = some v from h) (by simp)
    | 38, h =>
      match k, h with
      | 0, h => exact absurd (show (none : Option Value) = some v from h) (by simp)
      | 1, h => exact absurd (show (none : Option Value) = some v from h) (by simp)
      | 2, h => exact absurd (show (none : Option Value) = some v from h) (by simp)
      | 3, h => exact absurd (show (none : Option Value) = some v from h) (by simp)
      | 4, h => exact absurd (show (none : Option Value) = some v from h) (by simp)
      | 5, h =>
        have h2 : some (Value.ref 1000055) = some v := h
        cases h2
        exact ⟨vk_OFof ek14 ev14 hA, rfl⟩
      | 6, h =>
        have h2 : some (Value.int 0) = some v := h
        cases h2
        exact ⟨vk_OFof ek14 (va_eqt (hs (.eq (.field (.string "PaintBankLaw$World" 176) "java/lang/String" "coder" "B") (.int 0)) (by decide +kernel))) hA, rfl⟩
      | n + 7, h => exact absurd (show (none : Option Value) = some v from h) (by simp)
    | 39, h =>
      match k, h with
      | 0, h => exact absurd (show (none : Option Value) = some v from h) (by simp)
      | 1, h => exact absurd (show (none : Option Value) = some v from h) (by simp)
      | 2, h => exact absurd (show (none : Option Value) = some v from h) (by simp)
      | 3, h => exact absurd (show (none : Option Value) = some v from h) (by simp)
      | 4, h => exact absurd (show (none : Option Value) = some v from h) (by simp)
      | 5, h =>
        have h2 : some (Value.ref 1000056) = some v := h
        cases h2
        exact ⟨vk_OFof ek15 ev15 hA, rfl⟩
      | 6, h =>
        have h2 : some (Value.int 0) = some v := h
        cases h2
        exact ⟨vk_OFof ek15 (va_eqt (hs (.eq (.field (.string "PaintBankLaw$World" 178) "java/lang/String" "coder" "B") (.int 0)) (by decide +kernel))) hA, rfl⟩
      | n + 7, h => exact absurd (show (none : Option Value) = some v from h) (by simp)
    | 40, h =>
      match k, h with
      | 0, h => exact absurd (show (none : Option Value) = some v from h) (by simp)
      | 1, h => exact absurd (show (none : Option Value) = some v from h) (by simp)
      | 2, h => exact absurd (show (none : Option Value) = some v from h) (by simp)
      | 3, h => exact absurd (show (none : Option Value) = some v from h) (by simp)
      | 4, h => exact absurd (show (none : Option Value) = some v from h) (by simp)
      | 5, h =>
        have h2 : some (Value.ref 1000057) = some v := h
        cases h2
        exact ⟨vk_OFof ek16 ev16 hA, rfl⟩
      | 6, h =>
        have h2 : some (Value.int 0) = some v := h
        cases h2
        exact ⟨vk_OFof ek16 (va_eqt (hs (.eq (.field (.string "PaintBankLaw$World" 180) "java/lang/String" "coder" "B") (.int 0)) (by decide +kernel))) hA, rfl⟩
      | n + 7, h => exact absurd (show (none : Option Value) = some v from h) (by simp)
    | n + 41, h =>
      rw [List.getElem?_eq_none (by show 41 ≤ n + 41; omega)] at h
      simp at h
  refine ⟨xl, rfl, ?_, ?_, hxo, ?_, ?_, ?_, ?_, ?_, ?_, ?_, ?_, ?_, ?_⟩
  · intro i hi
    match i, hi with
    | 0, _ => exact ⟨va_Zof (hts _ (mm_tb_in 8 (List.mem_of_getElem? (i := 161) rfl))) (hts _ (mm_tb_in 1 (List.mem_of_getElem? (i := 25) rfl))) ea0 hA, rfl⟩
    | 1, _ => exact ⟨va_Zof (hts _ (mm_tb_in 3 (List.mem_of_getElem? (i := 103) rfl))) (hts _ (mm_tb_in 1 (List.mem_of_getElem? (i := 25) rfl))) ea1 hA, rfl⟩
    | 2, _ => exact ⟨va_Zof (hts _ (mm_tb_in 8 (List.mem_of_getElem? (i := 162) rfl))) (hts _ (mm_tb_in 1 (List.mem_of_getElem? (i := 25) rfl))) ea2 hA, rfl⟩
    | 3, _ => exact ⟨va_Zof (hts _ (mm_tb_in 8 (List.mem_of_getElem? (i := 163) rfl))) (hts _ (mm_tb_in 1 (List.mem_of_getElem? (i := 25) rfl))) ea3 hA, rfl⟩
    | 4, _ => exact ⟨va_Zof (hts _ (mm_tb_in 3 (List.mem_of_getElem? (i := 117) rfl))) (hts _ (mm_tb_in 1 (List.mem_of_getElem? (i := 25) rfl))) ea4 hA, rfl⟩
    | 5, _ => exact ⟨va_Zof (hts _ (mm_tb_in 3 (List.mem_of_getElem? (i := 119) rfl))) (hts _ (mm_tb_in 1 (List.mem_of_getElem? (i := 25) rfl))) ea5 hA, rfl⟩
    | 6, _ => exact ⟨va_Zof (hts _ (mm_tb_in 8 (List.mem_of_getElem? (i := 164) rfl))) (hts _ (mm_tb_in 1 (List.mem_of_getElem? (i := 25) rfl))) ea6 hA, rfl⟩
    | 7, _ => exact ⟨va_Zof (hts _ (mm_tb_in 8 (List.mem_of_getElem? (i := 165) rfl))) (hts _ (mm_tb_in 1 (List.mem_of_getElem? (i := 25) rfl))) ea7 hA, rfl⟩
    | 8, _ => exact ⟨va_Zof (hts _ (mm_tb_in 3 (List.mem_of_getElem? (i := 133) rfl))) (hts _ (mm_tb_in 1 (List.mem_of_getElem? (i := 25) rfl))) ea8 hA, rfl⟩
    | 9, _ => exact ⟨va_Zof (hts _ (mm_tb_in 8 (List.mem_of_getElem? (i := 166) rfl))) (hts _ (mm_tb_in 1 (List.mem_of_getElem? (i := 25) rfl))) ea9 hA, rfl⟩
    | 10, _ => exact ⟨va_Zof (hts _ (mm_tb_in 3 (List.mem_of_getElem? (i := 139) rfl))) (hts _ (mm_tb_in 1 (List.mem_of_getElem? (i := 25) rfl))) ea10 hA, rfl⟩
    | 11, _ => exact ⟨va_Zof (hts _ (mm_tb_in 8 (List.mem_of_getElem? (i := 167) rfl))) (hts _ (mm_tb_in 1 (List.mem_of_getElem? (i := 25) rfl))) ea11 hA, rfl⟩
    | 12, _ => exact ⟨va_Zof (hts _ (mm_tb_in 8 (List.mem_of_getElem? (i := 168) rfl))) (hts _ (mm_tb_in 1 (List.mem_of_getElem? (i := 25) rfl))) ea12 hA, rfl⟩
    | 13, _ => exact ⟨va_Zof (hts _ (mm_tb_in 8 (List.mem_of_getElem? (i := 169) rfl))) (hts _ (mm_tb_in 1 (List.mem_of_getElem? (i := 25) rfl))) ea13 hA, rfl⟩
    | 14, _ => exact ⟨va_Zof (hts _ (mm_tb_in 8 (List.mem_of_getElem? (i := 170) rfl))) (hts _ (mm_tb_in 1 (List.mem_of_getElem? (i := 25) rfl))) ea14 hA, rfl⟩
    | 15, _ => exact ⟨va_Zof (hts _ (mm_tb_in 8 (List.mem_of_getElem? (i := 171) rfl))) (hts _ (mm_tb_in 1 (List.mem_of_getElem? (i := 25) rfl))) ea15 hA, rfl⟩
    | 16, _ => exact ⟨va_Zof (hts _ (mm_tb_in 8 (List.mem_of_getElem? (i := 172) rfl))) (hts _ (mm_tb_in 1 (List.mem_of_getElem? (i := 25) rfl))) ea16 hA, rfl⟩
    | 17, _ => exact ⟨va_Zof (hts _ (mm_tb_in 8 (List.mem_of_getElem? (i := 173) rfl))) (hts _ (mm_tb_in 1 (List.mem_of_getElem? (i := 25) rfl))) ea17 hA, rfl⟩
    | 18, _ => exact ⟨va_Zof (hts _ (mm_tb_in 8 (List.mem_of_getElem? (i := 174) rfl))) (hts _ (mm_tb_in 1 (List.mem_of_getElem? (i := 25) rfl))) ea18 hA, rfl⟩
    | 19, _ => exact ⟨va_Zof (hts _ (mm_tb_in 8 (List.mem_of_getElem? (i := 175) rfl))) (hts _ (mm_tb_in 1 (List.mem_of_getElem? (i := 25) rfl))) ea19 hA, rfl⟩
    | 20, _ => exact ⟨va_Zof (hts _ (mm_tb_in 1 (List.mem_of_getElem? (i := 57) rfl))) (hts _ (mm_tb_in 1 (List.mem_of_getElem? (i := 25) rfl))) ea20 hA, rfl⟩
    | 21, _ => exact ⟨va_Zof (hts _ (mm_tb_in 3 (List.mem_of_getElem? (i := 59) rfl))) (hts _ (mm_tb_in 1 (List.mem_of_getElem? (i := 25) rfl))) etA hA, rfl⟩
    | 22, _ => exact ⟨va_Zof (hts _ (mm_tb_in 3 (List.mem_of_getElem? (i := 80) rfl))) (hts _ (mm_tb_in 1 (List.mem_of_getElem? (i := 40) rfl))) etS hA, rfl⟩
    | 23, _ => exact ⟨va_Zof (hts _ (mm_tb_in 5 (List.mem_of_getElem? (i := 232) rfl))) (hts _ (mm_tb_in 1 (List.mem_of_getElem? (i := 9) rfl))) (va_eqi (hs (.eq (.static "java/lang/String" "COMPACT_STRINGS" "Z") (.int 1)) (by decide +kernel))) hA, rfl⟩
    | 24, _ => exact ⟨va_Zof (hts _ (mm_tb_in 6 (List.mem_of_getElem? (i := 29) rfl))) (hts _ (mm_tb_in 1 (List.mem_of_getElem? (i := 13) rfl))) (va_eqi (hs (.eq (.static "java/lang/Integer$IntegerCache" "high" "I") (.int 127)) (by decide +kernel))) hA, rfl⟩
    | 25, _ => exact ⟨va_Zof (hts _ (mm_tb_in 7 (List.mem_of_getElem? (i := 198) rfl))) (hts _ (mm_tb_in 1 (List.mem_of_getElem? (i := 12) rfl))) eg0 hA, rfl⟩
    | 26, _ => exact ⟨va_Zof (hts _ (mm_tb_in 7 (List.mem_of_getElem? (i := 200) rfl))) (hts _ (mm_tb_in 1 (List.mem_of_getElem? (i := 12) rfl))) eg1 hA, rfl⟩
    | 27, _ => exact ⟨va_Zof (hts _ (mm_tb_in 5 (List.mem_of_getElem? (i := 100) rfl))) (hts _ (mm_tb_in 1 (List.mem_of_getElem? (i := 4) rfl))) etE hA, rfl⟩
    | 28, _ => exact ⟨va_Zof (hts _ (mm_tb_in 6 (List.mem_of_getElem? (i := 31) rfl))) (hts _ (mm_tb_in 1 (List.mem_of_getElem? (i := 13) rfl))) etC hA, rfl⟩
    | n + 29, hi => exact absurd hi (by show ¬ n + 29 < 29; omega)
  · intro i n h
    unfold md_xc at h
    by_cases hc : 92 ≤ i ∧ i < 348
    · rw [if_pos hc] at h
      obtain ⟨j, rfl⟩ : ∃ j, i = 92 + j := ⟨i - 92, by omega⟩
      cases h
      rw [hxc j]
      exact hC.1 j (by omega)
    rw [if_neg hc] at h
    match i, h with
    | 0, h => exact absurd (show (none : Option Nat) = some n from h) (by simp)
    | 1, h =>
      have h2 : some 0 = some n := h
      cases h2
      exact oa0
    | 2, h =>
      have h2 : some 0 = some n := h
      cases h2
      exact oa1
    | 3, h =>
      have h2 : some 0 = some n := h
      cases h2
      exact oa2
    | 4, h =>
      have h2 : some 0 = some n := h
      cases h2
      exact oa3
    | 5, h =>
      have h2 : some 0 = some n := h
      cases h2
      exact oa4
    | 6, h =>
      have h2 : some 0 = some n := h
      cases h2
      exact oa5
    | 7, h =>
      have h2 : some 0 = some n := h
      cases h2
      exact oa6
    | 8, h =>
      have h2 : some 0 = some n := h
      cases h2
      exact oa7
    | 9, h =>
      have h2 : some 0 = some n := h
      cases h2
      exact oa8
    | 10, h =>
      have h2 : some 0 = some n := h
      cases h2
      exact oa9
    | 11, h =>
      have h2 : some 0 = some n := h
      cases h2
      exact oa10
    | 12, h =>
      have h2 : some 0 = some n := h
      cases h2
      exact oa11
    | 13, h =>
      have h2 : some 0 = some n := h
      cases h2
      exact oa12
    | 14, h =>
      have h2 : some 0 = some n := h
      cases h2
      exact oa13
    | 15, h =>
      have h2 : some 0 = some n := h
      cases h2
      exact oa14
    | 16, h =>
      have h2 : some 0 = some n := h
      cases h2
      exact oa15
    | 17, h =>
      have h2 : some 0 = some n := h
      cases h2
      exact oa16
    | 18, h =>
      have h2 : some 0 = some n := h
      cases h2
      exact oa17
    | 19, h =>
      have h2 : some 0 = some n := h
      cases h2
      exact oa18
    | 20, h =>
      have h2 : some 0 = some n := h
      cases h2
      exact oa19
    | 21, h =>
      have h2 : some 0 = some n := h
      cases h2
      exact oa20
    | 22, h => exact absurd (show (none : Option Nat) = some n from h) (by simp)
    | 23, h => exact absurd (show (none : Option Nat) = some n from h) (by simp)
    | 24, h =>
      have h2 : some 1 = some n := h
      cases h2
      exact ok0
    | 25, h =>
      have h2 : some 1 = some n := h
      cases h2
      exact ok1
    | 26, h =>
      have h2 : some 1 = some n := h
      cases h2
      exact ok2
    | 27, h =>
      have h2 : some 1 = some n := h
      cases h2
      exact ok3
    | 28, h =>
      have h2 : some 1 = some n := h
      cases h2
      exact ok4
    | 29, h =>
      have h2 : some 1 = some n := h
      cases h2
      exact ok5
    | 30, h =>
      have h2 : some 1 = some n := h
      cases h2
      exact ok6
    | 31, h =>
      have h2 : some 1 = some n := h
      cases h2
      exact ok7
    | 32, h =>
      have h2 : some 1 = some n := h
      cases h2
      exact ok8
    | 33, h =>
      have h2 : some 1 = some n := h
      cases h2
      exact ok9
    | 34, h =>
      have h2 : some 1 = some n := h
      cases h2
      exact ok10
    | 35, h =>
      have h2 : some 1 = some n := h
      cases h2
      exact ok11
    | 36, h =>
      have h2 : some 1 = some n := h
      cases h2
      exact ok12
    | 37, h =>
      have h2 : some 1 = some n := h
      cases h2
      exact ok13
    | 38, h =>
      have h2 : some 1 = some n := h
      cases h2
      exact ok14
    | 39, h =>
      have h2 : some 1 = some n := h
      cases h2
      exact ok15
    | 40, h =>
      have h2 : some 1 = some n := h
      cases h2
      exact ok16
    | q + 41, h =>
      rw [List.getElem?_eq_none (by show 41 ≤ q + 41; omega)] at h
      simp at h
  · intro i t n f h
    match i, h with
    | 0, h =>
      have h2 : some ((0 : Nat), L, fun j => Value.int (xs j)) = some (t, n, f) := h
      cases h2
      obtain ⟨scr, g1, g2, g3, g4, g5⟩ := hX
      exact ⟨⟨scr, g1, g2, g3, by omega, by rw [g4], g5, hA b hbl⟩, fun _ => rfl⟩
    | 1, h => exact absurd (show (none : Option (Nat × Nat × (Nat → Value))) = some (t, n, f) from h) (by simp)
    | 2, h => exact absurd (show (none : Option (Nat × Nat × (Nat → Value))) = some (t, n, f) from h) (by simp)
    | 3, h => exact absurd (show (none : Option (Nat × Nat × (Nat → Value))) = some (t, n, f) from h) (by simp)
    | 4, h => exact absurd (show (none : Option (Nat × Nat × (Nat → Value))) = some (t, n, f) from h) (by simp)
    | 5, h => exact absurd (show (none : Option (Nat × Nat × (Nat → Value))) = some (t, n, f) from h) (by simp)
    | 6, h => exact absurd (show (none : Option (Nat × Nat × (Nat → Value))) = some (t, n, f) from h) (by simp)
    | 7, h => exact absurd (show (none : Option (Nat × Nat × (Nat → Value))) = some (t, n, f) from h) (by simp)
    | 8, h => exact absurd (show (none : Option (Nat × Nat × (Nat → Value))) = some (t, n, f) from h) (by simp)
    | 9, h => exact absurd (show (none : Option (Nat × Nat × (Nat → Value))) = some (t, n, f) from h) (by simp)
    | 10, h => exact absurd (show (none : Option (Nat × Nat × (Nat → Value))) = some (t, n, f) from h) (by simp)
    | 11, h => exact absurd (show (none : Option (Nat × Nat × (Nat → Value))) = some (t, n, f) from h) (by simp)
    | 12, h => exact absurd (show (none : Option (Nat × Nat × (Nat → Value))) = some (t, n, f) from h) (by simp)
    | 13, h => exact absurd (show (none : Option (Nat × Nat × (Nat → Value))) = some (t, n, f) from h) (by simp)
    | 14, h => exact absurd (show (none : Option (Nat × Nat × (Nat → Value))) = some (t, n, f) from h) (by simp)
    | 15, h => exact absurd (show (none : Option (Nat × Nat × (Nat → Value))) = some (t, n, f) from h) (by simp)
    | 16, h => exact absurd (show (none : Option (Nat × Nat × (Nat → Value))) = some (t, n, f) from h) (by simp)
    | 17, h => exact absurd (show (none : Option (Nat × Nat × (Nat → Value))) = some (t, n, f) from h) (by simp)
    | 18, h => exact absurd (show (none : Option (Nat × Nat × (Nat → Value))) = some (t, n, f) from h) (by simp)
    | 19, h => exact absurd (show (none : Option (Nat × Nat × (Nat → Value))) = some (t, n, f) from h) (by simp)
    | 20, h => exact absurd (show (none : Option (Nat × Nat × (Nat → Value))) = some (t, n, f) from h) (by simp)
    | 21, h => exact absurd (show (none : Option (Nat × Nat × (Nat → Value))) = some (t, n, f) from h) (by simp)
    | 22, h =>
      have h2 : some ((6 : Nat), (21 : Nat), fun j => md_xaA.getD j .null) = some (t, n, f) := h
      cases h2
      refine ⟨md_Tc TA (fun j hj => ?_), fun j => ?_⟩
      · match j, hj with
        | 0, _ => rfl
        | 1, _ => rfl
        | 2, _ => rfl
        | 3, _ => rfl
        | 4, _ => rfl
        | 5, _ => rfl
        | 6, _ => rfl
        | 7, _ => rfl
        | 8, _ => rfl
        | 9, _ => rfl
        | 10, _ => rfl
        | 11, _ => rfl
        | 12, _ => rfl
        | 13, _ => rfl
        | 14, _ => rfl
        | 15, _ => rfl
        | 16, _ => rfl
        | 17, _ => rfl
        | 18, _ => rfl
        | 19, _ => rfl
        | 20, _ => rfl
        | n + 21, hj => exact absurd hj (by omega)
      · by_cases hj : j < 21
        · exact (by decide +kernel : ∀ j, j < 21 → mm_isx (md_xaA.getD j .null) = true) j hj
        · show mm_isx (md_xaA.getD j .null) = true
          rw [show md_xaA.getD j .null = .null from by rw [List.getD_eq_getElem?_getD, List.getElem?_eq_none (by show 21 ≤ j; omega)]; rfl]; rfl
    | 23, h =>
      have h2 : some ((0 : Nat), (21 : Nat), fun j => md_xaS.getD j .null) = some (t, n, f) := h
      cases h2
      refine ⟨md_Tc TS (fun j hj => ?_), fun j => ?_⟩
      · match j, hj with
        | 0, _ => rfl
        | 1, _ => rfl
        | 2, _ => rfl
        | 3, _ => rfl
        | 4, _ => rfl
        | 5, _ => rfl
        | 6, _ => rfl
        | 7, _ => rfl
        | 8, _ => rfl
        | 9, _ => rfl
        | 10, _ => rfl
        | 11, _ => rfl
        | 12, _ => rfl
        | 13, _ => rfl
        | 14, _ => rfl
        | 15, _ => rfl
        | 16, _ => rfl
        | 17, _ => rfl
        | 18, _ => rfl
        | 19, _ => rfl
        | 20, _ => rfl
        | n + 21, hj => exact absurd hj (by omega)
      · by_cases hj : j < 21
        · exact (by decide +kernel : ∀ j, j < 21 → mm_isx (md_xaS.getD j .null) = true) j hj
        · show mm_isx (md_xaS.getD j .null) = true
          rw [show md_xaS.getD j .null = .null from by rw [List.getD_eq_getElem?_getD, List.getElem?_eq_none (by show 21 ≤ j; omega)]; rfl]; rfl
    | 24, h => exact absurd (show (none : Option (Nat × Nat × (Nat → Value))) = some (t, n, f) from h) (by simp)
    | 25, h => exact absurd (show (none : Option (Nat × Nat × (Nat → Value))) = some (t, n, f) from h) (by simp)
    | 26, h => exact absurd (show (none : Option (Nat × Nat × (Nat → Value))) = some (t, n, f) from h) (by simp)
    | 27, h => exact absurd (show (none : Option (Nat × Nat × (Nat → Value))) = some (t, n, f) from h) (by simp)
    | 28, h => exact absurd (show (none : Option (Nat × Nat × (Nat → Value))) = some (t, n, f) from h) (by simp)
    | 29, h => exact absurd (show (none : Option (Nat × Nat × (Nat → Value))) = some (t, n, f) from h) (by simp)
    | 30, h => exact absurd (show (none : Option (Nat × Nat × (Nat → Value))) = some (t, n, f) from h) (by simp)
    | 31, h => exact absurd (show (none : Option (Nat × Nat × (Nat → Value))) = some (t, n, f) from h) (by simp)
    | 32, h => exact absurd (show (none : Option (Nat × Nat × (Nat → Value))) = some (t, n, f) from h) (by simp)
    | 33, h => exact absurd (show (none : Option (Nat × Nat × (Nat → Value))) = some (t, n, f) from h) (by simp)
    | 34, h => exact absurd (show (none : Option (Nat × Nat × (Nat → Value))) = some (t, n, f) from h) (by simp)
    | 35, h => exact absurd (show (none : Option (Nat × Nat × (Nat → Value))) = some (t, n, f) from h) (by simp)
    | 36, h => exact absurd (show (none : Option (Nat × Nat × (Nat → Value))) = some (t, n, f) from h) (by simp)
    | 37, h => exact absurd (show (none : Option (Nat × Nat × (Nat → Value))) = some (t, n, f) from h) (by simp)
    | 38, h => exact absurd (show (none : Option (Nat × Nat × (Nat → Value))) = some (t, n, f) from h) (by simp)
    | 39, h => exact absurd (show (none : Option (Nat × Nat × (Nat → Value))) = some (t, n, f) from h) (by simp)
    | 40, h => exact absurd (show (none : Option (Nat × Nat × (Nat → Value))) = some (t, n, f) from h) (by simp)
    | 41, h =>
      have h2 : some ((2 : Nat), (0 : Nat), fun j => md_xaT0.getD j .null) = some (t, n, f) := h
      cases h2
      refine ⟨md_Tc Tv0 (fun j hj => ?_), fun j => ?_⟩
      · exact absurd hj (Nat.not_lt_zero j)
      · by_cases hj : j < 0
        · exact (by decide +kernel : ∀ j, j < 0 → mm_isx (md_xaT0.getD j .null) = true) j hj
        · show mm_isx (md_xaT0.getD j .null) = true
          rw [show md_xaT0.getD j .null = .null from by rw [List.getD_eq_getElem?_getD, List.getElem?_eq_none (by show 0 ≤ j; omega)]; rfl]; rfl
    | 42, h =>
      have h2 : some ((2 : Nat), (6 : Nat), fun j => md_xaT1.getD j .null) = some (t, n, f) := h
      cases h2
      refine ⟨md_Tc Tv1 (fun j hj => ?_), fun j => ?_⟩
      · match j, hj with
        | 0, _ => rfl
        | 1, _ => rfl
        | 2, _ => rfl
        | 3, _ => rfl
        | 4, _ => rfl
        | 5, _ => rfl
        | n + 6, hj => exact absurd hj (by omega)
      · by_cases hj : j < 6
        · exact (by decide +kernel : ∀ j, j < 6 → mm_isx (md_xaT1.getD j .null) = true) j hj
        · show mm_isx (md_xaT1.getD j .null) = true
          rw [show md_xaT1.getD j .null = .null from by rw [List.getD_eq_getElem?_getD, List.getElem?_eq_none (by show 6 ≤ j; omega)]; rfl]; rfl
    | 43, h =>
      have h2 : some ((2 : Nat), (1 : Nat), fun j => md_xaT2.getD j .null) = some (t, n, f) := h
      cases h2
      refine ⟨md_Tc Tv2 (fun j hj => ?_), fun j => ?_⟩
      · match j, hj with
        | 0, _ => rfl
        | n + 1, hj => exact absurd hj (by omega)
      · by_cases hj : j < 1
        · exact (by decide +kernel : ∀ j, j < 1 → mm_isx (md_xaT2.getD j .null) = true) j hj
        · show mm_isx (md_xaT2.getD j .null) = true
          rw [show md_xaT2.getD j .null = .null from by rw [List.getD_eq_getElem?_getD, List.getElem?_eq_none (by show 1 ≤ j; omega)]; rfl]; rfl
    | 44, h =>
      have h2 : some ((2 : Nat), (8 : Nat), fun j => md_xaT3.getD j .null) = some (t, n, f) := h
      cases h2
      refine ⟨md_Tc Tv3 (fun j hj => ?_), fun j => ?_⟩
      · match j, hj with
        | 0, _ => rfl
        | 1, _ => rfl
        | 2, _ => rfl
        | 3, _ => rfl
        | 4, _ => rfl
        | 5, _ => rfl
        | 6, _ => rfl
        | 7, _ => rfl
        | n + 8, hj => exact absurd hj (by omega)
      · by_cases hj : j < 8
        · exact (by decide +kernel : ∀ j, j < 8 → mm_isx (md_xaT3.getD j .null) = true) j hj
        · show mm_isx (md_xaT3.getD j .null) = true
          rw [show md_xaT3.getD j .null = .null from by rw [List.getD_eq_getElem?_getD, List.getElem?_eq_none (by show 8 ≤ j; omega)]; rfl]; rfl
    | 45, h =>
      have h2 : some ((2 : Nat), (3 : Nat), fun j => md_xaT4.getD j .null) = some (t, n, f) := h
      cases h2
      refine ⟨md_Tc Tv4 (fun j hj => ?_), fun j => ?_⟩
      · match j, hj with
        | 0, _ => rfl
        | 1, _ => rfl
        | 2, _ => rfl
        | n + 3, hj => exact absurd hj (by omega)
      · by_cases hj : j < 3
        · exact (by decide +kernel : ∀ j, j < 3 → mm_isx (md_xaT4.getD j .null) = true) j hj
        · show mm_isx (md_xaT4.getD j .null) = true
          rw [show md_xaT4.getD j .null = .null from by rw [List.getD_eq_getElem?_getD, List.getElem?_eq_none (by show 3 ≤ j; omega)]; rfl]; rfl
    | 46, h =>
      have h2 : some ((2 : Nat), (1 : Nat), fun j => md_xaT5.getD j .null) = some (t, n, f) := h
      cases h2
      refine ⟨md_Tc Tv5 (fun j hj => ?_), fun j => ?_⟩
      · match j, hj with
        | 0, _ => rfl
        | n + 1, hj => exact absurd hj (by omega)
      · by_cases hj : j < 1
        · exact (by decide +kernel : ∀ j, j < 1 → mm_isx (md_xaT5.getD j .null) = true) j hj
        · show mm_isx (md_xaT5.getD j .null) = true
          rw [show md_xaT5.getD j .null = .null from by rw [List.getD_eq_getElem?_getD, List.getElem?_eq_none (by show 1 ≤ j; omega)]; rfl]; rfl
    | 47, h =>
      have h2 : some ((2 : Nat), (5 : Nat), fun j => md_xaT6.getD j .null) = some (t, n, f) := h
      cases h2
      refine ⟨md_Tc Tv6 (fun j hj => ?_), fun j => ?_⟩
      · match j, hj with
        | 0, _ => rfl
        | 1, _ => rfl
        | 2, _ => rfl
        | 3, _ => rfl
        | 4, _ => rfl
        | n + 5, hj => exact absurd hj (by omega)
      · by_cases hj : j < 5
        · exact (by decide +kernel : ∀ j, j < 5 → mm_isx (md_xaT6.getD j .null) = true) j hj
        · show mm_isx (md_xaT6.getD j .null) = true
          rw [show md_xaT6.getD j .null = .null from by rw [List.getD_eq_getElem?_getD, List.getElem?_eq_none (by show 5 ≤ j; omega)]; rfl]; rfl
    | 48, h =>
      have h2 : some ((2 : Nat), (4 : Nat), fun j => md_xaT7.getD j .null) = some (t, n, f) := h
      cases h2
      refine ⟨md_Tc Tv7 (fun j hj => ?_), fun j => ?_⟩
      · match j, hj with
        | 0, _ => rfl
        | 1, _ => rfl
        | 2, _ => rfl
        | 3, _ => rfl
        | n + 4, hj => exact absurd hj (by omega)
      · by_cases hj : j < 4
        · exact (by decide +kernel : ∀ j, j < 4 → mm_isx (md_xaT7.getD j .null) = true) j hj
        · show mm_isx (md_xaT7.getD j .null) = true
          rw [show md_xaT7.getD j .null = .null from by rw [List.getD_eq_getElem?_getD, List.getElem?_eq_none (by show 4 ≤ j; omega)]; rfl]; rfl
    | 49, h =>
      have h2 : some ((2 : Nat), (6 : Nat), fun j => md_xaT8.getD j .null) = some (t, n, f) := h
      cases h2
      refine ⟨md_Tc Tv8 (fun j hj => ?_), fun j => ?_⟩
      · match j, hj with
        | 0, _ => rfl
        | 1, _ => rfl
        | 2, _ => rfl
        | 3, _ => rfl
        | 4, _ => rfl
        | 5, _ => rfl
        | n + 6, hj => exact absurd hj (by omega)
      · by_cases hj : j < 6
        · exact (by decide +kernel : ∀ j, j < 6 → mm_isx (md_xaT8.getD j .null) = true) j hj
        · show mm_isx (md_xaT8.getD j .null) = true
          rw [show md_xaT8.getD j .null = .null from by rw [List.getD_eq_getElem?_getD, List.getElem?_eq_none (by show 6 ≤ j; omega)]; rfl]; rfl
    | 50, h =>
      have h2 : some ((2 : Nat), (5 : Nat), fun j => md_xaT9.getD j .null) = some (t, n, f) := h
      cases h2
      refine ⟨md_Tc Tv9 (fun j hj => ?_), fun j => ?_⟩
      · match j, hj with
        | 0, _ => rfl
        | 1, _ => rfl
        | 2, _ => rfl
        | 3, _ => rfl
        | 4, _ => rfl
        | n + 5, hj => exact absurd hj (by omega)
      · by_cases hj : j < 5
        · exact (by decide +kernel : ∀ j, j < 5 → mm_isx (md_xaT9.getD j .null) = true) j hj
        · show mm_isx (md_xaT9.getD j .null) = true
          rw [show md_xaT9.getD j .null = .null from by rw [List.getD_eq_getElem?_getD, List.getElem?_eq_none (by show 5 ≤ j; omega)]; rfl]; rfl
    | 51, h =>
      have h2 : some ((2 : Nat), (7 : Nat), fun j => md_xaT10.getD j .null) = some (t, n, f) := h
      cases h2
      refine ⟨md_Tc Tv10 (fun j hj => ?_), fun j => ?_⟩
      · match j, hj with
        | 0, _ => rfl
        | 1, _ => rfl
        | 2, _ => rfl
        | 3, _ => rfl
        | 4, _ => rfl
        | 5, _ => rfl
        | 6, _ => rfl
        | n + 7, hj => exact absurd hj (by omega)
      · by_cases hj : j < 7
        · exact (by decide +kernel : ∀ j, j < 7 → mm_isx (md_xaT10.getD j .null) = true) j hj
        · show mm_isx (md_xaT10.getD j .null) = true
          rw [show md_xaT10.getD j .null = .null from by rw [List.getD_eq_getElem?_getD, List.getElem?_eq_none (by show 7 ≤ j; omega)]; rfl]; rfl
    | 52, h =>
      have h2 : some ((2 : Nat), (1 : Nat), fun j => md_xaT11.getD j .null) = some (t, n, f) := h
      cases h2
      refine ⟨md_Tc Tv11 (fun j hj => ?_), fun j => ?_⟩
      · match j, hj with
        | 0, _ => rfl
        | n + 1, hj => exact absurd hj (by omega)
      · by_cases hj : j < 1
        · exact (by decide +kernel : ∀ j, j < 1 → mm_isx (md_xaT11.getD j .null) = true) j hj
        · show mm_isx (md_xaT11.getD j .null) = true
          rw [show md_xaT11.getD j .null = .null from by rw [List.getD_eq_getElem?_getD, List.getElem?_eq_none (by show 1 ≤ j; omega)]; rfl]; rfl
    | 53, h =>
      have h2 : some ((2 : Nat), (6 : Nat), fun j => md_xaT12.getD j .null) = some (t, n, f) := h
      cases h2
      refine ⟨md_Tc Tv12 (fun j hj => ?_), fun j => ?_⟩
      · match j, hj with
        | 0, _ => rfl
        | 1, _ => rfl
        | 2, _ => rfl
        | 3, _ => rfl
        | 4, _ => rfl
        | 5, _ => rfl
        | n + 6, hj => exact absurd hj (by omega)
      · by_cases hj : j < 6
        · exact (by decide +kernel : ∀ j, j < 6 → mm_isx (md_xaT12.getD j .null) = true) j hj
        · show mm_isx (md_xaT12.getD j .null) = true
          rw [show md_xaT12.getD j .null = .null from by rw [List.getD_eq_getElem?_getD, List.getElem?_eq_none (by show 6 ≤ j; omega)]; rfl]; rfl
    | 54, h =>
      have h2 : some ((2 : Nat), (7 : Nat), fun j => md_xaT13.getD j .null) = some (t, n, f) := h
      cases h2
      refine ⟨md_Tc Tv13 (fun j hj => ?_), fun j => ?_⟩
      · match j, hj with
        | 0, _ => rfl
        | 1, _ => rfl
        | 2, _ => rfl
        | 3, _ => rfl
        | 4, _ => rfl
        | 5, _ => rfl
        | 6, _ => rfl
        | n + 7, hj => exact absurd hj (by omega)
      · by_cases hj : j < 7
        · exact (by decide +kernel : ∀ j, j < 7 → mm_isx (md_xaT13.getD j .null) = true) j hj
        · show mm_isx (md_xaT13.getD j .null) = true
          rw [show md_xaT13.getD j .null = .null from by rw [List.getD_eq_getElem?_getD, List.getElem?_eq_none (by show 7 ≤ j; omega)]; rfl]; rfl
    | 55, h =>
      have h2 : some ((2 : Nat), (7 : Nat), fun j => md_xaT14.getD j .null) = some (t, n, f) := h
      cases h2
      refine ⟨md_Tc Tv14 (fun j hj => ?_), fun j => ?_⟩
      · match j, hj with
        | 0, _ => rfl
        | 1, _ => rfl
        | 2, _ => rfl
        | 3, _ => rfl
        | 4, _ => rfl
        | 5, _ => rfl
        | 6, _ => rfl
        | n + 7, hj => exact absurd hj (by omega)
      · by_cases hj : j < 7
        · exact (by decide +kernel : ∀ j, j < 7 → mm_isx (md_xaT14.getD j .null) = true) j hj
        · show mm_isx (md_xaT14.getD j .null) = true
          rw [show md_xaT14.getD j .null = .null from by rw [List.getD_eq_getElem?_getD, List.getElem?_eq_none (by show 7 ≤ j; omega)]; rfl]; rfl
    | 56, h =>
      have h2 : some ((2 : Nat), (7 : Nat), fun j => md_xaT15.getD j .null) = some (t, n, f) := h
      cases h2
      refine ⟨md_Tc Tv15 (fun j hj => ?_), fun j => ?_⟩
      · match j, hj with
        | 0, _ => rfl
        | 1, _ => rfl
        | 2, _ => rfl
        | 3, _ => rfl
        | 4, _ => rfl
        | 5, _ => rfl
        | 6, _ => rfl
        | n + 7, hj => exact absurd hj (by omega)
      · by_cases hj : j < 7
        · exact (by decide +kernel : ∀ j, j < 7 → mm_isx (md_xaT15.getD j .null) = true) j hj
        · show mm_isx (md_xaT15.getD j .null) = true
          rw [show md_xaT15.getD j .null = .null from by rw [List.getD_eq_getElem?_getD, List.getElem?_eq_none (by show 7 ≤ j; omega)]; rfl]; rfl
    | 57, h =>
      have h2 : some ((2 : Nat), (5 : Nat), fun j => md_xaT16.getD j .null) = some (t, n, f) := h
      cases h2
      refine ⟨md_Tc Tv16 (fun j hj => ?_), fun j => ?_⟩
      · match j, hj with
        | 0, _ => rfl
        | 1, _ => rfl
        | 2, _ => rfl
        | 3, _ => rfl
        | 4, _ => rfl
        | n + 5, hj => exact absurd hj (by omega)
      · by_cases hj : j < 5
        · exact (by decide +kernel : ∀ j, j < 5 → mm_isx (md_xaT16.getD j .null) = true) j hj
        · show mm_isx (md_xaT16.getD j .null) = true
          rw [show md_xaT16.getD j .null = .null from by rw [List.getD_eq_getElem?_getD, List.getElem?_eq_none (by show 5 ≤ j; omega)]; rfl]; rfl
    | 58, h => exact absurd (show (none : Option (Nat × Nat × (Nat → Value))) = some (t, n, f) from h) (by simp)
    | 59, h => exact absurd (show (none : Option (Nat × Nat × (Nat → Value))) = some (t, n, f) from h) (by simp)
    | 60, h => exact absurd (show (none : Option (Nat × Nat × (Nat → Value))) = some (t, n, f) from h) (by simp)
    | 61, h => exact absurd (show (none : Option (Nat × Nat × (Nat → Value))) = some (t, n, f) from h) (by simp)
    | 62, h => exact absurd (show (none : Option (Nat × Nat × (Nat → Value))) = some (t, n, f) from h) (by simp)
    | 63, h => exact absurd (show (none : Option (Nat × Nat × (Nat → Value))) = some (t, n, f) from h) (by simp)
    | 64, h => exact absurd (show (none : Option (Nat × Nat × (Nat → Value))) = some (t, n, f) from h) (by simp)
    | 65, h => exact absurd (show (none : Option (Nat × Nat × (Nat → Value))) = some (t, n, f) from h) (by simp)
    | 66, h => exact absurd (show (none : Option (Nat × Nat × (Nat → Value))) = some (t, n, f) from h) (by simp)
    | 67, h => exact absurd (show (none : Option (Nat × Nat × (Nat → Value))) = some (t, n, f) from h) (by simp)
    | 68, h => exact absurd (show (none : Option (Nat × Nat × (Nat → Value))) = some (t, n, f) from h) (by simp)
    | 69, h => exact absurd (show (none : Option (Nat × Nat × (Nat → Value))) = some (t, n, f) from h) (by simp)
    | 70, h => exact absurd (show (none : Option (Nat × Nat × (Nat → Value))) = some (t, n, f) from h) (by simp)
    | 71, h => exact absurd (show (none : Option (Nat × Nat × (Nat → Value))) = some (t, n, f) from h) (by simp)
    | 72, h => exact absurd (show (none : Option (Nat × Nat × (Nat → Value))) = some (t, n, f) from h) (by simp)
    | 73, h => exact absurd (show (none : Option (Nat × Nat × (Nat → Value))) = some (t, n, f) from h) (by simp)
    | 74, h => exact absurd (show (none : Option (Nat × Nat × (Nat → Value))) = some (t, n, f) from h) (by simp)
    | 75, h => exact absurd (show (none : Option (Nat × Nat × (Nat → Value))) = some (t, n, f) from h) (by simp)
    | 76, h => exact absurd (show (none : Option (Nat × Nat × (Nat → Value))) = some (t, n, f) from h) (by simp)
    | 77, h => exact absurd (show (none : Option (Nat × Nat × (Nat → Value))) = some (t, n, f) from h) (by simp)
    | 78, h => exact absurd (show (none : Option (Nat × Nat × (Nat → Value))) = some (t, n, f) from h) (by simp)
    | 79, h => exact absurd (show (none : Option (Nat × Nat × (Nat → Value))) = some (t, n, f) from h) (by simp)
    | 80, h => exact absurd (show (none : Option (Nat × Nat × (Nat → Value))) = some (t, n, f) from h) (by simp)
    | 81, h => exact absurd (show (none : Option (Nat × Nat × (Nat → Value))) = some (t, n, f) from h) (by simp)
    | 82, h => exact absurd (show (none : Option (Nat × Nat × (Nat → Value))) = some (t, n, f) from h) (by simp)
    | 83, h => exact absurd (show (none : Option (Nat × Nat × (Nat → Value))) = some (t, n, f) from h) (by simp)
    | 84, h => exact absurd (show (none : Option (Nat × Nat × (Nat → Value))) = some (t, n, f) from h) (by simp)
    | 85, h => exact absurd (show (none : Option (Nat × Nat × (Nat → Value))) = some (t, n, f) from h) (by simp)
    | 86, h => exact absurd (show (none : Option (Nat × Nat × (Nat → Value))) = some (t, n, f) from h) (by simp)
    | 87, h => exact absurd (show (none : Option (Nat × Nat × (Nat → Value))) = some (t, n, f) from h) (by simp)
    | 88, h =>
      have h2 : some ((2 : Nat), (100 : Nat), fun j => md_xaD0.getD j .null) = some (t, n, f) := h
      cases h2
      refine ⟨md_Tc Tg0 (fun j hj => ?_), fun j => ?_⟩
      · match j, hj with
        | 0, _ => rfl
        | 1, _ => rfl
        | 2, _ => rfl
        | 3, _ => rfl
        | 4, _ => rfl
        | 5, _ => rfl
        | 6, _ => rfl
        | 7, _ => rfl
        | 8, _ => rfl
        | 9, _ => rfl
        | 10, _ => rfl
        | 11, _ => rfl
        | 12, _ => rfl
        | 13, _ => rfl
        | 14, _ => rfl
        | 15, _ => rfl
        | 16, _ => rfl
        | 17, _ => rfl
        | 18, _ => rfl
        | 19, _ => rfl
        | 20, _ => rfl
        | 21, _ => rfl
        | 22, _ => rfl
        | 23, _ => rfl
        | 24, _ => rfl
        | 25, _ => rfl
        | 26, _ => rfl
        | 27, _ => rfl
        | 28, _ => rfl
        | 29, _ => rfl
        | 30, _ => rfl
        | 31, _ => rfl
        | 32, _ => rfl
        | 33, _ => rfl
        | 34, _ => rfl
        | 35, _ => rfl
        | 36, _ => rfl
        | 37, _ => rfl
        | 38, _ => rfl
        | 39, _ => rfl
        | 40, _ => rfl
        | 41, _ => rfl
        | 42, _ => rfl
        | 43, _ => rfl
        | 44, _ => rfl
        | 45, _ => rfl
        | 46, _ => rfl
        | 47, _ => rfl
        | 48, _ => rfl
        | 49, _ => rfl
        | 50, _ => rfl
        | 51, _ => rfl
        | 52, _ => rfl
        | 53, _ => rfl
        | 54, _ => rfl
        | 55, _ => rfl
        | 56, _ => rfl
        | 57, _ => rfl
        | 58, _ => rfl
        | 59, _ => rfl
        | 60, _ => rfl
        | 61, _ => rfl
        | 62, _ => rfl
        | 63, _ => rfl
        | 64, _ => rfl
        | 65, _ => rfl
        | 66, _ => rfl
        | 67, _ => rfl
        | 68, _ => rfl
        | 69, _ => rfl
        | 70, _ => rfl
        | 71, _ => rfl
        | 72, _ => rfl
        | 73, _ => rfl
        | 74, _ => rfl
        | 75, _ => rfl
        | 76, _ => rfl
        | 77, _ => rfl
        | 78, _ => rfl
        | 79, _ => rfl
        | 80, _ => rfl
        | 81, _ => rfl
        | 82, _ => rfl
        | 83, _ => rfl
        | 84, _ => rfl
        | 85, _ => rfl
        | 86, _ => rfl
        | 87, _ => rfl
        | 88, _ => rfl
        | 89, _ => rfl
        | 90, _ => rfl
        | 91, _ => rfl
        | 92, _ => rfl
        | 93, _ => rfl
        | 94, _ => rfl
        | 95, _ => rfl
        | 96, _ => rfl
        | 97, _ => rfl
        | 98, _ => rfl
        | 99, _ => rfl
        | n + 100, hj => exact absurd hj (by omega)
      · by_cases hj : j < 100
        · exact (by decide +kernel : ∀ j, j < 100 → mm_isx (md_xaD0.getD j .null) = true) j hj
        · show mm_isx (md_xaD0.getD j .null) = true
          rw [show md_xaD0.getD j .null = .null from by rw [List.getD_eq_getElem?_getD, List.getElem?_eq_none (by show 100 ≤ j; omega)]; rfl]; rfl
    | 89, h =>
      have h2 : some ((2 : Nat), (100 : Nat), fun j => md_xaD1.getD j .null) = some (t, n, f) := h
      cases h2
      refine ⟨md_Tc Tg1 (fun j hj => ?_), fun j => ?_⟩
      · match j, hj with
        | 0, _ => rfl
        | 1, _ => rfl
        | 2, _ => rfl
        | 3, _ => rfl
        | 4, _ => rfl
        | 5, _ => rfl
        | 6, _ => rfl
        | 7, _ => rfl
        | 8, _ => rfl
        | 9, _ => rfl
        | 10, _ => rfl
        | 11, _ => rfl
        | 12, _ => rfl
        | 13, _ => rfl
        | 14, _ => rfl
        | 15, _ => rfl
        | 16, _ => rfl
        | 17, _ => rfl
        | 18, _ => rfl
        | 19, _ => rfl
        | 20, _ => rfl
        | 21, _ => rfl
        | 22, _ => rfl
        | 23, _ => rfl
        | 24, _ => rfl
        | 25, _ => rfl
        | 26, _ => rfl
        | 27, _ => rfl
        | 28, _ => rfl
        | 29, _ => rfl
        | 30, _ => rfl
        | 31, _ => rfl
        | 32, _ => rfl
        | 33, _ => rfl
        | 34, _ => rfl
        | 35, _ => rfl
        | 36, _ => rfl
        | 37, _ => rfl
        | 38, _ => rfl
        | 39, _ => rfl
        | 40, _ => rfl
        | 41, _ => rfl
        | 42, _ => rfl
        | 43, _ => rfl
        | 44, _ => rfl
        | 45, _ => rfl
        | 46, _ => rfl
        | 47, _ => rfl
        | 48, _ => rfl
        | 49, _ => rfl
        | 50, _ => rfl
        | 51, _ => rfl
        | 52, _ => rfl
        | 53, _ => rfl
        | 54, _ => rfl
        | 55, _ => rfl
        | 56, _ => rfl
        | 57, _ => rfl
        | 58, _ => rfl
        | 59, _ => rfl
        | 60, _ => rfl
        | 61, _ => rfl
        | 62, _ => rfl
        | 63, _ => rfl
        | 64, _ => rfl
        | 65, _ => rfl
        | 66, _ => rfl
        | 67, _ => rfl
        | 68, _ => rfl
        | 69, _ => rfl
        | 70, _ => rfl
        | 71, _ => rfl
        | 72, _ => rfl
        | 73, _ => rfl
        | 74, _ => rfl
        | 75, _ => rfl
        | 76, _ => rfl
        | 77, _ => rfl
        | 78, _ => rfl
        | 79, _ => rfl
        | 80, _ => rfl
        | 81, _ => rfl
        | 82, _ => rfl
        | 83, _ => rfl
        | 84, _ => rfl
        | 85, _ => rfl
        | 86, _ => rfl
        | 87, _ => rfl
        | 88, _ => rfl
        | 89, _ => rfl
        | 90, _ => rfl
        | 91, _ => rfl
        | 92, _ => rfl
        | 93, _ => rfl
        | 94, _ => rfl
        | 95, _ => rfl
        | 96, _ => rfl
        | 97, _ => rfl
        | 98, _ => rfl
        | 99, _ => rfl
        | n + 100, hj => exact absurd hj (by omega)
      · by_cases hj : j < 100
        · exact (by decide +kernel : ∀ j, j < 100 → mm_isx (md_xaD1.getD j .null) = true) j hj
        · show mm_isx (md_xaD1.getD j .null) = true
          rw [show md_xaD1.getD j .null = .null from by rw [List.getD_eq_getElem?_getD, List.getElem?_eq_none (by show 100 ≤ j; omega)]; rfl]; rfl
    | 90, h =>
      have h2 : some ((7 : Nat), (0 : Nat), fun (_ : Nat) => Value.null) = some (t, n, f) := h
      cases h2
      exact ⟨TE, fun _ => rfl⟩
    | 91, h =>
      have h2 : some ((8 : Nat), (256 : Nat), fun j => Value.ref (1000000 + (92 + j))) = some (t, n, f) := h
      cases h2
      refine ⟨md_Tc TC (fun j hj => ?_), fun j => decide_eq_true (by show 1000000 ≤ 1000000 + (92 + j); omega)⟩
      show Value.ref (ad j) = Value.ref (xl (1000000 + (92 + j) - 1000000))
      rw [Nat.add_sub_cancel_left, hxc j]
    | q + 92, h =>
      have h2 : ((md_xaL[q + 92]?).getD none) = some (t, n, f) := by
        unfold md_xa at h
        dsimp only at h
        rwa [if_neg (by omega : ¬ q + 92 = 0)] at h
      exact absurd h2 (by rw [List.getElem?_eq_none (by rw [show md_xaL.length = 92 from rfl]; omega)]; simp)
  · refine List.forall_mem_cons.mpr ⟨vk_R.of (hts _ (mm_tb_in 3 (List.mem_of_getElem? (i := 189) rfl))) em0, List.forall_mem_cons.mpr ⟨vk_R.of (hts _ (mm_tb_in 4 (List.mem_of_getElem? (i := 8) rfl))) em1, List.forall_mem_cons.mpr ⟨vk_R.of (hts _ (mm_tb_in 5 (List.mem_of_getElem? (i := 135) rfl))) ek0, List.forall_mem_cons.mpr ⟨vk_R.of (hts _ (mm_tb_in 6 (List.mem_of_getElem? (i := 143) rfl))) ek1, List.forall_mem_cons.mpr ⟨vk_R.of (hts _ (mm_tb_in 7 (List.mem_of_getElem? (i := 12) rfl))) ek2, List.forall_mem_cons.mpr ⟨vk_R.of (hts _ (mm_tb_in 7 (List.mem_of_getElem? (i := 97) rfl))) ek3, List.forall_mem_cons.mpr ⟨vk_R.of (hts _ (mm_tb_in 7 (List.mem_of_getElem? (i := 139) rfl))) em2, List.forall_mem_cons.mpr ⟨vk_R.of (hts _ (mm_tb_in 7 (List.mem_of_getElem? (i := 180) rfl))) em3, List.forall_mem_cons.mpr ⟨vk_R.of (hts _ (mm_tb_in 7 (List.mem_of_getElem? (i := 219) rfl))) ek4, List.forall_mem_cons.mpr ⟨vk_R.of (hts _ (mm_tb_in 7 (List.mem_of_getElem? (i := 220) rfl))) ek5, List.forall_mem_cons.mpr ⟨vk_R.of (hts _ (mm_tb_in 7 (List.mem_of_getElem? (i := 221) rfl))) ek6, List.forall_mem_cons.mpr ⟨vk_R.of (hts _ (mm_tb_in 7 (List.mem_of_getElem? (i := 236) rfl))) ek7, List.forall_mem_cons.mpr ⟨vk_R.of (hts _ (mm_tb_in 7 (List.mem_of_getElem? (i := 237) rfl))) ek8, List.forall_mem_cons.mpr ⟨vk_R.of (hts _ (mm_tb_in 7 (List.mem_of_getElem? (i := 238) rfl))) ek9, List.forall_mem_cons.mpr ⟨vk_R.of (hts _ (mm_tb_in 8 (List.mem_of_getElem? (i := 12) rfl))) ek10, List.forall_mem_cons.mpr ⟨vk_R.of (hts _ (mm_tb_in 8 (List.mem_of_getElem? (i := 13) rfl))) ek11, List.forall_mem_cons.mpr ⟨vk_R.of (hts _ (mm_tb_in 8 (List.mem_of_getElem? (i := 14) rfl))) ek12, List.forall_mem_cons.mpr ⟨vk_R.of (hts _ (mm_tb_in 8 (List.mem_of_getElem? (i := 15) rfl))) ek13, List.forall_mem_cons.mpr ⟨vk_R.of (hts _ (mm_tb_in 8 (List.mem_of_getElem? (i := 16) rfl))) ek14, List.forall_mem_cons.mpr ⟨vk_R.of (hts _ (mm_tb_in 8 (List.mem_of_getElem? (i := 17) rfl))) ek15, List.forall_mem_cons.mpr ⟨vk_R.of (hts _ (mm_tb_in 8 (List.mem_of_getElem? (i := 18) rfl))) ek16, List.forall_mem_cons.mpr ⟨vk_R.of (hts _ (mm_tb_in 8 (List.mem_of_getElem? (i := 51) rfl))) em4, List.forall_mem_cons.mpr ⟨vk_R.of (hts _ (mm_tb_in 8 (List.mem_of_getElem? (i := 70) rfl))) em5, List.forall_mem_cons.mpr ⟨vk_R.of (hts _ (mm_tb_in 8 (List.mem_of_getElem? (i := 95) rfl))) em6, List.forall_mem_cons.mpr ⟨vk_R.of (hts _ (mm_tb_in 8 (List.mem_of_getElem? (i := 110) rfl))) em7, List.forall_mem_cons.mpr ⟨vk_R.of (hts _ (mm_tb_in 8 (List.mem_of_getElem? (i := 111) rfl))) em8, List.forall_mem_cons.mpr ⟨vk_R.of (hts _ (mm_tb_in 8 (List.mem_of_getElem? (i := 160) rfl))) em9, List.forall_mem_cons.mpr ⟨vk_R.of (hts _ (mm_tb_in 8 (List.mem_of_getElem? (i := 176) rfl))) em10, List.forall_mem_cons.mpr ⟨vk_R.of (hts _ (mm_tb_in 8 (List.mem_of_getElem? (i := 177) rfl))) em11, List.forall_mem_cons.mpr ⟨vk_R.of (hts _ (mm_tb_in 8 (List.mem_of_getElem? (i := 178) rfl))) em12, List.forall_mem_cons.mpr ⟨vk_R.of (hts _ (mm_tb_in 8 (List.mem_of_getElem? (i := 179) rfl))) em13, List.forall_mem_cons.mpr ⟨vk_R.of (hts _ (mm_tb_in 8 (List.mem_of_getElem? (i := 180) rfl))) em14, List.forall_mem_cons.mpr ⟨vk_R.of (hts _ (mm_tb_in 8 (List.mem_of_getElem? (i := 181) rfl))) em15, List.forall_mem_cons.mpr ⟨vk_R.of (hts _ (mm_tb_in 8 (List.mem_of_getElem? (i := 182) rfl))) em16, List.forall_mem_cons.mpr ⟨vk_R.of (hts _ (mm_tb_in 8 (List.mem_of_getElem? (i := 183) rfl))) em17, List.forall_mem_cons.mpr ⟨vk_R.of (hts _ (mm_tb_in 8 (List.mem_of_getElem? (i := 184) rfl))) em18, List.forall_mem_cons.mpr ⟨vk_R.of (hts _ (mm_tb_in 8 (List.mem_of_getElem? (i := 185) rfl))) em19, List.forall_mem_cons.mpr ⟨vk_R.of (hts _ (mm_tb_in 8 (List.mem_of_getElem? (i := 186) rfl))) em20, List.forall_mem_cons.mpr ⟨vk_R.of (hts _ (mm_tb_in 8 (List.mem_of_getElem? (i := 187) rfl))) em21, List.forall_mem_cons.mpr ⟨vk_R.of (hts _ (mm_tb_in 8 (List.mem_of_getElem? (i := 188) rfl))) em22, List.forall_mem_cons.mpr ⟨vk_R.of (hts _ (mm_tb_in 8 (List.mem_of_getElem? (i := 189) rfl))) em23, List.forall_mem_cons.mpr ⟨vk_R.of (hts _ (mm_tb_in 8 (List.mem_of_getElem? (i := 190) rfl))) em24, List.forall_mem_cons.mpr ⟨vk_R.of (hts _ (mm_tb_in 8 (List.mem_of_getElem? (i := 191) rfl))) em25, List.forall_mem_cons.mpr ⟨vk_R.of (hts _ (mm_tb_in 8 (List.mem_of_getElem? (i := 192) rfl))) em26, List.forall_mem_cons.mpr ⟨vk_R.of (hts _ (mm_tb_in 8 (List.mem_of_getElem? (i := 193) rfl))) em27, List.forall_mem_cons.mpr ⟨vk_R.of (hts _ (mm_tb_in 8 (List.mem_of_getElem? (i := 194) rfl))) em28, List.forall_mem_cons.mpr ⟨vk_R.of (hts _ (mm_tb_in 8 (List.mem_of_getElem? (i := 195) rfl))) em29, fun _ h => nomatch h⟩⟩⟩⟩⟩⟩⟩⟩⟩⟩⟩⟩⟩⟩⟩⟩⟩⟩⟩⟩⟩⟩⟩⟩⟩⟩⟩⟩⟩⟩⟩⟩⟩⟩⟩⟩⟩⟩⟩⟩⟩⟩⟩⟩⟩⟩⟩
  · refine List.forall_mem_cons.mpr ⟨va_Nw.of rfl (hts _ (mm_tb_in 8 (List.mem_of_getElem? (i := 44) rfl))), List.forall_mem_cons.mpr ⟨va_Nw.of rfl (hts _ (mm_tb_in 3 (List.mem_of_getElem? (i := 150) rfl))), List.forall_mem_cons.mpr ⟨va_Nw.of rfl (hts _ (mm_tb_in 4 (List.mem_of_getElem? (i := 1) rfl))), List.forall_mem_cons.mpr ⟨va_Nw.of rfl (hts _ (mm_tb_in 6 (List.mem_of_getElem? (i := 49) rfl))), List.forall_mem_cons.mpr ⟨va_Nw.of rfl (hts _ (mm_tb_in 6 (List.mem_of_getElem? (i := 173) rfl))), List.forall_mem_cons.mpr ⟨va_Nw.of rfl (hts _ (mm_tb_in 8 (List.mem_of_getElem? (i := 129) rfl))), List.forall_mem_cons.mpr ⟨va_Nw.of rfl (hts _ (mm_tb_in 8 (List.mem_of_getElem? (i := 126) rfl))), List.forall_mem_cons.mpr ⟨va_Nw.of rfl (hts _ (mm_tb_in 3 (List.mem_of_getElem? (i := 152) rfl))), List.forall_mem_cons.mpr ⟨va_Nw.of rfl (hts _ (mm_tb_in 3 (List.mem_of_getElem? (i := 154) rfl))), List.forall_mem_cons.mpr ⟨va_Nw.of rfl (hts _ (mm_tb_in 3 (List.mem_of_getElem? (i := 156) rfl))), List.forall_mem_cons.mpr ⟨va_Nw.of rfl (hts _ (mm_tb_in 6 (List.mem_of_getElem? (i := 48) rfl))), List.forall_mem_cons.mpr ⟨va_Nw.of rfl (hts _ (mm_tb_in 7 (List.mem_of_getElem? (i := 101) rfl))), List.forall_mem_cons.mpr ⟨va_Nw.of rfl (hts _ (mm_tb_in 7 (List.mem_of_getElem? (i := 225) rfl))), List.forall_mem_cons.mpr ⟨va_Nw.of rfl (hts _ (mm_tb_in 7 (List.mem_of_getElem? (i := 140) rfl))), List.forall_mem_cons.mpr ⟨va_Nw.of rfl (hts _ (mm_tb_in 6 (List.mem_of_getElem? (i := 47) rfl))), List.forall_mem_cons.mpr ⟨va_Nw.of rfl (hts _ (mm_tb_in 6 (List.mem_of_getElem? (i := 53) rfl))), List.forall_mem_cons.mpr ⟨va_Nw.of rfl (hts _ (mm_tb_in 6 (List.mem_of_getElem? (i := 51) rfl))), List.forall_mem_cons.mpr ⟨va_Nw.of rfl (hts _ (mm_tb_in 7 (List.mem_of_getElem? (i := 100) rfl))), List.forall_mem_cons.mpr ⟨va_Nw.of rfl (hts _ (mm_tb_in 7 (List.mem_of_getElem? (i := 105) rfl))), List.forall_mem_cons.mpr ⟨va_Nw.of rfl (hts _ (mm_tb_in 7 (List.mem_of_getElem? (i := 103) rfl))), List.forall_mem_cons.mpr ⟨va_Nw.of rfl (hts _ (mm_tb_in 7 (List.mem_of_getElem? (i := 224) rfl))), List.forall_mem_cons.mpr ⟨va_Nw.of rfl (hts _ (mm_tb_in 7 (List.mem_of_getElem? (i := 229) rfl))), List.forall_mem_cons.mpr ⟨va_Nw.of rfl (hts _ (mm_tb_in 7 (List.mem_of_getElem? (i := 227) rfl))), fun _ h => nomatch h⟩⟩⟩⟩⟩⟩⟩⟩⟩⟩⟩⟩⟩⟩⟩⟩⟩⟩⟩⟩⟩⟩⟩
  · refine List.forall_mem_cons.mpr ⟨va_Nw.of rfl (hts _ (mm_tb_in 1 (List.mem_of_getElem? (i := 52) rfl))), List.forall_mem_cons.mpr ⟨va_Nw.of rfl (hts _ (mm_tb_in 1 (List.mem_of_getElem? (i := 227) rfl))), List.forall_mem_cons.mpr ⟨va_Nw.of rfl (hts _ (mm_tb_in 2 (List.mem_of_getElem? (i := 80) rfl))), List.forall_mem_cons.mpr ⟨va_Nw.of rfl (hts _ (mm_tb_in 2 (List.mem_of_getElem? (i := 130) rfl))), List.forall_mem_cons.mpr ⟨va_Nw.of rfl (hts _ (mm_tb_in 2 (List.mem_of_getElem? (i := 218) rfl))), List.forall_mem_cons.mpr ⟨va_Nw.of rfl (hts _ (mm_tb_in 6 (List.mem_of_getElem? (i := 17) rfl))), fun _ h => nomatch h⟩⟩⟩⟩⟩⟩
  · refine List.forall_mem_cons.mpr ⟨va_AO.of (hts _ (mm_tb_in 1 (List.mem_of_getElem? (i := 225) rfl))), List.forall_mem_cons.mpr ⟨va_AO.of (hts _ (mm_tb_in 2 (List.mem_of_getElem? (i := 164) rfl))), List.forall_mem_cons.mpr ⟨va_AO.of (hts _ (mm_tb_in 2 (List.mem_of_getElem? (i := 204) rfl))), List.forall_mem_cons.mpr ⟨va_AO.of (hts _ (mm_tb_in 6 (List.mem_of_getElem? (i := 108) rfl))), fun _ h => nomatch h⟩⟩⟩⟩
  · exact fun _ h => nomatch h
  · exact vx_Zqof (hts _ (mm_tb_in 3 (List.mem_of_getElem? (i := 175) rfl))) (hts _ (mm_tb_in 1 (List.mem_of_getElem? (i := 35) rfl))) (hs (.isRef (.static "java/lang/Throwable" "UNASSIGNED_STACK" "[Ljava/lang/StackTraceElement;")) (by decide +kernel)) hA
  · exact vx_Zqof (hts _ (mm_tb_in 3 (List.mem_of_getElem? (i := 177) rfl))) (hts _ (mm_tb_in 1 (List.mem_of_getElem? (i := 35) rfl))) (hs (.isRef (.static "java/lang/Throwable" "SUPPRESSED_SENTINEL" "Ljava/util/List;")) (by decide +kernel)) hA
  · intro i k hi hk hi2 hk2 e
    obtain ⟨i0, rfl⟩ : ∃ i0, i = i0 + 1 := ⟨i - 1, by omega⟩
    obtain ⟨k0, rfl⟩ : ∃ k0, k = k0 + 1 := ⟨k - 1, by omega⟩
    have hi3 : i0 < 21 := Nat.lt_of_succ_le hi2
    have hk3 : k0 < 21 := Nat.lt_of_succ_le hk2
    have h1 := (hxo _ _ _ (md_ord i0 hi3)).1
    have h2 := (hxo _ _ _ (md_ord k0 hk3)).1
    rw [e] at h1
    have h3 := md_OFu h1 h2
    have h4 : Int32.ofNat i0 = Int32.ofNat k0 := by first | exact Value.int.inj h3 | exact (Value.int.inj h3).symm
    rw [md_ordu i0 hi3 k0 hk3 h4]
  · refine List.forall_mem_cons.mpr ⟨va_Zqof (hts _ (mm_tb_in 6 (List.mem_of_getElem? (i := 193) rfl))) (hts _ (mm_tb_in 1 (List.mem_of_getElem? (i := 19) rfl))) (hs (.isRef (.static "jdk/internal/util/Preconditions" "SIOOBE_FORMATTER" "Ljava/util/function/BiFunction;")) (by decide +kernel)) hA, fun _ h => nomatch h⟩
