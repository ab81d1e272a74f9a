/-! ===== the start: what lies outside, and the law's first frame ===== -/
theorem md_exo {args : Array Value} {s : State} {t : Term} {E : String} {A : Nat → Prop} (hex : (Jvm.Cond.exactly t E).before args s = true) (hA : ∀ a : Nat, a < s.heap.size → ¬ A a) : ∃ a, t.eval args s none [] s = some (.ref a) ∧ va_O E a A s s.heap := by
  obtain ⟨a, c, cell, k, q1, q2, q3, q4, q5, q6, -⟩ := Cond.exactly_spec (args := args) (first := s) (o := none) (s := s) (idx := []) (t := t) (cls := E) hex
  exact ⟨a, q1, cell, q3, q5, by rw [q6]; exact q2, hA a (Array.getElem?_eq_some_iff.mp q3).1⟩
theorem md_Tc {ty : FieldType} {t N : Nat} {f f' : Nat → Value} {A : Nat → Prop} {U : State} {H : Heap} (h : va_T ty t N f A U H) (hf : ∀ j, j < N → f j = f' j) : va_T ty t N f' A U H := by
  obtain ⟨cell, h1, h2, h3, h4, h5, h6, h7⟩ := h
  exact ⟨cell, h1, h2, h3, h4, h5, fun j hj => by rw [h6 j hj, hf j hj], h7⟩
theorem md_OFu {o n d : String} {v v' : Value} {a : Nat} {A : Nat → Prop} {U : State} {H : Heap} (h : va_OF o n d v a A U H) (h2 : va_OF o n d v' a A U H) : v = v' := by
  obtain ⟨cf, k, i, f, cell, h1, -, h3, -, h4, -⟩ := h
  obtain ⟨cf', k', i', f', cell', g1, -, g3, -, g4, -⟩ := h2
  cases h1.symm.trans g1
  cases h3.symm.trans g3
  exact Option.some.inj (h4.symm.trans g4)
theorem md_ord : ∀ i, i < 21 → md_xo (i + 1) 4 = some (.int (Int32.ofNat i)) := by decide +kernel
theorem md_ordu : ∀ i, i < 21 → ∀ k, k < 21 → Int32.ofNat i = Int32.ofNat k → i = k := by decide +kernel
set_option maxRecDepth 1000000 in
set_option maxHeartbeats 8000000 in
theorem md_start {s : State} {b L : Nat} {xs : Nat → Int32} (hts : ∀ w ∈ lw_tbl, w.before #[Value.ref b] s = true) (hX : va_X b L xs s s.heap) (hbl : b < s.heap.size) (hgv : (Jvm.Cond.and given_1 narrow_1).before #[Value.ref b] s = true) : ∃ xl : Nat → Nat, xl 0 = b ∧ mm_X xl (fun q => s.heap.size ≤ q) (L, xs) s := by
  have hs := flat_of_before _ hgv
  have hA : ∀ a : Nat, a < s.heap.size → ¬ (fun q : Nat => s.heap.size ≤ q) a := fun a h h2 => absurd h2 (Nat.not_le.mpr h)
  obtain ⟨a0, ea0, oa0⟩ := md_exo (hs (.exactly (.static "PaintBank$Word" "COLOR" "LPaintBank$Word;") "PaintBank$Word") (by decide +kernel)) hA
  obtain ⟨a1, ea1, oa1⟩ := md_exo (hs (.exactly (.static "PaintBank$Word" "CHANGE" "LPaintBank$Word;") "PaintBank$Word") (by decide +kernel)) hA
  obtain ⟨a2, ea2, oa2⟩ := md_exo (hs (.exactly (.static "PaintBank$Word" "LANE" "LPaintBank$Word;") "PaintBank$Word") (by decide +kernel)) hA
  obtain ⟨a3, ea3, oa3⟩ := md_exo (hs (.exactly (.static "PaintBank$Word" "CAR" "LPaintBank$Word;") "PaintBank$Word") (by decide +kernel)) hA
  obtain ⟨a4, ea4, oa4⟩ := md_exo (hs (.exactly (.static "PaintBank$Word" "BODY" "LPaintBank$Word;") "PaintBank$Word") (by decide +kernel)) hA
  obtain ⟨a5, ea5, oa5⟩ := md_exo (hs (.exactly (.static "PaintBank$Word" "BAD" "LPaintBank$Word;") "PaintBank$Word") (by decide +kernel)) hA
  obtain ⟨a6, ea6, oa6⟩ := md_exo (hs (.exactly (.static "PaintBank$Word" "WINDOW" "LPaintBank$Word;") "PaintBank$Word") (by decide +kernel)) hA
  obtain ⟨a7, ea7, oa7⟩ := md_exo (hs (.exactly (.static "PaintBank$Word" "BATCH" "LPaintBank$Word;") "PaintBank$Word") (by decide +kernel)) hA
  obtain ⟨a8, ea8, oa8⟩ := md_exo (hs (.exactly (.static "PaintBank$Word" "PURGE" "LPaintBank$Word;") "PaintBank$Word") (by decide +kernel)) hA
  obtain ⟨a9, ea9, oa9⟩ := md_exo (hs (.exactly (.static "PaintBank$Word" "REWORK" "LPaintBank$Word;") "PaintBank$Word") (by decide +kernel)) hA
  obtain ⟨a10, ea10, oa10⟩ := md_exo (hs (.exactly (.static "PaintBank$Word" "DELAY" "LPaintBank$Word;") "PaintBank$Word") (by decide +kernel)) hA
  obtain ⟨a11, ea11, oa11⟩ := md_exo (hs (.exactly (.static "PaintBank$Word" "SPAN" "LPaintBank$Word;") "PaintBank$Word") (by decide +kernel)) hA
  obtain ⟨a12, ea12, oa12⟩ := md_exo (hs (.exactly (.static "PaintBank$Word" "ENTER" "LPaintBank$Word;") "PaintBank$Word") (by decide +kernel)) hA
  obtain ⟨a13, ea13, oa13⟩ := md_exo (hs (.exactly (.static "PaintBank$Word" "LEAVE" "LPaintBank$Word;") "PaintBank$Word") (by decide +kernel)) hA
  obtain ⟨a14, ea14, oa14⟩ := md_exo (hs (.exactly (.static "PaintBank$Word" "BACK" "LPaintBank$Word;") "PaintBank$Word") (by decide +kernel)) hA
  obtain ⟨a15, ea15, oa15⟩ := md_exo (hs (.exactly (.static "PaintBank$Word" "WAIT" "LPaintBank$Word;") "PaintBank$Word") (by decide +kernel)) hA
  obtain ⟨a16, ea16, oa16⟩ := md_exo (hs (.exactly (.static "PaintBank$Word" "STEP" "LPaintBank$Word;") "PaintBank$Word") (by decide +kernel)) hA
  obtain ⟨a17, ea17, oa17⟩ := md_exo (hs (.exactly (.static "PaintBank$Word" "UNLOAD" "LPaintBank$Word;") "PaintBank$Word") (by decide +kernel)) hA
  obtain ⟨a18, ea18, oa18⟩ := md_exo (hs (.exactly (.static "PaintBank$Word" "SWAP" "LPaintBank$Word;") "PaintBank$Word") (by decide +kernel)) hA
  obtain ⟨a19, ea19, oa19⟩ := md_exo (hs (.exactly (.static "PaintBank$Word" "REPEAT" "LPaintBank$Word;") "PaintBank$Word") (by decide +kernel)) hA
  obtain ⟨a20, ea20, oa20⟩ := md_exo (hs (.exactly (.static "PaintBank$Word" "OTHER" "LPaintBank$Word;") "PaintBank$Word") (by decide +kernel)) hA
  obtain ⟨tA, etA, TA⟩ := va_Tof (tm := .static "PaintBank$Word" "ALL" "[LPaintBank$Word;") (ty := .object "PaintBank$Word") (N := 21) (f := fun j => ([.ref a0, .ref a1, .ref a2, .ref a3, .ref a4, .ref a5, .ref a6, .ref a7, .ref a8, .ref a9, .ref a10, .ref a11, .ref a12, .ref a13, .ref a14, .ref a15, .ref a16, .ref a17, .ref a18, .ref a19, .ref a20] : List Value).getD j .null) (by decide) (hs _ (by decide +kernel)) (va_eqt (hs (.eq (.length (.static "PaintBank$Word" "ALL" "[LPaintBank$Word;")) (.int 21)) (by decide +kernel))) (fun j hj => by
    match j, hj with
    | 0, _ => exact va_eqv (hs (.eq (.elem (.static "PaintBank$Word" "ALL" "[LPaintBank$Word;") (.int 0)) (.static "PaintBank$Word" "COLOR" "LPaintBank$Word;")) (by decide +kernel)) ea0
    | 1, _ => exact va_eqv (hs (.eq (.elem (.static "PaintBank$Word" "ALL" "[LPaintBank$Word;") (.int 1)) (.static "PaintBank$Word" "CHANGE" "LPaintBank$Word;")) (by decide +kernel)) ea1
    | 2, _ => exact va_eqv (hs (.eq (.elem (.static "PaintBank$Word" "ALL" "[LPaintBank$Word;") (.int 2)) (.static "PaintBank$Word" "LANE" "LPaintBank$Word;")) (by decide +kernel)) ea2
    | 3, _ => exact va_eqv (hs (.eq (.elem (.static "PaintBank$Word" "ALL" "[LPaintBank$Word;") (.int 3)) (.static "PaintBank$Word" "CAR" "LPaintBank$Word;")) (by decide +kernel)) ea3
    | 4, _ => exact va_eqv (hs (.eq (.elem (.static "PaintBank$Word" "ALL" "[LPaintBank$Word;") (.int 4)) (.static "PaintBank$Word" "BODY" "LPaintBank$Word;")) (by decide +kernel)) ea4
    | 5, _ => exact va_eqv (hs (.eq (.elem (.static "PaintBank$Word" "ALL" "[LPaintBank$Word;") (.int 5)) (.static "PaintBank$Word" "BAD" "LPaintBank$Word;")) (by decide +kernel)) ea5
    | 6, _ => exact va_eqv (hs (.eq (.elem (.static "PaintBank$Word" "ALL" "[LPaintBank$Word;") (.int 6)) (.static "PaintBank$Word" "WINDOW" "LPaintBank$Word;")) (by decide +kernel)) ea6
    | 7, _ => exact va_eqv (hs (.eq (.elem (.static "PaintBank$Word" "ALL" "[LPaintBank$Word;") (.int 7)) (.static "PaintBank$Word" "BATCH" "LPaintBank$Word;")) (by decide +kernel)) ea7
    | 8, _ => exact va_eqv (hs (.eq (.elem (.static "PaintBank$Word" "ALL" "[LPaintBank$Word;") (.int 8)) (.static "PaintBank$Word" "PURGE" "LPaintBank$Word;")) (by decide +kernel)) ea8
    | 9, _ => exact va_eqv (hs (.eq (.elem (.static "PaintBank$Word" "ALL" "[LPaintBank$Word;") (.int 9)) (.static "PaintBank$Word" "REWORK" "LPaintBank$Word;")) (by decide +kernel)) ea9
    | 10, _ => exact va_eqv (hs (.eq (.elem (.static "PaintBank$Word" "ALL" "[LPaintBank$Word;") (.int 10)) (.static "PaintBank$Word" "DELAY" "LPaintBank$Word;")) (by decide +kernel)) ea10
    | 11, _ => exact va_eqv (hs (.eq (.elem (.static "PaintBank$Word" "ALL" "[LPaintBank$Word;") (.int 11)) (.static "PaintBank$Word" "SPAN" "LPaintBank$Word;")) (by decide +kernel)) ea11
    | 12, _ => exact va_eqv (hs (.eq (.elem (.static "PaintBank$Word" "ALL" "[LPaintBank$Word;") (.int 12)) (.static "PaintBank$Word" "ENTER" "LPaintBank$Word;")) (by decide +kernel)) ea12
    | 13, _ => exact va_eqv (hs (.eq (.elem (.static "PaintBank$Word" "ALL" "[LPaintBank$Word;") (.int 13)) (.static "PaintBank$Word" "LEAVE" "LPaintBank$Word;")) (by decide +kernel)) ea13
    | 14, _ => exact va_eqv (hs (.eq (.elem (.static "PaintBank$Word" "ALL" "[LPaintBank$Word;") (.int 14)) (.static "PaintBank$Word" "BACK" "LPaintBank$Word;")) (by decide +kernel)) ea14
    | 15, _ => exact va_eqv (hs (.eq (.elem (.static "PaintBank$Word" "ALL" "[LPaintBank$Word;") (.int 15)) (.static "PaintBank$Word" "WAIT" "LPaintBank$Word;")) (by decide +kernel)) ea15
    | 16, _ => exact va_eqv (hs (.eq (.elem (.static "PaintBank$Word" "ALL" "[LPaintBank$Word;") (.int 16)) (.static "PaintBank$Word" "STEP" "LPaintBank$Word;")) (by decide +kernel)) ea16
    | 17, _ => exact va_eqv (hs (.eq (.elem (.static "PaintBank$Word" "ALL" "[LPaintBank$Word;") (.int 17)) (.static "PaintBank$Word" "UNLOAD" "LPaintBank$Word;")) (by decide +kernel)) ea17
    | 18, _ => exact va_eqv (hs (.eq (.elem (.static "PaintBank$Word" "ALL" "[LPaintBank$Word;") (.int 18)) (.static "PaintBank$Word" "SWAP" "LPaintBank$Word;")) (by decide +kernel)) ea18
    | 19, _ => exact va_eqv (hs (.eq (.elem (.static "PaintBank$Word" "ALL" "[LPaintBank$Word;") (.int 19)) (.static "PaintBank$Word" "REPEAT" "LPaintBank$Word;")) (by decide +kernel)) ea19
    | 20, _ => exact va_eqv (hs (.eq (.elem (.static "PaintBank$Word" "ALL" "[LPaintBank$Word;") (.int 20)) (.static "PaintBank$Word" "OTHER" "LPaintBank$Word;")) (by decide +kernel)) ea20
    | n + 21, hj => exact absurd hj (by omega)) hA
  obtain ⟨tS, etS, TS⟩ := va_Tof (tm := .static "PaintBank$1" "$SwitchMap$PaintBank$Word" "[I") (ty := .int) (N := 21) (f := fun j => md_xaS.getD j .null) (by decide) (hs _ (by decide +kernel)) (va_eqt (hs (.eq (.length (.static "PaintBank$1" "$SwitchMap$PaintBank$Word" "[I")) (.int 21)) (by decide +kernel))) (fun j hj => by
    match j, hj with
    | 0, _ => exact va_eqt (hs (.eq (.elem (.static "PaintBank$1" "$SwitchMap$PaintBank$Word" "[I") (.int 0)) (.int 1)) (by decide +kernel))
    | 1, _ => exact va_eqt (hs (.eq (.elem (.static "PaintBank$1" "$SwitchMap$PaintBank$Word" "[I") (.int 1)) (.int 0)) (by decide +kernel))
    | 2, _ => exact va_eqt (hs (.eq (.elem (.static "PaintBank$1" "$SwitchMap$PaintBank$Word" "[I") (.int 2)) (.int 2)) (by decide +kernel))
    | 3, _ => exact va_eqt (hs (.eq (.elem (.static "PaintBank$1" "$SwitchMap$PaintBank$Word" "[I") (.int 3)) (.int 3)) (by decide +kernel))
    | 4, _ => exact va_eqt (hs (.eq (.elem (.static "PaintBank$1" "$SwitchMap$PaintBank$Word" "[I") (.int 4)) (.int 0)) (by decide +kernel))
    | 5, _ => exact va_eqt (hs (.eq (.elem (.static "PaintBank$1" "$SwitchMap$PaintBank$Word" "[I") (.int 5)) (.int 0)) (by decide +kernel))
    | 6, _ => exact va_eqt (hs (.eq (.elem (.static "PaintBank$1" "$SwitchMap$PaintBank$Word" "[I") (.int 6)) (.int 4)) (by decide +kernel))
    | 7, _ => exact va_eqt (hs (.eq (.elem (.static "PaintBank$1" "$SwitchMap$PaintBank$Word" "[I") (.int 7)) (.int 5)) (by decide +kernel))
    | 8, _ => exact va_eqt (hs (.eq (.elem (.static "PaintBank$1" "$SwitchMap$PaintBank$Word" "[I") (.int 8)) (.int 0)) (by decide +kernel))
    | 9, _ => exact va_eqt (hs (.eq (.elem (.static "PaintBank$1" "$SwitchMap$PaintBank$Word" "[I") (.int 9)) (.int 6)) (by decide +kernel))
    | 10, _ => exact va_eqt (hs (.eq (.elem (.static "PaintBank$1" "$SwitchMap$PaintBank$Word" "[I") (.int 10)) (.int 0)) (by decide +kernel))
    | 11, _ => exact va_eqt (hs (.eq (.elem (.static "PaintBank$1" "$SwitchMap$PaintBank$Word" "[I") (.int 11)) (.int 7)) (by decide +kernel))
    | 12, _ => exact va_eqt (hs (.eq (.elem (.static "PaintBank$1" "$SwitchMap$PaintBank$Word" "[I") (.int 12)) (.int 8)) (by decide +kernel))
    | 13, _ => exact va_eqt (hs (.eq (.elem (.static "PaintBank$1" "$SwitchMap$PaintBank$Word" "[I") (.int 13)) (.int 9)) (by decide +kernel))
    | 14, _ => exact va_eqt (hs (.eq (.elem (.static "PaintBank$1" "$SwitchMap$PaintBank$Word" "[I") (.int 14)) (.int 10)) (by decide +kernel))
    | 15, _ => exact va_eqt (hs (.eq (.elem (.static "PaintBank$1" "$SwitchMap$PaintBank$Word" "[I") (.int 15)) (.int 11)) (by decide +kernel))
    | 16, _ => exact va_eqt (hs (.eq (.elem (.static "PaintBank$1" "$SwitchMap$PaintBank$Word" "[I") (.int 16)) (.int 12)) (by decide +kernel))
    | 17, _ => exact va_eqt (hs (.eq (.elem (.static "PaintBank$1" "$SwitchMap$PaintBank$Word" "[I") (.int 17)) (.int 13)) (by decide +kernel))
    | 18, _ => exact va_eqt (hs (.eq (.elem (.static "PaintBank$1" "$SwitchMap$PaintBank$Word" "[I") (.int 18)) (.int 14)) (by decide +kernel))
    | 19, _ => exact va_eqt (hs (.eq (.elem (.static "PaintBank$1" "$SwitchMap$PaintBank$Word" "[I") (.int 19)) (.int 0)) (by decide +kernel))
    | 20, _ => exact va_eqt (hs (.eq (.elem (.static "PaintBank$1" "$SwitchMap$PaintBank$Word" "[I") (.int 20)) (.int 0)) (by decide +kernel))
    | n + 21, hj => exact absurd hj (by omega)) hA
  obtain ⟨k0, ek0, ok0⟩ := md_exo (hs (.exactly (.string "PaintBank$Report" 24) "java/lang/String") (by decide +kernel)) hA
  obtain ⟨v0, ev0, Tv0⟩ := va_Tof (tm := .field (.string "PaintBank$Report" 24) "java/lang/String" "value" "[B") (ty := .byte) (N := 5) (f := fun j => md_xaT0.getD j .null) (by decide) (hs _ (by decide +kernel)) (va_eqt (hs (.eq (.length (.field (.string "PaintBank$Report" 24) "java/lang/String" "value" "[B")) (.int 5)) (by decide +kernel))) (fun j hj => by
    match j, hj with
    | 0, _ => exact va_eqt (hs (.eq (.elem (.field (.string "PaintBank$Report" 24) "java/lang/String" "value" "[B") (.int 0)) (.int 108)) (by decide +kernel))
    | 1, _ => exact va_eqt (hs (.eq (.elem (.field (.string "PaintBank$Report" 24) "java/lang/String" "value" "[B") (.int 1)) (.int 97)) (by decide +kernel))
    | 2, _ => exact va_eqt (hs (.eq (.elem (.field (.string "PaintBank$Report" 24) "java/lang/String" "value" "[B") (.int 2)) (.int 110)) (by decide +kernel))
    | 3, _ => exact va_eqt (hs (.eq (.elem (.field (.string "PaintBank$Report" 24) "java/lang/String" "value" "[B") (.int 3)) (.int 101)) (by decide +kernel))
    | 4, _ => exact va_eqt (hs (.eq (.elem (.field (.string "PaintBank$Report" 24) "java/lang/String" "value" "[B") (.int 4)) (.int 32)) (by decide +kernel))
    | n + 5, hj => exact absurd hj (by omega)) hA
  obtain ⟨k1, ek1, ok1⟩ := md_exo (hs (.exactly (.string "PaintBank$Report" 43) "java/lang/String") (by decide +kernel)) hA
  obtain ⟨v1, ev1, Tv1⟩ := va_Tof (tm := .field (.string "PaintBank$Report" 43) "java/lang/String" "value" "[B") (ty := .byte) (N := 3) (f := fun j => md_xaT1.getD j .null) (by decide) (hs _ (by decide +kernel)) (va_eqt (hs (.eq (.length (.field (.string "PaintBank$Report" 43) "java/lang/String" "value" "[B")) (.int 3)) (by decide +kernel))) (fun j hj => by
    match j, hj with
    | 0, _ => exact va_eqt (hs (.eq (.elem (.field (.string "PaintBank$Report" 43) "java/lang/String" "value" "[B") (.int 0)) (.int 111)) (by decide +kernel))
    | 1, _ => exact va_eqt (hs (.eq (.elem (.field (.string "PaintBank$Report" 43) "java/lang/String" "value" "[B") (.int 1)) (.int 117)) (by decide +kernel))
    | 2, _ => exact va_eqt (hs (.eq (.elem (.field (.string "PaintBank$Report" 43) "java/lang/String" "value" "[B") (.int 2)) (.int 116)) (by decide +kernel))
    | n + 3, hj => exact absurd hj (by omega)) hA
  obtain ⟨m0, em0, om0⟩ := md_exo (hs (.exactly (.string "PaintBank" 99) "java/lang/String") (by decide +kernel)) hA
  obtain ⟨m1, em1, om1⟩ := md_exo (hs (.exactly (.string "PaintBank" 110) "java/lang/String") (by decide +kernel)) hA
  obtain ⟨m2, em2, om2⟩ := md_exo (hs (.exactly (.string "PaintBank" 117) "java/lang/String") (by decide +kernel)) hA
  obtain ⟨m3, em3, om3⟩ := md_exo (hs (.exactly (.string "PaintBank" 134) "java/lang/String") (by decide +kernel)) hA
  obtain ⟨m4, em4, om4⟩ := md_exo (hs (.exactly (.string "PaintBank" 184) "java/lang/String") (by decide +kernel)) hA
  obtain ⟨m5, em5, om5⟩ := md_exo (hs (.exactly (.string "PaintBank" 188) "java/lang/String") (by decide +kernel)) hA
  obtain ⟨m6, em6, om6⟩ := md_exo (hs (.exactly (.string "PaintBank" 374) "java/lang/String") (by decide +kernel)) hA
  obtain ⟨m7, em7, om7⟩ := md_exo (hs (.exactly (.string "PaintBank" 376) "java/lang/String") (by decide +kernel)) hA
  obtain ⟨m8, em8, om8⟩ := md_exo (hs (.exactly (.string "PaintBank" 253) "java/lang/String") (by decide +kernel)) hA
  obtain ⟨m9, em9, om9⟩ := md_exo (hs (.exactly (.string "PaintBank" 378) "java/lang/String") (by decide +kernel)) hA
  obtain ⟨m10, em10, om10⟩ := md_exo (hs (.exactly (.string "PaintBank" 347) "java/lang/String") (by decide +kernel)) hA
  obtain ⟨m11, em11, om11⟩ := md_exo (hs (.exactly (.string "PaintBank" 349) "java/lang/String") (by decide +kernel)) hA
  obtain ⟨m12, em12, om12⟩ := md_exo (hs (.exactly (.string "PaintBank" 359) "java/lang/String") (by decide +kernel)) hA
  obtain ⟨m13, em13, om13⟩ := md_exo (hs (.exactly (.string "PaintBank" 372) "java/lang/String") (by decide +kernel)) hA
  let xl : Nat → Nat := fun i => ([b, a0, a1, a2, a3, a4, a5, a6, a7, a8, a9, a10, a11, a12, a13, a14, a15, a16, a17, a18, a19, a20, tA, tS, k0, k1, v0, v1, m0, m1, m2, m3, m4, m5, m6, m7, m8, m9, m10, m11, m12, m13] : List Nat).getD i 0
  have hxo : ∀ i k v, md_xo i k = some v → va_OF (md_xf k).1 (md_xf k).2.1 (md_xf k).2.2 (mm_xv xl v) (xl i) (fun q => s.heap.size ≤ q) s s.heap ∧ mm_isx v = true := by
    intro i k v h
    match i, h with
    | 0, h => exact absurd (show (none : Option Value) = some v from by simpa [md_xo, md_xoL] using h) (by simp)
    | 1, h =>
      match k, h with
      | 0, h =>
        have h2 : some (Value.long 427071139698) = some v := h
        cases h2
        exact ⟨vk_OFof ea0 (va_eqtl (hs (.eq (.field (.static "PaintBank$Word" "COLOR" "LPaintBank$Word;") "PaintBank$Word" "letters" "J") (.long 427071139698)) (by decide +kernel))) hA, rfl⟩
      | 1, h =>
        have h2 : some (Value.int 0) = some v := h
        cases h2
        exact ⟨vk_OFof ea0 (va_eqt (hs (.eq (.field (.static "PaintBank$Word" "COLOR" "LPaintBank$Word;") "PaintBank$Word" "isCommand" "Z") (.int 0)) (by decide +kernel))) hA, rfl⟩
      | 2, h =>
        have h2 : some (Value.int 0) = some v := h
        cases h2
        exact ⟨vk_OFof ea0 (va_eqt (hs (.eq (.field (.static "PaintBank$Word" "COLOR" "LPaintBank$Word;") "PaintBank$Word" "least" "I") (.int 0)) (by decide +kernel))) hA, rfl⟩
      | 3, h =>
        have h2 : some (Value.int 0) = some v := h
        cases h2
        exact ⟨vk_OFof ea0 (va_eqt (hs (.eq (.field (.static "PaintBank$Word" "COLOR" "LPaintBank$Word;") "PaintBank$Word" "greatest" "I") (.int 0)) (by decide +kernel))) hA, rfl⟩
      | 4, h =>
        have h2 : some (Value.int 0) = some v := h
        cases h2
        exact ⟨vk_OFof ea0 (va_eqt (hs (.eq (.field (.static "PaintBank$Word" "COLOR" "LPaintBank$Word;") "java/lang/Enum" "ordinal" "I") (.int 0)) (by decide +kernel))) hA, rfl⟩
      | n + 5, h => exact absurd (show (none : Option Value) = some v from h) (by simp)
    | 2, h =>
      match k, h with
      | 0, h =>
        have h2 : some (Value.long 109299962373989) = some v := h
        cases h2
        exact ⟨vk_OFof ea1 (va_eqtl (hs (.eq (.field (.static "PaintBank$Word" "CHANGE" "LPaintBank$Word;") "PaintBank$Word" "letters" "J") (.long 109299962373989)) (by decide +kernel))) hA, rfl⟩
      | 1, h =>
        have h2 : some (Value.int 0) = some v := h
        cases h2
        exact ⟨vk_OFof ea1 (va_eqt (hs (.eq (.field (.static "PaintBank$Word" "CHANGE" "LPaintBank$Word;") "PaintBank$Word" "isCommand" "Z") (.int 0)) (by decide +kernel))) hA, rfl⟩
      | 2, h =>
        have h2 : some (Value.int 0) = some v := h
        cases h2
        exact ⟨vk_OFof ea1 (va_eqt (hs (.eq (.field (.static "PaintBank$Word" "CHANGE" "LPaintBank$Word;") "PaintBank$Word" "least" "I") (.int 0)) (by decide +kernel))) hA, rfl⟩
      | 3, h =>
        have h2 : some (Value.int 0) = some v := h
        cases h2
        exact ⟨vk_OFof ea1 (va_eqt (hs (.eq (.field (.static "PaintBank$Word" "CHANGE" "LPaintBank$Word;") "PaintBank$Word" "greatest" "I") (.int 0)) (by decide +kernel))) hA, rfl⟩
      | 4, h =>
        have h2 : some (Value.int 1) = some v := h
        cases h2
        exact ⟨vk_OFof ea1 (va_eqt (hs (.eq (.field (.static "PaintBank$Word" "CHANGE" "LPaintBank$Word;") "java/lang/Enum" "ordinal" "I") (.int 1)) (by decide +kernel))) hA, rfl⟩
      | n + 5, h => exact absurd (show (none : Option Value) = some v from h) (by simp)
    | 3, h =>
      match k, h with
      | 0, h =>
        have h2 : some (Value.long 1818324581) = some v := h
        cases h2
        exact ⟨vk_OFof ea2 (va_eqtl (hs (.eq (.field (.static "PaintBank$Word" "LANE" "LPaintBank$Word;") "PaintBank$Word" "letters" "J") (.long 1818324581)) (by decide +kernel))) hA, rfl⟩
      | 1, h =>
        have h2 : some (Value.int 0) = some v := h
        cases h2
        exact ⟨vk_OFof ea2 (va_eqt (hs (.eq (.field (.static "PaintBank$Word" "LANE" "LPaintBank$Word;") "PaintBank$Word" "isCommand" "Z") (.int 0)) (by decide +kernel))) hA, rfl⟩
      | 2, h =>
        have h2 : some (Value.int 0) = some v := h
        cases h2
        exact ⟨vk_OFof ea2 (va_eqt (hs (.eq (.field (.static "PaintBank$Word" "LANE" "LPaintBank$Word;") "PaintBank$Word" "least" "I") (.int 0)) (by decide +kernel))) hA, rfl⟩
      | 3, h =>
        have h2 : some (Value.int 0) = some v := h
        cases h2
        exact ⟨vk_OFof ea2 (va_eqt (hs (.eq (.field (.static "PaintBank$Word" "LANE" "LPaintBank$Word;") "PaintBank$Word" "greatest" "I") (.int 0)) (by decide +kernel))) hA, rfl⟩
      | 4, h =>
        have h2 : some (Value.int 2) = some v := h
        cases h2
        exact ⟨vk_OFof ea2 (va_eqt (hs (.eq (.field (.static "PaintBank$Word" "LANE" "LPaintBank$Word;") "java/lang/Enum" "ordinal" "I") (.int 2)) (by decide +kernel))) hA, rfl⟩
      | n + 5, h => exact absurd (show (none : Option Value) = some v from h) (by simp)
    | 4, h =>
      match k, h with
      | 0, h =>
        have h2 : some (Value.long 6513010) = some v := h
        cases h2
        exact ⟨vk_OFof ea3 (va_eqtl (hs (.eq (.field (.static "PaintBank$Word" "CAR" "LPaintBank$Word;") "PaintBank$Word" "letters" "J") (.long 6513010)) (by decide +kernel))) hA, rfl⟩
      | 1, h =>
        have h2 : some (Value.int 0) = some v := h
        cases h2
        exact ⟨vk_OFof ea3 (va_eqt (hs (.eq (.field (.static "PaintBank$Word" "CAR" "LPaintBank$Word;") "PaintBank$Word" "isCommand" "Z") (.int 0)) (by decide +kernel))) hA, rfl⟩
      | 2, h =>
        have h2 : some (Value.int 0) = some v := h
        cases h2
        exact ⟨vk_OFof ea3 (va_eqt (hs (.eq (.field (.static "PaintBank$Word" "CAR" "LPaintBank$Word;") "PaintBank$Word" "least" "I") (.int 0)) (by decide +kernel))) hA, rfl⟩
      | 3, h =>
        have h2 : some (Value.int 0) = some v := h
        cases h2
        exact ⟨vk_OFof ea3 (va_eqt (hs (.eq (.field (.static "PaintBank$Word" "CAR" "LPaintBank$Word;") "PaintBank$Word" "greatest" "I") (.int 0)) (by decide +kernel))) hA, rfl⟩
      | 4, h =>
        have h2 : some (Value.int 3) = some v := h
        cases h2
        exact ⟨vk_OFof ea3 (va_eqt (hs (.eq (.field (.static "PaintBank$Word" "CAR" "LPaintBank$Word;") "java/lang/Enum" "ordinal" "I") (.int 3)) (by decide +kernel))) hA, rfl⟩
      | n + 5, h => exact absurd (show (none : Option Value) = some v from h) (by simp)
    | 5, h =>
      match k, h with
      | 0, h =>
        have h2 : some (Value.long 1651467385) = some v := h
        cases h2
        exact ⟨vk_OFof ea4 (va_eqtl (hs (.eq (.field (.static "PaintBank$Word" "BODY" "LPaintBank$Word;") "PaintBank$Word" "letters" "J") (.long 1651467385)) (by decide +kernel))) hA, rfl⟩
      | 1, h =>
        have h2 : some (Value.int 0) = some v := h
        cases h2
        exact ⟨vk_OFof ea4 (va_eqt (hs (.eq (.field (.static "PaintBank$Word" "BODY" "LPaintBank$Word;") "PaintBank$Word" "isCommand" "Z") (.int 0)) (by decide +kernel))) hA, rfl⟩
      | 2, h =>
        have h2 : some (Value.int 0) = some v := h
        cases h2
        exact ⟨vk_OFof ea4 (va_eqt (hs (.eq (.field (.static "PaintBank$Word" "BODY" "LPaintBank$Word;") "PaintBank$Word" "least" "I") (.int 0)) (by decide +kernel))) hA, rfl⟩
      | 3, h =>
        have h2 : some (Value.int 0) = some v := h
        cases h2
        exact ⟨vk_OFof ea4 (va_eqt (hs (.eq (.field (.static "PaintBank$Word" "BODY" "LPaintBank$Word;") "PaintBank$Word" "greatest" "I") (.int 0)) (by decide +kernel))) hA, rfl⟩
      | 4, h =>
        have h2 : some (Value.int 4) = some v := h
        cases h2
        exact ⟨vk_OFof ea4 (va_eqt (hs (.eq (.field (.static "PaintBank$Word" "BODY" "LPaintBank$Word;") "java/lang/Enum" "ordinal" "I") (.int 4)) (by decide +kernel))) hA, rfl⟩
      | n + 5, h => exact absurd (show (none : Option Value) = some v from h) (by simp)
    | 6, h =>
      match k, h with
      | 0, h =>
        have h2 : some (Value.long 6447460) = some v := h
        cases h2
        exact ⟨vk_OFof ea5 (va_eqtl (hs (.eq (.field (.static "PaintBank$Word" "BAD" "LPaintBank$Word;") "PaintBank$Word" "letters" "J") (.long 6447460)) (by decide +kernel))) hA, rfl⟩
      | 1, h =>
        have h2 : some (Value.int 0) = some v := h
        cases h2
        exact ⟨vk_OFof ea5 (va_eqt (hs (.eq (.field (.static "PaintBank$Word" "BAD" "LPaintBank$Word;") "PaintBank$Word" "isCommand" "Z") (.int 0)) (by decide +kernel))) hA, rfl⟩
      | 2, h =>
        have h2 : some (Value.int 0) = some v := h
        cases h2
        exact ⟨vk_OFof ea5 (va_eqt (hs (.eq (.field (.static "PaintBank$Word" "BAD" "LPaintBank$Word;") "PaintBank$Word" "least" "I") (.int 0)) (by decide +kernel))) hA, rfl⟩
      | 3, h =>
        have h2 : some (Value.int 0) = some v := h
        cases h2
        exact ⟨vk_OFof ea5 (va_eqt (hs (.eq (.field (.static "PaintBank$Word" "BAD" "LPaintBank$Word;") "PaintBank$Word" "greatest" "I") (.int 0)) (by decide +kernel))) hA, rfl⟩
      | 4, h =>
        have h2 : some (Value.int 5) = some v := h
        cases h2
        exact ⟨vk_OFof ea5 (va_eqt (hs (.eq (.field (.static "PaintBank$Word" "BAD" "LPaintBank$Word;") "java/lang/Enum" "ordinal" "I") (.int 5)) (by decide +kernel))) hA, rfl⟩
      | n + 5, h => exact absurd (show (none : Option Value) = some v from h) (by simp)
    | 7, h =>
      match k, h with
      | 0, h =>
        have h2 : some (Value.long 131294707347319) = some v := h
        cases h2
        exact ⟨vk_OFof ea6 (va_eqtl (hs (.eq (.field (.static "PaintBank$Word" "WINDOW" "LPaintBank$Word;") "PaintBank$Word" "letters" "J") (.long 131294707347319)) (by decide +kernel))) hA, rfl⟩
      | 1, h =>
        have h2 : some (Value.int 0) = some v := h
        cases h2
        exact ⟨vk_OFof ea6 (va_eqt (hs (.eq (.field (.static "PaintBank$Word" "WINDOW" "LPaintBank$Word;") "PaintBank$Word" "isCommand" "Z") (.int 0)) (by decide +kernel))) hA, rfl⟩
      | 2, h =>
        have h2 : some (Value.int 0) = some v := h
        cases h2
        exact ⟨vk_OFof ea6 (va_eqt (hs (.eq (.field (.static "PaintBank$Word" "WINDOW" "LPaintBank$Word;") "PaintBank$Word" "least" "I") (.int 0)) (by decide +kernel))) hA, rfl⟩
      | 3, h =>
        have h2 : some (Value.int 0) = some v := h
        cases h2
        exact ⟨vk_OFof ea6 (va_eqt (hs (.eq (.field (.static "PaintBank$Word" "WINDOW" "LPaintBank$Word;") "PaintBank$Word" "greatest" "I") (.int 0)) (by decide +kernel))) hA, rfl⟩
      | 4, h =>
        have h2 : some (Value.int 6) = some v := h
        cases h2
        exact ⟨vk_OFof ea6 (va_eqt (hs (.eq (.field (.static "PaintBank$Word" "WINDOW" "LPaintBank$Word;") "java/lang/Enum" "ordinal" "I") (.int 6)) (by decide +kernel))) hA, rfl⟩
      | n + 5, h => exact absurd (show (none : Option Value) = some v from h) (by simp)
    | 8, h =>
      match k, h with
      | 0, h =>
        have h2 : some (Value.long 422541812584) = some v := h
        cases h2
        exact ⟨vk_OFof ea7 (va_eqtl (hs (.eq (.field (.static "PaintBank$Word" "BATCH" "LPaintBank$Word;") "PaintBank$Word" "letters" "J") (.long 422541812584)) (by decide +kernel))) hA, rfl⟩
      | 1, h =>
        have h2 : some (Value.int 0) = some v := h
        cases h2
        exact ⟨vk_OFof ea7 (va_eqt (hs (.eq (.field (.static "PaintBank$Word" "BATCH" "LPaintBank$Word;") "PaintBank$Word" "isCommand" "Z") (.int 0)) (by decide +kernel))) hA, rfl⟩
      | 2, h =>
        have h2 : some (Value.int 0) = some v := h
        cases h2
        exact ⟨vk_OFof ea7 (va_eqt (hs (.eq (.field (.static "PaintBank$Word" "BATCH" "LPaintBank$Word;") "PaintBank$Word" "least" "I") (.int 0)) (by decide +kernel))) hA, rfl⟩
      | 3, h =>
        have h2 : some (Value.int 0) = some v := h
        cases h2
        exact ⟨vk_OFof ea7 (va_eqt (hs (.eq (.field (.static "PaintBank$Word" "BATCH" "LPaintBank$Word;") "PaintBank$Word" "greatest" "I") (.int 0)) (by decide +kernel))) hA, rfl⟩
      | 4, h =>
        have h2 : some (Value.int 7) = some v := h
        cases h2
        exact ⟨vk_OFof ea7 (va_eqt (hs (.eq (.field (.static "PaintBank$Word" "BATCH" "LPaintBank$Word;") "java/lang/Enum" "ordinal" "I") (.int 7)) (by decide +kernel))) hA, rfl⟩
      | n + 5, h => exact absurd (show (none : Option Value) = some v from h) (by simp)
    | 9, h =>
      match k, h with
      | 0, h =>
        have h2 : some (Value.long 483006768997) = some v := h
        cases h2
        exact ⟨vk_OFof ea8 (va_eqtl (hs (.eq (.field (.static "PaintBank$Word" "PURGE" "LPaintBank$Word;") "PaintBank$Word" "letters" "J") (.long 483006768997)) (by decide +kernel))) hA, rfl⟩
      | 1, h =>
        have h2 : some (Value.int 0) = some v := h
        cases h2
        exact ⟨vk_OFof ea8 (va_eqt (hs (.eq (.field (.static "PaintBank$Word" "PURGE" "LPaintBank$Word;") "PaintBank$Word" "isCommand" "Z") (.int 0)) (by decide +kernel))) hA, rfl⟩
      | 2, h =>
        have h2 : some (Value.int 0) = some v := h
        cases h2
        exact ⟨vk_OFof ea8 (va_eqt (hs (.eq (.field (.static "PaintBank$Word" "PURGE" "LPaintBank$Word;") "PaintBank$Word" "least" "I") (.int 0)) (by decide +kernel))) hA, rfl⟩
      | 3, h =>
        have h2 : some (Value.int 0) = some v := h
        cases h2
        exact ⟨vk_OFof ea8 (va_eqt (hs (.eq (.field (.static "PaintBank$Word" "PURGE" "LPaintBank$Word;") "PaintBank$Word" "greatest" "I") (.int 0)) (by decide +kernel))) hA, rfl⟩
      | 4, h =>
        have h2 : some (Value.int 8) = some v := h
        cases h2
        exact ⟨vk_OFof ea8 (va_eqt (hs (.eq (.field (.static "PaintBank$Word" "PURGE" "LPaintBank$Word;") "java/lang/Enum" "ordinal" "I") (.int 8)) (by decide +kernel))) hA, rfl⟩
      | n + 5, h => exact absurd (show (none : Option Value) = some v from h) (by simp)
    | 10, h =>
      match k, h with
      | 0, h =>
        have h2 : some (Value.long 125780121055851) = some v := h
        cases h2
        exact ⟨vk_OFof ea9 (va_eqtl (hs (.eq (.field (.static "PaintBank$Word" "REWORK" "LPaintBank$Word;") "PaintBank$Word" "letters" "J") (.long 125780121055851)) (by decide +kernel))) hA, rfl⟩
      | 1, h =>
        have h2 : some (Value.int 0) = some v := h
        cases h2
        exact ⟨vk_OFof ea9 (va_eqt (hs (.eq (.field (.static "PaintBank$Word" "REWORK" "LPaintBank$Word;") "PaintBank$Word" "isCommand" "Z") (.int 0)) (by decide +kernel))) hA, rfl⟩
      | 2, h =>
        have h2 : some (Value.int 0) = some v := h
        cases h2
        exact ⟨vk_OFof ea9 (va_eqt (hs (.eq (.field (.static "PaintBank$Word" "REWORK" "LPaintBank$Word;") "PaintBank$Word" "least" "I") (.int 0)) (by decide +kernel))) hA, rfl⟩
      | 3, h =>
        have h2 : some (Value.int 0) = some v := h
        cases h2
        exact ⟨vk_OFof ea9 (va_eqt (hs (.eq (.field (.static "PaintBank$Word" "REWORK" "LPaintBank$Word;") "PaintBank$Word" "greatest" "I") (.int 0)) (by decide +kernel))) hA, rfl⟩
      | 4, h =>
        have h2 : some (Value.int 9) = some v := h
        cases h2
        exact ⟨vk_OFof ea9 (va_eqt (hs (.eq (.field (.static "PaintBank$Word" "REWORK" "LPaintBank$Word;") "java/lang/Enum" "ordinal" "I") (.int 9)) (by decide +kernel))) hA, rfl⟩
      | n + 5, h => exact absurd (show (none : Option Value) = some v from h) (by simp)
    | 11, h =>
      match k, h with
      | 0, h =>
        have h2 : some (Value.long 431198331257) = some v := h
        cases h2
        exact ⟨vk_OFof ea10 (va_eqtl (hs (.eq (.field (.static "PaintBank$Word" "DELAY" "LPaintBank$Word;") "PaintBank$Word" "letters" "J") (.long 431198331257)) (by decide +kernel))) hA, rfl⟩
      | 1, h =>
        have h2 : some (Value.int 0) = some v := h
        cases h2
        exact ⟨vk_OFof ea10 (va_eqt (hs (.eq (.field (.static "PaintBank$Word" "DELAY" "LPaintBank$Word;") "PaintBank$Word" "isCommand" "Z") (.int 0)) (by decide +kernel))) hA, rfl⟩
      | 2, h =>
        have h2 : some (Value.int 0) = some v := h
        cases h2
        exact ⟨vk_OFof ea10 (va_eqt (hs (.eq (.field (.static "PaintBank$Word" "DELAY" "LPaintBank$Word;") "PaintBank$Word" "least" "I") (.int 0)) (by decide +kernel))) hA, rfl⟩
      | 3, h =>
        have h2 : some (Value.int 0) = some v := h
        cases h2
        exact ⟨vk_OFof ea10 (va_eqt (hs (.eq (.field (.static "PaintBank$Word" "DELAY" "LPaintBank$Word;") "PaintBank$Word" "greatest" "I") (.int 0)) (by decide +kernel))) hA, rfl⟩
      | 4, h =>
        have h2 : some (Value.int 10) = some v := h
        cases h2
        exact ⟨vk_OFof ea10 (va_eqt (hs (.eq (.field (.static "PaintBank$Word" "DELAY" "LPaintBank$Word;") "java/lang/Enum" "ordinal" "I") (.int 10)) (by decide +kernel))) hA, rfl⟩
      | n + 5, h => exact absurd (show (none : Option Value) = some v from h) (by simp)
    | 12, h =>
      match k, h with
      | 0, h =>
        have h2 : some (Value.long 1936744814) = some v := h
        cases h2
        exact ⟨vk_OFof ea11 (va_eqtl (hs (.eq (.field (.static "PaintBank$Word" "SPAN" "LPaintBank$Word;") "PaintBank$Word" "letters" "J") (.long 1936744814)) (by decide +kernel))) hA, rfl⟩
      | 1, h =>
        have h2 : some (Value.int 0) = some v := h
        cases h2
        exact ⟨vk_OFof ea11 (va_eqt (hs (.eq (.field (.static "PaintBank$Word" "SPAN" "LPaintBank$Word;") "PaintBank$Word" "isCommand" "Z") (.int 0)) (by decide +kernel))) hA, rfl⟩
      | 2, h =>
        have h2 : some (Value.int 0) = some v := h
        cases h2
        exact ⟨vk_OFof ea11 (va_eqt (hs (.eq (.field (.static "PaintBank$Word" "SPAN" "LPaintBank$Word;") "PaintBank$Word" "least" "I") (.int 0)) (by decide +kernel))) hA, rfl⟩
      | 3, h =>
        have h2 : some (Value.int 0) = some v := h
        cases h2
        exact ⟨vk_OFof ea11 (va_eqt (hs (.eq (.field (.static "PaintBank$Word" "SPAN" "LPaintBank$Word;") "PaintBank$Word" "greatest" "I") (.int 0)) (by decide +kernel))) hA, rfl⟩
      | 4, h =>
        have h2 : some (Value.int 11) = some v := h
        cases h2
        exact ⟨vk_OFof ea11 (va_eqt (hs (.eq (.field (.static "PaintBank$Word" "SPAN" "LPaintBank$Word;") "java/lang/Enum" "ordinal" "I") (.int 11)) (by decide +kernel))) hA, rfl⟩
      | n + 5, h => exact absurd (show (none : Option Value) = some v from h) (by simp)
    | 13, h =>
      match k, h with
      | 0, h =>
        have h2 : some (Value.long 435644818802) = some v := h
        cases h2
        exact ⟨vk_OFof ea12 (va_eqtl (hs (.eq (.field (.static "PaintBank$Word" "ENTER" "LPaintBank$Word;") "PaintBank$Word" "letters" "J") (.long 435644818802)) (by decide +kernel))) hA, rfl⟩
      | 1, h =>
        have h2 : some (Value.int 1) = some v := h
        cases h2
        exact ⟨vk_OFof ea12 (va_eqt (hs (.eq (.field (.static "PaintBank$Word" "ENTER" "LPaintBank$Word;") "PaintBank$Word" "isCommand" "Z") (.int 1)) (by decide +kernel))) hA, rfl⟩
      | 2, h =>
        have h2 : some (Value.int 0) = some v := h
        cases h2
        exact ⟨vk_OFof ea12 (va_eqt (hs (.eq (.field (.static "PaintBank$Word" "ENTER" "LPaintBank$Word;") "PaintBank$Word" "least" "I") (.int 0)) (by decide +kernel))) hA, rfl⟩
      | 3, h =>
        have h2 : some (Value.int 3) = some v := h
        cases h2
        exact ⟨vk_OFof ea12 (va_eqt (hs (.eq (.field (.static "PaintBank$Word" "ENTER" "LPaintBank$Word;") "PaintBank$Word" "greatest" "I") (.int 3)) (by decide +kernel))) hA, rfl⟩
      | 4, h =>
        have h2 : some (Value.int 12) = some v := h
        cases h2
        exact ⟨vk_OFof ea12 (va_eqt (hs (.eq (.field (.static "PaintBank$Word" "ENTER" "LPaintBank$Word;") "java/lang/Enum" "ordinal" "I") (.int 12)) (by decide +kernel))) hA, rfl⟩
      | n + 5, h => exact absurd (show (none : Option Value) = some v from h) (by simp)
    | 14, h =>
      match k, h with
      | 0, h =>
        have h2 : some (Value.long 465557354085) = some v := h
        cases h2
        exact ⟨vk_OFof ea13 (va_eqtl (hs (.eq (.field (.static "PaintBank$Word" "LEAVE" "LPaintBank$Word;") "PaintBank$Word" "letters" "J") (.long 465557354085)) (by decide +kernel))) hA, rfl⟩
      | 1, h =>
        have h2 : some (Value.int 1) = some v := h
        cases h2
        exact ⟨vk_OFof ea13 (va_eqt (hs (.eq (.field (.static "PaintBank$Word" "LEAVE" "LPaintBank$Word;") "PaintBank$Word" "isCommand" "Z") (.int 1)) (by decide +kernel))) hA, rfl⟩
      | 2, h =>
        have h2 : some (Value.int 0) = some v := h
        cases h2
        exact ⟨vk_OFof ea13 (va_eqt (hs (.eq (.field (.static "PaintBank$Word" "LEAVE" "LPaintBank$Word;") "PaintBank$Word" "least" "I") (.int 0)) (by decide +kernel))) hA, rfl⟩
      | 3, h =>
        have h2 : some (Value.int 3) = some v := h
        cases h2
        exact ⟨vk_OFof ea13 (va_eqt (hs (.eq (.field (.static "PaintBank$Word" "LEAVE" "LPaintBank$Word;") "PaintBank$Word" "greatest" "I") (.int 3)) (by decide +kernel))) hA, rfl⟩
      | 4, h =>
        have h2 : some (Value.int 13) = some v := h
        cases h2
        exact ⟨vk_OFof ea13 (va_eqt (hs (.eq (.field (.static "PaintBank$Word" "LEAVE" "LPaintBank$Word;") "java/lang/Enum" "ordinal" "I") (.int 13)) (by decide +kernel))) hA, rfl⟩
      | n + 5, h => exact absurd (show (none : Option Value) = some v from h) (by simp)
    | 15, h =>
      match k, h with
      | 0, h =>
        have h2 : some (Value.long 1650549611) = some v := h
        cases h2
        exact ⟨vk_OFof ea14 (va_eqtl (hs (.eq (.field (.static "PaintBank$Word" "BACK" "LPaintBank$Word;") "PaintBank$Word" "letters" "J") (.long 1650549611)) (by decide +kernel))) hA, rfl⟩
      | 1, h =>
        have h2 : some (Value.int 1) = some v := h
        cases h2
        exact ⟨vk_OFof ea14 (va_eqt (hs (.eq (.field (.static "PaintBank$Word" "BACK" "LPaintBank$Word;") "PaintBank$Word" "isCommand" "Z") (.int 1)) (by decide +kernel))) hA, rfl⟩
      | 2, h =>
        have h2 : some (Value.int 0) = some v := h
        cases h2
        exact ⟨vk_OFof ea14 (va_eqt (hs (.eq (.field (.static "PaintBank$Word" "BACK" "LPaintBank$Word;") "PaintBank$Word" "least" "I") (.int 0)) (by decide +kernel))) hA, rfl⟩
      | 3, h =>
        have h2 : some (Value.int 3) = some v := h
        cases h2
        exact ⟨vk_OFof ea14 (va_eqt (hs (.eq (.field (.static "PaintBank$Word" "BACK" "LPaintBank$Word;") "PaintBank$Word" "greatest" "I") (.int 3)) (by decide +kernel))) hA, rfl⟩
      | 4, h =>
        have h2 : some (Value.int 14) = some v := h
        cases h2
        exact ⟨vk_OFof ea14 (va_eqt (hs (.eq (.field (.static "PaintBank$Word" "BACK" "LPaintBank$Word;") "java/lang/Enum" "ordinal" "I") (.int 14)) (by decide +kernel))) hA, rfl⟩
      | n + 5, h => exact absurd (show (none : Option Value) = some v from h) (by simp)
    | 16, h =>
      match k, h with
      | 0, h =>
        have h2 : some (Value.long 2002872692) = some v := h
        cases h2
        exact ⟨vk_OFof ea15 (va_eqtl (hs (.eq (.field (.static "PaintBank$Word" "WAIT" "LPaintBank$Word;") "PaintBank$Word" "letters" "J") (.long 2002872692)) (by decide +kernel))) hA, rfl⟩
      | 1, h =>
        have h2 : some (Value.int 1) = some v := h
        cases h2
        exact ⟨vk_OFof ea15 (va_eqt (hs (.eq (.field (.static "PaintBank$Word" "WAIT" "LPaintBank$Word;") "PaintBank$Word" "isCommand" "Z") (.int 1)) (by decide +kernel))) hA, rfl⟩
      | 2, h =>
        have h2 : some (Value.int 1) = some v := h
        cases h2
        exact ⟨vk_OFof ea15 (va_eqt (hs (.eq (.field (.static "PaintBank$Word" "WAIT" "LPaintBank$Word;") "PaintBank$Word" "least" "I") (.int 1)) (by decide +kernel))) hA, rfl⟩
      | 3, h =>
        have h2 : some (Value.int 99) = some v := h
        cases h2
        exact ⟨vk_OFof ea15 (va_eqt (hs (.eq (.field (.static "PaintBank$Word" "WAIT" "LPaintBank$Word;") "PaintBank$Word" "greatest" "I") (.int 99)) (by decide +kernel))) hA, rfl⟩
      | 4, h =>
        have h2 : some (Value.int 15) = some v := h
        cases h2
        exact ⟨vk_OFof ea15 (va_eqt (hs (.eq (.field (.static "PaintBank$Word" "WAIT" "LPaintBank$Word;") "java/lang/Enum" "ordinal" "I") (.int 15)) (by decide +kernel))) hA, rfl⟩
      | n + 5, h => exact absurd (show (none : Option Value) = some v from h) (by simp)
    | 17, h =>
      match k, h with
      | 0, h =>
        have h2 : some (Value.long 1937007984) = some v := h
        cases h2
        exact ⟨vk_OFof ea16 (va_eqtl (hs (.eq (.field (.static "PaintBank$Word" "STEP" "LPaintBank$Word;") "PaintBank$Word" "letters" "J") (.long 1937007984)) (by decide +kernel))) hA, rfl⟩
      | 1, h =>
        have h2 : some (Value.int 1) = some v := h
        cases h2
        exact ⟨vk_OFof ea16 (va_eqt (hs (.eq (.field (.static "PaintBank$Word" "STEP" "LPaintBank$Word;") "PaintBank$Word" "isCommand" "Z") (.int 1)) (by decide +kernel))) hA, rfl⟩
      | 2, h =>
        have h2 : some (Value.int 1) = some v := h
        cases h2
        exact ⟨vk_OFof ea16 (va_eqt (hs (.eq (.field (.static "PaintBank$Word" "STEP" "LPaintBank$Word;") "PaintBank$Word" "least" "I") (.int 1)) (by decide +kernel))) hA, rfl⟩
      | 3, h =>
        have h2 : some (Value.int 99) = some v := h
        cases h2
        exact ⟨vk_OFof ea16 (va_eqt (hs (.eq (.field (.static "PaintBank$Word" "STEP" "LPaintBank$Word;") "PaintBank$Word" "greatest" "I") (.int 99)) (by decide +kernel))) hA, rfl⟩
      | 4, h =>
        have h2 : some (Value.int 16) = some v := h
        cases h2
        exact ⟨vk_OFof ea16 (va_eqt (hs (.eq (.field (.static "PaintBank$Word" "STEP" "LPaintBank$Word;") "java/lang/Enum" "ordinal" "I") (.int 16)) (by decide +kernel))) hA, rfl⟩
      | n + 5, h => exact absurd (show (none : Option Value) = some v from h) (by simp)
    | 18, h =>
      match k, h with
      | 0, h =>
        have h2 : some (Value.long 129117126091108) = some v := h
        cases h2
        exact ⟨vk_OFof ea17 (va_eqtl (hs (.eq (.field (.static "PaintBank$Word" "UNLOAD" "LPaintBank$Word;") "PaintBank$Word" "letters" "J") (.long 129117126091108)) (by decide +kernel))) hA, rfl⟩
      | 1, h =>
        have h2 : some (Value.int 1) = some v := h
        cases h2
        exact ⟨vk_OFof ea17 (va_eqt (hs (.eq (.field (.static "PaintBank$Word" "UNLOAD" "LPaintBank$Word;") "PaintBank$Word" "isCommand" "Z") (.int 1)) (by decide +kernel))) hA, rfl⟩
      | 2, h =>
        have h2 : some (Value.int 0) = some v := h
        cases h2
        exact ⟨vk_OFof ea17 (va_eqt (hs (.eq (.field (.static "PaintBank$Word" "UNLOAD" "LPaintBank$Word;") "PaintBank$Word" "least" "I") (.int 0)) (by decide +kernel))) hA, rfl⟩
      | 3, h =>
        have h2 : some (Value.int 0) = some v := h
        cases h2
        exact ⟨vk_OFof ea17 (va_eqt (hs (.eq (.field (.static "PaintBank$Word" "UNLOAD" "LPaintBank$Word;") "PaintBank$Word" "greatest" "I") (.int 0)) (by decide +kernel))) hA, rfl⟩
      | 4, h =>
        have h2 : some (Value.int 17) = some v := h
        cases h2
        exact ⟨vk_OFof ea17 (va_eqt (hs (.eq (.field (.static "PaintBank$Word" "UNLOAD" "LPaintBank$Word;") "java/lang/Enum" "ordinal" "I") (.int 17)) (by decide +kernel))) hA, rfl⟩
      | n + 5, h => exact absurd (show (none : Option Value) = some v from h) (by simp)
    | 19, h =>
      match k, h with
      | 0, h =>
        have h2 : some (Value.long 1937203568) = some v := h
        cases h2
        exact ⟨vk_OFof ea18 (va_eqtl (hs (.eq (.field (.static "PaintBank$Word" "SWAP" "LPaintBank$Word;") "PaintBank$Word" "letters" "J") (.long 1937203568)) (by decide +kernel))) hA, rfl⟩
      | 1, h =>
        have h2 : some (Value.int 1) = some v := h
        cases h2
        exact ⟨vk_OFof ea18 (va_eqt (hs (.eq (.field (.static "PaintBank$Word" "SWAP" "LPaintBank$Word;") "PaintBank$Word" "isCommand" "Z") (.int 1)) (by decide +kernel))) hA, rfl⟩
      | 2, h =>
        have h2 : some (Value.int 0) = some v := h
        cases h2
        exact ⟨vk_OFof ea18 (va_eqt (hs (.eq (.field (.static "PaintBank$Word" "SWAP" "LPaintBank$Word;") "PaintBank$Word" "least" "I") (.int 0)) (by decide +kernel))) hA, rfl⟩
      | 3, h =>
        have h2 : some (Value.int 0) = some v := h
        cases h2
        exact ⟨vk_OFof ea18 (va_eqt (hs (.eq (.field (.static "PaintBank$Word" "SWAP" "LPaintBank$Word;") "PaintBank$Word" "greatest" "I") (.int 0)) (by decide +kernel))) hA, rfl⟩
      | 4, h =>
        have h2 : some (Value.int 18) = some v := h
        cases h2
        exact ⟨vk_OFof ea18 (va_eqt (hs (.eq (.field (.static "PaintBank$Word" "SWAP" "LPaintBank$Word;") "java/lang/Enum" "ordinal" "I") (.int 18)) (by decide +kernel))) hA, rfl⟩
      | n + 5, h => exact absurd (show (none : Option Value) = some v from h) (by simp)
    | 20, h =>
      match k, h with
      | 0, h =>
        have h2 : some (Value.long 125780002955636) = some v := h
        cases h2
        exact ⟨vk_OFof ea19 (va_eqtl (hs (.eq (.field (.static "PaintBank$Word" "REPEAT" "LPaintBank$Word;") "PaintBank$Word" "letters" "J") (.long 125780002955636)) (by decide +kernel))) hA, rfl⟩
      | 1, h =>
        have h2 : some (Value.int 1) = some v := h
        cases h2
        exact ⟨vk_OFof ea19 (va_eqt (hs (.eq (.field (.static "PaintBank$Word" "REPEAT" "LPaintBank$Word;") "PaintBank$Word" "isCommand" "Z") (.int 1)) (by decide +kernel))) hA, rfl⟩
      | 2, h =>
        have h2 : some (Value.int 1) = some v := h
        cases h2
        exact ⟨vk_OFof ea19 (va_eqt (hs (.eq (.field (.static "PaintBank$Word" "REPEAT" "LPaintBank$Word;") "PaintBank$Word" "least" "I") (.int 1)) (by decide +kernel))) hA, rfl⟩
      | 3, h =>
        have h2 : some (Value.int 20) = some v := h
        cases h2
        exact ⟨vk_OFof ea19 (va_eqt (hs (.eq (.field (.static "PaintBank$Word" "REPEAT" "LPaintBank$Word;") "PaintBank$Word" "greatest" "I") (.int 20)) (by decide +kernel))) hA, rfl⟩
      | 4, h =>
        have h2 : some (Value.int 19) = some v := h
        cases h2
        exact ⟨vk_OFof ea19 (va_eqt (hs (.eq (.field (.static "PaintBank$Word" "REPEAT" "LPaintBank$Word;") "java/lang/Enum" "ordinal" "I") (.int 19)) (by decide +kernel))) hA, rfl⟩
      | n + 5, h => exact absurd (show (none : Option Value) = some v from h) (by simp)
    | 21, h =>
      match k, h with
      | 0, h =>
        have h2 : some (Value.long 0) = some v := h
        cases h2
        exact ⟨vk_OFof ea20 (va_eqtl (hs (.eq (.field (.static "PaintBank$Word" "OTHER" "LPaintBank$Word;") "PaintBank$Word" "letters" "J") (.long 0)) (by decide +kernel))) hA, rfl⟩
      | 1, h =>
        have h2 : some (Value.int 0) = some v := h
        cases h2
        exact ⟨vk_OFof ea20 (va_eqt (hs (.eq (.field (.static "PaintBank$Word" "OTHER" "LPaintBank$Word;") "PaintBank$Word" "isCommand" "Z") (.int 0)) (by decide +kernel))) hA, rfl⟩
      | 2, h =>
        have h2 : some (Value.int 0) = some v := h
        cases h2
        exact ⟨vk_OFof ea20 (va_eqt (hs (.eq (.field (.static "PaintBank$Word" "OTHER" "LPaintBank$Word;") "PaintBank$Word" "least" "I") (.int 0)) (by decide +kernel))) hA, rfl⟩
      | 3, h =>
        have h2 : some (Value.int 0) = some v := h
        cases h2
        exact ⟨vk_OFof ea20 (va_eqt (hs (.eq (.field (.static "PaintBank$Word" "OTHER" "LPaintBank$Word;") "PaintBank$Word" "greatest" "I") (.int 0)) (by decide +kernel))) hA, rfl⟩
      | 4, h =>
        have h2 : some (Value.int 20) = some v := h
        cases h2
        exact ⟨vk_OFof ea20 (va_eqt (hs (.eq (.field (.static "PaintBank$Word" "OTHER" "LPaintBank$Word;") "java/lang/Enum" "ordinal" "I") (.int 20)) (by decide +kernel))) hA, rfl⟩
      | n + 5, h => exact absurd (show (none : Option Value) = some v from h) (by simp)
    | 22, h => exact absurd (show (none : Option Value) = some v from by simpa [md_xo, md_xoL] using h) (by simp)
    | 23, h => exact absurd (show (none : Option Value) = some v from by simpa [md_xo, md_xoL] using h) (by simp)
    | 24, h =>
      match k, h with
      | 0, h => exact absurd (show (none : Option Value) = some v from h) (by simp)
      | 1, h => exact absurd (show (none : Option Value) = some v from h) (by simp)
      | 2, h => exact absurd (show (none : Option Value) = some v from h) (by simp)
      | 3, h => exact absurd (show (none : Option Value) = some v from h) (by simp)
      | 4, h => exact absurd (show (none : Option Value) = some v from h) (by simp)
      | 5, h =>
        have h2 : some (Value.ref 1000026) = some v := h
        cases h2
        exact ⟨vk_OFof ek0 ev0 hA, rfl⟩
      | 6, h =>
        have h2 : some (Value.int 0) = some v := h
        cases h2
        exact ⟨vk_OFof ek0 (va_eqt (hs (.eq (.field (.string "PaintBank$Report" 24) "java/lang/String" "coder" "B") (.int 0)) (by decide +kernel))) hA, rfl⟩
      | n + 7, h => exact absurd (show (none : Option Value) = some v from h) (by simp)
    | 25, h =>
      match k, h with
      | 0, h => exact absurd (show (none : Option Value) = some v from h) (by simp)
      | 1, h => exact absurd (show (none : Option Value) = some v from h) (by simp)
      | 2, h => exact absurd (show (none : Option Value) = some v from h) (by simp)
      | 3, h => exact absurd (show (none : Option Value) = some v from h) (by simp)
      | 4, h => exact absurd (show (none : Option Value) = some v from h) (by simp)
      | 5, h =>
        have h2 : some (Value.ref 1000027) = some v := h
        cases h2
        exact ⟨vk_OFof ek1 ev1 hA, rfl⟩
      | 6, h =>
        have h2 : some (Value.int 0) = some v := h
        cases h2
        exact ⟨vk_OFof ek1 (va_eqt (hs (.eq (.field (.string "PaintBank$Report" 43) "java/lang/String" "coder" "B") (.int 0)) (by decide +kernel))) hA, rfl⟩
      | n + 7, h => exact absurd (show (none : Option Value) = some v from h) (by simp)
    | n + 26, h => exact absurd (show (none : Option Value) = some v from by simpa [md_xo, md_xoL] using h) (by simp)
  refine ⟨xl, rfl, ?_, ?_, hxo, ?_, ?_, ?_, ?_, ?_, ?_, ?_, ?_, ?_, ?_⟩
  · intro i hi
    match i, hi with
    | 0, _ => exact ⟨va_Zof (hts _ (mm_tb_in 10 (List.mem_of_getElem? (i := 134) rfl))) (hts _ (mm_tb_in 1 (List.mem_of_getElem? (i := 4) rfl))) ea0 hA, rfl⟩
    | 1, _ => exact ⟨va_Zof (hts _ (mm_tb_in 5 (List.mem_of_getElem? (i := 233) rfl))) (hts _ (mm_tb_in 1 (List.mem_of_getElem? (i := 4) rfl))) ea1 hA, rfl⟩
    | 2, _ => exact ⟨va_Zof (hts _ (mm_tb_in 10 (List.mem_of_getElem? (i := 135) rfl))) (hts _ (mm_tb_in 1 (List.mem_of_getElem? (i := 4) rfl))) ea2 hA, rfl⟩
    | 3, _ => exact ⟨va_Zof (hts _ (mm_tb_in 10 (List.mem_of_getElem? (i := 136) rfl))) (hts _ (mm_tb_in 1 (List.mem_of_getElem? (i := 4) rfl))) ea3 hA, rfl⟩
    | 4, _ => exact ⟨va_Zof (hts _ (mm_tb_in 6 (List.mem_of_getElem? (i := 7) rfl))) (hts _ (mm_tb_in 1 (List.mem_of_getElem? (i := 4) rfl))) ea4 hA, rfl⟩
    | 5, _ => exact ⟨va_Zof (hts _ (mm_tb_in 6 (List.mem_of_getElem? (i := 9) rfl))) (hts _ (mm_tb_in 1 (List.mem_of_getElem? (i := 4) rfl))) ea5 hA, rfl⟩
    | 6, _ => exact ⟨va_Zof (hts _ (mm_tb_in 10 (List.mem_of_getElem? (i := 137) rfl))) (hts _ (mm_tb_in 1 (List.mem_of_getElem? (i := 4) rfl))) ea6 hA, rfl⟩
    | 7, _ => exact ⟨va_Zof (hts _ (mm_tb_in 10 (List.mem_of_getElem? (i := 138) rfl))) (hts _ (mm_tb_in 1 (List.mem_of_getElem? (i := 4) rfl))) ea7 hA, rfl⟩
    | 8, _ => exact ⟨va_Zof (hts _ (mm_tb_in 6 (List.mem_of_getElem? (i := 23) rfl))) (hts _ (mm_tb_in 1 (List.mem_of_getElem? (i := 4) rfl))) ea8 hA, rfl⟩
    | 9, _ => exact ⟨va_Zof (hts _ (mm_tb_in 10 (List.mem_of_getElem? (i := 139) rfl))) (hts _ (mm_tb_in 1 (List.mem_of_getElem? (i := 4) rfl))) ea9 hA, rfl⟩
    | 10, _ => exact ⟨va_Zof (hts _ (mm_tb_in 6 (List.mem_of_getElem? (i := 29) rfl))) (hts _ (mm_tb_in 1 (List.mem_of_getElem? (i := 4) rfl))) ea10 hA, rfl⟩
    | 11, _ => exact ⟨va_Zof (hts _ (mm_tb_in 10 (List.mem_of_getElem? (i := 140) rfl))) (hts _ (mm_tb_in 1 (List.mem_of_getElem? (i := 4) rfl))) ea11 hA, rfl⟩
    | 12, _ => exact ⟨va_Zof (hts _ (mm_tb_in 10 (List.mem_of_getElem? (i := 141) rfl))) (hts _ (mm_tb_in 1 (List.mem_of_getElem? (i := 4) rfl))) ea12 hA, rfl⟩
    | 13, _ => exact ⟨va_Zof (hts _ (mm_tb_in 10 (List.mem_of_getElem? (i := 142) rfl))) (hts _ (mm_tb_in 1 (List.mem_of_getElem? (i := 4) rfl))) ea13 hA, rfl⟩
    | 14, _ => exact ⟨va_Zof (hts _ (mm_tb_in 10 (List.mem_of_getElem? (i := 143) rfl))) (hts _ (mm_tb_in 1 (List.mem_of_getElem? (i := 4) rfl))) ea14 hA, rfl⟩
    | 15, _ => exact ⟨va_Zof (hts _ (mm_tb_in 10 (List.mem_of_getElem? (i := 144) rfl))) (hts _ (mm_tb_in 1 (List.mem_of_getElem? (i := 4) rfl))) ea15 hA, rfl⟩
    | 16, _ => exact ⟨va_Zof (hts _ (mm_tb_in 10 (List.mem_of_getElem? (i := 145) rfl))) (hts _ (mm_tb_in 1 (List.mem_of_getElem? (i := 4) rfl))) ea16 hA, rfl⟩
    | 17, _ => exact ⟨va_Zof (hts _ (mm_tb_in 10 (List.mem_of_getElem? (i := 146) rfl))) (hts _ (mm_tb_in 1 (List.mem_of_getElem? (i := 4) rfl))) ea17 hA, rfl⟩
    | 18, _ => exact ⟨va_Zof (hts _ (mm_tb_in 10 (List.mem_of_getElem? (i := 147) rfl))) (hts _ (mm_tb_in 1 (List.mem_of_getElem? (i := 4) rfl))) ea18 hA, rfl⟩
    | 19, _ => exact ⟨va_Zof (hts _ (mm_tb_in 6 (List.mem_of_getElem? (i := 75) rfl))) (hts _ (mm_tb_in 1 (List.mem_of_getElem? (i := 4) rfl))) ea19 hA, rfl⟩
    | 20, _ => exact ⟨va_Zof (hts _ (mm_tb_in 1 (List.mem_of_getElem? (i := 45) rfl))) (hts _ (mm_tb_in 1 (List.mem_of_getElem? (i := 4) rfl))) ea20 hA, rfl⟩
    | 21, _ => exact ⟨va_Zof (hts _ (mm_tb_in 5 (List.mem_of_getElem? (i := 189) rfl))) (hts _ (mm_tb_in 1 (List.mem_of_getElem? (i := 4) rfl))) etA hA, rfl⟩
    | 22, _ => exact ⟨va_Zof (hts _ (mm_tb_in 5 (List.mem_of_getElem? (i := 210) rfl))) (hts _ (mm_tb_in 1 (List.mem_of_getElem? (i := 20) rfl))) etS hA, rfl⟩
    | 23, _ => exact ⟨va_Zof (hts _ (mm_tb_in 4 (List.mem_of_getElem? (i := 214) rfl))) (hts _ (mm_tb_in 1 (List.mem_of_getElem? (i := 26) rfl))) (va_eqi (hs (.eq (.static "java/lang/String" "COMPACT_STRINGS" "Z") (.int 1)) (by decide +kernel))) hA, rfl⟩
    | n + 24, hi => exact absurd hi (by show ¬ n + 24 < 24; omega)
  · intro i n h
    match i, h with
    | 0, h => exact absurd (show (none : Option Nat) = some n from h) (by simp)
    | 1, h =>
      have h2 : some 0 = some n := h
      cases h2
      exact oa0
    | 2, h =>
      have h2 : some 0 = some n := h
      cases h2
      exact oa1
    | 3, h =>
      have h2 : some 0 = some n := h
      cases h2
      exact oa2
    | 4, h =>
      have h2 : some 0 = some n := h
      cases h2
      exact oa3
    | 5, h =>
      have h2 : some 0 = some n := h
      cases h2
      exact oa4
    | 6, h =>
      have h2 : some 0 = some n := h
      cases h2
      exact oa5
    | 7, h =>
      have h2 : some 0 = some n := h
      cases h2
      exact oa6
    | 8, h =>
      have h2 : some 0 = some n := h
      cases h2
      exact oa7
    | 9, h =>
      have h2 : some 0 = some n := h
      cases h2
      exact oa8
    | 10, h =>
      have h2 : some 0 = some n := h
      cases h2
      exact oa9
    | 11, h =>
      have h2 : some 0 = some n := h
      cases h2
      exact oa10
    | 12, h =>
      have h2 : some 0 = some n := h
      cases h2
      exact oa11
    | 13, h =>
      have h2 : some 0 = some n := h
      cases h2
      exact oa12
    | 14, h =>
      have h2 : some 0 = some n := h
      cases h2
      exact oa13
    | 15, h =>
      have h2 : some 0 = some n := h
      cases h2
      exact oa14
    | 16, h =>
      have h2 : some 0 = some n := h
      cases h2
      exact oa15
    | 17, h =>
      have h2 : some 0 = some n := h
      cases h2
      exact oa16
    | 18, h =>
      have h2 : some 0 = some n := h
      cases h2
      exact oa17
    | 19, h =>
      have h2 : some 0 = some n := h
      cases h2
      exact oa18
    | 20, h =>
      have h2 : some 0 = some n := h
      cases h2
      exact oa19
    | 21, h =>
      have h2 : some 0 = some n := h
      cases h2
      exact oa20
    | 22, h => exact absurd (show (none : Option Nat) = some n from h) (by simp)
    | 23, h => exact absurd (show (none : Option Nat) = some n from h) (by simp)
    | 24, h =>
      have h2 : some 1 = some n := h
      cases h2
      exact ok0
    | 25, h =>
      have h2 : some 1 = some n := h
      cases h2
      exact ok1
    | q + 26, h => exact absurd (show ((md_xcL[q + 26]?).getD none) = some n from h) (by rw [List.getElem?_eq_none (by rw [show md_xcL.length = 26 from rfl]; omega)]; simp)
  · intro i t n f h
    match i, h with
    | 0, h =>
      have h2 : some ((0 : Nat), L, fun j => Value.int (xs j)) = some (t, n, f) := h
      cases h2
      obtain ⟨scr, g1, g2, g3, g4, g5⟩ := hX
      exact ⟨⟨scr, g1, g2, g3, by omega, by rw [g4], g5, hA b hbl⟩, fun _ => rfl⟩
    | 1, h => exact absurd (show (none : Option (Nat × Nat × (Nat → Value))) = some (t, n, f) from h) (by simp)
    | 2, h => exact absurd (show (none : Option (Nat × Nat × (Nat → Value))) = some (t, n, f) from h) (by simp)
    | 3, h => exact absurd (show (none : Option (Nat × Nat × (Nat → Value))) = some (t, n, f) from h) (by simp)
    | 4, h => exact absurd (show (none : Option (Nat × Nat × (Nat → Value))) = some (t, n, f) from h) (by simp)
    | 5, h => exact absurd (show (none : Option (Nat × Nat × (Nat → Value))) = some (t, n, f) from h) (by simp)
    | 6, h => exact absurd (show (none : Option (Nat × Nat × (Nat → Value))) = some (t, n, f) from h) (by simp)
    | 7, h => exact absurd (show (none : Option (Nat × Nat × (Nat → Value))) = some (t, n, f) from h) (by simp)
    | 8, h => exact absurd (show (none : Option (Nat × Nat × (Nat → Value))) = some (t, n, f) from h) (by simp)
    | 9, h => exact absurd (show (none : Option (Nat × Nat × (Nat → Value))) = some (t, n, f) from h) (by simp)
    | 10, h => exact absurd (show (none : Option (Nat × Nat × (Nat → Value))) = some (t, n, f) from h) (by simp)
    | 11, h => exact absurd (show (none : Option (Nat × Nat × (Nat → Value))) = some (t, n, f) from h) (by simp)
    | 12, h => exact absurd (show (none : Option (Nat × Nat × (Nat → Value))) = some (t, n, f) from h) (by simp)
    | 13, h => exact absurd (show (none : Option (Nat × Nat × (Nat → Value))) = some (t, n, f) from h) (by simp)
    | 14, h => exact absurd (show (none : Option (Nat × Nat × (Nat → Value))) = some (t, n, f) from h) (by simp)
    | 15, h => exact absurd (show (none : Option (Nat × Nat × (Nat → Value))) = some (t, n, f) from h) (by simp)
    | 16, h => exact absurd (show (none : Option (Nat × Nat × (Nat → Value))) = some (t, n, f) from h) (by simp)
    | 17, h => exact absurd (show (none : Option (Nat × Nat × (Nat → Value))) = some (t, n, f) from h) (by simp)
    | 18, h => exact absurd (show (none : Option (Nat × Nat × (Nat → Value))) = some (t, n, f) from h) (by simp)
    | 19, h => exact absurd (show (none : Option (Nat × Nat × (Nat → Value))) = some (t, n, f) from h) (by simp)
    | 20, h => exact absurd (show (none : Option (Nat × Nat × (Nat → Value))) = some (t, n, f) from h) (by simp)
    | 21, h => exact absurd (show (none : Option (Nat × Nat × (Nat → Value))) = some (t, n, f) from h) (by simp)
    | 22, h =>
      have h2 : some ((6 : Nat), (21 : Nat), fun j => md_xaA.getD j .null) = some (t, n, f) := h
      cases h2
      refine ⟨md_Tc TA (fun j hj => ?_), fun j => ?_⟩
      · match j, hj with
        | 0, _ => rfl
        | 1, _ => rfl
        | 2, _ => rfl
        | 3, _ => rfl
        | 4, _ => rfl
        | 5, _ => rfl
        | 6, _ => rfl
        | 7, _ => rfl
        | 8, _ => rfl
        | 9, _ => rfl
        | 10, _ => rfl
        | 11, _ => rfl
        | 12, _ => rfl
        | 13, _ => rfl
        | 14, _ => rfl
        | 15, _ => rfl
        | 16, _ => rfl
        | 17, _ => rfl
        | 18, _ => rfl
        | 19, _ => rfl
        | 20, _ => rfl
        | n + 21, hj => exact absurd hj (by omega)
      · by_cases hj : j < 21
        · exact (by decide +kernel : ∀ j, j < 21 → mm_isx (md_xaA.getD j .null) = true) j hj
        · show mm_isx (md_xaA.getD j .null) = true
          rw [show md_xaA.getD j .null = .null from by rw [List.getD_eq_getElem?_getD, List.getElem?_eq_none (by show 21 ≤ j; omega)]; rfl]; rfl
    | 23, h =>
      have h2 : some ((0 : Nat), (21 : Nat), fun j => md_xaS.getD j .null) = some (t, n, f) := h
      cases h2
      refine ⟨md_Tc TS (fun j hj => ?_), fun j => ?_⟩
      · match j, hj with
        | 0, _ => rfl
        | 1, _ => rfl
        | 2, _ => rfl
        | 3, _ => rfl
        | 4, _ => rfl
        | 5, _ => rfl
        | 6, _ => rfl
        | 7, _ => rfl
        | 8, _ => rfl
        | 9, _ => rfl
        | 10, _ => rfl
        | 11, _ => rfl
        | 12, _ => rfl
        | 13, _ => rfl
        | 14, _ => rfl
        | 15, _ => rfl
        | 16, _ => rfl
        | 17, _ => rfl
        | 18, _ => rfl
        | 19, _ => rfl
        | 20, _ => rfl
        | n + 21, hj => exact absurd hj (by omega)
      · by_cases hj : j < 21
        · exact (by decide +kernel : ∀ j, j < 21 → mm_isx (md_xaS.getD j .null) = true) j hj
        · show mm_isx (md_xaS.getD j .null) = true
          rw [show md_xaS.getD j .null = .null from by rw [List.getD_eq_getElem?_getD, List.getElem?_eq_none (by show 21 ≤ j; omega)]; rfl]; rfl
    | 24, h => exact absurd (show (none : Option (Nat × Nat × (Nat → Value))) = some (t, n, f) from h) (by simp)
    | 25, h => exact absurd (show (none : Option (Nat × Nat × (Nat → Value))) = some (t, n, f) from h) (by simp)
    | 26, h =>
      have h2 : some ((2 : Nat), (5 : Nat), fun j => md_xaT0.getD j .null) = some (t, n, f) := h
      cases h2
      refine ⟨md_Tc Tv0 (fun j hj => ?_), fun j => ?_⟩
      · match j, hj with
        | 0, _ => rfl
        | 1, _ => rfl
        | 2, _ => rfl
        | 3, _ => rfl
        | 4, _ => rfl
        | n + 5, hj => exact absurd hj (by omega)
      · by_cases hj : j < 5
        · exact (by decide +kernel : ∀ j, j < 5 → mm_isx (md_xaT0.getD j .null) = true) j hj
        · show mm_isx (md_xaT0.getD j .null) = true
          rw [show md_xaT0.getD j .null = .null from by rw [List.getD_eq_getElem?_getD, List.getElem?_eq_none (by show 5 ≤ j; omega)]; rfl]; rfl
    | 27, h =>
      have h2 : some ((2 : Nat), (3 : Nat), fun j => md_xaT1.getD j .null) = some (t, n, f) := h
      cases h2
      refine ⟨md_Tc Tv1 (fun j hj => ?_), fun j => ?_⟩
      · match j, hj with
        | 0, _ => rfl
        | 1, _ => rfl
        | 2, _ => rfl
        | n + 3, hj => exact absurd hj (by omega)
      · by_cases hj : j < 3
        · exact (by decide +kernel : ∀ j, j < 3 → mm_isx (md_xaT1.getD j .null) = true) j hj
        · show mm_isx (md_xaT1.getD j .null) = true
          rw [show md_xaT1.getD j .null = .null from by rw [List.getD_eq_getElem?_getD, List.getElem?_eq_none (by show 3 ≤ j; omega)]; rfl]; rfl
    | q + 28, h =>
      have h2 : ((md_xaL[q + 28]?).getD none) = some (t, n, f) := by
        unfold md_xa at h
        dsimp only at h
        rwa [if_neg (by omega : ¬ q + 28 = 0)] at h
      exact absurd h2 (by rw [List.getElem?_eq_none (by rw [show md_xaL.length = 28 from rfl]; omega)]; simp)
  · refine List.forall_mem_cons.mpr ⟨vk_R.of (hts _ (mm_tb_in 4 (List.mem_of_getElem? (i := 200) rfl))) ek0, List.forall_mem_cons.mpr ⟨vk_R.of (hts _ (mm_tb_in 5 (List.mem_of_getElem? (i := 33) rfl))) ek1, List.forall_mem_cons.mpr ⟨vk_R.of (hts _ (mm_tb_in 5 (List.mem_of_getElem? (i := 101) rfl))) em0, List.forall_mem_cons.mpr ⟨vk_R.of (hts _ (mm_tb_in 5 (List.mem_of_getElem? (i := 148) rfl))) em1, List.forall_mem_cons.mpr ⟨vk_R.of (hts _ (mm_tb_in 6 (List.mem_of_getElem? (i := 38) rfl))) em2, List.forall_mem_cons.mpr ⟨vk_R.of (hts _ (mm_tb_in 6 (List.mem_of_getElem? (i := 81) rfl))) em3, List.forall_mem_cons.mpr ⟨vk_R.of (hts _ (mm_tb_in 6 (List.mem_of_getElem? (i := 121) rfl))) em4, List.forall_mem_cons.mpr ⟨vk_R.of (hts _ (mm_tb_in 6 (List.mem_of_getElem? (i := 139) rfl))) em5, List.forall_mem_cons.mpr ⟨vk_R.of (hts _ (mm_tb_in 6 (List.mem_of_getElem? (i := 157) rfl))) em6, List.forall_mem_cons.mpr ⟨vk_R.of (hts _ (mm_tb_in 6 (List.mem_of_getElem? (i := 169) rfl))) em7, List.forall_mem_cons.mpr ⟨vk_R.of (hts _ (mm_tb_in 6 (List.mem_of_getElem? (i := 217) rfl))) em8, List.forall_mem_cons.mpr ⟨vk_R.of (hts _ (mm_tb_in 7 (List.mem_of_getElem? (i := 20) rfl))) em9, List.forall_mem_cons.mpr ⟨vk_R.of (hts _ (mm_tb_in 7 (List.mem_of_getElem? (i := 54) rfl))) em10, List.forall_mem_cons.mpr ⟨vk_R.of (hts _ (mm_tb_in 7 (List.mem_of_getElem? (i := 55) rfl))) em11, List.forall_mem_cons.mpr ⟨vk_R.of (hts _ (mm_tb_in 7 (List.mem_of_getElem? (i := 63) rfl))) em12, List.forall_mem_cons.mpr ⟨vk_R.of (hts _ (mm_tb_in 7 (List.mem_of_getElem? (i := 71) rfl))) em13, fun _ h => nomatch h⟩⟩⟩⟩⟩⟩⟩⟩⟩⟩⟩⟩⟩⟩⟩⟩
  · refine List.forall_mem_cons.mpr ⟨va_Nw.of rfl (hts _ (mm_tb_in 5 (List.mem_of_getElem? (i := 62) rfl))), List.forall_mem_cons.mpr ⟨va_Nw.of rfl (hts _ (mm_tb_in 5 (List.mem_of_getElem? (i := 141) rfl))), List.forall_mem_cons.mpr ⟨va_Nw.of rfl (hts _ (mm_tb_in 6 (List.mem_of_getElem? (i := 132) rfl))), List.forall_mem_cons.mpr ⟨va_Nw.of rfl (hts _ (mm_tb_in 5 (List.mem_of_getElem? (i := 64) rfl))), List.forall_mem_cons.mpr ⟨va_Nw.of rfl (hts _ (mm_tb_in 5 (List.mem_of_getElem? (i := 66) rfl))), List.forall_mem_cons.mpr ⟨va_Nw.of rfl (hts _ (mm_tb_in 5 (List.mem_of_getElem? (i := 68) rfl))), fun _ h => nomatch h⟩⟩⟩⟩⟩⟩
  · refine List.forall_mem_cons.mpr ⟨va_Nw.of rfl (hts _ (mm_tb_in 1 (List.mem_of_getElem? (i := 40) rfl))), List.forall_mem_cons.mpr ⟨va_Nw.of rfl (hts _ (mm_tb_in 1 (List.mem_of_getElem? (i := 231) rfl))), List.forall_mem_cons.mpr ⟨va_Nw.of rfl (hts _ (mm_tb_in 2 (List.mem_of_getElem? (i := 90) rfl))), List.forall_mem_cons.mpr ⟨va_Nw.of rfl (hts _ (mm_tb_in 2 (List.mem_of_getElem? (i := 144) rfl))), List.forall_mem_cons.mpr ⟨va_Nw.of rfl (hts _ (mm_tb_in 2 (List.mem_of_getElem? (i := 237) rfl))), fun _ h => nomatch h⟩⟩⟩⟩⟩
  · refine List.forall_mem_cons.mpr ⟨va_AO.of (hts _ (mm_tb_in 1 (List.mem_of_getElem? (i := 229) rfl))), List.forall_mem_cons.mpr ⟨va_AO.of (hts _ (mm_tb_in 2 (List.mem_of_getElem? (i := 179) rfl))), List.forall_mem_cons.mpr ⟨va_AO.of (hts _ (mm_tb_in 2 (List.mem_of_getElem? (i := 222) rfl))), fun _ h => nomatch h⟩⟩⟩
  · refine List.forall_mem_cons.mpr ⟨va_Nc.of (hs (.not (.castable "java/lang/IllegalArgumentException" "java/lang/IllegalStateException")) (by decide +kernel)), List.forall_mem_cons.mpr ⟨va_Nc.of (hs (.not (.castable "java/lang/IndexOutOfBoundsException" "java/lang/IllegalStateException")) (by decide +kernel)), List.forall_mem_cons.mpr ⟨va_Nc.of (hs (.not (.castable "java/lang/IllegalStateException" "java/lang/IllegalArgumentException")) (by decide +kernel)), List.forall_mem_cons.mpr ⟨va_Nc.of (hs (.not (.castable "java/lang/IndexOutOfBoundsException" "java/lang/IllegalArgumentException")) (by decide +kernel)), List.forall_mem_cons.mpr ⟨va_Nc.of (hs (.not (.castable "java/lang/IllegalStateException" "java/lang/IndexOutOfBoundsException")) (by decide +kernel)), List.forall_mem_cons.mpr ⟨va_Nc.of (hs (.not (.castable "java/lang/IllegalArgumentException" "java/lang/IndexOutOfBoundsException")) (by decide +kernel)), fun _ h => nomatch h⟩⟩⟩⟩⟩⟩
  · exact vx_Zqof (hts _ (mm_tb_in 5 (List.mem_of_getElem? (i := 87) rfl))) (hts _ (mm_tb_in 1 (List.mem_of_getElem? (i := 15) rfl))) (hs (.isRef (.static "java/lang/Throwable" "UNASSIGNED_STACK" "[Ljava/lang/StackTraceElement;")) (by decide +kernel)) hA
  · exact vx_Zqof (hts _ (mm_tb_in 5 (List.mem_of_getElem? (i := 89) rfl))) (hts _ (mm_tb_in 1 (List.mem_of_getElem? (i := 15) rfl))) (hs (.isRef (.static "java/lang/Throwable" "SUPPRESSED_SENTINEL" "Ljava/util/List;")) (by decide +kernel)) hA
  · intro i k hi hk hi2 hk2 e
    obtain ⟨i0, rfl⟩ : ∃ i0, i = i0 + 1 := ⟨i - 1, by omega⟩
    obtain ⟨k0, rfl⟩ : ∃ k0, k = k0 + 1 := ⟨k - 1, by omega⟩
    have hi3 : i0 < 21 := Nat.lt_of_succ_le hi2
    have hk3 : k0 < 21 := Nat.lt_of_succ_le hk2
    have h1 := (hxo _ _ _ (md_ord i0 hi3)).1
    have h2 := (hxo _ _ _ (md_ord k0 hk3)).1
    rw [e] at h1
    have h3 := md_OFu h1 h2
    have h4 : Int32.ofNat i0 = Int32.ofNat k0 := by first | exact Value.int.inj h3 | exact (Value.int.inj h3).symm
    rw [md_ordu i0 hi3 k0 hk3 h4]
  · refine List.forall_mem_cons.mpr ⟨va_Zqof (hts _ (mm_tb_in 4 (List.mem_of_getElem? (i := 230) rfl))) (hts _ (mm_tb_in 1 (List.mem_of_getElem? (i := 28) rfl))) (hs (.isRef (.static "jdk/internal/util/Preconditions" "SIOOBE_FORMATTER" "Ljava/util/function/BiFunction;")) (by decide +kernel)) hA, fun _ h => nomatch h⟩
