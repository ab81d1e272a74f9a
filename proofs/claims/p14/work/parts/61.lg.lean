-- the law, case at 1378
set_option maxRecDepth 100000 in
set_option maxHeartbeats 100000000 in
theorem lc_1378 {L : Nat} {xs : Nat → Int32} {d b c : Nat} {h : hp} {cr : Nat → Nat → Option Nat} {Q : hp_Q} (hcr : CR cr) (hL : L ≤ 3072) (hr : 1 ≤ b ∧ 6 ≤ c) (i : Int) (I : LIm i h) (hi : 0 ≤ i ∧ i + 6 ≤ L) (k : ∀ (h2 : hp) (b2 c2 : Nat), LIm (i + 6) h2 → b ≤ b2 + 1 → c ≤ c2 + 6 → wp (md_xa (L, xs)) (d + 107) 0 (1501, [(0, .ref 1000000), (1, .ref 0), (2, .ref 236), (3, .ref 259), (4, vi i)], [], hp_w h2 cr, b2, c2) Q) : wp (md_xa (L, xs)) (d + 107) 0 (1378, [(0, .ref 1000000), (1, .ref 0), (2, .ref 236), (3, .ref 259), (4, vi i)], [], hp_w h cr, b, c) Q := by
  obtain ⟨⟨g, i11, r238, r241, gp0, br0, er2, er3, sv0, sf0, ss0, gs0, mi0, ml1, ml2, gq0, mr0, sm0⟩, ie0⟩ := I
  have r238e := r238.e0
  have r241e := r241.e0
  obtain ⟨⟨se0, se1, se2, se3, se4, se5, se6, se7, se8, se9⟩, -⟩ := id sv0
  have b1 := gi_b (lo := 0) (hi := 5) g 3 0 rfl
  have b2 := gi_b (lo := 0) (hi := 5) g 238 0 rfl
  have b3 := gi_b (lo := 0) (hi := 4) g 3 1 rfl
  have b4 := gi_b (lo := 0) (hi := 4) g 238 1 rfl
  have b5 := gi_b (lo := 0) (hi := 12) g 3 2 rfl
  have b6 := gi_b (lo := 0) (hi := 12) g 238 2 rfl
  have b7 := gi_b (lo := -2147483648) (hi := 2147483647) g 3 3 rfl
  have b8 := gi_b (lo := 0) (hi := 999) g 238 3 rfl
  have b9 := gi_b (lo := -2147483648) (hi := 2147483647) g 3 4 rfl
  have b10 := gi_b (lo := 0) (hi := 999) g 238 4 rfl
  have b11 := gi_b (lo := -2147483648) (hi := 2147483647) g 3 5 rfl
  have b12 := gi_b (lo := 0) (hi := 9) g 238 5 rfl
  have b13 := gi_b (lo := -2147483648) (hi := 2147483647) g 3 6 rfl
  have b14 := gi_b (lo := 0) (hi := 999) g 238 6 rfl
  have b15 := gi_b (lo := -2147483648) (hi := 2147483647) g 3 7 rfl
  have b16 := gi_b (lo := 0) (hi := 3) g 238 7 rfl
  have b17 := gi_b (lo := -2147483648) (hi := 2147483647) g 3 8 rfl
  have b18 := gi_b (lo := 0) (hi := 999) g 238 8 rfl
  have b19 := gi_b (lo := -2147483648) (hi := 2147483647) g 3 9 rfl
  have b20 := gi_b (lo := 0) (hi := 999) g 238 9 rfl
  have b21 := gi_b (lo := -2147483648) (hi := 2147483647) g 63 5 rfl
  have b22 := gi_b (lo := 0) (hi := 12) g 18 7 rfl
  have b23 := gi_b (lo := 0) (hi := 12) g 66 1 rfl
  have b24 := gi_b (lo := 0) (hi := 1) g 0 12 rfl
  have b25 := gi_b (lo := 0) (hi := 1) g 236 21 rfl
  have bl_ := gi_b (lo := 0) (hi := 800) g 1 1 rfl
  have tb0 : BufC (h 2) (h 1 1) h := ⟨fun _ => rfl, rfl, by omega, by omega⟩
  have b26 := gi_b (lo := 0) (hi := 6) g 238 98 rfl
  have b27 := gi_b (lo := 0) (hi := 6) g 238 99 rfl
  have b28 := gi_b (lo := 0) (hi := 6) g 238 100 rfl
  have b29 := gi_b (lo := 0) (hi := 6) g 238 101 rfl
  have b30 := gi_b (lo := 0) (hi := 3) g 238 102 rfl
  have b31 := gi_b (lo := 0) (hi := 12) g 238 106 rfl
  have b32 := gi_b (lo := 0) (hi := 12) g 238 73 rfl
  have b33 := gi_b (lo := 0) (hi := 9999) g 238 119 rfl
  have b34 := gi_b (lo := 0) (hi := 9999) g 238 67 rfl
  have b35 := gi_b (lo := 0) (hi := 9) g 238 69 rfl
  have b36 := gi_b (lo := 0) (hi := 6) g 241 98 rfl
  have b37 := gi_b (lo := 0) (hi := 6) g 241 99 rfl
  have b38 := gi_b (lo := 0) (hi := 6) g 241 100 rfl
  have b39 := gi_b (lo := 0) (hi := 6) g 241 101 rfl
  have b40 := gi_b (lo := 0) (hi := 3) g 241 102 rfl
  have b41 := gi_b (lo := 0) (hi := 12) g 241 106 rfl
  have b42 := gi_b (lo := 0) (hi := 12) g 241 73 rfl
  have b43 := gi_b (lo := 0) (hi := 12) g 241 2 rfl
  have b44 := gi_b (lo := 0) (hi := 9999) g 241 119 rfl
  have b45 := gi_b (lo := 0) (hi := 9999) g 241 67 rfl
  have b46 := gi_b (lo := 0) (hi := 9) g 241 69 rfl
  have b47 := gi_b (lo := 0) (hi := 9) g 241 5 rfl
  have b48 := gi_b (lo := 0) (hi := 800) g 1 1 rfl
  have b49 := gi_b (lo := 0) (hi := 800) g 236 2 rfl
  have b50 := gi_b (lo := -2147483648) (hi := 2147483647) g 1 2 rfl
  have b51 := gi_b (lo := -2147483648) (hi := 2147483647) g 236 10 rfl
  have b52 := gi_b (lo := -2147483648) (hi := 2147483647) g 1 3 rfl
  have b53 := gi_b (lo := -2147483648) (hi := 2147483647) g 236 11 rfl
  refine wi_aload_n (i := 1) (x := 0) (nx := 1379) (r1 := 0) (r2 := 0) (r3 := 0) rfl rfl ?_
  refine wi_aload_n (i := 0) (x := 1000000) (nx := 1380) (r1 := 0) (r2 := 0) (r3 := 0) rfl rfl ?_
  refine wi_iload (i := 4) (e := i) (nx := 1382) (r1 := 0) (r2 := 0) (r3 := 0) rfl rfl ?_
  refine wi_iconst (n := 1) (nx := 1383) (r1 := 0) (r2 := 0) (r3 := 0) rfl ?_
  refine wr_add (nx := 1384) (r1 := 0) (r2 := 0) (r3 := 0) rfl (fun e54 (fe54 : e54 = i + 1) => ?_)
  obtain ⟨i55, ei55⟩ : ∃ q : Nat, e54 = (q : Int) := ⟨(e54).toNat, by omega⟩
  have s56 := sc_b (xs i55)
  refine wr_sc (a := e54) (f := i55) (nx := 1385) (r1 := 0) (r2 := 0) (r3 := 0) rfl (by omega) (by omega) hL ?_
  refine wi_aload_n (i := 0) (x := 1000000) (nx := 1386) (r1 := 0) (r2 := 0) (r3 := 0) rfl rfl ?_
  refine wi_iload (i := 4) (e := i) (nx := 1388) (r1 := 0) (r2 := 0) (r3 := 0) rfl rfl ?_
  refine wi_iconst (n := 2) (nx := 1389) (r1 := 0) (r2 := 0) (r3 := 0) rfl ?_
  refine wr_add (nx := 1390) (r1 := 0) (r2 := 0) (r3 := 0) rfl (fun e57 (fe57 : e57 = i + 2) => ?_)
  obtain ⟨i58, ei58⟩ : ∃ q : Nat, e57 = (q : Int) := ⟨(e57).toNat, by omega⟩
  have s59 := sc_b (xs i58)
  refine wr_sc (a := e57) (f := i58) (nx := 1391) (r1 := 0) (r2 := 0) (r3 := 0) rfl (by omega) (by omega) hL ?_
  refine wi_aload_n (i := 3) (x := 259) (nx := 1392) (r1 := 0) (r2 := 0) (r3 := 0) rfl rfl ?_
  refine wi_S (rest := []) (as := [.ref 0, vi ((xs i55).toInt), vi ((xs i58).toInt), .ref 259]) (nx := 1395) (r1 := 23) (r2 := 20) (r3 := 0) rfl rfl rfl (of_decide_eq_true rfl) rfl rfl (of_decide_eq_true rfl) (of_decide_eq_true rfl) ?_
  refine wi_aload_n (i := 3) (x := 259) (nx := 1) (r1 := 0) (r2 := 0) (r3 := 0) rfl rfl ?_
  refine wi_iconst (n := 0) (nx := 2) (r1 := 0) (r2 := 0) (r3 := 0) rfl ?_
  refine wi_aload_n (i := 0) (x := 0) (nx := 3) (r1 := 0) (r2 := 0) (r3 := 0) rfl rfl ?_
  refine wi_iload_n (i := 1) (e := (xs i55).toInt) (nx := 4) (r1 := 0) (r2 := 0) (r3 := 0) rfl rfl ?_
  refine wi_iload_n (i := 2) (e := (xs i58).toInt) (nx := 5) (r1 := 0) (r2 := 0) (r3 := 0) rfl rfl ?_
  refine wr_V (k0 := 0) (rest := [vi 0, .ref 259]) (as := [.ref 0, vi ((xs i55).toInt), vi ((xs i58).toInt)]) (nx := 8) (r1 := 87) (r2 := 2) (r3 := 0) rfl rfl rfl (of_decide_eq_true rfl) rfl rfl (by decide) rfl rfl (of_decide_eq_true rfl) (of_decide_eq_true rfl) ?_
  refine ct_87_0 hcr hr  g ((xs i55).toInt) ((xs i58).toInt) (by omega) (by omega)  (fun z61  (fz61 : -2147483648 ≤ z61 ∧ z61 ≤ 2147483647) => ?_) ?_ ?_
  ·
    refine wk_i ?_
    refine wi_i2l (nx := 9) (r1 := 0) (r2 := 0) (r3 := 0) rfl (by omega) ?_
    refine wr_ls (k0 := 259) (a := 0) (f := 0) (x := z61) (bl := -9223372036854775808) (bh := 9223372036854775807) (nx := 10) (r1 := 0) (r2 := 0) (r3 := 0) rfl (by decide) rfl (by omega) (by omega) (by decide) g rfl (by omega) (fun h62 g62 w62 u62 => ?_)
    refine wi_goto (nx := 13) (r1 := 21) (r2 := 0) (r3 := 0) rfl ?_
    refine wi_iconst (n := 0) (nx := 22) (r1 := 0) (r2 := 0) (r3 := 0) rfl ?_
    refine wi_ireturn (nx := 23) (r1 := 0) (r2 := 0) (r3 := 0) rfl rfl ?_
    refine wk_i ?_
    refine wi_istore (i := 5) (e := 0) (lo2 := [(5, vi 0), (0, .ref 1000000), (1, .ref 0), (2, .ref 236), (3, .ref 259), (4, vi i)]) (nx := 1397) (r1 := 0) (r2 := 0) (r3 := 0) rfl rfl ?_
    refine wi_aload_n (i := 2) (x := 236) (nx := 1398) (r1 := 0) (r2 := 0) (r3 := 0) rfl rfl ?_
    refine wi_aload_n (i := 0) (x := 1000000) (nx := 1399) (r1 := 0) (r2 := 0) (r3 := 0) rfl rfl ?_
    refine wi_iload (i := 4) (e := i) (nx := 1401) (r1 := 0) (r2 := 0) (r3 := 0) rfl rfl ?_
    refine wi_iconst (n := 1) (nx := 1402) (r1 := 0) (r2 := 0) (r3 := 0) rfl ?_
    refine wr_add (nx := 1403) (r1 := 0) (r2 := 0) (r3 := 0) rfl (fun e63 (fe63 : e63 = i + 1) => ?_)
    refine wr_sc (a := e63) (f := i55) (nx := 1404) (r1 := 0) (r2 := 0) (r3 := 0) rfl (by omega) (by omega) hL ?_
    refine wi_aload_n (i := 0) (x := 1000000) (nx := 1405) (r1 := 0) (r2 := 0) (r3 := 0) rfl rfl ?_
    refine wi_iload (i := 4) (e := i) (nx := 1407) (r1 := 0) (r2 := 0) (r3 := 0) rfl rfl ?_
    refine wi_iconst (n := 2) (nx := 1408) (r1 := 0) (r2 := 0) (r3 := 0) rfl ?_
    refine wr_add (nx := 1409) (r1 := 0) (r2 := 0) (r3 := 0) rfl (fun e64 (fe64 : e64 = i + 2) => ?_)
    refine wr_sc (a := e64) (f := i58) (nx := 1410) (r1 := 0) (r2 := 0) (r3 := 0) rfl (by omega) (by omega) hL ?_
    refine wr_V (k0 := 236) (rest := []) (as := [.ref 236, vi ((xs i55).toInt), vi ((xs i58).toInt)]) (nx := 1413) (r1 := 344) (r2 := 2) (r3 := 11) rfl rfl rfl (of_decide_eq_true rfl) rfl rfl (by decide) rfl rfl (of_decide_eq_true rfl) (of_decide_eq_true rfl) ?_
    refine ct_344_236 hcr  g62 ((xs i55).toInt) ((xs i58).toInt) (by omega) (by omega)  (fun h65 z66 g65 u65 (fz66 : -2147483648 ≤ z66 ∧ z66 ≤ 2147483647) => ?_)
    refine wk_i ?_
    refine wi_istore (i := 6) (e := z66) (lo2 := [(6, vi z66), (5, vi 0), (0, .ref 1000000), (1, .ref 0), (2, .ref 236), (3, .ref 259), (4, vi i)]) (nx := 1415) (r1 := 0) (r2 := 0) (r3 := 0) rfl rfl ?_
    refine wi_goto (nx := 1418) (r1 := 1501) (r2 := 0) (r3 := 0) rfl ?_
    refine wp.lo (lo := [(0, .ref 1000000), (1, .ref 0), (2, .ref 236), (3, .ref 259), (4, vi i)]) ⟨rfl, rfl, rfl, rfl, rfl, trivial⟩ rfl ?_
    have e67 : h65 238 98 = h 238 98 := ((u65 238 98 rfl).trans (u62 238 98 rfl))
    have e68 : h65 238 99 = h 238 99 := ((u65 238 99 rfl).trans (u62 238 99 rfl))
    have e69 : h65 238 100 = h 238 100 := ((u65 238 100 rfl).trans (u62 238 100 rfl))
    have e70 : h65 238 101 = h 238 101 := ((u65 238 101 rfl).trans (u62 238 101 rfl))
    have e71 : h65 238 102 = h 238 102 := ((u65 238 102 rfl).trans (u62 238 102 rfl))
    have e72 : h65 238 106 = h 238 106 := ((u65 238 106 rfl).trans (u62 238 106 rfl))
    have e73 : h65 238 73 = h 238 73 := ((u65 238 73 rfl).trans (u62 238 73 rfl))
    have e74 : h65 238 2 = h 238 2 := ((u65 238 2 rfl).trans (u62 238 2 rfl))
    have e75 : h65 238 119 = h 238 119 := ((u65 238 119 rfl).trans (u62 238 119 rfl))
    have e76 : h65 238 67 = h 238 67 := ((u65 238 67 rfl).trans (u62 238 67 rfl))
    have e77 : h65 238 69 = h 238 69 := ((u65 238 69 rfl).trans (u62 238 69 rfl))
    have e78 : h65 238 5 = h 238 5 := ((u65 238 5 rfl).trans (u62 238 5 rfl))
    have e79 : h65 241 98 = h 241 98 := ((u65 241 98 rfl).trans (u62 241 98 rfl))
    have e80 : h65 241 99 = h 241 99 := ((u65 241 99 rfl).trans (u62 241 99 rfl))
    have e81 : h65 241 100 = h 241 100 := ((u65 241 100 rfl).trans (u62 241 100 rfl))
    have e82 : h65 241 101 = h 241 101 := ((u65 241 101 rfl).trans (u62 241 101 rfl))
    have e83 : h65 241 102 = h 241 102 := ((u65 241 102 rfl).trans (u62 241 102 rfl))
    have e84 : h65 241 106 = h 241 106 := ((u65 241 106 rfl).trans (u62 241 106 rfl))
    have e85 : h65 241 73 = h 241 73 := ((u65 241 73 rfl).trans (u62 241 73 rfl))
    have e86 : h65 241 2 = h 241 2 := ((u65 241 2 rfl).trans (u62 241 2 rfl))
    have e87 : h65 241 119 = h 241 119 := ((u65 241 119 rfl).trans (u62 241 119 rfl))
    have e88 : h65 241 67 = h 241 67 := ((u65 241 67 rfl).trans (u62 241 67 rfl))
    have e89 : h65 241 69 = h 241 69 := ((u65 241 69 rfl).trans (u62 241 69 rfl))
    have e90 : h65 241 5 = h 241 5 := ((u65 241 5 rfl).trans (u62 241 5 rfl))
    have e91 : h65 1 1 = h 1 1 := ((u65 1 1 rfl).trans (u62 1 1 rfl))
    have e92 : h65 236 2 = h 236 2 := ((u65 236 2 rfl).trans (u62 236 2 rfl))
    have e93 : h65 1 2 = h 1 2 := ((u65 1 2 rfl).trans (u62 1 2 rfl))
    have e94 : h65 236 10 = h 236 10 := ((u65 236 10 rfl).trans (u62 236 10 rfl))
    have e95 : h65 1 3 = h 1 3 := ((u65 1 3 rfl).trans (u62 1 3 rfl))
    have e96 : h65 236 11 = h 236 11 := ((u65 236 11 rfl).trans (u62 236 11 rfl))
    have gp97 := GPH.fr u62 rfl gp0
    have gp98 := GPH.fr u65 rfl gp97
    have b99 := gi_b (lo := 0) (hi := 5) g 241 0 rfl
    have b100 := gi_b (lo := 0) (hi := 4) g 241 1 rfl
    have gs101 := GPS.fr u62 rfl gs0
    have gs102 := GPS.fr u65 rfl gs101
    have e103 : h65 0 12 = h 0 12 := ((u65 0 12 rfl).trans (u62 0 12 rfl))
    have e104 : h65 236 21 = h 236 21 := ((u65 236 21 rfl).trans (u62 236 21 rfl))
    have e105 : h65 63 5 = h 63 5 := ((u65 63 5 rfl).trans (u62 63 5 rfl))
    have e106 : h65 18 16 = h 18 16 := ((u65 18 16 rfl).trans (u62 18 16 rfl))
    have e107 : h65 18 7 = h 18 7 := ((u65 18 7 rfl).trans (u62 18 7 rfl))
    have e108 : h65 3 2 = h 3 2 := ((u65 3 2 rfl).trans (u62 3 2 rfl))
    have e109 : h65 66 1 = h 66 1 := ((u65 66 1 rfl).trans (u62 66 1 rfl))
    have b110 := gi_b (lo := 0) (hi := 6) g 73 1 rfl
    have e111 : h65 73 1 = h 73 1 := ((u65 73 1 rfl).trans (u62 73 1 rfl))
    have b112 := gi_b (lo := 0) (hi := 6) g 73 2 rfl
    have e113 : h65 73 2 = h 73 2 := ((u65 73 2 rfl).trans (u62 73 2 rfl))
    have b114 := gi_b (lo := 0) (hi := 6) g 236 22 rfl
    have e115 : h65 236 22 = h 236 22 := ((u65 236 22 rfl).trans (u62 236 22 rfl))
    have b116 := gi_b (lo := 0) (hi := 12) g 210 2 rfl
    have e117 : h65 210 2 = h 210 2 := ((u65 210 2 rfl).trans (u62 210 2 rfl))
    have q120 : h65 8 = h 8 := funext (fun i => ((u65 8 i (fo_no_ok (by decide) i)).trans (u62 8 i rfl)))
    have q121 : h65 7 = h 7 := funext (fun i => ((u65 7 i (fo_no_ok (by decide) i)).trans (u62 7 i rfl)))
    have q122 : h65 19 = h 19 := funext (fun i => ((u65 19 i (fo_no_ok (by decide) i)).trans (u62 19 i rfl)))
    have q123 : h65 67 = h 67 := funext (fun i => ((u65 67 i (fo_no_ok (by decide) i)).trans (u62 67 i rfl)))
    have ml119 : MCL h65 := MCL.mv mi0.1 q120 q121 q122 q123 (by omega) (by omega) (by omega) (by omega)
    have q125 : h65 69 = h 69 := funext (fun i => ((u65 69 i (fo_no_ok (by decide) i)).trans (u62 69 i rfl)))
    have q126 : h65 70 = h 70 := funext (fun i => ((u65 70 i (fo_no_ok (by decide) i)).trans (u62 70 i rfl)))
    have nb124 : NBc (h65 69) (h65 70) := by rw [q125, q126]; exact mi0.2.2
    have q127 : h65 8 = h 8 := funext (fun i => ((u65 8 i (fo_no_ok (by decide) i)).trans (u62 8 i rfl)))
    have q128 : h65 7 = h 7 := funext (fun i => ((u65 7 i (fo_no_ok (by decide) i)).trans (u62 7 i rfl)))
    have mi118 : MCI h65 := ⟨ml119, HIv.mv mi0.2.1 q127 q128 (by omega) (by omega) (sv_seven (P := fun x => ∀ i, h65 (76 + 19 * x) i = h (76 + 19 * x) i) (fun i => ((u65 76 i (fn_a (by decide) fn_0)).trans (u62 76 i (fn_a (by omega) fn_0)))) (fun i => ((u65 95 i (fn_a (by decide) fn_0)).trans (u62 95 i (fn_a (by omega) fn_0)))) (fun i => ((u65 114 i (fn_a (by decide) fn_0)).trans (u62 114 i (fn_a (by omega) fn_0)))) (fun i => ((u65 133 i (fn_a (by decide) fn_0)).trans (u62 133 i (fn_a (by omega) fn_0)))) (fun i => ((u65 152 i (fn_a (by decide) fn_0)).trans (u62 152 i (fn_a (by omega) fn_0)))) (fun i => ((u65 171 i (fn_a (by decide) fn_0)).trans (u62 171 i (fn_a (by omega) fn_0)))) (fun i => ((u65 190 i (fn_a (by decide) fn_0)).trans (u62 190 i (fn_a (by omega) fn_0))))) (by omega) (by omega), nb124⟩
    have gq129 := GQS.fr u62 rfl gq0
    have gq130 := GQS.fr u65 rfl gq129
    have q131 : h65 8 = h 8 := funext (fun i => ((u65 8 i (fo_no_ok (by decide) i)).trans (u62 8 i rfl)))
    have q132 : h65 7 = h 7 := funext (fun i => ((u65 7 i (fo_no_ok (by decide) i)).trans (u62 7 i rfl)))
    have q133 : h65 215 = h 215 := funext (fun i => ((u65 215 i (fo_no_ok (by decide) i)).trans (u62 215 i rfl)))
    have q134 : h65 218 = h 218 := funext (fun i => ((u65 218 i (fo_no_ok (by decide) i)).trans (u62 218 i rfl)))
    have q135 : h65 214 = h 214 := funext (fun i => ((u65 214 i (fo_no_ok (by decide) i)).trans (u62 214 i rfl)))
    have q136 : h65 241 = h 241 := funext (fun i => ((u65 241 i (fo_no_ok (by decide) i)).trans (u62 241 i rfl)))
    exact k h65 b c ⟨⟨g65, (show h65 1 1 = h65 236 2 by omega), (RS.i0 (f := h65 238) (by refine ⟨?_, ?_, ?_, ?_, ?_⟩ <;> omega)), (RS.i0 (f := h65 241) (by refine ⟨?_, ?_, ?_, ?_, ?_⟩ <;> omega)), gp98, (BRh.keep br0 (fun i => ((u65 2 i (fn_a (by decide) fn_0)).trans (u62 2 i (fn_a (by omega) fn_0)))) (fun i => ((u65 237 i (fn_a (by decide) fn_0)).trans (u62 237 i (fn_a (by omega) fn_0)))) (by omega)), (show h65 1 2 = h65 236 10 by omega), (show h65 1 3 = h65 236 11 by omega), (SVx.keep sv0 (by omega) (fun i _ => ((u65 3 i (fn_a (by decide) fn_0)).trans (u62 3 i (fn_a (by omega) fn_0)))) (fun i _ => ((u65 5 i (fn_a (by decide) fn_0)).trans (u62 5 i (fn_a (by omega) fn_0)))) (fun i _ => ((u65 6 i (fn_a (by decide) fn_0)).trans (u62 6 i (fn_a (by omega) fn_0)))) (fun i _ => ((u65 8 i (fn_a (by decide) fn_0)).trans (u62 8 i (fn_a (by omega) fn_0)))) (fun i _ => ((u65 238 i (fn_a (by decide) fn_0)).trans (u62 238 i (fn_a (by omega) fn_0))))), (show h65 0 12 = h65 236 21 by omega), (fun e => (SVx.keep (ss0 (by omega)) (by omega) (fun i _ => ((u65 210 i (fn_a (by decide) fn_0)).trans (u62 210 i (fn_a (by omega) fn_0)))) (fun i _ => ((u65 212 i (fn_a (by decide) fn_0)).trans (u62 212 i (fn_a (by omega) fn_0)))) (fun i _ => ((u65 213 i (fn_a (by decide) fn_0)).trans (u62 213 i (fn_a (by omega) fn_0)))) (fun i _ => ((u65 215 i (fn_a (by decide) fn_0)).trans (u62 215 i (fn_a (by omega) fn_0)))) (fun i _ => ((u65 241 i (fn_a (by decide) fn_0)).trans (u62 241 i (fn_a (by omega) fn_0)))))), gs102, mi118, (show h65 63 5 ≤ h65 18 16 by omega), (show (h65 63 5) < (h65 18 16) ∨ ((h65 18 7) ≤ (h65 3 2) ∧ (h65 66 1) = (h65 3 2) - (h65 18 7)) ∨ ((h65 3 2) < (h65 18 7) ∧ (h65 66 1) = 0) by omega), gq130, (MR.mv mr0 (MSN.then (MSN.refl) (fun i _ => ((u65 238 i (fn_a (by decide) fn_0)).trans (u62 238 i (fn_a (by omega) fn_0))))) (by omega) q131 q132 (by omega)), (fun e => SM.mv (sm0 (by omega)) q133 q134 q135 (by omega) q136)⟩, (by omega)⟩ (by omega) (by omega)
  ·
    refine wk_h 17 (by decide) rfl ?_
    refine wr_asty (i := 4) (lo2 := [(4, .retAddr 0), (0, .ref 0), (1, vi ((xs i55).toInt)), (2, vi ((xs i58).toInt)), (3, .ref 259)]) (nx := 19) (r1 := 0) (r2 := 0) (r3 := 0) rfl rfl ?_
    refine wi_iconst (n := 2) (nx := 20) (r1 := 0) (r2 := 0) (r3 := 0) rfl ?_
    refine wi_ireturn (nx := 21) (r1 := 0) (r2 := 0) (r3 := 0) rfl rfl ?_
    refine wk_i ?_
    refine wi_istore (i := 5) (e := 2) (lo2 := [(5, vi 2), (0, .ref 1000000), (1, .ref 0), (2, .ref 236), (3, .ref 259), (4, vi i)]) (nx := 1397) (r1 := 0) (r2 := 0) (r3 := 0) rfl rfl ?_
    refine wi_aload_n (i := 2) (x := 236) (nx := 1398) (r1 := 0) (r2 := 0) (r3 := 0) rfl rfl ?_
    refine wi_aload_n (i := 0) (x := 1000000) (nx := 1399) (r1 := 0) (r2 := 0) (r3 := 0) rfl rfl ?_
    refine wi_iload (i := 4) (e := i) (nx := 1401) (r1 := 0) (r2 := 0) (r3 := 0) rfl rfl ?_
    refine wi_iconst (n := 1) (nx := 1402) (r1 := 0) (r2 := 0) (r3 := 0) rfl ?_
    refine wr_add (nx := 1403) (r1 := 0) (r2 := 0) (r3 := 0) rfl (fun e62 (fe62 : e62 = i + 1) => ?_)
    refine wr_sc (a := e62) (f := i55) (nx := 1404) (r1 := 0) (r2 := 0) (r3 := 0) rfl (by omega) (by omega) hL ?_
    refine wi_aload_n (i := 0) (x := 1000000) (nx := 1405) (r1 := 0) (r2 := 0) (r3 := 0) rfl rfl ?_
    refine wi_iload (i := 4) (e := i) (nx := 1407) (r1 := 0) (r2 := 0) (r3 := 0) rfl rfl ?_
    refine wi_iconst (n := 2) (nx := 1408) (r1 := 0) (r2 := 0) (r3 := 0) rfl ?_
    refine wr_add (nx := 1409) (r1 := 0) (r2 := 0) (r3 := 0) rfl (fun e63 (fe63 : e63 = i + 2) => ?_)
    refine wr_sc (a := e63) (f := i58) (nx := 1410) (r1 := 0) (r2 := 0) (r3 := 0) rfl (by omega) (by omega) hL ?_
    refine wr_V (k0 := 236) (rest := []) (as := [.ref 236, vi ((xs i55).toInt), vi ((xs i58).toInt)]) (nx := 1413) (r1 := 344) (r2 := 2) (r3 := 11) rfl rfl rfl (of_decide_eq_true rfl) rfl rfl (by decide) rfl rfl (of_decide_eq_true rfl) (of_decide_eq_true rfl) ?_
    refine ct_344_236 hcr  g ((xs i55).toInt) ((xs i58).toInt) (by omega) (by omega)  (fun h64 z65 g64 u64 (fz65 : -2147483648 ≤ z65 ∧ z65 ≤ 2147483647) => ?_)
    refine wk_i ?_
    refine wi_istore (i := 6) (e := z65) (lo2 := [(6, vi z65), (5, vi 2), (0, .ref 1000000), (1, .ref 0), (2, .ref 236), (3, .ref 259), (4, vi i)]) (nx := 1415) (r1 := 0) (r2 := 0) (r3 := 0) rfl rfl ?_
    refine wi_goto (nx := 1418) (r1 := 1501) (r2 := 0) (r3 := 0) rfl ?_
    refine wp.lo (lo := [(0, .ref 1000000), (1, .ref 0), (2, .ref 236), (3, .ref 259), (4, vi i)]) ⟨rfl, rfl, rfl, rfl, rfl, trivial⟩ rfl ?_
    have e66 : h64 238 98 = h 238 98 := (u64 238 98 rfl)
    have e67 : h64 238 99 = h 238 99 := (u64 238 99 rfl)
    have e68 : h64 238 100 = h 238 100 := (u64 238 100 rfl)
    have e69 : h64 238 101 = h 238 101 := (u64 238 101 rfl)
    have e70 : h64 238 102 = h 238 102 := (u64 238 102 rfl)
    have e71 : h64 238 106 = h 238 106 := (u64 238 106 rfl)
    have e72 : h64 238 73 = h 238 73 := (u64 238 73 rfl)
    have e73 : h64 238 2 = h 238 2 := (u64 238 2 rfl)
    have e74 : h64 238 119 = h 238 119 := (u64 238 119 rfl)
    have e75 : h64 238 67 = h 238 67 := (u64 238 67 rfl)
    have e76 : h64 238 69 = h 238 69 := (u64 238 69 rfl)
    have e77 : h64 238 5 = h 238 5 := (u64 238 5 rfl)
    have e78 : h64 241 98 = h 241 98 := (u64 241 98 rfl)
    have e79 : h64 241 99 = h 241 99 := (u64 241 99 rfl)
    have e80 : h64 241 100 = h 241 100 := (u64 241 100 rfl)
    have e81 : h64 241 101 = h 241 101 := (u64 241 101 rfl)
    have e82 : h64 241 102 = h 241 102 := (u64 241 102 rfl)
    have e83 : h64 241 106 = h 241 106 := (u64 241 106 rfl)
    have e84 : h64 241 73 = h 241 73 := (u64 241 73 rfl)
    have e85 : h64 241 2 = h 241 2 := (u64 241 2 rfl)
    have e86 : h64 241 119 = h 241 119 := (u64 241 119 rfl)
    have e87 : h64 241 67 = h 241 67 := (u64 241 67 rfl)
    have e88 : h64 241 69 = h 241 69 := (u64 241 69 rfl)
    have e89 : h64 241 5 = h 241 5 := (u64 241 5 rfl)
    have e90 : h64 1 1 = h 1 1 := (u64 1 1 rfl)
    have e91 : h64 236 2 = h 236 2 := (u64 236 2 rfl)
    have e92 : h64 1 2 = h 1 2 := (u64 1 2 rfl)
    have e93 : h64 236 10 = h 236 10 := (u64 236 10 rfl)
    have e94 : h64 1 3 = h 1 3 := (u64 1 3 rfl)
    have e95 : h64 236 11 = h 236 11 := (u64 236 11 rfl)
    have gp96 := GPH.fr u64 rfl gp0
    have b97 := gi_b (lo := 0) (hi := 5) g 241 0 rfl
    have b98 := gi_b (lo := 0) (hi := 4) g 241 1 rfl
    have gs99 := GPS.fr u64 rfl gs0
    have e100 : h64 0 12 = h 0 12 := (u64 0 12 rfl)
    have e101 : h64 236 21 = h 236 21 := (u64 236 21 rfl)
    have e102 : h64 63 5 = h 63 5 := (u64 63 5 rfl)
    have e103 : h64 18 16 = h 18 16 := (u64 18 16 rfl)
    have e104 : h64 18 7 = h 18 7 := (u64 18 7 rfl)
    have e105 : h64 3 2 = h 3 2 := (u64 3 2 rfl)
    have e106 : h64 66 1 = h 66 1 := (u64 66 1 rfl)
    have b107 := gi_b (lo := 0) (hi := 6) g 73 1 rfl
    have e108 : h64 73 1 = h 73 1 := (u64 73 1 rfl)
    have b109 := gi_b (lo := 0) (hi := 6) g 73 2 rfl
    have e110 : h64 73 2 = h 73 2 := (u64 73 2 rfl)
    have b111 := gi_b (lo := 0) (hi := 6) g 236 22 rfl
    have e112 : h64 236 22 = h 236 22 := (u64 236 22 rfl)
    have b113 := gi_b (lo := 0) (hi := 12) g 210 2 rfl
    have e114 : h64 210 2 = h 210 2 := (u64 210 2 rfl)
    have q117 : h64 8 = h 8 := funext (fun i => (u64 8 i (fo_no_ok (by decide) i)))
    have q118 : h64 7 = h 7 := funext (fun i => (u64 7 i (fo_no_ok (by decide) i)))
    have q119 : h64 19 = h 19 := funext (fun i => (u64 19 i (fo_no_ok (by decide) i)))
    have q120 : h64 67 = h 67 := funext (fun i => (u64 67 i (fo_no_ok (by decide) i)))
    have ml116 : MCL h64 := MCL.mv mi0.1 q117 q118 q119 q120 (by omega) (by omega) (by omega) (by omega)
    have q122 : h64 69 = h 69 := funext (fun i => (u64 69 i (fo_no_ok (by decide) i)))
    have q123 : h64 70 = h 70 := funext (fun i => (u64 70 i (fo_no_ok (by decide) i)))
    have nb121 : NBc (h64 69) (h64 70) := by rw [q122, q123]; exact mi0.2.2
    have q124 : h64 8 = h 8 := funext (fun i => (u64 8 i (fo_no_ok (by decide) i)))
    have q125 : h64 7 = h 7 := funext (fun i => (u64 7 i (fo_no_ok (by decide) i)))
    have mi115 : MCI h64 := ⟨ml116, HIv.mv mi0.2.1 q124 q125 (by omega) (by omega) (sv_seven (P := fun x => ∀ i, h64 (76 + 19 * x) i = h (76 + 19 * x) i) (fun i => (u64 76 i (fn_a (by decide) fn_0))) (fun i => (u64 95 i (fn_a (by decide) fn_0))) (fun i => (u64 114 i (fn_a (by decide) fn_0))) (fun i => (u64 133 i (fn_a (by decide) fn_0))) (fun i => (u64 152 i (fn_a (by decide) fn_0))) (fun i => (u64 171 i (fn_a (by decide) fn_0))) (fun i => (u64 190 i (fn_a (by decide) fn_0)))) (by omega) (by omega), nb121⟩
    have gq126 := GQS.fr u64 rfl gq0
    have q127 : h64 8 = h 8 := funext (fun i => (u64 8 i (fo_no_ok (by decide) i)))
    have q128 : h64 7 = h 7 := funext (fun i => (u64 7 i (fo_no_ok (by decide) i)))
    have q129 : h64 215 = h 215 := funext (fun i => (u64 215 i (fo_no_ok (by decide) i)))
    have q130 : h64 218 = h 218 := funext (fun i => (u64 218 i (fo_no_ok (by decide) i)))
    have q131 : h64 214 = h 214 := funext (fun i => (u64 214 i (fo_no_ok (by decide) i)))
    have q132 : h64 241 = h 241 := funext (fun i => (u64 241 i (fo_no_ok (by decide) i)))
    exact k h64 (b - 1) (c - 6) ⟨⟨g64, (show h64 1 1 = h64 236 2 by omega), (RS.i0 (f := h64 238) (by refine ⟨?_, ?_, ?_, ?_, ?_⟩ <;> omega)), (RS.i0 (f := h64 241) (by refine ⟨?_, ?_, ?_, ?_, ?_⟩ <;> omega)), gp96, (BRh.keep br0 (fun i => (u64 2 i (fn_a (by decide) fn_0))) (fun i => (u64 237 i (fn_a (by decide) fn_0))) (by omega)), (show h64 1 2 = h64 236 10 by omega), (show h64 1 3 = h64 236 11 by omega), (SVx.keep sv0 (by omega) (fun i _ => (u64 3 i (fn_a (by decide) fn_0))) (fun i _ => (u64 5 i (fn_a (by decide) fn_0))) (fun i _ => (u64 6 i (fn_a (by decide) fn_0))) (fun i _ => (u64 8 i (fn_a (by decide) fn_0))) (fun i _ => (u64 238 i (fn_a (by decide) fn_0)))), (show h64 0 12 = h64 236 21 by omega), (fun e => (SVx.keep (ss0 (by omega)) (by omega) (fun i _ => (u64 210 i (fn_a (by decide) fn_0))) (fun i _ => (u64 212 i (fn_a (by decide) fn_0))) (fun i _ => (u64 213 i (fn_a (by decide) fn_0))) (fun i _ => (u64 215 i (fn_a (by decide) fn_0))) (fun i _ => (u64 241 i (fn_a (by decide) fn_0))))), gs99, mi115, (show h64 63 5 ≤ h64 18 16 by omega), (show (h64 63 5) < (h64 18 16) ∨ ((h64 18 7) ≤ (h64 3 2) ∧ (h64 66 1) = (h64 3 2) - (h64 18 7)) ∨ ((h64 3 2) < (h64 18 7) ∧ (h64 66 1) = 0) by omega), gq126, (MR.mv mr0 (MSN.then (MSN.refl) (fun i _ => (u64 238 i (fn_a (by decide) fn_0)))) (by omega) q127 q128 (by omega)), (fun e => SM.mv (sm0 (by omega)) q129 q130 q131 (by omega) q132)⟩, (by omega)⟩ (by omega) (by omega)
  ·
    refine wk_h 13 (by decide) rfl ?_
    refine wr_asty (i := 4) (lo2 := [(4, .retAddr 0), (0, .ref 0), (1, vi ((xs i55).toInt)), (2, vi ((xs i58).toInt)), (3, .ref 259)]) (nx := 15) (r1 := 0) (r2 := 0) (r3 := 0) rfl rfl ?_
    refine wi_iconst (n := 1) (nx := 16) (r1 := 0) (r2 := 0) (r3 := 0) rfl ?_
    refine wi_ireturn (nx := 17) (r1 := 0) (r2 := 0) (r3 := 0) rfl rfl ?_
    refine wk_i ?_
    refine wi_istore (i := 5) (e := 1) (lo2 := [(5, vi 1), (0, .ref 1000000), (1, .ref 0), (2, .ref 236), (3, .ref 259), (4, vi i)]) (nx := 1397) (r1 := 0) (r2 := 0) (r3 := 0) rfl rfl ?_
    refine wi_aload_n (i := 2) (x := 236) (nx := 1398) (r1 := 0) (r2 := 0) (r3 := 0) rfl rfl ?_
    refine wi_aload_n (i := 0) (x := 1000000) (nx := 1399) (r1 := 0) (r2 := 0) (r3 := 0) rfl rfl ?_
    refine wi_iload (i := 4) (e := i) (nx := 1401) (r1 := 0) (r2 := 0) (r3 := 0) rfl rfl ?_
    refine wi_iconst (n := 1) (nx := 1402) (r1 := 0) (r2 := 0) (r3 := 0) rfl ?_
    refine wr_add (nx := 1403) (r1 := 0) (r2 := 0) (r3 := 0) rfl (fun e62 (fe62 : e62 = i + 1) => ?_)
    refine wr_sc (a := e62) (f := i55) (nx := 1404) (r1 := 0) (r2 := 0) (r3 := 0) rfl (by omega) (by omega) hL ?_
    refine wi_aload_n (i := 0) (x := 1000000) (nx := 1405) (r1 := 0) (r2 := 0) (r3 := 0) rfl rfl ?_
    refine wi_iload (i := 4) (e := i) (nx := 1407) (r1 := 0) (r2 := 0) (r3 := 0) rfl rfl ?_
    refine wi_iconst (n := 2) (nx := 1408) (r1 := 0) (r2 := 0) (r3 := 0) rfl ?_
    refine wr_add (nx := 1409) (r1 := 0) (r2 := 0) (r3 := 0) rfl (fun e63 (fe63 : e63 = i + 2) => ?_)
    refine wr_sc (a := e63) (f := i58) (nx := 1410) (r1 := 0) (r2 := 0) (r3 := 0) rfl (by omega) (by omega) hL ?_
    refine wr_V (k0 := 236) (rest := []) (as := [.ref 236, vi ((xs i55).toInt), vi ((xs i58).toInt)]) (nx := 1413) (r1 := 344) (r2 := 2) (r3 := 11) rfl rfl rfl (of_decide_eq_true rfl) rfl rfl (by decide) rfl rfl (of_decide_eq_true rfl) (of_decide_eq_true rfl) ?_
    refine ct_344_236 hcr  g ((xs i55).toInt) ((xs i58).toInt) (by omega) (by omega)  (fun h64 z65 g64 u64 (fz65 : -2147483648 ≤ z65 ∧ z65 ≤ 2147483647) => ?_)
    refine wk_i ?_
    refine wi_istore (i := 6) (e := z65) (lo2 := [(6, vi z65), (5, vi 1), (0, .ref 1000000), (1, .ref 0), (2, .ref 236), (3, .ref 259), (4, vi i)]) (nx := 1415) (r1 := 0) (r2 := 0) (r3 := 0) rfl rfl ?_
    refine wi_goto (nx := 1418) (r1 := 1501) (r2 := 0) (r3 := 0) rfl ?_
    refine wp.lo (lo := [(0, .ref 1000000), (1, .ref 0), (2, .ref 236), (3, .ref 259), (4, vi i)]) ⟨rfl, rfl, rfl, rfl, rfl, trivial⟩ rfl ?_
    have e66 : h64 238 98 = h 238 98 := (u64 238 98 rfl)
    have e67 : h64 238 99 = h 238 99 := (u64 238 99 rfl)
    have e68 : h64 238 100 = h 238 100 := (u64 238 100 rfl)
    have e69 : h64 238 101 = h 238 101 := (u64 238 101 rfl)
    have e70 : h64 238 102 = h 238 102 := (u64 238 102 rfl)
    have e71 : h64 238 106 = h 238 106 := (u64 238 106 rfl)
    have e72 : h64 238 73 = h 238 73 := (u64 238 73 rfl)
    have e73 : h64 238 2 = h 238 2 := (u64 238 2 rfl)
    have e74 : h64 238 119 = h 238 119 := (u64 238 119 rfl)
    have e75 : h64 238 67 = h 238 67 := (u64 238 67 rfl)
    have e76 : h64 238 69 = h 238 69 := (u64 238 69 rfl)
    have e77 : h64 238 5 = h 238 5 := (u64 238 5 rfl)
    have e78 : h64 241 98 = h 241 98 := (u64 241 98 rfl)
    have e79 : h64 241 99 = h 241 99 := (u64 241 99 rfl)
    have e80 : h64 241 100 = h 241 100 := (u64 241 100 rfl)
    have e81 : h64 241 101 = h 241 101 := (u64 241 101 rfl)
    have e82 : h64 241 102 = h 241 102 := (u64 241 102 rfl)
    have e83 : h64 241 106 = h 241 106 := (u64 241 106 rfl)
    have e84 : h64 241 73 = h 241 73 := (u64 241 73 rfl)
    have e85 : h64 241 2 = h 241 2 := (u64 241 2 rfl)
    have e86 : h64 241 119 = h 241 119 := (u64 241 119 rfl)
    have e87 : h64 241 67 = h 241 67 := (u64 241 67 rfl)
    have e88 : h64 241 69 = h 241 69 := (u64 241 69 rfl)
    have e89 : h64 241 5 = h 241 5 := (u64 241 5 rfl)
    have e90 : h64 1 1 = h 1 1 := (u64 1 1 rfl)
    have e91 : h64 236 2 = h 236 2 := (u64 236 2 rfl)
    have e92 : h64 1 2 = h 1 2 := (u64 1 2 rfl)
    have e93 : h64 236 10 = h 236 10 := (u64 236 10 rfl)
    have e94 : h64 1 3 = h 1 3 := (u64 1 3 rfl)
    have e95 : h64 236 11 = h 236 11 := (u64 236 11 rfl)
    have gp96 := GPH.fr u64 rfl gp0
    have b97 := gi_b (lo := 0) (hi := 5) g 241 0 rfl
    have b98 := gi_b (lo := 0) (hi := 4) g 241 1 rfl
    have gs99 := GPS.fr u64 rfl gs0
    have e100 : h64 0 12 = h 0 12 := (u64 0 12 rfl)
    have e101 : h64 236 21 = h 236 21 := (u64 236 21 rfl)
    have e102 : h64 63 5 = h 63 5 := (u64 63 5 rfl)
    have e103 : h64 18 16 = h 18 16 := (u64 18 16 rfl)
    have e104 : h64 18 7 = h 18 7 := (u64 18 7 rfl)
    have e105 : h64 3 2 = h 3 2 := (u64 3 2 rfl)
    have e106 : h64 66 1 = h 66 1 := (u64 66 1 rfl)
    have b107 := gi_b (lo := 0) (hi := 6) g 73 1 rfl
    have e108 : h64 73 1 = h 73 1 := (u64 73 1 rfl)
    have b109 := gi_b (lo := 0) (hi := 6) g 73 2 rfl
    have e110 : h64 73 2 = h 73 2 := (u64 73 2 rfl)
    have b111 := gi_b (lo := 0) (hi := 6) g 236 22 rfl
    have e112 : h64 236 22 = h 236 22 := (u64 236 22 rfl)
    have b113 := gi_b (lo := 0) (hi := 12) g 210 2 rfl
    have e114 : h64 210 2 = h 210 2 := (u64 210 2 rfl)
    have q117 : h64 8 = h 8 := funext (fun i => (u64 8 i (fo_no_ok (by decide) i)))
    have q118 : h64 7 = h 7 := funext (fun i => (u64 7 i (fo_no_ok (by decide) i)))
    have q119 : h64 19 = h 19 := funext (fun i => (u64 19 i (fo_no_ok (by decide) i)))
    have q120 : h64 67 = h 67 := funext (fun i => (u64 67 i (fo_no_ok (by decide) i)))
    have ml116 : MCL h64 := MCL.mv mi0.1 q117 q118 q119 q120 (by omega) (by omega) (by omega) (by omega)
    have q122 : h64 69 = h 69 := funext (fun i => (u64 69 i (fo_no_ok (by decide) i)))
    have q123 : h64 70 = h 70 := funext (fun i => (u64 70 i (fo_no_ok (by decide) i)))
    have nb121 : NBc (h64 69) (h64 70) := by rw [q122, q123]; exact mi0.2.2
    have q124 : h64 8 = h 8 := funext (fun i => (u64 8 i (fo_no_ok (by decide) i)))
    have q125 : h64 7 = h 7 := funext (fun i => (u64 7 i (fo_no_ok (by decide) i)))
    have mi115 : MCI h64 := ⟨ml116, HIv.mv mi0.2.1 q124 q125 (by omega) (by omega) (sv_seven (P := fun x => ∀ i, h64 (76 + 19 * x) i = h (76 + 19 * x) i) (fun i => (u64 76 i (fn_a (by decide) fn_0))) (fun i => (u64 95 i (fn_a (by decide) fn_0))) (fun i => (u64 114 i (fn_a (by decide) fn_0))) (fun i => (u64 133 i (fn_a (by decide) fn_0))) (fun i => (u64 152 i (fn_a (by decide) fn_0))) (fun i => (u64 171 i (fn_a (by decide) fn_0))) (fun i => (u64 190 i (fn_a (by decide) fn_0)))) (by omega) (by omega), nb121⟩
    have gq126 := GQS.fr u64 rfl gq0
    have q127 : h64 8 = h 8 := funext (fun i => (u64 8 i (fo_no_ok (by decide) i)))
    have q128 : h64 7 = h 7 := funext (fun i => (u64 7 i (fo_no_ok (by decide) i)))
    have q129 : h64 215 = h 215 := funext (fun i => (u64 215 i (fo_no_ok (by decide) i)))
    have q130 : h64 218 = h 218 := funext (fun i => (u64 218 i (fo_no_ok (by decide) i)))
    have q131 : h64 214 = h 214 := funext (fun i => (u64 214 i (fo_no_ok (by decide) i)))
    have q132 : h64 241 = h 241 := funext (fun i => (u64 241 i (fo_no_ok (by decide) i)))
    exact k h64 (b - 1) (c - 6) ⟨⟨g64, (show h64 1 1 = h64 236 2 by omega), (RS.i0 (f := h64 238) (by refine ⟨?_, ?_, ?_, ?_, ?_⟩ <;> omega)), (RS.i0 (f := h64 241) (by refine ⟨?_, ?_, ?_, ?_, ?_⟩ <;> omega)), gp96, (BRh.keep br0 (fun i => (u64 2 i (fn_a (by decide) fn_0))) (fun i => (u64 237 i (fn_a (by decide) fn_0))) (by omega)), (show h64 1 2 = h64 236 10 by omega), (show h64 1 3 = h64 236 11 by omega), (SVx.keep sv0 (by omega) (fun i _ => (u64 3 i (fn_a (by decide) fn_0))) (fun i _ => (u64 5 i (fn_a (by decide) fn_0))) (fun i _ => (u64 6 i (fn_a (by decide) fn_0))) (fun i _ => (u64 8 i (fn_a (by decide) fn_0))) (fun i _ => (u64 238 i (fn_a (by decide) fn_0)))), (show h64 0 12 = h64 236 21 by omega), (fun e => (SVx.keep (ss0 (by omega)) (by omega) (fun i _ => (u64 210 i (fn_a (by decide) fn_0))) (fun i _ => (u64 212 i (fn_a (by decide) fn_0))) (fun i _ => (u64 213 i (fn_a (by decide) fn_0))) (fun i _ => (u64 215 i (fn_a (by decide) fn_0))) (fun i _ => (u64 241 i (fn_a (by decide) fn_0))))), gs99, mi115, (show h64 63 5 ≤ h64 18 16 by omega), (show (h64 63 5) < (h64 18 16) ∨ ((h64 18 7) ≤ (h64 3 2) ∧ (h64 66 1) = (h64 3 2) - (h64 18 7)) ∨ ((h64 3 2) < (h64 18 7) ∧ (h64 66 1) = 0) by omega), gq126, (MR.mv mr0 (MSN.then (MSN.refl) (fun i _ => (u64 238 i (fn_a (by decide) fn_0)))) (by omega) q127 q128 (by omega)), (fun e => SM.mv (sm0 (by omega)) q129 q130 q131 (by omega) q132)⟩, (by omega)⟩ (by omega) (by omega)
-- the law, case at 1418
set_option maxRecDepth 100000 in
set_option maxHeartbeats 100000000 in
theorem lc_1418 {L : Nat} {xs : Nat → Int32} {d b c : Nat} {h : hp} {cr : Nat → Nat → Option Nat} {Q : hp_Q} (hcr : CR cr) (hL : L ≤ 3072) (hr : 1 ≤ b ∧ 6 ≤ c) (i : Int) (I : LIm i h) (hi : 0 ≤ i ∧ i + 6 ≤ L) (k : ∀ (h2 : hp) (b2 c2 : Nat), LIm (i + 6) h2 → b ≤ b2 + 1 → c ≤ c2 + 6 → wp (md_xa (L, xs)) (d + 107) 0 (1501, [(0, .ref 1000000), (1, .ref 0), (2, .ref 236), (3, .ref 259), (4, vi i)], [], hp_w h2 cr, b2, c2) Q) : wp (md_xa (L, xs)) (d + 107) 0 (1418, [(0, .ref 1000000), (1, .ref 0), (2, .ref 236), (3, .ref 259), (4, vi i)], [], hp_w h cr, b, c) Q := by
  obtain ⟨⟨g, i11, r238, r241, gp0, br0, er2, er3, sv0, sf0, ss0, gs0, mi0, ml1, ml2, gq0, mr0, sm0⟩, ie0⟩ := I
  have r238e := r238.e0
  have r241e := r241.e0
  obtain ⟨⟨se0, se1, se2, se3, se4, se5, se6, se7, se8, se9⟩, -⟩ := id sv0
  have b1 := gi_b (lo := 0) (hi := 5) g 3 0 rfl
  have b2 := gi_b (lo := 0) (hi := 5) g 238 0 rfl
  have b3 := gi_b (lo := 0) (hi := 4) g 3 1 rfl
  have b4 := gi_b (lo := 0) (hi := 4) g 238 1 rfl
  have b5 := gi_b (lo := 0) (hi := 12) g 3 2 rfl
  have b6 := gi_b (lo := 0) (hi := 12) g 238 2 rfl
  have b7 := gi_b (lo := -2147483648) (hi := 2147483647) g 3 3 rfl
  have b8 := gi_b (lo := 0) (hi := 999) g 238 3 rfl
  have b9 := gi_b (lo := -2147483648) (hi := 2147483647) g 3 4 rfl
  have b10 := gi_b (lo := 0) (hi := 999) g 238 4 rfl
  have b11 := gi_b (lo := -2147483648) (hi := 2147483647) g 3 5 rfl
  have b12 := gi_b (lo := 0) (hi := 9) g 238 5 rfl
  have b13 := gi_b (lo := -2147483648) (hi := 2147483647) g 3 6 rfl
  have b14 := gi_b (lo := 0) (hi := 999) g 238 6 rfl
  have b15 := gi_b (lo := -2147483648) (hi := 2147483647) g 3 7 rfl
  have b16 := gi_b (lo := 0) (hi := 3) g 238 7 rfl
  have b17 := gi_b (lo := -2147483648) (hi := 2147483647) g 3 8 rfl
  have b18 := gi_b (lo := 0) (hi := 999) g 238 8 rfl
  have b19 := gi_b (lo := -2147483648) (hi := 2147483647) g 3 9 rfl
  have b20 := gi_b (lo := 0) (hi := 999) g 238 9 rfl
  have b21 := gi_b (lo := -2147483648) (hi := 2147483647) g 63 5 rfl
  have b22 := gi_b (lo := 0) (hi := 12) g 18 7 rfl
  have b23 := gi_b (lo := 0) (hi := 12) g 66 1 rfl
  have b24 := gi_b (lo := 0) (hi := 1) g 0 12 rfl
  have b25 := gi_b (lo := 0) (hi := 1) g 236 21 rfl
  have bl_ := gi_b (lo := 0) (hi := 800) g 1 1 rfl
  have tb0 : BufC (h 2) (h 1 1) h := ⟨fun _ => rfl, rfl, by omega, by omega⟩
  have b26 := gi_b (lo := 0) (hi := 6) g 238 98 rfl
  have b27 := gi_b (lo := 0) (hi := 6) g 238 99 rfl
  have b28 := gi_b (lo := 0) (hi := 6) g 238 100 rfl
  have b29 := gi_b (lo := 0) (hi := 6) g 238 101 rfl
  have b30 := gi_b (lo := 0) (hi := 3) g 238 102 rfl
  have b31 := gi_b (lo := 0) (hi := 12) g 238 106 rfl
  have b32 := gi_b (lo := 0) (hi := 12) g 238 73 rfl
  have b33 := gi_b (lo := 0) (hi := 9999) g 238 119 rfl
  have b34 := gi_b (lo := 0) (hi := 9999) g 238 67 rfl
  have b35 := gi_b (lo := 0) (hi := 9) g 238 69 rfl
  have b36 := gi_b (lo := 0) (hi := 6) g 241 98 rfl
  have b37 := gi_b (lo := 0) (hi := 6) g 241 99 rfl
  have b38 := gi_b (lo := 0) (hi := 6) g 241 100 rfl
  have b39 := gi_b (lo := 0) (hi := 6) g 241 101 rfl
  have b40 := gi_b (lo := 0) (hi := 3) g 241 102 rfl
  have b41 := gi_b (lo := 0) (hi := 12) g 241 106 rfl
  have b42 := gi_b (lo := 0) (hi := 12) g 241 73 rfl
  have b43 := gi_b (lo := 0) (hi := 12) g 241 2 rfl
  have b44 := gi_b (lo := 0) (hi := 9999) g 241 119 rfl
  have b45 := gi_b (lo := 0) (hi := 9999) g 241 67 rfl
  have b46 := gi_b (lo := 0) (hi := 9) g 241 69 rfl
  have b47 := gi_b (lo := 0) (hi := 9) g 241 5 rfl
  have b48 := gi_b (lo := 0) (hi := 800) g 1 1 rfl
  have b49 := gi_b (lo := 0) (hi := 800) g 236 2 rfl
  have b50 := gi_b (lo := -2147483648) (hi := 2147483647) g 1 2 rfl
  have b51 := gi_b (lo := -2147483648) (hi := 2147483647) g 236 10 rfl
  have b52 := gi_b (lo := -2147483648) (hi := 2147483647) g 1 3 rfl
  have b53 := gi_b (lo := -2147483648) (hi := 2147483647) g 236 11 rfl
  refine wi_aload_n (i := 1) (x := 0) (nx := 1419) (r1 := 0) (r2 := 0) (r3 := 0) rfl rfl ?_
  refine wr_V (k0 := 0) (rest := []) (as := [.ref 0]) (nx := 1422) (r1 := 58) (r2 := 0) (r3 := 0) rfl rfl rfl (of_decide_eq_true rfl) rfl rfl (by decide) rfl rfl (of_decide_eq_true rfl) (of_decide_eq_true rfl) ?_
  refine ct_58_0 hcr  g    (fun h54 z55 g54 u54 (fz55 : 0 ≤ z55 ∧ z55 ≤ 152) => ?_)
  refine wk_i ?_
  refine wi_pop (nx := 1423) (r1 := 0) (r2 := 0) (r3 := 0) rfl rfl ?_
  refine wi_aload_n (i := 2) (x := 236) (nx := 1424) (r1 := 0) (r2 := 0) (r3 := 0) rfl rfl ?_
  refine wr_V (k0 := 236) (rest := []) (as := [.ref 236]) (nx := 1427) (r1 := 345) (r2 := 0) (r3 := 11) rfl rfl rfl (of_decide_eq_true rfl) rfl rfl (by decide) rfl rfl (of_decide_eq_true rfl) (of_decide_eq_true rfl) ?_
  have e57 : h54 238 98 = h 238 98 := (u54 238 98 rfl)
  have e58 : h54 238 99 = h 238 99 := (u54 238 99 rfl)
  have e59 : h54 238 100 = h 238 100 := (u54 238 100 rfl)
  have e60 : h54 238 101 = h 238 101 := (u54 238 101 rfl)
  have e61 : h54 238 102 = h 238 102 := (u54 238 102 rfl)
  have e62 : h54 238 106 = h 238 106 := (u54 238 106 rfl)
  have e63 : h54 238 73 = h 238 73 := (u54 238 73 rfl)
  have e64 : h54 238 2 = h 238 2 := (u54 238 2 rfl)
  have e65 : h54 238 119 = h 238 119 := (u54 238 119 rfl)
  have e66 : h54 238 67 = h 238 67 := (u54 238 67 rfl)
  have e67 : h54 238 69 = h 238 69 := (u54 238 69 rfl)
  have e68 : h54 238 5 = h 238 5 := (u54 238 5 rfl)
  refine ct_345_236 hcr  g54   (show (h54 238 98) + (h54 238 99) + (h54 238 100) + (h54 238 101) + (h54 238 102) + (h54 238 106) = (h54 238 73) by omega) (show (h54 238 73) ≤ (h54 238 2) by omega) (show (h54 238 119) ≤ (h54 238 67) by omega) (show (h54 238 69) ≤ (h54 238 5) by omega) (show (h54 238 2) ≤ 12 * (h54 238 5) by omega) (fun h56 z69 g56 u56 (fz69 : 1 ≤ z69 ∧ z69 ≤ 301) => ?_)
  refine wk_i ?_
  refine wi_pop (nx := 1428) (r1 := 0) (r2 := 0) (r3 := 0) rfl rfl ?_
  refine wi_goto (nx := 1431) (r1 := 1501) (r2 := 0) (r3 := 0) rfl ?_
  have e70 : h56 238 98 = h 238 98 := ((u56 238 98 rfl).trans (u54 238 98 rfl))
  have e71 : h56 238 99 = h 238 99 := ((u56 238 99 rfl).trans (u54 238 99 rfl))
  have e72 : h56 238 100 = h 238 100 := ((u56 238 100 rfl).trans (u54 238 100 rfl))
  have e73 : h56 238 101 = h 238 101 := ((u56 238 101 rfl).trans (u54 238 101 rfl))
  have e74 : h56 238 102 = h 238 102 := ((u56 238 102 rfl).trans (u54 238 102 rfl))
  have e75 : h56 238 106 = h 238 106 := ((u56 238 106 rfl).trans (u54 238 106 rfl))
  have e76 : h56 238 73 = h 238 73 := ((u56 238 73 rfl).trans (u54 238 73 rfl))
  have e77 : h56 238 2 = h 238 2 := ((u56 238 2 rfl).trans (u54 238 2 rfl))
  have e78 : h56 238 119 = h 238 119 := ((u56 238 119 rfl).trans (u54 238 119 rfl))
  have e79 : h56 238 67 = h 238 67 := ((u56 238 67 rfl).trans (u54 238 67 rfl))
  have e80 : h56 238 69 = h 238 69 := ((u56 238 69 rfl).trans (u54 238 69 rfl))
  have e81 : h56 238 5 = h 238 5 := ((u56 238 5 rfl).trans (u54 238 5 rfl))
  have e82 : h56 241 98 = h 241 98 := ((u56 241 98 rfl).trans (u54 241 98 rfl))
  have e83 : h56 241 99 = h 241 99 := ((u56 241 99 rfl).trans (u54 241 99 rfl))
  have e84 : h56 241 100 = h 241 100 := ((u56 241 100 rfl).trans (u54 241 100 rfl))
  have e85 : h56 241 101 = h 241 101 := ((u56 241 101 rfl).trans (u54 241 101 rfl))
  have e86 : h56 241 102 = h 241 102 := ((u56 241 102 rfl).trans (u54 241 102 rfl))
  have e87 : h56 241 106 = h 241 106 := ((u56 241 106 rfl).trans (u54 241 106 rfl))
  have e88 : h56 241 73 = h 241 73 := ((u56 241 73 rfl).trans (u54 241 73 rfl))
  have e89 : h56 241 2 = h 241 2 := ((u56 241 2 rfl).trans (u54 241 2 rfl))
  have e90 : h56 241 119 = h 241 119 := ((u56 241 119 rfl).trans (u54 241 119 rfl))
  have e91 : h56 241 67 = h 241 67 := ((u56 241 67 rfl).trans (u54 241 67 rfl))
  have e92 : h56 241 69 = h 241 69 := ((u56 241 69 rfl).trans (u54 241 69 rfl))
  have e93 : h56 241 5 = h 241 5 := ((u56 241 5 rfl).trans (u54 241 5 rfl))
  have e94 : h56 1 1 = h 1 1 := ((u56 1 1 rfl).trans (u54 1 1 rfl))
  have e95 : h56 236 2 = h 236 2 := ((u56 236 2 rfl).trans (u54 236 2 rfl))
  have e96 : h56 1 2 = h 1 2 := ((u56 1 2 rfl).trans (u54 1 2 rfl))
  have e97 : h56 236 10 = h 236 10 := ((u56 236 10 rfl).trans (u54 236 10 rfl))
  have e98 : h56 1 3 = h 1 3 := ((u56 1 3 rfl).trans (u54 1 3 rfl))
  have e99 : h56 236 11 = h 236 11 := ((u56 236 11 rfl).trans (u54 236 11 rfl))
  have gp100 := GPH.fr u54 rfl gp0
  have gp101 := GPH.fr u56 rfl gp100
  have b102 := gi_b (lo := 0) (hi := 5) g 241 0 rfl
  have b103 := gi_b (lo := 0) (hi := 4) g 241 1 rfl
  have gs104 := GPS.fr u54 rfl gs0
  have gs105 := GPS.fr u56 rfl gs104
  have e106 : h56 0 12 = h 0 12 := ((u56 0 12 rfl).trans (u54 0 12 rfl))
  have e107 : h56 236 21 = h 236 21 := ((u56 236 21 rfl).trans (u54 236 21 rfl))
  have e108 : h56 63 5 = h 63 5 := ((u56 63 5 rfl).trans (u54 63 5 rfl))
  have e109 : h56 18 16 = h 18 16 := ((u56 18 16 rfl).trans (u54 18 16 rfl))
  have e110 : h56 18 7 = h 18 7 := ((u56 18 7 rfl).trans (u54 18 7 rfl))
  have e111 : h56 3 2 = h 3 2 := ((u56 3 2 rfl).trans (u54 3 2 rfl))
  have e112 : h56 66 1 = h 66 1 := ((u56 66 1 rfl).trans (u54 66 1 rfl))
  have b113 := gi_b (lo := 0) (hi := 6) g 73 1 rfl
  have e114 : h56 73 1 = h 73 1 := ((u56 73 1 rfl).trans (u54 73 1 rfl))
  have b115 := gi_b (lo := 0) (hi := 6) g 73 2 rfl
  have e116 : h56 73 2 = h 73 2 := ((u56 73 2 rfl).trans (u54 73 2 rfl))
  have b117 := gi_b (lo := 0) (hi := 6) g 236 22 rfl
  have e118 : h56 236 22 = h 236 22 := ((u56 236 22 rfl).trans (u54 236 22 rfl))
  have b119 := gi_b (lo := 0) (hi := 12) g 210 2 rfl
  have e120 : h56 210 2 = h 210 2 := ((u56 210 2 rfl).trans (u54 210 2 rfl))
  have q123 : h56 8 = h 8 := funext (fun i => ((u56 8 i (fo_no_ok (by decide) i)).trans (u54 8 i (fo_no_ok (by decide) i))))
  have q124 : h56 7 = h 7 := funext (fun i => ((u56 7 i (fo_no_ok (by decide) i)).trans (u54 7 i (fo_no_ok (by decide) i))))
  have q125 : h56 19 = h 19 := funext (fun i => ((u56 19 i (fo_no_ok (by decide) i)).trans (u54 19 i (fo_no_ok (by decide) i))))
  have q126 : h56 67 = h 67 := funext (fun i => ((u56 67 i (fo_no_ok (by decide) i)).trans (u54 67 i (fo_no_ok (by decide) i))))
  have ml122 : MCL h56 := MCL.mv mi0.1 q123 q124 q125 q126 (by omega) (by omega) (by omega) (by omega)
  have q128 : h56 69 = h 69 := funext (fun i => ((u56 69 i (fo_no_ok (by decide) i)).trans (u54 69 i (fo_no_ok (by decide) i))))
  have q129 : h56 70 = h 70 := funext (fun i => ((u56 70 i (fo_no_ok (by decide) i)).trans (u54 70 i (fo_no_ok (by decide) i))))
  have nb127 : NBc (h56 69) (h56 70) := by rw [q128, q129]; exact mi0.2.2
  have q130 : h56 8 = h 8 := funext (fun i => ((u56 8 i (fo_no_ok (by decide) i)).trans (u54 8 i (fo_no_ok (by decide) i))))
  have q131 : h56 7 = h 7 := funext (fun i => ((u56 7 i (fo_no_ok (by decide) i)).trans (u54 7 i (fo_no_ok (by decide) i))))
  have mi121 : MCI h56 := ⟨ml122, HIv.mv mi0.2.1 q130 q131 (by omega) (by omega) (sv_seven (P := fun x => ∀ i, h56 (76 + 19 * x) i = h (76 + 19 * x) i) (fun i => ((u56 76 i (fn_a (by decide) (fn_a (by decide) (fn_a (by decide) (fn_a (by decide) fn_0))))).trans (u54 76 i (fn_a (by decide) (fn_a (by decide) fn_0))))) (fun i => ((u56 95 i (fn_a (by decide) (fn_a (by decide) (fn_a (by decide) (fn_a (by decide) fn_0))))).trans (u54 95 i (fn_a (by decide) (fn_a (by decide) fn_0))))) (fun i => ((u56 114 i (fn_a (by decide) (fn_a (by decide) (fn_a (by decide) (fn_a (by decide) fn_0))))).trans (u54 114 i (fn_a (by decide) (fn_a (by decide) fn_0))))) (fun i => ((u56 133 i (fn_a (by decide) (fn_a (by decide) (fn_a (by decide) (fn_a (by decide) fn_0))))).trans (u54 133 i (fn_a (by decide) (fn_a (by decide) fn_0))))) (fun i => ((u56 152 i (fn_a (by decide) (fn_a (by decide) (fn_a (by decide) (fn_a (by decide) fn_0))))).trans (u54 152 i (fn_a (by decide) (fn_a (by decide) fn_0))))) (fun i => ((u56 171 i (fn_a (by decide) (fn_a (by decide) (fn_a (by decide) (fn_a (by decide) fn_0))))).trans (u54 171 i (fn_a (by decide) (fn_a (by decide) fn_0))))) (fun i => ((u56 190 i (fn_a (by decide) (fn_a (by decide) (fn_a (by decide) (fn_a (by decide) fn_0))))).trans (u54 190 i (fn_a (by decide) (fn_a (by decide) fn_0)))))) (by omega) (by omega), nb127⟩
  have gq132 := GQS.fr u54 rfl gq0
  have gq133 := GQS.fr u56 rfl gq132
  have q134 : h56 8 = h 8 := funext (fun i => ((u56 8 i (fo_no_ok (by decide) i)).trans (u54 8 i (fo_no_ok (by decide) i))))
  have q135 : h56 7 = h 7 := funext (fun i => ((u56 7 i (fo_no_ok (by decide) i)).trans (u54 7 i (fo_no_ok (by decide) i))))
  have q136 : h56 215 = h 215 := funext (fun i => ((u56 215 i (fo_no_ok (by decide) i)).trans (u54 215 i (fo_no_ok (by decide) i))))
  have q137 : h56 218 = h 218 := funext (fun i => ((u56 218 i (fo_no_ok (by decide) i)).trans (u54 218 i (fo_no_ok (by decide) i))))
  have q138 : h56 214 = h 214 := funext (fun i => ((u56 214 i (fo_no_ok (by decide) i)).trans (u54 214 i (fo_no_ok (by decide) i))))
  have q139 : h56 241 = h 241 := funext (fun i => ((u56 241 i (fo_no_ok (by decide) i)).trans (u54 241 i (fo_no_ok (by decide) i))))
  exact k h56 b c ⟨⟨g56, (show h56 1 1 = h56 236 2 by omega), (RS.i0 (f := h56 238) (by refine ⟨?_, ?_, ?_, ?_, ?_⟩ <;> omega)), (RS.i0 (f := h56 241) (by refine ⟨?_, ?_, ?_, ?_, ?_⟩ <;> omega)), gp101, (BRh.keep br0 (fun i => ((u56 2 i (fn_a (by decide) (fn_a (by decide) (fn_a (by decide) (fn_a (by decide) fn_0))))).trans (u54 2 i (fn_a (by decide) (fn_a (by decide) fn_0))))) (fun i => ((u56 237 i (fn_a (by decide) (fn_a (by decide) (fn_a (by decide) (fn_a (by decide) fn_0))))).trans (u54 237 i (fn_a (by decide) (fn_a (by decide) fn_0))))) (by omega)), (show h56 1 2 = h56 236 10 by omega), (show h56 1 3 = h56 236 11 by omega), (SVx.keep sv0 (by omega) (fun i _ => ((u56 3 i (fn_a (by decide) (fn_a (by decide) (fn_a (by decide) (fn_a (by decide) fn_0))))).trans (u54 3 i (fn_a (by decide) (fn_a (by decide) fn_0))))) (fun i _ => ((u56 5 i (fn_a (by decide) (fn_a (by decide) (fn_a (by decide) (fn_a (by decide) fn_0))))).trans (u54 5 i (fn_a (by decide) (fn_a (by decide) fn_0))))) (fun i _ => ((u56 6 i (fn_a (by decide) (fn_a (by decide) (fn_a (by decide) (fn_a (by decide) fn_0))))).trans (u54 6 i (fn_a (by decide) (fn_a (by decide) fn_0))))) (fun i _ => ((u56 8 i (fn_a (by decide) (fn_a (by decide) (fn_a (by decide) (fn_a (by decide) fn_0))))).trans (u54 8 i (fn_a (by decide) (fn_a (by decide) fn_0))))) (fun i _ => ((u56 238 i (fn_a (by decide) (fn_a (by decide) (fn_a (by decide) (fn_a (by decide) fn_0))))).trans (u54 238 i (fn_a (by decide) (fn_a (by decide) fn_0)))))), (show h56 0 12 = h56 236 21 by omega), (fun e => (SVx.keep (ss0 (by omega)) (by omega) (fun i _ => ((u56 210 i (fn_a (by decide) (fn_a (by decide) (fn_a (by decide) (fn_a (by decide) fn_0))))).trans (u54 210 i (fn_a (by decide) (fn_a (by decide) fn_0))))) (fun i _ => ((u56 212 i (fn_a (by decide) (fn_a (by decide) (fn_a (by decide) (fn_a (by decide) fn_0))))).trans (u54 212 i (fn_a (by decide) (fn_a (by decide) fn_0))))) (fun i _ => ((u56 213 i (fn_a (by decide) (fn_a (by decide) (fn_a (by decide) (fn_a (by decide) fn_0))))).trans (u54 213 i (fn_a (by decide) (fn_a (by decide) fn_0))))) (fun i _ => ((u56 215 i (fn_a (by decide) (fn_a (by decide) (fn_a (by decide) (fn_a (by decide) fn_0))))).trans (u54 215 i (fn_a (by decide) (fn_a (by decide) fn_0))))) (fun i _ => ((u56 241 i (fn_a (by decide) (fn_a (by decide) (fn_a (by decide) (fn_a (by decide) fn_0))))).trans (u54 241 i (fn_a (by decide) (fn_a (by decide) fn_0))))))), gs105, mi121, (show h56 63 5 ≤ h56 18 16 by omega), (show (h56 63 5) < (h56 18 16) ∨ ((h56 18 7) ≤ (h56 3 2) ∧ (h56 66 1) = (h56 3 2) - (h56 18 7)) ∨ ((h56 3 2) < (h56 18 7) ∧ (h56 66 1) = 0) by omega), gq133, (MR.mv mr0 (MSN.then (MSN.refl) (fun i _ => ((u56 238 i (fn_a (by decide) (fn_a (by decide) (fn_a (by decide) (fn_a (by decide) fn_0))))).trans (u54 238 i (fn_a (by decide) (fn_a (by decide) fn_0)))))) (by omega) q134 q135 (by omega)), (fun e => SM.mv (sm0 (by omega)) q136 q137 q138 (by omega) q139)⟩, (by omega)⟩ (by omega) (by omega)
-- the law, case at 1431
set_option maxRecDepth 100000 in
set_option maxHeartbeats 100000000 in
theorem lc_1431 {L : Nat} {xs : Nat → Int32} {d b c : Nat} {h : hp} {cr : Nat → Nat → Option Nat} {Q : hp_Q} (hcr : CR cr) (hL : L ≤ 3072) (hr : 1 ≤ b ∧ 6 ≤ c) (i : Int) (I : LIm i h) (hi : 0 ≤ i ∧ i + 6 ≤ L) (k : ∀ (h2 : hp) (b2 c2 : Nat), LIm (i + 6) h2 → b ≤ b2 + 1 → c ≤ c2 + 6 → wp (md_xa (L, xs)) (d + 107) 0 (1501, [(0, .ref 1000000), (1, .ref 0), (2, .ref 236), (3, .ref 259), (4, vi i)], [], hp_w h2 cr, b2, c2) Q) : wp (md_xa (L, xs)) (d + 107) 0 (1431, [(0, .ref 1000000), (1, .ref 0), (2, .ref 236), (3, .ref 259), (4, vi i)], [], hp_w h cr, b, c) Q := by
  obtain ⟨⟨g, i11, r238, r241, gp0, br0, er2, er3, sv0, sf0, ss0, gs0, mi0, ml1, ml2, gq0, mr0, sm0⟩, ie0⟩ := I
  have r238e := r238.e0
  have r241e := r241.e0
  obtain ⟨⟨se0, se1, se2, se3, se4, se5, se6, se7, se8, se9⟩, -⟩ := id sv0
  have b1 := gi_b (lo := 0) (hi := 5) g 3 0 rfl
  have b2 := gi_b (lo := 0) (hi := 5) g 238 0 rfl
  have b3 := gi_b (lo := 0) (hi := 4) g 3 1 rfl
  have b4 := gi_b (lo := 0) (hi := 4) g 238 1 rfl
  have b5 := gi_b (lo := 0) (hi := 12) g 3 2 rfl
  have b6 := gi_b (lo := 0) (hi := 12) g 238 2 rfl
  have b7 := gi_b (lo := -2147483648) (hi := 2147483647) g 3 3 rfl
  have b8 := gi_b (lo := 0) (hi := 999) g 238 3 rfl
  have b9 := gi_b (lo := -2147483648) (hi := 2147483647) g 3 4 rfl
  have b10 := gi_b (lo := 0) (hi := 999) g 238 4 rfl
  have b11 := gi_b (lo := -2147483648) (hi := 2147483647) g 3 5 rfl
  have b12 := gi_b (lo := 0) (hi := 9) g 238 5 rfl
  have b13 := gi_b (lo := -2147483648) (hi := 2147483647) g 3 6 rfl
  have b14 := gi_b (lo := 0) (hi := 999) g 238 6 rfl
  have b15 := gi_b (lo := -2147483648) (hi := 2147483647) g 3 7 rfl
  have b16 := gi_b (lo := 0) (hi := 3) g 238 7 rfl
  have b17 := gi_b (lo := -2147483648) (hi := 2147483647) g 3 8 rfl
  have b18 := gi_b (lo := 0) (hi := 999) g 238 8 rfl
  have b19 := gi_b (lo := -2147483648) (hi := 2147483647) g 3 9 rfl
  have b20 := gi_b (lo := 0) (hi := 999) g 238 9 rfl
  have b21 := gi_b (lo := -2147483648) (hi := 2147483647) g 63 5 rfl
  have b22 := gi_b (lo := 0) (hi := 12) g 18 7 rfl
  have b23 := gi_b (lo := 0) (hi := 12) g 66 1 rfl
  have b24 := gi_b (lo := 0) (hi := 1) g 0 12 rfl
  have b25 := gi_b (lo := 0) (hi := 1) g 236 21 rfl
  have bl_ := gi_b (lo := 0) (hi := 800) g 1 1 rfl
  have tb0 : BufC (h 2) (h 1 1) h := ⟨fun _ => rfl, rfl, by omega, by omega⟩
  have b26 := gi_b (lo := 0) (hi := 6) g 238 98 rfl
  have b27 := gi_b (lo := 0) (hi := 6) g 238 99 rfl
  have b28 := gi_b (lo := 0) (hi := 6) g 238 100 rfl
  have b29 := gi_b (lo := 0) (hi := 6) g 238 101 rfl
  have b30 := gi_b (lo := 0) (hi := 3) g 238 102 rfl
  have b31 := gi_b (lo := 0) (hi := 12) g 238 106 rfl
  have b32 := gi_b (lo := 0) (hi := 12) g 238 73 rfl
  have b33 := gi_b (lo := 0) (hi := 9999) g 238 119 rfl
  have b34 := gi_b (lo := 0) (hi := 9999) g 238 67 rfl
  have b35 := gi_b (lo := 0) (hi := 9) g 238 69 rfl
  have b36 := gi_b (lo := 0) (hi := 6) g 241 98 rfl
  have b37 := gi_b (lo := 0) (hi := 6) g 241 99 rfl
  have b38 := gi_b (lo := 0) (hi := 6) g 241 100 rfl
  have b39 := gi_b (lo := 0) (hi := 6) g 241 101 rfl
  have b40 := gi_b (lo := 0) (hi := 3) g 241 102 rfl
  have b41 := gi_b (lo := 0) (hi := 12) g 241 106 rfl
  have b42 := gi_b (lo := 0) (hi := 12) g 241 73 rfl
  have b43 := gi_b (lo := 0) (hi := 12) g 241 2 rfl
  have b44 := gi_b (lo := 0) (hi := 9999) g 241 119 rfl
  have b45 := gi_b (lo := 0) (hi := 9999) g 241 67 rfl
  have b46 := gi_b (lo := 0) (hi := 9) g 241 69 rfl
  have b47 := gi_b (lo := 0) (hi := 9) g 241 5 rfl
  have b48 := gi_b (lo := 0) (hi := 800) g 1 1 rfl
  have b49 := gi_b (lo := 0) (hi := 800) g 236 2 rfl
  have b50 := gi_b (lo := -2147483648) (hi := 2147483647) g 1 2 rfl
  have b51 := gi_b (lo := -2147483648) (hi := 2147483647) g 236 10 rfl
  have b52 := gi_b (lo := -2147483648) (hi := 2147483647) g 1 3 rfl
  have b53 := gi_b (lo := -2147483648) (hi := 2147483647) g 236 11 rfl
  refine wi_aload_n (i := 1) (x := 0) (nx := 1432) (r1 := 0) (r2 := 0) (r3 := 0) rfl rfl ?_
  refine wi_aload_n (i := 0) (x := 1000000) (nx := 1433) (r1 := 0) (r2 := 0) (r3 := 0) rfl rfl ?_
  refine wi_iload (i := 4) (e := i) (nx := 1435) (r1 := 0) (r2 := 0) (r3 := 0) rfl rfl ?_
  refine wi_iconst (n := 1) (nx := 1436) (r1 := 0) (r2 := 0) (r3 := 0) rfl ?_
  refine wr_add (nx := 1437) (r1 := 0) (r2 := 0) (r3 := 0) rfl (fun e54 (fe54 : e54 = i + 1) => ?_)
  obtain ⟨i55, ei55⟩ : ∃ q : Nat, e54 = (q : Int) := ⟨(e54).toNat, by omega⟩
  have s56 := sc_b (xs i55)
  refine wr_sc (a := e54) (f := i55) (nx := 1438) (r1 := 0) (r2 := 0) (r3 := 0) rfl (by omega) (by omega) hL ?_
  refine wi_aload_n (i := 3) (x := 259) (nx := 1439) (r1 := 0) (r2 := 0) (r3 := 0) rfl rfl ?_
  refine wi_S (rest := []) (as := [.ref 0, vi ((xs i55).toInt), .ref 259]) (nx := 1442) (r1 := 24) (r2 := 19) (r3 := 0) rfl rfl rfl (of_decide_eq_true rfl) rfl rfl (of_decide_eq_true rfl) (of_decide_eq_true rfl) ?_
  refine wi_aload_n (i := 2) (x := 259) (nx := 1) (r1 := 0) (r2 := 0) (r3 := 0) rfl rfl ?_
  refine wi_iconst (n := 0) (nx := 2) (r1 := 0) (r2 := 0) (r3 := 0) rfl ?_
  refine wi_aload_n (i := 0) (x := 0) (nx := 3) (r1 := 0) (r2 := 0) (r3 := 0) rfl rfl ?_
  refine wi_iload_n (i := 1) (e := (xs i55).toInt) (nx := 4) (r1 := 0) (r2 := 0) (r3 := 0) rfl rfl ?_
  refine wr_V (k0 := 0) (rest := [vi 0, .ref 259]) (as := [.ref 0, vi ((xs i55).toInt)]) (nx := 7) (r1 := 88) (r2 := 1) (r3 := 0) rfl rfl rfl (of_decide_eq_true rfl) rfl rfl (by decide) rfl rfl (of_decide_eq_true rfl) (of_decide_eq_true rfl) ?_
  refine ct_88_0 hcr hr  g ((xs i55).toInt) (by omega)  (fun z58  (fz58 : -128 ≤ z58 ∧ z58 ≤ 127) => ?_) ?_
  ·
    refine wk_i ?_
    refine wi_i2l (nx := 8) (r1 := 0) (r2 := 0) (r3 := 0) rfl (by omega) ?_
    refine wr_ls (k0 := 259) (a := 0) (f := 0) (x := z58) (bl := -9223372036854775808) (bh := 9223372036854775807) (nx := 9) (r1 := 0) (r2 := 0) (r3 := 0) rfl (by decide) rfl (by omega) (by omega) (by decide) g rfl (by omega) (fun h59 g59 w59 u59 => ?_)
    refine wi_goto (nx := 12) (r1 := 15) (r2 := 0) (r3 := 0) rfl ?_
    refine wi_iconst (n := 0) (nx := 16) (r1 := 0) (r2 := 0) (r3 := 0) rfl ?_
    refine wi_ireturn (nx := 17) (r1 := 0) (r2 := 0) (r3 := 0) rfl rfl ?_
    refine wk_i ?_
    refine wi_istore (i := 5) (e := 0) (lo2 := [(5, vi 0), (0, .ref 1000000), (1, .ref 0), (2, .ref 236), (3, .ref 259), (4, vi i)]) (nx := 1444) (r1 := 0) (r2 := 0) (r3 := 0) rfl rfl ?_
    refine wi_aload_n (i := 2) (x := 236) (nx := 1445) (r1 := 0) (r2 := 0) (r3 := 0) rfl rfl ?_
    refine wi_aload_n (i := 0) (x := 1000000) (nx := 1446) (r1 := 0) (r2 := 0) (r3 := 0) rfl rfl ?_
    refine wi_iload (i := 4) (e := i) (nx := 1448) (r1 := 0) (r2 := 0) (r3 := 0) rfl rfl ?_
    refine wi_iconst (n := 1) (nx := 1449) (r1 := 0) (r2 := 0) (r3 := 0) rfl ?_
    refine wr_add (nx := 1450) (r1 := 0) (r2 := 0) (r3 := 0) rfl (fun e60 (fe60 : e60 = i + 1) => ?_)
    refine wr_sc (a := e60) (f := i55) (nx := 1451) (r1 := 0) (r2 := 0) (r3 := 0) rfl (by omega) (by omega) hL ?_
    refine wr_V (k0 := 236) (rest := []) (as := [.ref 236, vi ((xs i55).toInt)]) (nx := 1454) (r1 := 349) (r2 := 1) (r3 := 11) rfl rfl rfl (of_decide_eq_true rfl) rfl rfl (by decide) rfl rfl (of_decide_eq_true rfl) (of_decide_eq_true rfl) ?_
    refine ct_349_236 hcr  g59 ((xs i55).toInt) (by omega)  (fun h61 z62 g61 u61 (fz62 : -2147483648 ≤ z62 ∧ z62 ≤ 2147483647) => ?_)
    refine wk_i ?_
    refine wi_istore (i := 6) (e := z62) (lo2 := [(6, vi z62), (5, vi 0), (0, .ref 1000000), (1, .ref 0), (2, .ref 236), (3, .ref 259), (4, vi i)]) (nx := 1456) (r1 := 0) (r2 := 0) (r3 := 0) rfl rfl ?_
    refine wi_goto (nx := 1459) (r1 := 1501) (r2 := 0) (r3 := 0) rfl ?_
    refine wp.lo (lo := [(0, .ref 1000000), (1, .ref 0), (2, .ref 236), (3, .ref 259), (4, vi i)]) ⟨rfl, rfl, rfl, rfl, rfl, trivial⟩ rfl ?_
    have e63 : h61 238 98 = h 238 98 := ((u61 238 98 rfl).trans (u59 238 98 rfl))
    have e64 : h61 238 99 = h 238 99 := ((u61 238 99 rfl).trans (u59 238 99 rfl))
    have e65 : h61 238 100 = h 238 100 := ((u61 238 100 rfl).trans (u59 238 100 rfl))
    have e66 : h61 238 101 = h 238 101 := ((u61 238 101 rfl).trans (u59 238 101 rfl))
    have e67 : h61 238 102 = h 238 102 := ((u61 238 102 rfl).trans (u59 238 102 rfl))
    have e68 : h61 238 106 = h 238 106 := ((u61 238 106 rfl).trans (u59 238 106 rfl))
    have e69 : h61 238 73 = h 238 73 := ((u61 238 73 rfl).trans (u59 238 73 rfl))
    have e70 : h61 238 2 = h 238 2 := ((u61 238 2 rfl).trans (u59 238 2 rfl))
    have e71 : h61 238 119 = h 238 119 := ((u61 238 119 rfl).trans (u59 238 119 rfl))
    have e72 : h61 238 67 = h 238 67 := ((u61 238 67 rfl).trans (u59 238 67 rfl))
    have e73 : h61 238 69 = h 238 69 := ((u61 238 69 rfl).trans (u59 238 69 rfl))
    have e74 : h61 238 5 = h 238 5 := ((u61 238 5 rfl).trans (u59 238 5 rfl))
    have e75 : h61 241 98 = h 241 98 := ((u61 241 98 rfl).trans (u59 241 98 rfl))
    have e76 : h61 241 99 = h 241 99 := ((u61 241 99 rfl).trans (u59 241 99 rfl))
    have e77 : h61 241 100 = h 241 100 := ((u61 241 100 rfl).trans (u59 241 100 rfl))
    have e78 : h61 241 101 = h 241 101 := ((u61 241 101 rfl).trans (u59 241 101 rfl))
    have e79 : h61 241 102 = h 241 102 := ((u61 241 102 rfl).trans (u59 241 102 rfl))
    have e80 : h61 241 106 = h 241 106 := ((u61 241 106 rfl).trans (u59 241 106 rfl))
    have e81 : h61 241 73 = h 241 73 := ((u61 241 73 rfl).trans (u59 241 73 rfl))
    have e82 : h61 241 2 = h 241 2 := ((u61 241 2 rfl).trans (u59 241 2 rfl))
    have e83 : h61 241 119 = h 241 119 := ((u61 241 119 rfl).trans (u59 241 119 rfl))
    have e84 : h61 241 67 = h 241 67 := ((u61 241 67 rfl).trans (u59 241 67 rfl))
    have e85 : h61 241 69 = h 241 69 := ((u61 241 69 rfl).trans (u59 241 69 rfl))
    have e86 : h61 241 5 = h 241 5 := ((u61 241 5 rfl).trans (u59 241 5 rfl))
    have e87 : h61 1 1 = h 1 1 := ((u61 1 1 rfl).trans (u59 1 1 rfl))
    have e88 : h61 236 2 = h 236 2 := ((u61 236 2 rfl).trans (u59 236 2 rfl))
    have e89 : h61 1 2 = h 1 2 := ((u61 1 2 rfl).trans (u59 1 2 rfl))
    have e90 : h61 236 10 = h 236 10 := ((u61 236 10 rfl).trans (u59 236 10 rfl))
    have e91 : h61 1 3 = h 1 3 := ((u61 1 3 rfl).trans (u59 1 3 rfl))
    have e92 : h61 236 11 = h 236 11 := ((u61 236 11 rfl).trans (u59 236 11 rfl))
    have gp93 := GPH.fr u59 rfl gp0
    have gp94 := GPH.fr u61 rfl gp93
    have b95 := gi_b (lo := 0) (hi := 5) g 241 0 rfl
    have b96 := gi_b (lo := 0) (hi := 4) g 241 1 rfl
    have gs97 := GPS.fr u59 rfl gs0
    have gs98 := GPS.fr u61 rfl gs97
    have e99 : h61 0 12 = h 0 12 := ((u61 0 12 rfl).trans (u59 0 12 rfl))
    have e100 : h61 236 21 = h 236 21 := ((u61 236 21 rfl).trans (u59 236 21 rfl))
    have e101 : h61 63 5 = h 63 5 := ((u61 63 5 rfl).trans (u59 63 5 rfl))
    have e102 : h61 18 16 = h 18 16 := ((u61 18 16 rfl).trans (u59 18 16 rfl))
    have e103 : h61 18 7 = h 18 7 := ((u61 18 7 rfl).trans (u59 18 7 rfl))
    have e104 : h61 3 2 = h 3 2 := ((u61 3 2 rfl).trans (u59 3 2 rfl))
    have e105 : h61 66 1 = h 66 1 := ((u61 66 1 rfl).trans (u59 66 1 rfl))
    have b106 := gi_b (lo := 0) (hi := 6) g 73 1 rfl
    have e107 : h61 73 1 = h 73 1 := ((u61 73 1 rfl).trans (u59 73 1 rfl))
    have b108 := gi_b (lo := 0) (hi := 6) g 73 2 rfl
    have e109 : h61 73 2 = h 73 2 := ((u61 73 2 rfl).trans (u59 73 2 rfl))
    have b110 := gi_b (lo := 0) (hi := 6) g 236 22 rfl
    have e111 : h61 236 22 = h 236 22 := ((u61 236 22 rfl).trans (u59 236 22 rfl))
    have b112 := gi_b (lo := 0) (hi := 12) g 210 2 rfl
    have e113 : h61 210 2 = h 210 2 := ((u61 210 2 rfl).trans (u59 210 2 rfl))
    have q116 : h61 8 = h 8 := funext (fun i => ((u61 8 i (fo_no_ok (by decide) i)).trans (u59 8 i rfl)))
    have q117 : h61 7 = h 7 := funext (fun i => ((u61 7 i (fo_no_ok (by decide) i)).trans (u59 7 i rfl)))
    have q118 : h61 19 = h 19 := funext (fun i => ((u61 19 i (fo_no_ok (by decide) i)).trans (u59 19 i rfl)))
    have q119 : h61 67 = h 67 := funext (fun i => ((u61 67 i (fo_no_ok (by decide) i)).trans (u59 67 i rfl)))
    have ml115 : MCL h61 := MCL.mv mi0.1 q116 q117 q118 q119 (by omega) (by omega) (by omega) (by omega)
    have q121 : h61 69 = h 69 := funext (fun i => ((u61 69 i (fo_no_ok (by decide) i)).trans (u59 69 i rfl)))
    have q122 : h61 70 = h 70 := funext (fun i => ((u61 70 i (fo_no_ok (by decide) i)).trans (u59 70 i rfl)))
    have nb120 : NBc (h61 69) (h61 70) := by rw [q121, q122]; exact mi0.2.2
    have q123 : h61 8 = h 8 := funext (fun i => ((u61 8 i (fo_no_ok (by decide) i)).trans (u59 8 i rfl)))
    have q124 : h61 7 = h 7 := funext (fun i => ((u61 7 i (fo_no_ok (by decide) i)).trans (u59 7 i rfl)))
    have mi114 : MCI h61 := ⟨ml115, HIv.mv mi0.2.1 q123 q124 (by omega) (by omega) (sv_seven (P := fun x => ∀ i, h61 (76 + 19 * x) i = h (76 + 19 * x) i) (fun i => ((u61 76 i (fn_a (by decide) fn_0)).trans (u59 76 i (fn_a (by omega) fn_0)))) (fun i => ((u61 95 i (fn_a (by decide) fn_0)).trans (u59 95 i (fn_a (by omega) fn_0)))) (fun i => ((u61 114 i (fn_a (by decide) fn_0)).trans (u59 114 i (fn_a (by omega) fn_0)))) (fun i => ((u61 133 i (fn_a (by decide) fn_0)).trans (u59 133 i (fn_a (by omega) fn_0)))) (fun i => ((u61 152 i (fn_a (by decide) fn_0)).trans (u59 152 i (fn_a (by omega) fn_0)))) (fun i => ((u61 171 i (fn_a (by decide) fn_0)).trans (u59 171 i (fn_a (by omega) fn_0)))) (fun i => ((u61 190 i (fn_a (by decide) fn_0)).trans (u59 190 i (fn_a (by omega) fn_0))))) (by omega) (by omega), nb120⟩
    have gq125 := GQS.fr u59 rfl gq0
    have gq126 := GQS.fr u61 rfl gq125
    have q127 : h61 8 = h 8 := funext (fun i => ((u61 8 i (fo_no_ok (by decide) i)).trans (u59 8 i rfl)))
    have q128 : h61 7 = h 7 := funext (fun i => ((u61 7 i (fo_no_ok (by decide) i)).trans (u59 7 i rfl)))
    have q129 : h61 215 = h 215 := funext (fun i => ((u61 215 i (fo_no_ok (by decide) i)).trans (u59 215 i rfl)))
    have q130 : h61 218 = h 218 := funext (fun i => ((u61 218 i (fo_no_ok (by decide) i)).trans (u59 218 i rfl)))
    have q131 : h61 214 = h 214 := funext (fun i => ((u61 214 i (fo_no_ok (by decide) i)).trans (u59 214 i rfl)))
    have q132 : h61 241 = h 241 := funext (fun i => ((u61 241 i (fo_no_ok (by decide) i)).trans (u59 241 i rfl)))
    exact k h61 b c ⟨⟨g61, (show h61 1 1 = h61 236 2 by omega), (RS.i0 (f := h61 238) (by refine ⟨?_, ?_, ?_, ?_, ?_⟩ <;> omega)), (RS.i0 (f := h61 241) (by refine ⟨?_, ?_, ?_, ?_, ?_⟩ <;> omega)), gp94, (BRh.keep br0 (fun i => ((u61 2 i (fn_a (by decide) fn_0)).trans (u59 2 i (fn_a (by omega) fn_0)))) (fun i => ((u61 237 i (fn_a (by decide) fn_0)).trans (u59 237 i (fn_a (by omega) fn_0)))) (by omega)), (show h61 1 2 = h61 236 10 by omega), (show h61 1 3 = h61 236 11 by omega), (SVx.keep sv0 (by omega) (fun i _ => ((u61 3 i (fn_a (by decide) fn_0)).trans (u59 3 i (fn_a (by omega) fn_0)))) (fun i _ => ((u61 5 i (fn_a (by decide) fn_0)).trans (u59 5 i (fn_a (by omega) fn_0)))) (fun i _ => ((u61 6 i (fn_a (by decide) fn_0)).trans (u59 6 i (fn_a (by omega) fn_0)))) (fun i _ => ((u61 8 i (fn_a (by decide) fn_0)).trans (u59 8 i (fn_a (by omega) fn_0)))) (fun i _ => ((u61 238 i (fn_a (by decide) fn_0)).trans (u59 238 i (fn_a (by omega) fn_0))))), (show h61 0 12 = h61 236 21 by omega), (fun e => (SVx.keep (ss0 (by omega)) (by omega) (fun i _ => ((u61 210 i (fn_a (by decide) fn_0)).trans (u59 210 i (fn_a (by omega) fn_0)))) (fun i _ => ((u61 212 i (fn_a (by decide) fn_0)).trans (u59 212 i (fn_a (by omega) fn_0)))) (fun i _ => ((u61 213 i (fn_a (by decide) fn_0)).trans (u59 213 i (fn_a (by omega) fn_0)))) (fun i _ => ((u61 215 i (fn_a (by decide) fn_0)).trans (u59 215 i (fn_a (by omega) fn_0)))) (fun i _ => ((u61 241 i (fn_a (by decide) fn_0)).trans (u59 241 i (fn_a (by omega) fn_0)))))), gs98, mi114, (show h61 63 5 ≤ h61 18 16 by omega), (show (h61 63 5) < (h61 18 16) ∨ ((h61 18 7) ≤ (h61 3 2) ∧ (h61 66 1) = (h61 3 2) - (h61 18 7)) ∨ ((h61 3 2) < (h61 18 7) ∧ (h61 66 1) = 0) by omega), gq126, (MR.mv mr0 (MSN.then (MSN.refl) (fun i _ => ((u61 238 i (fn_a (by decide) fn_0)).trans (u59 238 i (fn_a (by omega) fn_0))))) (by omega) q127 q128 (by omega)), (fun e => SM.mv (sm0 (by omega)) q129 q130 q131 (by omega) q132)⟩, (by omega)⟩ (by omega) (by omega)
  ·
    refine wk_h 12 (by decide) rfl ?_
    refine wr_astx (i := 3) (lo2 := [(3, .retAddr 0), (0, .ref 0), (1, vi ((xs i55).toInt)), (2, .ref 259)]) (nx := 13) (r1 := 0) (r2 := 0) (r3 := 0) rfl rfl ?_
    refine wi_iconst (n := 1) (nx := 14) (r1 := 0) (r2 := 0) (r3 := 0) rfl ?_
    refine wi_ireturn (nx := 15) (r1 := 0) (r2 := 0) (r3 := 0) rfl rfl ?_
    refine wk_i ?_
    refine wi_istore (i := 5) (e := 1) (lo2 := [(5, vi 1), (0, .ref 1000000), (1, .ref 0), (2, .ref 236), (3, .ref 259), (4, vi i)]) (nx := 1444) (r1 := 0) (r2 := 0) (r3 := 0) rfl rfl ?_
    refine wi_aload_n (i := 2) (x := 236) (nx := 1445) (r1 := 0) (r2 := 0) (r3 := 0) rfl rfl ?_
    refine wi_aload_n (i := 0) (x := 1000000) (nx := 1446) (r1 := 0) (r2 := 0) (r3 := 0) rfl rfl ?_
    refine wi_iload (i := 4) (e := i) (nx := 1448) (r1 := 0) (r2 := 0) (r3 := 0) rfl rfl ?_
    refine wi_iconst (n := 1) (nx := 1449) (r1 := 0) (r2 := 0) (r3 := 0) rfl ?_
    refine wr_add (nx := 1450) (r1 := 0) (r2 := 0) (r3 := 0) rfl (fun e59 (fe59 : e59 = i + 1) => ?_)
    refine wr_sc (a := e59) (f := i55) (nx := 1451) (r1 := 0) (r2 := 0) (r3 := 0) rfl (by omega) (by omega) hL ?_
    refine wr_V (k0 := 236) (rest := []) (as := [.ref 236, vi ((xs i55).toInt)]) (nx := 1454) (r1 := 349) (r2 := 1) (r3 := 11) rfl rfl rfl (of_decide_eq_true rfl) rfl rfl (by decide) rfl rfl (of_decide_eq_true rfl) (of_decide_eq_true rfl) ?_
    refine ct_349_236 hcr  g ((xs i55).toInt) (by omega)  (fun h60 z61 g60 u60 (fz61 : -2147483648 ≤ z61 ∧ z61 ≤ 2147483647) => ?_)
    refine wk_i ?_
    refine wi_istore (i := 6) (e := z61) (lo2 := [(6, vi z61), (5, vi 1), (0, .ref 1000000), (1, .ref 0), (2, .ref 236), (3, .ref 259), (4, vi i)]) (nx := 1456) (r1 := 0) (r2 := 0) (r3 := 0) rfl rfl ?_
    refine wi_goto (nx := 1459) (r1 := 1501) (r2 := 0) (r3 := 0) rfl ?_
    refine wp.lo (lo := [(0, .ref 1000000), (1, .ref 0), (2, .ref 236), (3, .ref 259), (4, vi i)]) ⟨rfl, rfl, rfl, rfl, rfl, trivial⟩ rfl ?_
    have e62 : h60 238 98 = h 238 98 := (u60 238 98 rfl)
    have e63 : h60 238 99 = h 238 99 := (u60 238 99 rfl)
    have e64 : h60 238 100 = h 238 100 := (u60 238 100 rfl)
    have e65 : h60 238 101 = h 238 101 := (u60 238 101 rfl)
    have e66 : h60 238 102 = h 238 102 := (u60 238 102 rfl)
    have e67 : h60 238 106 = h 238 106 := (u60 238 106 rfl)
    have e68 : h60 238 73 = h 238 73 := (u60 238 73 rfl)
    have e69 : h60 238 2 = h 238 2 := (u60 238 2 rfl)
    have e70 : h60 238 119 = h 238 119 := (u60 238 119 rfl)
    have e71 : h60 238 67 = h 238 67 := (u60 238 67 rfl)
    have e72 : h60 238 69 = h 238 69 := (u60 238 69 rfl)
    have e73 : h60 238 5 = h 238 5 := (u60 238 5 rfl)
    have e74 : h60 241 98 = h 241 98 := (u60 241 98 rfl)
    have e75 : h60 241 99 = h 241 99 := (u60 241 99 rfl)
    have e76 : h60 241 100 = h 241 100 := (u60 241 100 rfl)
    have e77 : h60 241 101 = h 241 101 := (u60 241 101 rfl)
    have e78 : h60 241 102 = h 241 102 := (u60 241 102 rfl)
    have e79 : h60 241 106 = h 241 106 := (u60 241 106 rfl)
    have e80 : h60 241 73 = h 241 73 := (u60 241 73 rfl)
    have e81 : h60 241 2 = h 241 2 := (u60 241 2 rfl)
    have e82 : h60 241 119 = h 241 119 := (u60 241 119 rfl)
    have e83 : h60 241 67 = h 241 67 := (u60 241 67 rfl)
    have e84 : h60 241 69 = h 241 69 := (u60 241 69 rfl)
    have e85 : h60 241 5 = h 241 5 := (u60 241 5 rfl)
    have e86 : h60 1 1 = h 1 1 := (u60 1 1 rfl)
    have e87 : h60 236 2 = h 236 2 := (u60 236 2 rfl)
    have e88 : h60 1 2 = h 1 2 := (u60 1 2 rfl)
    have e89 : h60 236 10 = h 236 10 := (u60 236 10 rfl)
    have e90 : h60 1 3 = h 1 3 := (u60 1 3 rfl)
    have e91 : h60 236 11 = h 236 11 := (u60 236 11 rfl)
    have gp92 := GPH.fr u60 rfl gp0
    have b93 := gi_b (lo := 0) (hi := 5) g 241 0 rfl
    have b94 := gi_b (lo := 0) (hi := 4) g 241 1 rfl
    have gs95 := GPS.fr u60 rfl gs0
    have e96 : h60 0 12 = h 0 12 := (u60 0 12 rfl)
    have e97 : h60 236 21 = h 236 21 := (u60 236 21 rfl)
    have e98 : h60 63 5 = h 63 5 := (u60 63 5 rfl)
    have e99 : h60 18 16 = h 18 16 := (u60 18 16 rfl)
    have e100 : h60 18 7 = h 18 7 := (u60 18 7 rfl)
    have e101 : h60 3 2 = h 3 2 := (u60 3 2 rfl)
    have e102 : h60 66 1 = h 66 1 := (u60 66 1 rfl)
    have b103 := gi_b (lo := 0) (hi := 6) g 73 1 rfl
    have e104 : h60 73 1 = h 73 1 := (u60 73 1 rfl)
    have b105 := gi_b (lo := 0) (hi := 6) g 73 2 rfl
    have e106 : h60 73 2 = h 73 2 := (u60 73 2 rfl)
    have b107 := gi_b (lo := 0) (hi := 6) g 236 22 rfl
    have e108 : h60 236 22 = h 236 22 := (u60 236 22 rfl)
    have b109 := gi_b (lo := 0) (hi := 12) g 210 2 rfl
    have e110 : h60 210 2 = h 210 2 := (u60 210 2 rfl)
    have q113 : h60 8 = h 8 := funext (fun i => (u60 8 i (fo_no_ok (by decide) i)))
    have q114 : h60 7 = h 7 := funext (fun i => (u60 7 i (fo_no_ok (by decide) i)))
    have q115 : h60 19 = h 19 := funext (fun i => (u60 19 i (fo_no_ok (by decide) i)))
    have q116 : h60 67 = h 67 := funext (fun i => (u60 67 i (fo_no_ok (by decide) i)))
    have ml112 : MCL h60 := MCL.mv mi0.1 q113 q114 q115 q116 (by omega) (by omega) (by omega) (by omega)
    have q118 : h60 69 = h 69 := funext (fun i => (u60 69 i (fo_no_ok (by decide) i)))
    have q119 : h60 70 = h 70 := funext (fun i => (u60 70 i (fo_no_ok (by decide) i)))
    have nb117 : NBc (h60 69) (h60 70) := by rw [q118, q119]; exact mi0.2.2
    have q120 : h60 8 = h 8 := funext (fun i => (u60 8 i (fo_no_ok (by decide) i)))
    have q121 : h60 7 = h 7 := funext (fun i => (u60 7 i (fo_no_ok (by decide) i)))
    have mi111 : MCI h60 := ⟨ml112, HIv.mv mi0.2.1 q120 q121 (by omega) (by omega) (sv_seven (P := fun x => ∀ i, h60 (76 + 19 * x) i = h (76 + 19 * x) i) (fun i => (u60 76 i (fn_a (by decide) fn_0))) (fun i => (u60 95 i (fn_a (by decide) fn_0))) (fun i => (u60 114 i (fn_a (by decide) fn_0))) (fun i => (u60 133 i (fn_a (by decide) fn_0))) (fun i => (u60 152 i (fn_a (by decide) fn_0))) (fun i => (u60 171 i (fn_a (by decide) fn_0))) (fun i => (u60 190 i (fn_a (by decide) fn_0)))) (by omega) (by omega), nb117⟩
    have gq122 := GQS.fr u60 rfl gq0
    have q123 : h60 8 = h 8 := funext (fun i => (u60 8 i (fo_no_ok (by decide) i)))
    have q124 : h60 7 = h 7 := funext (fun i => (u60 7 i (fo_no_ok (by decide) i)))
    have q125 : h60 215 = h 215 := funext (fun i => (u60 215 i (fo_no_ok (by decide) i)))
    have q126 : h60 218 = h 218 := funext (fun i => (u60 218 i (fo_no_ok (by decide) i)))
    have q127 : h60 214 = h 214 := funext (fun i => (u60 214 i (fo_no_ok (by decide) i)))
    have q128 : h60 241 = h 241 := funext (fun i => (u60 241 i (fo_no_ok (by decide) i)))
    exact k h60 (b - 1) (c - 6) ⟨⟨g60, (show h60 1 1 = h60 236 2 by omega), (RS.i0 (f := h60 238) (by refine ⟨?_, ?_, ?_, ?_, ?_⟩ <;> omega)), (RS.i0 (f := h60 241) (by refine ⟨?_, ?_, ?_, ?_, ?_⟩ <;> omega)), gp92, (BRh.keep br0 (fun i => (u60 2 i (fn_a (by decide) fn_0))) (fun i => (u60 237 i (fn_a (by decide) fn_0))) (by omega)), (show h60 1 2 = h60 236 10 by omega), (show h60 1 3 = h60 236 11 by omega), (SVx.keep sv0 (by omega) (fun i _ => (u60 3 i (fn_a (by decide) fn_0))) (fun i _ => (u60 5 i (fn_a (by decide) fn_0))) (fun i _ => (u60 6 i (fn_a (by decide) fn_0))) (fun i _ => (u60 8 i (fn_a (by decide) fn_0))) (fun i _ => (u60 238 i (fn_a (by decide) fn_0)))), (show h60 0 12 = h60 236 21 by omega), (fun e => (SVx.keep (ss0 (by omega)) (by omega) (fun i _ => (u60 210 i (fn_a (by decide) fn_0))) (fun i _ => (u60 212 i (fn_a (by decide) fn_0))) (fun i _ => (u60 213 i (fn_a (by decide) fn_0))) (fun i _ => (u60 215 i (fn_a (by decide) fn_0))) (fun i _ => (u60 241 i (fn_a (by decide) fn_0))))), gs95, mi111, (show h60 63 5 ≤ h60 18 16 by omega), (show (h60 63 5) < (h60 18 16) ∨ ((h60 18 7) ≤ (h60 3 2) ∧ (h60 66 1) = (h60 3 2) - (h60 18 7)) ∨ ((h60 3 2) < (h60 18 7) ∧ (h60 66 1) = 0) by omega), gq122, (MR.mv mr0 (MSN.then (MSN.refl) (fun i _ => (u60 238 i (fn_a (by decide) fn_0)))) (by omega) q123 q124 (by omega)), (fun e => SM.mv (sm0 (by omega)) q125 q126 q127 (by omega) q128)⟩, (by omega)⟩ (by omega) (by omega)
-- the law, case at 1459
set_option maxRecDepth 100000 in
set_option maxHeartbeats 100000000 in
theorem lc_1459 {L : Nat} {xs : Nat → Int32} {d b c : Nat} {h : hp} {cr : Nat → Nat → Option Nat} {Q : hp_Q} (hcr : CR cr) (hL : L ≤ 3072) (hr : 1 ≤ b ∧ 6 ≤ c) (i : Int) (I : LIm i h) (hi : 0 ≤ i ∧ i + 6 ≤ L) (k : ∀ (h2 : hp) (b2 c2 : Nat), LIm (i + 6) h2 → b ≤ b2 + 1 → c ≤ c2 + 6 → wp (md_xa (L, xs)) (d + 107) 0 (1501, [(0, .ref 1000000), (1, .ref 0), (2, .ref 236), (3, .ref 259), (4, vi i)], [], hp_w h2 cr, b2, c2) Q) : wp (md_xa (L, xs)) (d + 107) 0 (1459, [(0, .ref 1000000), (1, .ref 0), (2, .ref 236), (3, .ref 259), (4, vi i)], [], hp_w h cr, b, c) Q := by
  obtain ⟨⟨g, i11, r238, r241, gp0, br0, er2, er3, sv0, sf0, ss0, gs0, mi0, ml1, ml2, gq0, mr0, sm0⟩, ie0⟩ := I
  have r238e := r238.e0
  have r241e := r241.e0
  obtain ⟨⟨se0, se1, se2, se3, se4, se5, se6, se7, se8, se9⟩, -⟩ := id sv0
  have b1 := gi_b (lo := 0) (hi := 5) g 3 0 rfl
  have b2 := gi_b (lo := 0) (hi := 5) g 238 0 rfl
  have b3 := gi_b (lo := 0) (hi := 4) g 3 1 rfl
  have b4 := gi_b (lo := 0) (hi := 4) g 238 1 rfl
  have b5 := gi_b (lo := 0) (hi := 12) g 3 2 rfl
  have b6 := gi_b (lo := 0) (hi := 12) g 238 2 rfl
  have b7 := gi_b (lo := -2147483648) (hi := 2147483647) g 3 3 rfl
  have b8 := gi_b (lo := 0) (hi := 999) g 238 3 rfl
  have b9 := gi_b (lo := -2147483648) (hi := 2147483647) g 3 4 rfl
  have b10 := gi_b (lo := 0) (hi := 999) g 238 4 rfl
  have b11 := gi_b (lo := -2147483648) (hi := 2147483647) g 3 5 rfl
  have b12 := gi_b (lo := 0) (hi := 9) g 238 5 rfl
  have b13 := gi_b (lo := -2147483648) (hi := 2147483647) g 3 6 rfl
  have b14 := gi_b (lo := 0) (hi := 999) g 238 6 rfl
  have b15 := gi_b (lo := -2147483648) (hi := 2147483647) g 3 7 rfl
  have b16 := gi_b (lo := 0) (hi := 3) g 238 7 rfl
  have b17 := gi_b (lo := -2147483648) (hi := 2147483647) g 3 8 rfl
  have b18 := gi_b (lo := 0) (hi := 999) g 238 8 rfl
  have b19 := gi_b (lo := -2147483648) (hi := 2147483647) g 3 9 rfl
  have b20 := gi_b (lo := 0) (hi := 999) g 238 9 rfl
  have b21 := gi_b (lo := -2147483648) (hi := 2147483647) g 63 5 rfl
  have b22 := gi_b (lo := 0) (hi := 12) g 18 7 rfl
  have b23 := gi_b (lo := 0) (hi := 12) g 66 1 rfl
  have b24 := gi_b (lo := 0) (hi := 1) g 0 12 rfl
  have b25 := gi_b (lo := 0) (hi := 1) g 236 21 rfl
  have bl_ := gi_b (lo := 0) (hi := 800) g 1 1 rfl
  have tb0 : BufC (h 2) (h 1 1) h := ⟨fun _ => rfl, rfl, by omega, by omega⟩
  have b26 := gi_b (lo := 0) (hi := 6) g 238 98 rfl
  have b27 := gi_b (lo := 0) (hi := 6) g 238 99 rfl
  have b28 := gi_b (lo := 0) (hi := 6) g 238 100 rfl
  have b29 := gi_b (lo := 0) (hi := 6) g 238 101 rfl
  have b30 := gi_b (lo := 0) (hi := 3) g 238 102 rfl
  have b31 := gi_b (lo := 0) (hi := 12) g 238 106 rfl
  have b32 := gi_b (lo := 0) (hi := 12) g 238 73 rfl
  have b33 := gi_b (lo := 0) (hi := 9999) g 238 119 rfl
  have b34 := gi_b (lo := 0) (hi := 9999) g 238 67 rfl
  have b35 := gi_b (lo := 0) (hi := 9) g 238 69 rfl
  have b36 := gi_b (lo := 0) (hi := 6) g 241 98 rfl
  have b37 := gi_b (lo := 0) (hi := 6) g 241 99 rfl
  have b38 := gi_b (lo := 0) (hi := 6) g 241 100 rfl
  have b39 := gi_b (lo := 0) (hi := 6) g 241 101 rfl
  have b40 := gi_b (lo := 0) (hi := 3) g 241 102 rfl
  have b41 := gi_b (lo := 0) (hi := 12) g 241 106 rfl
  have b42 := gi_b (lo := 0) (hi := 12) g 241 73 rfl
  have b43 := gi_b (lo := 0) (hi := 12) g 241 2 rfl
  have b44 := gi_b (lo := 0) (hi := 9999) g 241 119 rfl
  have b45 := gi_b (lo := 0) (hi := 9999) g 241 67 rfl
  have b46 := gi_b (lo := 0) (hi := 9) g 241 69 rfl
  have b47 := gi_b (lo := 0) (hi := 9) g 241 5 rfl
  have b48 := gi_b (lo := 0) (hi := 800) g 1 1 rfl
  have b49 := gi_b (lo := 0) (hi := 800) g 236 2 rfl
  have b50 := gi_b (lo := -2147483648) (hi := 2147483647) g 1 2 rfl
  have b51 := gi_b (lo := -2147483648) (hi := 2147483647) g 236 10 rfl
  have b52 := gi_b (lo := -2147483648) (hi := 2147483647) g 1 3 rfl
  have b53 := gi_b (lo := -2147483648) (hi := 2147483647) g 236 11 rfl
  refine wi_aload_n (i := 1) (x := 0) (nx := 1460) (r1 := 0) (r2 := 0) (r3 := 0) rfl rfl ?_
  refine wr_V (k0 := 0) (rest := []) (as := [.ref 0]) (nx := 1463) (r1 := 59) (r2 := 0) (r3 := 0) rfl rfl rfl (of_decide_eq_true rfl) rfl rfl (by decide) rfl rfl (of_decide_eq_true rfl) (of_decide_eq_true rfl) ?_
  refine ct_59_0 hcr  g   (show (h 63 5) ≤ (h 18 16) by omega) (show (h 63 5) < (h 18 16) ∨ ((h 18 7) ≤ (h 3 2) ∧ (h 66 1) = (h 3 2) - (h 18 7)) ∨ ((h 3 2) < (h 18 7) ∧ (h 66 1) = 0) by omega) (show 0 ≤ (h 3 9) by omega) (show (h 18 16) ≤ 1900000000 by omega) mi0 (fun h54 z55 g54 u54 (fz55 : -1 ≤ z55 ∧ z55 ≤ 5) (p54_0 : (h54 63 5) ≤ (h54 18 16)) (p54_1 : (h54 63 5) < (h54 18 16) ∨ ((h54 18 7) ≤ (h54 3 2) ∧ (h54 66 1) = (h54 3 2) - (h54 18 7)) ∨ ((h54 3 2) < (h54 18 7) ∧ (h54 66 1) = 0)) (p54_2 : (h 18 16) ≤ (h54 18 16) ∧ (h54 18 16) ≤ (h 18 16) + 1) y54_0 => ?_)
  have e56 : h54 63 5 = h 63 5 := (u54 63 5 rfl)
  have b57 := gi_b (lo := -2147483648) (hi := 2147483647) g54 18 16 rfl
  have b58 := gi_b (lo := 0) (hi := 12) g54 18 7 rfl
  have e59 : h54 3 2 = h 3 2 := (u54 3 2 rfl)
  have e60 : h54 66 1 = h 66 1 := (u54 66 1 rfl)
  refine wk_i ?_
  refine wi_pop (nx := 1464) (r1 := 0) (r2 := 0) (r3 := 0) rfl rfl ?_
  refine wi_aload_n (i := 2) (x := 236) (nx := 1465) (r1 := 0) (r2 := 0) (r3 := 0) rfl rfl ?_
  refine wr_V (k0 := 236) (rest := []) (as := [.ref 236]) (nx := 1468) (r1 := 350) (r2 := 0) (r3 := 11) rfl rfl rfl (of_decide_eq_true rfl) rfl rfl (by decide) rfl rfl (of_decide_eq_true rfl) (of_decide_eq_true rfl) ?_
  have e62 : h54 238 98 = h 238 98 := (u54 238 98 rfl)
  have e63 : h54 238 99 = h 238 99 := (u54 238 99 rfl)
  have e64 : h54 238 100 = h 238 100 := (u54 238 100 rfl)
  have e65 : h54 238 101 = h 238 101 := (u54 238 101 rfl)
  have e66 : h54 238 102 = h 238 102 := (u54 238 102 rfl)
  have e67 : h54 238 106 = h 238 106 := (u54 238 106 rfl)
  have e68 : h54 238 73 = h 238 73 := (u54 238 73 rfl)
  have e69 : h54 238 2 = h 238 2 := (u54 238 2 rfl)
  have e70 : h54 238 119 = h 238 119 := (u54 238 119 rfl)
  have e71 : h54 238 67 = h 238 67 := (u54 238 67 rfl)
  have e72 : h54 238 69 = h 238 69 := (u54 238 69 rfl)
  have e73 : h54 238 5 = h 238 5 := (u54 238 5 rfl)
  have gs75 := GPS.fr u54 rfl gs0
  have gq76 := GQS.fr u54 rfl gq0
  have gp77 := GPH.fr u54 rfl gp0
  refine ct_350_236 hcr  g54   (show (h54 238 98) + (h54 238 99) + (h54 238 100) + (h54 238 101) + (h54 238 102) + (h54 238 106) = (h54 238 73) by omega) (show (h54 238 73) ≤ (h54 238 2) by omega) (show (h54 238 119) ≤ (h54 238 67) by omega) (show (h54 238 69) ≤ (h54 238 5) by omega) (show (h54 238 2) ≤ 12 * (h54 238 5) by omega) gs75 gq76 gp77 (fun h61 z74 g61 u61 (fz74 : -1 ≤ z74 ∧ z74 ≤ 5) y61_0 y61_1 y61_2 y61_3 y61_4 y61_5 => ?_)
  refine wk_i ?_
  refine wi_pop (nx := 1469) (r1 := 0) (r2 := 0) (r3 := 0) rfl rfl ?_
  refine wi_goto (nx := 1472) (r1 := 1501) (r2 := 0) (r3 := 0) rfl ?_
  have b78 := gi_b (lo := 0) (hi := 6) g61 238 98 rfl
  have b79 := gi_b (lo := 0) (hi := 6) g61 238 99 rfl
  have b80 := gi_b (lo := 0) (hi := 6) g61 238 100 rfl
  have b81 := gi_b (lo := 0) (hi := 6) g61 238 101 rfl
  have b82 := gi_b (lo := 0) (hi := 3) g61 238 102 rfl
  have b83 := gi_b (lo := 0) (hi := 12) g61 238 106 rfl
  have b84 := gi_b (lo := 0) (hi := 12) g61 238 73 rfl
  have e85 : h61 238 2 = h 238 2 := ((y61_1 2 (by decide)).trans (u54 238 2 rfl))
  have b86 := gi_b (lo := 0) (hi := 9999) g61 238 119 rfl
  have b87 := gi_b (lo := 0) (hi := 9999) g61 238 67 rfl
  have b88 := gi_b (lo := 0) (hi := 9) g61 238 69 rfl
  have e89 : h61 238 5 = h 238 5 := ((y61_1 5 (by decide)).trans (u54 238 5 rfl))
  have e90 : h61 241 98 = h 241 98 := ((u61 241 98 rfl).trans (u54 241 98 rfl))
  have e91 : h61 241 99 = h 241 99 := ((u61 241 99 rfl).trans (u54 241 99 rfl))
  have e92 : h61 241 100 = h 241 100 := ((u61 241 100 rfl).trans (u54 241 100 rfl))
  have e93 : h61 241 101 = h 241 101 := ((u61 241 101 rfl).trans (u54 241 101 rfl))
  have e94 : h61 241 102 = h 241 102 := ((u61 241 102 rfl).trans (u54 241 102 rfl))
  have e95 : h61 241 106 = h 241 106 := ((u61 241 106 rfl).trans (u54 241 106 rfl))
  have e96 : h61 241 73 = h 241 73 := ((u61 241 73 rfl).trans (u54 241 73 rfl))
  have e97 : h61 241 2 = h 241 2 := ((u61 241 2 rfl).trans (u54 241 2 rfl))
  have e98 : h61 241 119 = h 241 119 := ((u61 241 119 rfl).trans (u54 241 119 rfl))
  have e99 : h61 241 67 = h 241 67 := ((u61 241 67 rfl).trans (u54 241 67 rfl))
  have e100 : h61 241 69 = h 241 69 := ((u61 241 69 rfl).trans (u54 241 69 rfl))
  have e101 : h61 241 5 = h 241 5 := ((u61 241 5 rfl).trans (u54 241 5 rfl))
  have e102 : h61 1 1 = h 1 1 := ((u61 1 1 rfl).trans (u54 1 1 rfl))
  have e103 : h61 236 2 = h 236 2 := ((u61 236 2 rfl).trans (u54 236 2 rfl))
  have e104 : h61 1 2 = h 1 2 := ((u61 1 2 rfl).trans (u54 1 2 rfl))
  have e105 : h61 236 10 = h 236 10 := ((u61 236 10 rfl).trans (u54 236 10 rfl))
  have e106 : h61 1 3 = h 1 3 := ((u61 1 3 rfl).trans (u54 1 3 rfl))
  have e107 : h61 236 11 = h 236 11 := ((u61 236 11 rfl).trans (u54 236 11 rfl))
  have b108 := gi_b (lo := 0) (hi := 5) g 241 0 rfl
  have b109 := gi_b (lo := 0) (hi := 4) g 241 1 rfl
  have e110 : h61 0 12 = h 0 12 := ((u61 0 12 rfl).trans (u54 0 12 rfl))
  have e111 : h61 236 21 = h 236 21 := ((u61 236 21 rfl).trans (u54 236 21 rfl))
  have e112 : h61 63 5 = h 63 5 := ((u61 63 5 rfl).trans (u54 63 5 rfl))
  have e113 : h61 18 16 = h54 18 16 := (u61 18 16 rfl)
  have e114 : h61 18 7 = h54 18 7 := (u61 18 7 rfl)
  have e115 : h61 3 2 = h 3 2 := ((u61 3 2 rfl).trans (u54 3 2 rfl))
  have e116 : h61 66 1 = h 66 1 := ((u61 66 1 rfl).trans (u54 66 1 rfl))
  have b117 := gi_b (lo := 0) (hi := 6) g54 73 1 rfl
  have e118 : h61 73 1 = h54 73 1 := (u61 73 1 rfl)
  have b119 := gi_b (lo := 0) (hi := 6) g 73 1 rfl
  have b120 := gi_b (lo := 0) (hi := 6) g54 73 2 rfl
  have e121 : h61 73 2 = h54 73 2 := (u61 73 2 rfl)
  have b122 := gi_b (lo := 0) (hi := 6) g 73 2 rfl
  have b123 := gi_b (lo := 0) (hi := 6) g61 236 22 rfl
  have b124 := gi_b (lo := 0) (hi := 6) g 236 22 rfl
  have b125 := gi_b (lo := 0) (hi := 12) g 210 2 rfl
  have e126 : h61 210 2 = h 210 2 := ((u61 210 2 rfl).trans (u54 210 2 rfl))
  have q129 : h61 8 = h54 8 := funext (fun i => (u61 8 i (fo_no_ok (by decide) i)))
  have q130 : h61 7 = h54 7 := funext (fun i => (u61 7 i (fo_no_ok (by decide) i)))
  have q131 : h61 19 = h54 19 := funext (fun i => (u61 19 i (fo_no_ok (by decide) i)))
  have q132 : h61 67 = h54 67 := funext (fun i => (u61 67 i (fo_no_ok (by decide) i)))
  have ml128 : MCL h61 := MCL.mv y54_0.1 q129 q130 q131 q132 (by omega) (by omega) (by omega) (by omega)
  have q134 : h61 69 = h54 69 := funext (fun i => (u61 69 i (fo_no_ok (by decide) i)))
  have q135 : h61 70 = h54 70 := funext (fun i => (u61 70 i (fo_no_ok (by decide) i)))
  have nb133 : NBc (h61 69) (h61 70) := by rw [q134, q135]; exact y54_0.2.2
  have q136 : h61 8 = h54 8 := funext (fun i => (u61 8 i (fo_no_ok (by decide) i)))
  have q137 : h61 7 = h54 7 := funext (fun i => (u61 7 i (fo_no_ok (by decide) i)))
  have mi127 : MCI h61 := ⟨ml128, HIv.mv y54_0.2.1 q136 q137 (by omega) (by omega) (sv_seven (P := fun x => ∀ i, h61 (76 + 19 * x) i = h54 (76 + 19 * x) i) (fun i => (u61 76 i (fn_a (by decide) (fn_a (by decide) (fn_a (by decide) fn_0))))) (fun i => (u61 95 i (fn_a (by decide) (fn_a (by decide) (fn_a (by decide) fn_0))))) (fun i => (u61 114 i (fn_a (by decide) (fn_a (by decide) (fn_a (by decide) fn_0))))) (fun i => (u61 133 i (fn_a (by decide) (fn_a (by decide) (fn_a (by decide) fn_0))))) (fun i => (u61 152 i (fn_a (by decide) (fn_a (by decide) (fn_a (by decide) fn_0))))) (fun i => (u61 171 i (fn_a (by decide) (fn_a (by decide) (fn_a (by decide) fn_0))))) (fun i => (u61 190 i (fn_a (by decide) (fn_a (by decide) (fn_a (by decide) fn_0)))))) (by omega) (by omega), nb133⟩
  have q138 : h61 8 = h 8 := funext (fun i => ((u61 8 i (fo_no_ok (by decide) i)).trans (u54 8 i (fo_no_ok (by decide) i))))
  have q139 : h61 7 = h 7 := funext (fun i => ((u61 7 i (fo_no_ok (by decide) i)).trans (u54 7 i (fo_no_ok (by decide) i))))
  have q140 : h61 215 = h 215 := funext (fun i => ((u61 215 i (fo_no_ok (by decide) i)).trans (u54 215 i (fo_no_ok (by decide) i))))
  have q141 : h61 218 = h 218 := funext (fun i => ((u61 218 i (fo_no_ok (by decide) i)).trans (u54 218 i (fo_no_ok (by decide) i))))
  have q142 : h61 214 = h 214 := funext (fun i => ((u61 214 i (fo_no_ok (by decide) i)).trans (u54 214 i (fo_no_ok (by decide) i))))
  have q143 : h61 241 = h 241 := funext (fun i => ((u61 241 i (fo_no_ok (by decide) i)).trans (u54 241 i (fo_no_ok (by decide) i))))
  exact k h61 b c ⟨⟨g61, (show h61 1 1 = h61 236 2 by omega), y61_0, (RS.i0 (f := h61 241) (by refine ⟨?_, ?_, ?_, ?_, ?_⟩ <;> omega)), y61_5, (BRh.keep br0 (fun i => ((u61 2 i (fn_a (by decide) (fn_a (by decide) (fn_a (by decide) fn_0)))).trans (u54 2 i (fo_nk rfl)))) (fun i => ((u61 237 i (fn_a (by decide) (fn_a (by decide) (fn_a (by decide) fn_0)))).trans (u54 237 i (fo_nk rfl)))) (by omega)), (show h61 1 2 = h61 236 10 by omega), (show h61 1 3 = h61 236 11 by omega), (SVx.keep sv0 (by omega) (fun i _ => ((u61 3 i (fn_a (by decide) (fn_a (by decide) (fn_a (by decide) fn_0)))).trans (u54 3 i (fo_nk rfl)))) (fun i _ => ((u61 5 i (fn_a (by decide) (fn_a (by decide) (fn_a (by decide) fn_0)))).trans (u54 5 i (fo_nk rfl)))) (fun i _ => ((u61 6 i (fn_a (by decide) (fn_a (by decide) (fn_a (by decide) fn_0)))).trans (u54 6 i (fo_nk rfl)))) (fun i _ => ((u61 8 i (fn_a (by decide) (fn_a (by decide) (fn_a (by decide) fn_0)))).trans (u54 8 i (fo_nk rfl)))) (fun i _ => ((y61_1 i (by omega)).trans (u54 238 i (fo_nk rfl))))), (show h61 0 12 = h61 236 21 by omega), (fun e => (SVx.keep (ss0 (by omega)) (by omega) (fun i _ => ((u61 210 i (fn_a (by decide) (fn_a (by decide) (fn_a (by decide) fn_0)))).trans (u54 210 i (fo_nk rfl)))) (fun i _ => ((u61 212 i (fn_a (by decide) (fn_a (by decide) (fn_a (by decide) fn_0)))).trans (u54 212 i (fo_nk rfl)))) (fun i _ => ((u61 213 i (fn_a (by decide) (fn_a (by decide) (fn_a (by decide) fn_0)))).trans (u54 213 i (fo_nk rfl)))) (fun i _ => ((u61 215 i (fn_a (by decide) (fn_a (by decide) (fn_a (by decide) fn_0)))).trans (u54 215 i (fo_nk rfl)))) (fun i _ => ((u61 241 i (fn_a (by decide) (fn_a (by decide) (fn_a (by decide) fn_0)))).trans (u54 241 i (fo_nk rfl)))))), y61_2, mi127, (show h61 63 5 ≤ h61 18 16 by omega), (show (h61 63 5) < (h61 18 16) ∨ ((h61 18 7) ≤ (h61 3 2) ∧ (h61 66 1) = (h61 3 2) - (h61 18 7)) ∨ ((h61 3 2) < (h61 18 7) ∧ (h61 66 1) = 0) by omega), y61_3, (MR.mv mr0 (MSN.trans (MSN.then (MSN.refl) (fun i _ => (u54 238 i (fo_nk rfl)))) y61_4) (by omega) q138 q139 (by omega)), (fun e => SM.mv (sm0 (by omega)) q140 q141 q142 (by omega) q143)⟩, (by omega)⟩ (by omega) (by omega)
-- the law, case at 1472
set_option maxRecDepth 100000 in
set_option maxHeartbeats 100000000 in
theorem lc_1472 {L : Nat} {xs : Nat → Int32} {d b c : Nat} {h : hp} {cr : Nat → Nat → Option Nat} {Q : hp_Q} (hcr : CR cr) (hL : L ≤ 3072) (hr : 1 ≤ b ∧ 6 ≤ c) (i : Int) (I : LIm i h) (hi : 0 ≤ i ∧ i + 6 ≤ L) (k : ∀ (h2 : hp) (b2 c2 : Nat), LIm (i + 6) h2 → b ≤ b2 + 1 → c ≤ c2 + 6 → wp (md_xa (L, xs)) (d + 107) 0 (1501, [(0, .ref 1000000), (1, .ref 0), (2, .ref 236), (3, .ref 259), (4, vi i)], [], hp_w h2 cr, b2, c2) Q) : wp (md_xa (L, xs)) (d + 107) 0 (1472, [(0, .ref 1000000), (1, .ref 0), (2, .ref 236), (3, .ref 259), (4, vi i)], [], hp_w h cr, b, c) Q := by
  obtain ⟨⟨g, i11, r238, r241, gp0, br0, er2, er3, sv0, sf0, ss0, gs0, mi0, ml1, ml2, gq0, mr0, sm0⟩, ie0⟩ := I
  have r238e := r238.e0
  have r241e := r241.e0
  obtain ⟨⟨se0, se1, se2, se3, se4, se5, se6, se7, se8, se9⟩, -⟩ := id sv0
  have b1 := gi_b (lo := 0) (hi := 5) g 3 0 rfl
  have b2 := gi_b (lo := 0) (hi := 5) g 238 0 rfl
  have b3 := gi_b (lo := 0) (hi := 4) g 3 1 rfl
  have b4 := gi_b (lo := 0) (hi := 4) g 238 1 rfl
  have b5 := gi_b (lo := 0) (hi := 12) g 3 2 rfl
  have b6 := gi_b (lo := 0) (hi := 12) g 238 2 rfl
  have b7 := gi_b (lo := -2147483648) (hi := 2147483647) g 3 3 rfl
  have b8 := gi_b (lo := 0) (hi := 999) g 238 3 rfl
  have b9 := gi_b (lo := -2147483648) (hi := 2147483647) g 3 4 rfl
  have b10 := gi_b (lo := 0) (hi := 999) g 238 4 rfl
  have b11 := gi_b (lo := -2147483648) (hi := 2147483647) g 3 5 rfl
  have b12 := gi_b (lo := 0) (hi := 9) g 238 5 rfl
  have b13 := gi_b (lo := -2147483648) (hi := 2147483647) g 3 6 rfl
  have b14 := gi_b (lo := 0) (hi := 999) g 238 6 rfl
  have b15 := gi_b (lo := -2147483648) (hi := 2147483647) g 3 7 rfl
  have b16 := gi_b (lo := 0) (hi := 3) g 238 7 rfl
  have b17 := gi_b (lo := -2147483648) (hi := 2147483647) g 3 8 rfl
  have b18 := gi_b (lo := 0) (hi := 999) g 238 8 rfl
  have b19 := gi_b (lo := -2147483648) (hi := 2147483647) g 3 9 rfl
  have b20 := gi_b (lo := 0) (hi := 999) g 238 9 rfl
  have b21 := gi_b (lo := -2147483648) (hi := 2147483647) g 63 5 rfl
  have b22 := gi_b (lo := 0) (hi := 12) g 18 7 rfl
  have b23 := gi_b (lo := 0) (hi := 12) g 66 1 rfl
  have b24 := gi_b (lo := 0) (hi := 1) g 0 12 rfl
  have b25 := gi_b (lo := 0) (hi := 1) g 236 21 rfl
  have bl_ := gi_b (lo := 0) (hi := 800) g 1 1 rfl
  have tb0 : BufC (h 2) (h 1 1) h := ⟨fun _ => rfl, rfl, by omega, by omega⟩
  have b26 := gi_b (lo := 0) (hi := 6) g 238 98 rfl
  have b27 := gi_b (lo := 0) (hi := 6) g 238 99 rfl
  have b28 := gi_b (lo := 0) (hi := 6) g 238 100 rfl
  have b29 := gi_b (lo := 0) (hi := 6) g 238 101 rfl
  have b30 := gi_b (lo := 0) (hi := 3) g 238 102 rfl
  have b31 := gi_b (lo := 0) (hi := 12) g 238 106 rfl
  have b32 := gi_b (lo := 0) (hi := 12) g 238 73 rfl
  have b33 := gi_b (lo := 0) (hi := 9999) g 238 119 rfl
  have b34 := gi_b (lo := 0) (hi := 9999) g 238 67 rfl
  have b35 := gi_b (lo := 0) (hi := 9) g 238 69 rfl
  have b36 := gi_b (lo := 0) (hi := 6) g 241 98 rfl
  have b37 := gi_b (lo := 0) (hi := 6) g 241 99 rfl
  have b38 := gi_b (lo := 0) (hi := 6) g 241 100 rfl
  have b39 := gi_b (lo := 0) (hi := 6) g 241 101 rfl
  have b40 := gi_b (lo := 0) (hi := 3) g 241 102 rfl
  have b41 := gi_b (lo := 0) (hi := 12) g 241 106 rfl
  have b42 := gi_b (lo := 0) (hi := 12) g 241 73 rfl
  have b43 := gi_b (lo := 0) (hi := 12) g 241 2 rfl
  have b44 := gi_b (lo := 0) (hi := 9999) g 241 119 rfl
  have b45 := gi_b (lo := 0) (hi := 9999) g 241 67 rfl
  have b46 := gi_b (lo := 0) (hi := 9) g 241 69 rfl
  have b47 := gi_b (lo := 0) (hi := 9) g 241 5 rfl
  have b48 := gi_b (lo := 0) (hi := 800) g 1 1 rfl
  have b49 := gi_b (lo := 0) (hi := 800) g 236 2 rfl
  have b50 := gi_b (lo := -2147483648) (hi := 2147483647) g 1 2 rfl
  have b51 := gi_b (lo := -2147483648) (hi := 2147483647) g 236 10 rfl
  have b52 := gi_b (lo := -2147483648) (hi := 2147483647) g 1 3 rfl
  have b53 := gi_b (lo := -2147483648) (hi := 2147483647) g 236 11 rfl
  refine wi_aload_n (i := 1) (x := 0) (nx := 1473) (r1 := 0) (r2 := 0) (r3 := 0) rfl rfl ?_
  refine wr_V (k0 := 0) (rest := []) (as := [.ref 0]) (nx := 1476) (r1 := 60) (r2 := 0) (r3 := 0) rfl rfl rfl (of_decide_eq_true rfl) rfl rfl (by decide) rfl rfl (of_decide_eq_true rfl) (of_decide_eq_true rfl) ?_
  refine ct_60_0 hcr  g    (fun h54 z55 g54 u54 (fz55 : -2147483648 ≤ z55 ∧ z55 ≤ 2147483647) (p54_0 : (h54 0 12) = 1) y54_0 y54_1 y54_2 => ?_)
  have b56 := gi_b (lo := 0) (hi := 1) g54 0 12 rfl
  refine wk_i ?_
  refine wi_pop (nx := 1477) (r1 := 0) (r2 := 0) (r3 := 0) rfl rfl ?_
  refine wi_aload_n (i := 2) (x := 236) (nx := 1478) (r1 := 0) (r2 := 0) (r3 := 0) rfl rfl ?_
  refine wr_V (k0 := 236) (rest := []) (as := [.ref 236]) (nx := 1481) (r1 := 351) (r2 := 0) (r3 := 11) rfl rfl rfl (of_decide_eq_true rfl) rfl rfl (by decide) rfl rfl (of_decide_eq_true rfl) (of_decide_eq_true rfl) ?_
  have e58 : h54 238 98 = h 238 98 := (u54 238 98 rfl)
  have e59 : h54 238 99 = h 238 99 := (u54 238 99 rfl)
  have e60 : h54 238 100 = h 238 100 := (u54 238 100 rfl)
  have e61 : h54 238 101 = h 238 101 := (u54 238 101 rfl)
  have e62 : h54 238 102 = h 238 102 := (u54 238 102 rfl)
  have e63 : h54 238 106 = h 238 106 := (u54 238 106 rfl)
  have e64 : h54 238 73 = h 238 73 := (u54 238 73 rfl)
  have e65 : h54 238 2 = h 238 2 := (u54 238 2 rfl)
  have e66 : h54 238 119 = h 238 119 := (u54 238 119 rfl)
  have e67 : h54 238 67 = h 238 67 := (u54 238 67 rfl)
  have e68 : h54 238 69 = h 238 69 := (u54 238 69 rfl)
  have e69 : h54 238 5 = h 238 5 := (u54 238 5 rfl)
  refine ct_351_236 hcr  g54   (show (h54 238 98) + (h54 238 99) + (h54 238 100) + (h54 238 101) + (h54 238 102) + (h54 238 106) = (h54 238 73) by omega) (show (h54 238 73) ≤ (h54 238 2) by omega) (show (h54 238 119) ≤ (h54 238 67) by omega) (show (h54 238 69) ≤ (h54 238 5) by omega) (show (h54 238 2) ≤ 12 * (h54 238 5) by omega) (fun h57 z70 g57 u57 (fz70 : 0 ≤ z70 ∧ z70 ≤ 9999) (p57_0 : (h57 241 98) + (h57 241 99) + (h57 241 100) + (h57 241 101) + (h57 241 102) + (h57 241 106) = (h57 241 73)) (p57_1 : (h57 241 73) ≤ (h57 241 2)) (p57_2 : (h57 241 119) ≤ (h57 241 67)) (p57_3 : (h57 241 69) ≤ (h57 241 5)) (p57_4 : (h57 241 2) ≤ 12 * (h57 241 5)) (p57_5 : (h57 236 21) = 1) y57_0 => ?_)
  have e71 : h57 241 98 = h 238 98 := ((y57_0 98 (by decide)).trans (u54 238 98 rfl))
  have e72 : h57 241 99 = h 238 99 := ((y57_0 99 (by decide)).trans (u54 238 99 rfl))
  have e73 : h57 241 100 = h 238 100 := ((y57_0 100 (by decide)).trans (u54 238 100 rfl))
  have e74 : h57 241 101 = h 238 101 := ((y57_0 101 (by decide)).trans (u54 238 101 rfl))
  have e75 : h57 241 102 = h 238 102 := ((y57_0 102 (by decide)).trans (u54 238 102 rfl))
  have e76 : h57 241 106 = h 238 106 := ((y57_0 106 (by decide)).trans (u54 238 106 rfl))
  have e77 : h57 241 73 = h 238 73 := ((y57_0 73 (by decide)).trans (u54 238 73 rfl))
  have e78 : h57 241 2 = h 238 2 := ((y57_0 2 (by decide)).trans (u54 238 2 rfl))
  have e79 : h57 241 119 = h 238 119 := ((y57_0 119 (by decide)).trans (u54 238 119 rfl))
  have e80 : h57 241 67 = h 238 67 := ((y57_0 67 (by decide)).trans (u54 238 67 rfl))
  have e81 : h57 241 69 = h 238 69 := ((y57_0 69 (by decide)).trans (u54 238 69 rfl))
  have e82 : h57 241 5 = h 238 5 := ((y57_0 5 (by decide)).trans (u54 238 5 rfl))
  have b83 := gi_b (lo := 0) (hi := 1) g57 236 21 rfl
  refine wk_i ?_
  refine wi_pop (nx := 1482) (r1 := 0) (r2 := 0) (r3 := 0) rfl rfl ?_
  refine wi_goto (nx := 1485) (r1 := 1501) (r2 := 0) (r3 := 0) rfl ?_
  have e84 : h57 238 98 = h 238 98 := ((u57 238 98 rfl).trans (u54 238 98 rfl))
  have e85 : h57 238 99 = h 238 99 := ((u57 238 99 rfl).trans (u54 238 99 rfl))
  have e86 : h57 238 100 = h 238 100 := ((u57 238 100 rfl).trans (u54 238 100 rfl))
  have e87 : h57 238 101 = h 238 101 := ((u57 238 101 rfl).trans (u54 238 101 rfl))
  have e88 : h57 238 102 = h 238 102 := ((u57 238 102 rfl).trans (u54 238 102 rfl))
  have e89 : h57 238 106 = h 238 106 := ((u57 238 106 rfl).trans (u54 238 106 rfl))
  have e90 : h57 238 73 = h 238 73 := ((u57 238 73 rfl).trans (u54 238 73 rfl))
  have e91 : h57 238 2 = h 238 2 := ((u57 238 2 rfl).trans (u54 238 2 rfl))
  have e92 : h57 238 119 = h 238 119 := ((u57 238 119 rfl).trans (u54 238 119 rfl))
  have e93 : h57 238 67 = h 238 67 := ((u57 238 67 rfl).trans (u54 238 67 rfl))
  have e94 : h57 238 69 = h 238 69 := ((u57 238 69 rfl).trans (u54 238 69 rfl))
  have e95 : h57 238 5 = h 238 5 := ((u57 238 5 rfl).trans (u54 238 5 rfl))
  have e96 : h57 1 1 = h 1 1 := ((u57 1 1 rfl).trans (u54 1 1 rfl))
  have e97 : h57 236 2 = h 236 2 := ((u57 236 2 rfl).trans (u54 236 2 rfl))
  have e98 : h57 1 2 = h 1 2 := ((u57 1 2 rfl).trans (u54 1 2 rfl))
  have e99 : h57 236 10 = h 236 10 := ((u57 236 10 rfl).trans (u54 236 10 rfl))
  have e100 : h57 1 3 = h 1 3 := ((u57 1 3 rfl).trans (u54 1 3 rfl))
  have e101 : h57 236 11 = h 236 11 := ((u57 236 11 rfl).trans (u54 236 11 rfl))
  have gp102 := GPH.fr u54 rfl gp0
  have gp103 := GPH.fr u57 rfl gp102
  have b104 := gi_b (lo := 0) (hi := 5) g 241 0 rfl
  have b105 := gi_b (lo := 0) (hi := 4) g 241 1 rfl
  have gs106 := GPS.fr u54 rfl gs0
  have gs107 := GPS.fr u57 rfl gs106
  have e108 : h57 0 12 = h54 0 12 := (u57 0 12 rfl)
  have e109 : h57 63 5 = h 63 5 := ((u57 63 5 rfl).trans (u54 63 5 rfl))
  have e110 : h57 18 16 = h 18 16 := ((u57 18 16 rfl).trans (u54 18 16 rfl))
  have e111 : h57 18 7 = h 18 7 := ((u57 18 7 rfl).trans (u54 18 7 rfl))
  have e112 : h57 3 2 = h 3 2 := ((u57 3 2 rfl).trans (u54 3 2 rfl))
  have e113 : h57 66 1 = h 66 1 := ((u57 66 1 rfl).trans (u54 66 1 rfl))
  have b114 := gi_b (lo := 0) (hi := 6) g 73 1 rfl
  have e115 : h57 73 1 = h 73 1 := ((u57 73 1 rfl).trans (u54 73 1 rfl))
  have b116 := gi_b (lo := 0) (hi := 6) g 73 2 rfl
  have e117 : h57 73 2 = h 73 2 := ((u57 73 2 rfl).trans (u54 73 2 rfl))
  have b118 := gi_b (lo := 0) (hi := 6) g 236 22 rfl
  have e119 : h57 236 22 = h 236 22 := ((u57 236 22 rfl).trans (u54 236 22 rfl))
  have b120 := gi_b (lo := 0) (hi := 12) g54 210 2 rfl
  have e121 : h57 210 2 = h54 210 2 := (u57 210 2 rfl)
  have b122 := gi_b (lo := 0) (hi := 12) g 210 2 rfl
  have q125 : h57 8 = h 8 := funext (fun i => ((u57 8 i (fo_no_ok (by decide) i)).trans (u54 8 i (fo_no_ok (by decide) i))))
  have q126 : h57 7 = h 7 := funext (fun i => ((u57 7 i (fo_no_ok (by decide) i)).trans (u54 7 i (fo_no_ok (by decide) i))))
  have q127 : h57 19 = h 19 := funext (fun i => ((u57 19 i (fo_no_ok (by decide) i)).trans (u54 19 i (fo_no_ok (by decide) i))))
  have q128 : h57 67 = h 67 := funext (fun i => ((u57 67 i (fo_no_ok (by decide) i)).trans (u54 67 i (fo_no_ok (by decide) i))))
  have ml124 : MCL h57 := MCL.mv mi0.1 q125 q126 q127 q128 (by omega) (by omega) (by omega) (by omega)
  have q130 : h57 69 = h 69 := funext (fun i => ((u57 69 i (fo_no_ok (by decide) i)).trans (u54 69 i (fo_no_ok (by decide) i))))
  have q131 : h57 70 = h 70 := funext (fun i => ((u57 70 i (fo_no_ok (by decide) i)).trans (u54 70 i (fo_no_ok (by decide) i))))
  have nb129 : NBc (h57 69) (h57 70) := by rw [q130, q131]; exact mi0.2.2
  have q132 : h57 8 = h 8 := funext (fun i => ((u57 8 i (fo_no_ok (by decide) i)).trans (u54 8 i (fo_no_ok (by decide) i))))
  have q133 : h57 7 = h 7 := funext (fun i => ((u57 7 i (fo_no_ok (by decide) i)).trans (u54 7 i (fo_no_ok (by decide) i))))
  have mi123 : MCI h57 := ⟨ml124, HIv.mv mi0.2.1 q132 q133 (by omega) (by omega) (sv_seven (P := fun x => ∀ i, h57 (76 + 19 * x) i = h (76 + 19 * x) i) (fun i => ((u57 76 i (fn_a (by decide) (fn_a (by decide) (fn_a (by decide) (fn_a (by decide) fn_0))))).trans (u54 76 i (fo_nk rfl)))) (fun i => ((u57 95 i (fn_a (by decide) (fn_a (by decide) (fn_a (by decide) (fn_a (by decide) fn_0))))).trans (u54 95 i (fo_nk rfl)))) (fun i => ((u57 114 i (fn_a (by decide) (fn_a (by decide) (fn_a (by decide) (fn_a (by decide) fn_0))))).trans (u54 114 i (fo_nk rfl)))) (fun i => ((u57 133 i (fn_a (by decide) (fn_a (by decide) (fn_a (by decide) (fn_a (by decide) fn_0))))).trans (u54 133 i (fo_nk rfl)))) (fun i => ((u57 152 i (fn_a (by decide) (fn_a (by decide) (fn_a (by decide) (fn_a (by decide) fn_0))))).trans (u54 152 i (fo_nk rfl)))) (fun i => ((u57 171 i (fn_a (by decide) (fn_a (by decide) (fn_a (by decide) (fn_a (by decide) fn_0))))).trans (u54 171 i (fo_nk rfl)))) (fun i => ((u57 190 i (fn_a (by decide) (fn_a (by decide) (fn_a (by decide) (fn_a (by decide) fn_0))))).trans (u54 190 i (fo_nk rfl))))) (by omega) (by omega), nb129⟩
  have gq134 := GQS.fr u54 rfl gq0
  have gq135 := GQS.fr u57 rfl gq134
  have q136 : h57 8 = h 8 := funext (fun i => ((u57 8 i (fo_no_ok (by decide) i)).trans (u54 8 i (fo_no_ok (by decide) i))))
  have q137 : h57 7 = h 7 := funext (fun i => ((u57 7 i (fo_no_ok (by decide) i)).trans (u54 7 i (fo_no_ok (by decide) i))))
  have q138 : h57 215 = h54 215 := funext (fun i => (u57 215 i (fo_no_ok (by decide) i)))
  have q139 : h57 218 = h54 218 := funext (fun i => (u57 218 i (fo_no_ok (by decide) i)))
  have q140 : h57 214 = h54 214 := funext (fun i => (u57 214 i (fo_no_ok (by decide) i)))
  have x2141 : h57 210 2 = h 3 2 := ((u57 210 2 (fn_a (by decide) (fn_a (by decide) (fn_a (by decide) (fn_a (by decide) fn_0))))).trans (y54_0.1 2 (by decide)))
  have q142 : h 8 = h 8 := funext (fun i => rfl)
  have q143 : h 19 = h 19 := funext (fun i => rfl)
  have q144 : h 7 = h 7 := funext (fun i => rfl)
  exact k h57 b c ⟨⟨g57, (show h57 1 1 = h57 236 2 by omega), (RS.i0 (f := h57 238) (by refine ⟨?_, ?_, ?_, ?_, ?_⟩ <;> omega)), (RS.i0 (f := h57 241) (by refine ⟨?_, ?_, ?_, ?_, ?_⟩ <;> omega)), gp103, (BRh.keep br0 (fun i => ((u57 2 i (fn_a (by decide) (fn_a (by decide) (fn_a (by decide) (fn_a (by decide) fn_0))))).trans (u54 2 i (fo_nk rfl)))) (fun i => ((u57 237 i (fn_a (by decide) (fn_a (by decide) (fn_a (by decide) (fn_a (by decide) fn_0))))).trans (u54 237 i (fo_nk rfl)))) (by omega)), (show h57 1 2 = h57 236 10 by omega), (show h57 1 3 = h57 236 11 by omega), (SVx.keep sv0 (by omega) (fun i _ => ((u57 3 i (fn_a (by decide) (fn_a (by decide) (fn_a (by decide) (fn_a (by decide) fn_0))))).trans (u54 3 i (fo_nk rfl)))) (fun i _ => ((u57 5 i (fn_a (by decide) (fn_a (by decide) (fn_a (by decide) (fn_a (by decide) fn_0))))).trans (u54 5 i (fo_nk rfl)))) (fun i _ => ((u57 6 i (fn_a (by decide) (fn_a (by decide) (fn_a (by decide) (fn_a (by decide) fn_0))))).trans (u54 6 i (fo_nk rfl)))) (fun i _ => ((u57 8 i (fn_a (by decide) (fn_a (by decide) (fn_a (by decide) (fn_a (by decide) fn_0))))).trans (u54 8 i (fo_nk rfl)))) (fun i _ => ((u57 238 i (fn_a (by decide) (fn_a (by decide) (fn_a (by decide) (fn_a (by decide) fn_0))))).trans (u54 238 i (fo_nk rfl))))), (show h57 0 12 = h57 236 21 by omega), (fun _ => (SVx.keep sv0 (by omega) (fun i e => ((u57 210 i (fn_a (by decide) (fn_a (by decide) (fn_a (by decide) (fn_a (by decide) fn_0))))).trans (y54_2.1 i e))) (fun i e => ((u57 212 i (fn_a (by decide) (fn_a (by decide) (fn_a (by decide) (fn_a (by decide) fn_0))))).trans (y54_2.2.1 i e))) (fun i e => ((u57 213 i (fn_a (by decide) (fn_a (by decide) (fn_a (by decide) (fn_a (by decide) fn_0))))).trans (y54_2.2.2.1 i e))) (fun i e => ((u57 215 i (fn_a (by decide) (fn_a (by decide) (fn_a (by decide) (fn_a (by decide) fn_0))))).trans (y54_2.2.2.2 i e))) (fun i _ => ((y57_0 i (by omega)).trans (u54 238 i (fo_nk rfl)))))), gs107, mi123, (show h57 63 5 ≤ h57 18 16 by omega), (show (h57 63 5) < (h57 18 16) ∨ ((h57 18 7) ≤ (h57 3 2) ∧ (h57 66 1) = (h57 3 2) - (h57 18 7)) ∨ ((h57 3 2) < (h57 18 7) ∧ (h57 66 1) = 0) by omega), gq135, (MR.mv mr0 (MSN.then (MSN.refl) (fun i _ => ((u57 238 i (fn_a (by decide) (fn_a (by decide) (fn_a (by decide) (fn_a (by decide) fn_0))))).trans (u54 238 i (fo_nk rfl))))) (by omega) q136 q137 (by omega)), (fun _ => SM.save mi0 mr0 x2141 (by omega) (by rw [q138, q139, q140, (show h57 210 2 = h54 210 2 from (u57 210 2 rfl))]; exact y54_1 (by unfold MSL; rw [q142, q143, q144, (show h 3 2 = h 3 2 from rfl)]; exact mi0.1.1)) (fun i hi => ((u57 215 i (fn_a (by decide) (fn_a (by decide) (fn_a (by decide) (fn_a (by decide) fn_0))))).trans (y54_0.2.2.2 i hi))) (fun i hi => ((u57 214 i (fn_a (by decide) (fn_a (by decide) (fn_a (by decide) (fn_a (by decide) fn_0))))).trans (y54_2 i hi))) (fun i _ => ((y57_0 i (by omega)).trans (u54 238 i (fo_nk rfl)))))⟩, (by omega)⟩ (by omega) (by omega)
-- the law, case at 1485
set_option maxRecDepth 100000 in
set_option maxHeartbeats 100000000 in
theorem lc_1485 {L : Nat} {xs : Nat → Int32} {d b c : Nat} {h : hp} {cr : Nat → Nat → Option Nat} {Q : hp_Q} (hcr : CR cr) (hL : L ≤ 3072) (hr : 1 ≤ b ∧ 6 ≤ c) (i : Int) (I : LIm i h) (hi : 0 ≤ i ∧ i + 6 ≤ L) (k : ∀ (h2 : hp) (b2 c2 : Nat), LIm (i + 6) h2 → b ≤ b2 + 1 → c ≤ c2 + 6 → wp (md_xa (L, xs)) (d + 107) 0 (1501, [(0, .ref 1000000), (1, .ref 0), (2, .ref 236), (3, .ref 259), (4, vi i)], [], hp_w h2 cr, b2, c2) Q) : wp (md_xa (L, xs)) (d + 107) 0 (1485, [(0, .ref 1000000), (1, .ref 0), (2, .ref 236), (3, .ref 259), (4, vi i)], [], hp_w h cr, b, c) Q := by
  obtain ⟨⟨g, i11, r238, r241, gp0, br0, er2, er3, sv0, sf0, ss0, gs0, mi0, ml1, ml2, gq0, mr0, sm0⟩, ie0⟩ := I
  have r238e := r238.e0
  have r241e := r241.e0
  obtain ⟨⟨se0, se1, se2, se3, se4, se5, se6, se7, se8, se9⟩, -⟩ := id sv0
  have b1 := gi_b (lo := 0) (hi := 5) g 3 0 rfl
  have b2 := gi_b (lo := 0) (hi := 5) g 238 0 rfl
  have b3 := gi_b (lo := 0) (hi := 4) g 3 1 rfl
  have b4 := gi_b (lo := 0) (hi := 4) g 238 1 rfl
  have b5 := gi_b (lo := 0) (hi := 12) g 3 2 rfl
  have b6 := gi_b (lo := 0) (hi := 12) g 238 2 rfl
  have b7 := gi_b (lo := -2147483648) (hi := 2147483647) g 3 3 rfl
  have b8 := gi_b (lo := 0) (hi := 999) g 238 3 rfl
  have b9 := gi_b (lo := -2147483648) (hi := 2147483647) g 3 4 rfl
  have b10 := gi_b (lo := 0) (hi := 999) g 238 4 rfl
  have b11 := gi_b (lo := -2147483648) (hi := 2147483647) g 3 5 rfl
  have b12 := gi_b (lo := 0) (hi := 9) g 238 5 rfl
  have b13 := gi_b (lo := -2147483648) (hi := 2147483647) g 3 6 rfl
  have b14 := gi_b (lo := 0) (hi := 999) g 238 6 rfl
  have b15 := gi_b (lo := -2147483648) (hi := 2147483647) g 3 7 rfl
  have b16 := gi_b (lo := 0) (hi := 3) g 238 7 rfl
  have b17 := gi_b (lo := -2147483648) (hi := 2147483647) g 3 8 rfl
  have b18 := gi_b (lo := 0) (hi := 999) g 238 8 rfl
  have b19 := gi_b (lo := -2147483648) (hi := 2147483647) g 3 9 rfl
  have b20 := gi_b (lo := 0) (hi := 999) g 238 9 rfl
  have b21 := gi_b (lo := -2147483648) (hi := 2147483647) g 63 5 rfl
  have b22 := gi_b (lo := 0) (hi := 12) g 18 7 rfl
  have b23 := gi_b (lo := 0) (hi := 12) g 66 1 rfl
  have b24 := gi_b (lo := 0) (hi := 1) g 0 12 rfl
  have b25 := gi_b (lo := 0) (hi := 1) g 236 21 rfl
  have bl_ := gi_b (lo := 0) (hi := 800) g 1 1 rfl
  have tb0 : BufC (h 2) (h 1 1) h := ⟨fun _ => rfl, rfl, by omega, by omega⟩
  have b26 := gi_b (lo := 0) (hi := 6) g 238 98 rfl
  have b27 := gi_b (lo := 0) (hi := 6) g 238 99 rfl
  have b28 := gi_b (lo := 0) (hi := 6) g 238 100 rfl
  have b29 := gi_b (lo := 0) (hi := 6) g 238 101 rfl
  have b30 := gi_b (lo := 0) (hi := 3) g 238 102 rfl
  have b31 := gi_b (lo := 0) (hi := 12) g 238 106 rfl
  have b32 := gi_b (lo := 0) (hi := 12) g 238 73 rfl
  have b33 := gi_b (lo := 0) (hi := 9999) g 238 119 rfl
  have b34 := gi_b (lo := 0) (hi := 9999) g 238 67 rfl
  have b35 := gi_b (lo := 0) (hi := 9) g 238 69 rfl
  have b36 := gi_b (lo := 0) (hi := 6) g 241 98 rfl
  have b37 := gi_b (lo := 0) (hi := 6) g 241 99 rfl
  have b38 := gi_b (lo := 0) (hi := 6) g 241 100 rfl
  have b39 := gi_b (lo := 0) (hi := 6) g 241 101 rfl
  have b40 := gi_b (lo := 0) (hi := 3) g 241 102 rfl
  have b41 := gi_b (lo := 0) (hi := 12) g 241 106 rfl
  have b42 := gi_b (lo := 0) (hi := 12) g 241 73 rfl
  have b43 := gi_b (lo := 0) (hi := 12) g 241 2 rfl
  have b44 := gi_b (lo := 0) (hi := 9999) g 241 119 rfl
  have b45 := gi_b (lo := 0) (hi := 9999) g 241 67 rfl
  have b46 := gi_b (lo := 0) (hi := 9) g 241 69 rfl
  have b47 := gi_b (lo := 0) (hi := 9) g 241 5 rfl
  have b48 := gi_b (lo := 0) (hi := 800) g 1 1 rfl
  have b49 := gi_b (lo := 0) (hi := 800) g 236 2 rfl
  have b50 := gi_b (lo := -2147483648) (hi := 2147483647) g 1 2 rfl
  have b51 := gi_b (lo := -2147483648) (hi := 2147483647) g 236 10 rfl
  have b52 := gi_b (lo := -2147483648) (hi := 2147483647) g 1 3 rfl
  have b53 := gi_b (lo := -2147483648) (hi := 2147483647) g 236 11 rfl
  refine wi_aload_n (i := 1) (x := 0) (nx := 1486) (r1 := 0) (r2 := 0) (r3 := 0) rfl rfl ?_
  refine wi_aload_n (i := 3) (x := 259) (nx := 1487) (r1 := 0) (r2 := 0) (r3 := 0) rfl rfl ?_
  refine wi_S (rest := []) (as := [.ref 0, .ref 259]) (nx := 1490) (r1 := 25) (r2 := 18) (r3 := 0) rfl rfl rfl (of_decide_eq_true rfl) rfl rfl (of_decide_eq_true rfl) (of_decide_eq_true rfl) ?_
  refine wi_aload_n (i := 1) (x := 259) (nx := 1) (r1 := 0) (r2 := 0) (r3 := 0) rfl rfl ?_
  refine wi_iconst (n := 0) (nx := 2) (r1 := 0) (r2 := 0) (r3 := 0) rfl ?_
  refine wi_aload_n (i := 0) (x := 0) (nx := 3) (r1 := 0) (r2 := 0) (r3 := 0) rfl rfl ?_
  refine wr_V (k0 := 0) (rest := [vi 0, .ref 259]) (as := [.ref 0]) (nx := 6) (r1 := 89) (r2 := 0) (r3 := 0) rfl rfl rfl (of_decide_eq_true rfl) rfl rfl (by decide) rfl rfl (of_decide_eq_true rfl) (of_decide_eq_true rfl) ?_
  refine ct_89_0 hcr hr  g   (show (h 63 5) ≤ (h 18 16) by omega) (show (h 63 5) < (h 18 16) ∨ ((h 18 7) ≤ (h 3 2) ∧ (h 66 1) = (h 3 2) - (h 18 7)) ∨ ((h 3 2) < (h 18 7) ∧ (h 66 1) = 0) by omega) (show (h 18 16) ≤ 1900000000 by omega) (fun h54 z55 g54 u54 (fz55 : -2147483648 ≤ z55 ∧ z55 ≤ 2147483647) (p54_0 : (h 0 12) = 1) (p54_1 : (h54 73 2) = 0) (p54_2 : (h54 18 16) = (h 18 16) + 1) (p54_3 : (h54 63 5) = (h 63 5)) y54_0 y54_1 y54_2 => ?_) (fun h54 g54 u54 (pe54_0 : (h 0 12) = 0) (pe54_1 : (h54 18 16) = (h 18 16)) ye54_0 ye54_1 => ?_)
  ·
    have b56 := gi_b (lo := 0) (hi := 6) g54 73 2 rfl
    have b57 := gi_b (lo := -2147483648) (hi := 2147483647) g54 18 16 rfl
    have e58 : h54 63 5 = h 63 5 := (u54 63 5 rfl)
    refine wk_i ?_
    refine wi_i2l (nx := 7) (r1 := 0) (r2 := 0) (r3 := 0) rfl (by omega) ?_
    refine wr_ls (k0 := 259) (a := 0) (f := 0) (x := z55) (bl := -9223372036854775808) (bh := 9223372036854775807) (nx := 8) (r1 := 0) (r2 := 0) (r3 := 0) rfl (by decide) rfl (by omega) (by omega) (by decide) g54 rfl (by omega) (fun h59 g59 w59 u59 => ?_)
    refine wi_goto (nx := 11) (r1 := 14) (r2 := 0) (r3 := 0) rfl ?_
    refine wi_iconst (n := 0) (nx := 15) (r1 := 0) (r2 := 0) (r3 := 0) rfl ?_
    refine wi_ireturn (nx := 16) (r1 := 0) (r2 := 0) (r3 := 0) rfl rfl ?_
    refine wk_i ?_
    refine wi_istore (i := 5) (e := 0) (lo2 := [(5, vi 0), (0, .ref 1000000), (1, .ref 0), (2, .ref 236), (3, .ref 259), (4, vi i)]) (nx := 1492) (r1 := 0) (r2 := 0) (r3 := 0) rfl rfl ?_
    refine wi_aload_n (i := 2) (x := 236) (nx := 1493) (r1 := 0) (r2 := 0) (r3 := 0) rfl rfl ?_
    refine wr_V (k0 := 236) (rest := []) (as := [.ref 236]) (nx := 1496) (r1 := 352) (r2 := 0) (r3 := 11) rfl rfl rfl (of_decide_eq_true rfl) rfl rfl (by decide) rfl rfl (of_decide_eq_true rfl) (of_decide_eq_true rfl) ?_
    have e61 : h59 238 98 = h 238 98 := ((u59 238 98 rfl).trans (u54 238 98 rfl))
    have e62 : h59 238 99 = h 238 99 := ((u59 238 99 rfl).trans (u54 238 99 rfl))
    have e63 : h59 238 100 = h 238 100 := ((u59 238 100 rfl).trans (u54 238 100 rfl))
    have e64 : h59 238 101 = h 238 101 := ((u59 238 101 rfl).trans (u54 238 101 rfl))
    have e65 : h59 238 102 = h 238 102 := ((u59 238 102 rfl).trans (u54 238 102 rfl))
    have e66 : h59 238 106 = h 238 106 := ((u59 238 106 rfl).trans (u54 238 106 rfl))
    have e67 : h59 238 73 = h 238 73 := ((u59 238 73 rfl).trans (u54 238 73 rfl))
    have e68 : h59 238 2 = h 238 2 := ((u59 238 2 rfl).trans (u54 238 2 rfl))
    have e69 : h59 238 119 = h 238 119 := ((u59 238 119 rfl).trans (u54 238 119 rfl))
    have e70 : h59 238 67 = h 238 67 := ((u59 238 67 rfl).trans (u54 238 67 rfl))
    have e71 : h59 238 69 = h 238 69 := ((u59 238 69 rfl).trans (u54 238 69 rfl))
    have e72 : h59 238 5 = h 238 5 := ((u59 238 5 rfl).trans (u54 238 5 rfl))
    have e73 : h59 241 98 = h 241 98 := ((u59 241 98 rfl).trans (u54 241 98 rfl))
    have e74 : h59 241 99 = h 241 99 := ((u59 241 99 rfl).trans (u54 241 99 rfl))
    have e75 : h59 241 100 = h 241 100 := ((u59 241 100 rfl).trans (u54 241 100 rfl))
    have e76 : h59 241 101 = h 241 101 := ((u59 241 101 rfl).trans (u54 241 101 rfl))
    have e77 : h59 241 102 = h 241 102 := ((u59 241 102 rfl).trans (u54 241 102 rfl))
    have e78 : h59 241 106 = h 241 106 := ((u59 241 106 rfl).trans (u54 241 106 rfl))
    have e79 : h59 241 73 = h 241 73 := ((u59 241 73 rfl).trans (u54 241 73 rfl))
    have e80 : h59 241 2 = h 241 2 := ((u59 241 2 rfl).trans (u54 241 2 rfl))
    have e81 : h59 241 119 = h 241 119 := ((u59 241 119 rfl).trans (u54 241 119 rfl))
    have e82 : h59 241 67 = h 241 67 := ((u59 241 67 rfl).trans (u54 241 67 rfl))
    have e83 : h59 241 69 = h 241 69 := ((u59 241 69 rfl).trans (u54 241 69 rfl))
    have e84 : h59 241 5 = h 241 5 := ((u59 241 5 rfl).trans (u54 241 5 rfl))
    refine ct_352_236 hcr  g59   (show (h59 238 98) + (h59 238 99) + (h59 238 100) + (h59 238 101) + (h59 238 102) + (h59 238 106) = (h59 238 73) by omega) (show (h59 238 73) ≤ (h59 238 2) by omega) (show (h59 238 119) ≤ (h59 238 67) by omega) (show (h59 238 69) ≤ (h59 238 5) by omega) (show (h59 238 2) ≤ 12 * (h59 238 5) by omega) (show (h59 241 98) + (h59 241 99) + (h59 241 100) + (h59 241 101) + (h59 241 102) + (h59 241 106) = (h59 241 73) by omega) (show (h59 241 73) ≤ (h59 241 2) by omega) (show (h59 241 119) ≤ (h59 241 67) by omega) (show (h59 241 69) ≤ (h59 241 5) by omega) (show (h59 241 2) ≤ 12 * (h59 241 5) by omega) (fun h60 z85 g60 u60 (fz85 : 0 ≤ z85 ∧ z85 ≤ 9999) (p60_0 : ((h59 236 21) = 0 ∧ (h60 236 0) = 1 ∧ (h60 236 22) = (h59 236 22)) ∨ ((h59 236 21) = 1 ∧ (h60 236 0) = 0 ∧ (h60 236 22) = 0)) (p60_1 : (h60 238 98) + (h60 238 99) + (h60 238 100) + (h60 238 101) + (h60 238 102) + (h60 238 106) = (h60 238 73)) (p60_2 : (h60 238 73) ≤ (h60 238 2)) (p60_3 : (h60 238 119) ≤ (h60 238 67)) (p60_4 : (h60 238 69) ≤ (h60 238 5)) (p60_5 : (h60 238 2) ≤ 12 * (h60 238 5)) y60_0 y60_1 y60_2 => ?_)
    have e86 : h59 236 21 = h 236 21 := ((u59 236 21 rfl).trans (u54 236 21 rfl))
    have b87 := gi_b (lo := 0) (hi := 6) g 236 22 rfl
    have e88 : h59 236 22 = h 236 22 := ((u59 236 22 rfl).trans (u54 236 22 rfl))
    have b89 := gi_b (lo := 0) (hi := 2) g60 236 0 rfl
    have b90 := gi_b (lo := 0) (hi := 6) g60 236 22 rfl
    have b91 := gi_b (lo := 0) (hi := 6) g60 238 98 rfl
    have b92 := gi_b (lo := 0) (hi := 6) g60 238 99 rfl
    have b93 := gi_b (lo := 0) (hi := 6) g60 238 100 rfl
    have b94 := gi_b (lo := 0) (hi := 6) g60 238 101 rfl
    have b95 := gi_b (lo := 0) (hi := 3) g60 238 102 rfl
    have b96 := gi_b (lo := 0) (hi := 12) g60 238 106 rfl
    have b97 := gi_b (lo := 0) (hi := 12) g60 238 73 rfl
    have b98 := gi_b (lo := 0) (hi := 12) g60 238 2 rfl
    have b99 := gi_b (lo := 0) (hi := 9999) g60 238 119 rfl
    have b100 := gi_b (lo := 0) (hi := 9999) g60 238 67 rfl
    have b101 := gi_b (lo := 0) (hi := 9) g60 238 69 rfl
    have b102 := gi_b (lo := 0) (hi := 9) g60 238 5 rfl
    refine wk_i ?_
    rcases p60_0 with p60_0 | p60_0
    ·
      exfalso; omega
    ·
      refine wi_istore (i := 6) (e := z85) (lo2 := [(6, vi z85), (5, vi 0), (0, .ref 1000000), (1, .ref 0), (2, .ref 236), (3, .ref 259), (4, vi i)]) (nx := 1498) (r1 := 0) (r2 := 0) (r3 := 0) rfl rfl ?_
      refine wi_goto (nx := 1501) (r1 := 1501) (r2 := 0) (r3 := 0) rfl ?_
      refine wp.lo (lo := [(0, .ref 1000000), (1, .ref 0), (2, .ref 236), (3, .ref 259), (4, vi i)]) ⟨rfl, rfl, rfl, rfl, rfl, trivial⟩ rfl ?_
      have e103 : h60 241 98 = h 241 98 := ((u60 241 98 rfl).trans ((u59 241 98 rfl).trans (u54 241 98 rfl)))
      have e104 : h60 241 99 = h 241 99 := ((u60 241 99 rfl).trans ((u59 241 99 rfl).trans (u54 241 99 rfl)))
      have e105 : h60 241 100 = h 241 100 := ((u60 241 100 rfl).trans ((u59 241 100 rfl).trans (u54 241 100 rfl)))
      have e106 : h60 241 101 = h 241 101 := ((u60 241 101 rfl).trans ((u59 241 101 rfl).trans (u54 241 101 rfl)))
      have e107 : h60 241 102 = h 241 102 := ((u60 241 102 rfl).trans ((u59 241 102 rfl).trans (u54 241 102 rfl)))
      have e108 : h60 241 106 = h 241 106 := ((u60 241 106 rfl).trans ((u59 241 106 rfl).trans (u54 241 106 rfl)))
      have e109 : h60 241 73 = h 241 73 := ((u60 241 73 rfl).trans ((u59 241 73 rfl).trans (u54 241 73 rfl)))
      have e110 : h60 241 2 = h 241 2 := ((u60 241 2 rfl).trans ((u59 241 2 rfl).trans (u54 241 2 rfl)))
      have e111 : h60 241 119 = h 241 119 := ((u60 241 119 rfl).trans ((u59 241 119 rfl).trans (u54 241 119 rfl)))
      have e112 : h60 241 67 = h 241 67 := ((u60 241 67 rfl).trans ((u59 241 67 rfl).trans (u54 241 67 rfl)))
      have e113 : h60 241 69 = h 241 69 := ((u60 241 69 rfl).trans ((u59 241 69 rfl).trans (u54 241 69 rfl)))
      have e114 : h60 241 5 = h 241 5 := ((u60 241 5 rfl).trans ((u59 241 5 rfl).trans (u54 241 5 rfl)))
      have e115 : h60 1 1 = h 1 1 := ((u60 1 1 rfl).trans ((u59 1 1 rfl).trans (u54 1 1 rfl)))
      have e116 : h60 236 2 = h 236 2 := ((u60 236 2 rfl).trans ((u59 236 2 rfl).trans (u54 236 2 rfl)))
      have e117 : h60 1 2 = h 1 2 := ((u60 1 2 rfl).trans ((u59 1 2 rfl).trans (u54 1 2 rfl)))
      have e118 : h60 236 10 = h 236 10 := ((u60 236 10 rfl).trans ((u59 236 10 rfl).trans (u54 236 10 rfl)))
      have e119 : h60 1 3 = h 1 3 := ((u60 1 3 rfl).trans ((u59 1 3 rfl).trans (u54 1 3 rfl)))
      have e120 : h60 236 11 = h 236 11 := ((u60 236 11 rfl).trans ((u59 236 11 rfl).trans (u54 236 11 rfl)))
      have gp121 := GPH.fr u54 rfl gp0
      have gp122 := GPH.fr u59 rfl gp121
      have gp123 := GPH.fr u60 rfl gp122
      have b124 := gi_b (lo := 0) (hi := 5) g 241 0 rfl
      have b125 := gi_b (lo := 0) (hi := 4) g 241 1 rfl
      have e126 : h60 0 12 = h 0 12 := ((u60 0 12 rfl).trans ((u59 0 12 rfl).trans (u54 0 12 rfl)))
      have e127 : h60 236 21 = h 236 21 := ((u60 236 21 rfl).trans ((u59 236 21 rfl).trans (u54 236 21 rfl)))
      have e128 : h60 63 5 = h 63 5 := ((u60 63 5 rfl).trans ((u59 63 5 rfl).trans (u54 63 5 rfl)))
      have e129 : h60 18 16 = h54 18 16 := ((u60 18 16 rfl).trans (u59 18 16 rfl))
      have b130 := gi_b (lo := 0) (hi := 12) g54 18 7 rfl
      have e131 : h60 18 7 = h54 18 7 := ((u60 18 7 rfl).trans (u59 18 7 rfl))
      have b132 := gi_b (lo := 0) (hi := 12) g54 3 2 rfl
      have e133 : h60 3 2 = h54 3 2 := ((u60 3 2 rfl).trans (u59 3 2 rfl))
      have e134 : h60 66 1 = h 66 1 := ((u60 66 1 rfl).trans ((u59 66 1 rfl).trans (u54 66 1 rfl)))
      have b135 := gi_b (lo := 0) (hi := 6) g 73 1 rfl
      have e136 : h60 73 1 = h 73 1 := ((u60 73 1 rfl).trans ((u59 73 1 rfl).trans (u54 73 1 rfl)))
      have e137 : h60 73 2 = h54 73 2 := ((u60 73 2 rfl).trans (u59 73 2 rfl))
      have b138 := gi_b (lo := 0) (hi := 6) g 73 2 rfl
      have b139 := gi_b (lo := 0) (hi := 12) g 210 2 rfl
      have e140 : h60 210 2 = h 210 2 := ((u60 210 2 rfl).trans ((u59 210 2 rfl).trans (u54 210 2 rfl)))
      have q141 : h60 8 = h54 8 := funext (fun i => ((u60 8 i (fo_no_ok (by decide) i)).trans (u59 8 i rfl)))
      have q142 : h60 7 = h54 7 := funext (fun i => ((u60 7 i (fo_no_ok (by decide) i)).trans (u59 7 i rfl)))
      have q143 : h60 19 = h54 19 := funext (fun i => ((u60 19 i (fo_no_ok (by decide) i)).trans (u59 19 i rfl)))
      have q144 : h60 238 = h60 238 := funext (fun i => rfl)
      have e145 : h54 238 2 = h 238 2 := (u54 238 2 rfl)
      have x2147 : h60 3 2 = h 210 2 := (((u60 3 2 (fn_a (by decide) (fn_a (by decide) (fn_a (by decide) (fn_a (by decide) fn_0))))).trans (u59 3 2 (fn_a (by omega) fn_0))).trans (y54_0.1 2 (by decide)))
      have mk146 := MR.back (sm0 (by omega)) x2147 (by omega) (fun i hi => (((u60 8 i (fn_a (by decide) (fn_a (by decide) (fn_a (by decide) (fn_a (by decide) fn_0))))).trans (u59 8 i (fn_a (by omega) fn_0))).trans (y54_0.2.2.2 i hi))) (fun i hi => (((u60 7 i (fn_a (by decide) (fn_a (by decide) (fn_a (by decide) (fn_a (by decide) fn_0))))).trans (u59 7 i (fn_a (by omega) fn_0))).trans (y54_2 i hi))) (fun i hi => ((y60_0 (by omega) i hi).trans ((u59 241 i (fn_a (by omega) fn_0)).trans (u54 241 i (fo_nk rfl)))))
      have q148 : h 215 = h 215 := funext (fun i => rfl)
      have q149 : h 218 = h 218 := funext (fun i => rfl)
      have q150 : h 214 = h 214 := funext (fun i => rfl)
      have q151 : h60 69 = h 69 := funext (fun i => ((u60 69 i (fo_no_ok (by decide) i)).trans ((u59 69 i rfl).trans (u54 69 i (fo_no_ok (by decide) i)))))
      have q152 : h60 70 = h 70 := funext (fun i => ((u60 70 i (fo_no_ok (by decide) i)).trans ((u59 70 i rfl).trans (u54 70 i (fo_no_ok (by decide) i)))))
      have q153 : h60 215 = h 215 := funext (fun i => ((u60 215 i (fo_no_ok (by decide) i)).trans ((u59 215 i rfl).trans (u54 215 i (fo_no_ok (by decide) i)))))
      have q154 : h60 218 = h 218 := funext (fun i => ((u60 218 i (fo_no_ok (by decide) i)).trans ((u59 218 i rfl).trans (u54 218 i (fo_no_ok (by decide) i)))))
      have q155 : h60 214 = h 214 := funext (fun i => ((u60 214 i (fo_no_ok (by decide) i)).trans ((u59 214 i rfl).trans (u54 214 i (fo_no_ok (by decide) i)))))
      have q156 : h60 241 = h 241 := funext (fun i => ((u60 241 i (fo_no_ok (by decide) i)).trans ((u59 241 i rfl).trans (u54 241 i (fo_no_ok (by decide) i)))))
      exact k h60 b c ⟨⟨g60, (show h60 1 1 = h60 236 2 by omega), (RS.i0 (f := h60 238) (by refine ⟨?_, ?_, ?_, ?_, ?_⟩ <;> omega)), (RS.i0 (f := h60 241) (by refine ⟨?_, ?_, ?_, ?_, ?_⟩ <;> omega)), gp123, (BRh.keep br0 (fun i => ((u60 2 i (fn_a (by decide) (fn_a (by decide) (fn_a (by decide) (fn_a (by decide) fn_0))))).trans ((u59 2 i (fn_a (by omega) fn_0)).trans (u54 2 i (fo_nk rfl))))) (fun i => ((u60 237 i (fn_a (by decide) (fn_a (by decide) (fn_a (by decide) (fn_a (by decide) fn_0))))).trans ((u59 237 i (fn_a (by omega) fn_0)).trans (u54 237 i (fo_nk rfl))))) (by omega)), (show h60 1 2 = h60 236 10 by omega), (show h60 1 3 = h60 236 11 by omega), (SVx.keep (ss0 (by omega)) (by omega) (fun i e => (((u60 3 i (fn_a (by decide) (fn_a (by decide) (fn_a (by decide) (fn_a (by decide) fn_0))))).trans (u59 3 i (fn_a (by omega) fn_0))).trans (y54_2.1 i e))) (fun i e => (((u60 5 i (fn_a (by decide) (fn_a (by decide) (fn_a (by decide) (fn_a (by decide) fn_0))))).trans (u59 5 i (fn_a (by omega) fn_0))).trans (y54_2.2.1 i e))) (fun i e => (((u60 6 i (fn_a (by decide) (fn_a (by decide) (fn_a (by decide) (fn_a (by decide) fn_0))))).trans (u59 6 i (fn_a (by omega) fn_0))).trans (y54_2.2.2.1 i e))) (fun i e => (((u60 8 i (fn_a (by decide) (fn_a (by decide) (fn_a (by decide) (fn_a (by decide) fn_0))))).trans (u59 8 i (fn_a (by omega) fn_0))).trans (y54_2.2.2.2 i e))) (fun i hi => ((y60_0 (by omega) i (by omega)).trans ((u59 241 i (fn_a (by omega) fn_0)).trans (u54 241 i (fo_nk rfl)))))), (show h60 0 12 = h60 236 21 by omega), (fun e => (SVx.keep (ss0 (by omega)) (by omega) (fun i _ => ((u60 210 i (fn_a (by decide) (fn_a (by decide) (fn_a (by decide) (fn_a (by decide) fn_0))))).trans ((u59 210 i (fn_a (by omega) fn_0)).trans (u54 210 i (fo_nk rfl))))) (fun i _ => ((u60 212 i (fn_a (by decide) (fn_a (by decide) (fn_a (by decide) (fn_a (by decide) fn_0))))).trans ((u59 212 i (fn_a (by omega) fn_0)).trans (u54 212 i (fo_nk rfl))))) (fun i _ => ((u60 213 i (fn_a (by decide) (fn_a (by decide) (fn_a (by decide) (fn_a (by decide) fn_0))))).trans ((u59 213 i (fn_a (by omega) fn_0)).trans (u54 213 i (fo_nk rfl))))) (fun i _ => ((u60 215 i (fn_a (by decide) (fn_a (by decide) (fn_a (by decide) (fn_a (by decide) fn_0))))).trans ((u59 215 i (fn_a (by omega) fn_0)).trans (u54 215 i (fo_nk rfl))))) (fun i _ => ((u60 241 i (fn_a (by decide) (fn_a (by decide) (fn_a (by decide) (fn_a (by decide) fn_0))))).trans ((u59 241 i (fn_a (by omega) fn_0)).trans (u54 241 i (fo_nk rfl))))))), (GPS.zero (by omega)), ⟨⟨(MSL.mv (y54_1 (by rw [q148, q149, q150, (show h 210 2 = h 210 2 from rfl)]; exact (sm0 (by omega)).1)) (L2 := 18) q141 q142 (by omega) (by omega) (fun i _ => congrFun q143 i)), mk146.1, fun e => absurd e (by omega)⟩, HIv.zero (by omega), (by rw [q151, q152]; exact mi0.2.2)⟩, (show h60 63 5 ≤ h60 18 16 by omega), (show (h60 63 5) < (h60 18 16) ∨ ((h60 18 7) ≤ (h60 3 2) ∧ (h60 66 1) = (h60 3 2) - (h60 18 7)) ∨ ((h60 3 2) < (h60 18 7) ∧ (h60 66 1) = 0) by omega), (GQS.zero (by omega) (by omega)), mk146.2, (fun e => SM.mv (sm0 (by omega)) q153 q154 q155 (by omega) q156)⟩, (by omega)⟩ (by omega) (by omega)
  ·
    have b56 := gi_b (lo := -2147483648) (hi := 2147483647) g54 18 16 rfl
    refine wk_h 11 (by decide) rfl ?_
    refine wr_astx (i := 2) (lo2 := [(2, .retAddr 0), (0, .ref 0), (1, .ref 259)]) (nx := 12) (r1 := 0) (r2 := 0) (r3 := 0) rfl rfl ?_
    refine wi_iconst (n := 1) (nx := 13) (r1 := 0) (r2 := 0) (r3 := 0) rfl ?_
    refine wi_ireturn (nx := 14) (r1 := 0) (r2 := 0) (r3 := 0) rfl rfl ?_
    refine wk_i ?_
    refine wi_istore (i := 5) (e := 1) (lo2 := [(5, vi 1), (0, .ref 1000000), (1, .ref 0), (2, .ref 236), (3, .ref 259), (4, vi i)]) (nx := 1492) (r1 := 0) (r2 := 0) (r3 := 0) rfl rfl ?_
    refine wi_aload_n (i := 2) (x := 236) (nx := 1493) (r1 := 0) (r2 := 0) (r3 := 0) rfl rfl ?_
    refine wr_V (k0 := 236) (rest := []) (as := [.ref 236]) (nx := 1496) (r1 := 352) (r2 := 0) (r3 := 11) rfl rfl rfl (of_decide_eq_true rfl) rfl rfl (by decide) rfl rfl (of_decide_eq_true rfl) (of_decide_eq_true rfl) ?_
    have e58 : h54 238 98 = h 238 98 := (u54 238 98 rfl)
    have e59 : h54 238 99 = h 238 99 := (u54 238 99 rfl)
    have e60 : h54 238 100 = h 238 100 := (u54 238 100 rfl)
    have e61 : h54 238 101 = h 238 101 := (u54 238 101 rfl)
    have e62 : h54 238 102 = h 238 102 := (u54 238 102 rfl)
    have e63 : h54 238 106 = h 238 106 := (u54 238 106 rfl)
    have e64 : h54 238 73 = h 238 73 := (u54 238 73 rfl)
    have e65 : h54 238 2 = h 238 2 := (u54 238 2 rfl)
    have e66 : h54 238 119 = h 238 119 := (u54 238 119 rfl)
    have e67 : h54 238 67 = h 238 67 := (u54 238 67 rfl)
    have e68 : h54 238 69 = h 238 69 := (u54 238 69 rfl)
    have e69 : h54 238 5 = h 238 5 := (u54 238 5 rfl)
    have e70 : h54 241 98 = h 241 98 := (u54 241 98 rfl)
    have e71 : h54 241 99 = h 241 99 := (u54 241 99 rfl)
    have e72 : h54 241 100 = h 241 100 := (u54 241 100 rfl)
    have e73 : h54 241 101 = h 241 101 := (u54 241 101 rfl)
    have e74 : h54 241 102 = h 241 102 := (u54 241 102 rfl)
    have e75 : h54 241 106 = h 241 106 := (u54 241 106 rfl)
    have e76 : h54 241 73 = h 241 73 := (u54 241 73 rfl)
    have e77 : h54 241 2 = h 241 2 := (u54 241 2 rfl)
    have e78 : h54 241 119 = h 241 119 := (u54 241 119 rfl)
    have e79 : h54 241 67 = h 241 67 := (u54 241 67 rfl)
    have e80 : h54 241 69 = h 241 69 := (u54 241 69 rfl)
    have e81 : h54 241 5 = h 241 5 := (u54 241 5 rfl)
    refine ct_352_236 hcr  g54   (show (h54 238 98) + (h54 238 99) + (h54 238 100) + (h54 238 101) + (h54 238 102) + (h54 238 106) = (h54 238 73) by omega) (show (h54 238 73) ≤ (h54 238 2) by omega) (show (h54 238 119) ≤ (h54 238 67) by omega) (show (h54 238 69) ≤ (h54 238 5) by omega) (show (h54 238 2) ≤ 12 * (h54 238 5) by omega) (show (h54 241 98) + (h54 241 99) + (h54 241 100) + (h54 241 101) + (h54 241 102) + (h54 241 106) = (h54 241 73) by omega) (show (h54 241 73) ≤ (h54 241 2) by omega) (show (h54 241 119) ≤ (h54 241 67) by omega) (show (h54 241 69) ≤ (h54 241 5) by omega) (show (h54 241 2) ≤ 12 * (h54 241 5) by omega) (fun h57 z82 g57 u57 (fz82 : 0 ≤ z82 ∧ z82 ≤ 9999) (p57_0 : ((h54 236 21) = 0 ∧ (h57 236 0) = 1 ∧ (h57 236 22) = (h54 236 22)) ∨ ((h54 236 21) = 1 ∧ (h57 236 0) = 0 ∧ (h57 236 22) = 0)) (p57_1 : (h57 238 98) + (h57 238 99) + (h57 238 100) + (h57 238 101) + (h57 238 102) + (h57 238 106) = (h57 238 73)) (p57_2 : (h57 238 73) ≤ (h57 238 2)) (p57_3 : (h57 238 119) ≤ (h57 238 67)) (p57_4 : (h57 238 69) ≤ (h57 238 5)) (p57_5 : (h57 238 2) ≤ 12 * (h57 238 5)) y57_0 y57_1 y57_2 => ?_)
    have e83 : h54 236 21 = h 236 21 := (u54 236 21 rfl)
    have b84 := gi_b (lo := 0) (hi := 6) g 236 22 rfl
    have e85 : h54 236 22 = h 236 22 := (u54 236 22 rfl)
    have b86 := gi_b (lo := 0) (hi := 2) g57 236 0 rfl
    have b87 := gi_b (lo := 0) (hi := 6) g57 236 22 rfl
    have b88 := gi_b (lo := 0) (hi := 6) g57 238 98 rfl
    have b89 := gi_b (lo := 0) (hi := 6) g57 238 99 rfl
    have b90 := gi_b (lo := 0) (hi := 6) g57 238 100 rfl
    have b91 := gi_b (lo := 0) (hi := 6) g57 238 101 rfl
    have b92 := gi_b (lo := 0) (hi := 3) g57 238 102 rfl
    have b93 := gi_b (lo := 0) (hi := 12) g57 238 106 rfl
    have b94 := gi_b (lo := 0) (hi := 12) g57 238 73 rfl
    have b95 := gi_b (lo := 0) (hi := 12) g57 238 2 rfl
    have b96 := gi_b (lo := 0) (hi := 9999) g57 238 119 rfl
    have b97 := gi_b (lo := 0) (hi := 9999) g57 238 67 rfl
    have b98 := gi_b (lo := 0) (hi := 9) g57 238 69 rfl
    have b99 := gi_b (lo := 0) (hi := 9) g57 238 5 rfl
    refine wk_i ?_
    rcases p57_0 with p57_0 | p57_0
    ·
      refine wi_istore (i := 6) (e := z82) (lo2 := [(6, vi z82), (5, vi 1), (0, .ref 1000000), (1, .ref 0), (2, .ref 236), (3, .ref 259), (4, vi i)]) (nx := 1498) (r1 := 0) (r2 := 0) (r3 := 0) rfl rfl ?_
      refine wi_goto (nx := 1501) (r1 := 1501) (r2 := 0) (r3 := 0) rfl ?_
      refine wp.lo (lo := [(0, .ref 1000000), (1, .ref 0), (2, .ref 236), (3, .ref 259), (4, vi i)]) ⟨rfl, rfl, rfl, rfl, rfl, trivial⟩ rfl ?_
      have e100 : h57 241 98 = h 241 98 := ((u57 241 98 rfl).trans (u54 241 98 rfl))
      have e101 : h57 241 99 = h 241 99 := ((u57 241 99 rfl).trans (u54 241 99 rfl))
      have e102 : h57 241 100 = h 241 100 := ((u57 241 100 rfl).trans (u54 241 100 rfl))
      have e103 : h57 241 101 = h 241 101 := ((u57 241 101 rfl).trans (u54 241 101 rfl))
      have e104 : h57 241 102 = h 241 102 := ((u57 241 102 rfl).trans (u54 241 102 rfl))
      have e105 : h57 241 106 = h 241 106 := ((u57 241 106 rfl).trans (u54 241 106 rfl))
      have e106 : h57 241 73 = h 241 73 := ((u57 241 73 rfl).trans (u54 241 73 rfl))
      have e107 : h57 241 2 = h 241 2 := ((u57 241 2 rfl).trans (u54 241 2 rfl))
      have e108 : h57 241 119 = h 241 119 := ((u57 241 119 rfl).trans (u54 241 119 rfl))
      have e109 : h57 241 67 = h 241 67 := ((u57 241 67 rfl).trans (u54 241 67 rfl))
      have e110 : h57 241 69 = h 241 69 := ((u57 241 69 rfl).trans (u54 241 69 rfl))
      have e111 : h57 241 5 = h 241 5 := ((u57 241 5 rfl).trans (u54 241 5 rfl))
      have e112 : h57 1 1 = h 1 1 := ((u57 1 1 rfl).trans (u54 1 1 rfl))
      have e113 : h57 236 2 = h 236 2 := ((u57 236 2 rfl).trans (u54 236 2 rfl))
      have e114 : h57 1 2 = h 1 2 := ((u57 1 2 rfl).trans (u54 1 2 rfl))
      have e115 : h57 236 10 = h 236 10 := ((u57 236 10 rfl).trans (u54 236 10 rfl))
      have e116 : h57 1 3 = h 1 3 := ((u57 1 3 rfl).trans (u54 1 3 rfl))
      have e117 : h57 236 11 = h 236 11 := ((u57 236 11 rfl).trans (u54 236 11 rfl))
      have gp118 := GPH.fr u54 rfl gp0
      have gp119 := GPH.fr u57 rfl gp118
      have b120 := gi_b (lo := 0) (hi := 5) g 241 0 rfl
      have b121 := gi_b (lo := 0) (hi := 4) g 241 1 rfl
      have e122 : h57 0 12 = h 0 12 := ((u57 0 12 rfl).trans (u54 0 12 rfl))
      have e123 : h57 236 21 = h 236 21 := ((u57 236 21 rfl).trans (u54 236 21 rfl))
      have e124 : h57 63 5 = h 63 5 := ((u57 63 5 rfl).trans (u54 63 5 rfl))
      have e125 : h57 18 16 = h54 18 16 := (u57 18 16 rfl)
      have b126 := gi_b (lo := 0) (hi := 12) g54 18 7 rfl
      have e127 : h57 18 7 = h54 18 7 := (u57 18 7 rfl)
      have b128 := gi_b (lo := 0) (hi := 12) g54 3 2 rfl
      have e129 : h57 3 2 = h54 3 2 := (u57 3 2 rfl)
      have e130 : h57 66 1 = h 66 1 := ((u57 66 1 rfl).trans (u54 66 1 rfl))
      have b131 := gi_b (lo := 0) (hi := 6) g 73 1 rfl
      have e132 : h57 73 1 = h 73 1 := ((u57 73 1 rfl).trans (u54 73 1 rfl))
      have b133 := gi_b (lo := 0) (hi := 6) g54 73 2 rfl
      have e134 : h57 73 2 = h54 73 2 := (u57 73 2 rfl)
      have b135 := gi_b (lo := 0) (hi := 6) g 73 2 rfl
      have b136 := gi_b (lo := 0) (hi := 12) g 210 2 rfl
      have e137 : h57 210 2 = h 210 2 := ((u57 210 2 rfl).trans (u54 210 2 rfl))
      have e139 : h54 63 5 = h 63 5 := (u54 63 5 rfl)
      have e140 : h54 66 1 = h 66 1 := (u54 66 1 rfl)
      have q142 : h57 8 = h54 8 := funext (fun i => (u57 8 i (fo_no_ok (by decide) i)))
      have q143 : h57 7 = h54 7 := funext (fun i => (u57 7 i (fo_no_ok (by decide) i)))
      have q144 : h57 19 = h54 19 := funext (fun i => (u57 19 i (fo_no_ok (by decide) i)))
      have q145 : h57 67 = h54 67 := funext (fun i => (u57 67 i (fo_no_ok (by decide) i)))
      have ml141 : MCL h57 := MCL.mv (ye54_1 mi0).1 q142 q143 q144 q145 (by omega) (by omega) (by omega) (by omega)
      have q147 : h57 69 = h54 69 := funext (fun i => (u57 69 i (fo_no_ok (by decide) i)))
      have q148 : h57 70 = h54 70 := funext (fun i => (u57 70 i (fo_no_ok (by decide) i)))
      have nb146 : NBc (h57 69) (h57 70) := by rw [q147, q148]; exact (ye54_1 mi0).2.2
      have q149 : h57 8 = h54 8 := funext (fun i => (u57 8 i (fo_no_ok (by decide) i)))
      have q150 : h57 7 = h54 7 := funext (fun i => (u57 7 i (fo_no_ok (by decide) i)))
      have e151 : h54 73 1 = h 73 1 := (u54 73 1 rfl)
      have mi138 : MCI h57 := ⟨ml141, HIv.mv (ye54_1 mi0).2.1 q149 q150 (by omega) (by omega) (sv_seven (P := fun x => ∀ i, h57 (76 + 19 * x) i = h54 (76 + 19 * x) i) (fun i => (u57 76 i (fn_a (by decide) (fn_a (by decide) (fn_a (by decide) (fn_a (by decide) fn_0)))))) (fun i => (u57 95 i (fn_a (by decide) (fn_a (by decide) (fn_a (by decide) (fn_a (by decide) fn_0)))))) (fun i => (u57 114 i (fn_a (by decide) (fn_a (by decide) (fn_a (by decide) (fn_a (by decide) fn_0)))))) (fun i => (u57 133 i (fn_a (by decide) (fn_a (by decide) (fn_a (by decide) (fn_a (by decide) fn_0)))))) (fun i => (u57 152 i (fn_a (by decide) (fn_a (by decide) (fn_a (by decide) (fn_a (by decide) fn_0)))))) (fun i => (u57 171 i (fn_a (by decide) (fn_a (by decide) (fn_a (by decide) (fn_a (by decide) fn_0)))))) (fun i => (u57 190 i (fn_a (by decide) (fn_a (by decide) (fn_a (by decide) (fn_a (by decide) fn_0))))))) (by omega) (by omega), nb146⟩
      have q152 : h57 8 = h 8 := funext (fun i => ((u57 8 i (fo_no_ok (by decide) i)).trans (u54 8 i (fo_no_ok (by decide) i))))
      have q153 : h57 7 = h 7 := funext (fun i => ((u57 7 i (fo_no_ok (by decide) i)).trans (u54 7 i (fo_no_ok (by decide) i))))
      have q154 : h57 215 = h 215 := funext (fun i => ((u57 215 i (fo_no_ok (by decide) i)).trans (u54 215 i (fo_no_ok (by decide) i))))
      have q155 : h57 218 = h 218 := funext (fun i => ((u57 218 i (fo_no_ok (by decide) i)).trans (u54 218 i (fo_no_ok (by decide) i))))
      have q156 : h57 214 = h 214 := funext (fun i => ((u57 214 i (fo_no_ok (by decide) i)).trans (u54 214 i (fo_no_ok (by decide) i))))
      have q157 : h57 241 = h 241 := funext (fun i => ((u57 241 i (fo_no_ok (by decide) i)).trans (u54 241 i (fo_no_ok (by decide) i))))
      exact k h57 (b - 1) (c - 6) ⟨⟨g57, (show h57 1 1 = h57 236 2 by omega), (RS.i0 (f := h57 238) (by refine ⟨?_, ?_, ?_, ?_, ?_⟩ <;> omega)), (RS.i0 (f := h57 241) (by refine ⟨?_, ?_, ?_, ?_, ?_⟩ <;> omega)), gp119, (BRh.keep br0 (fun i => ((u57 2 i (fn_a (by decide) (fn_a (by decide) (fn_a (by decide) (fn_a (by decide) fn_0))))).trans (u54 2 i (fo_nk rfl)))) (fun i => ((u57 237 i (fn_a (by decide) (fn_a (by decide) (fn_a (by decide) (fn_a (by decide) fn_0))))).trans (u54 237 i (fo_nk rfl)))) (by omega)), (show h57 1 2 = h57 236 10 by omega), (show h57 1 3 = h57 236 11 by omega), (SVx.keep sv0 (by omega) (fun i _ => ((u57 3 i (fn_a (by decide) (fn_a (by decide) (fn_a (by decide) (fn_a (by decide) fn_0))))).trans (ye54_1.1 i))) (fun i _ => ((u57 5 i (fn_a (by decide) (fn_a (by decide) (fn_a (by decide) (fn_a (by decide) fn_0))))).trans (ye54_1.2.1 i))) (fun i _ => ((u57 6 i (fn_a (by decide) (fn_a (by decide) (fn_a (by decide) (fn_a (by decide) fn_0))))).trans (ye54_1.2.2.1 i))) (fun i _ => ((u57 8 i (fn_a (by decide) (fn_a (by decide) (fn_a (by decide) (fn_a (by decide) fn_0))))).trans (ye54_1.2.2.2 i))) (fun i hi => ((y57_1 (by omega) i hi).trans (u54 238 i (fo_nk rfl))))), (show h57 0 12 = h57 236 21 by omega), (fun e => (SVx.keep (ss0 (by omega)) (by omega) (fun i _ => ((u57 210 i (fn_a (by decide) (fn_a (by decide) (fn_a (by decide) (fn_a (by decide) fn_0))))).trans (u54 210 i (fo_nk rfl)))) (fun i _ => ((u57 212 i (fn_a (by decide) (fn_a (by decide) (fn_a (by decide) (fn_a (by decide) fn_0))))).trans (u54 212 i (fo_nk rfl)))) (fun i _ => ((u57 213 i (fn_a (by decide) (fn_a (by decide) (fn_a (by decide) (fn_a (by decide) fn_0))))).trans (u54 213 i (fo_nk rfl)))) (fun i _ => ((u57 215 i (fn_a (by decide) (fn_a (by decide) (fn_a (by decide) (fn_a (by decide) fn_0))))).trans (u54 215 i (fo_nk rfl)))) (fun i _ => ((u57 241 i (fn_a (by decide) (fn_a (by decide) (fn_a (by decide) (fn_a (by decide) fn_0))))).trans (u54 241 i (fo_nk rfl)))))), (GPS.back gs0 (by omega) (fun i hi => ((y57_1 (by omega) i hi).trans (u54 238 i (fo_nk rfl)))) (fun i => ((u57 242 i (fn_a (by decide) (fn_a (by decide) (fn_a (by decide) (fn_a (by decide) fn_0))))).trans (u54 242 i (fo_nk rfl))))), mi138, (show h57 63 5 ≤ h57 18 16 by omega), (show (h57 63 5) < (h57 18 16) ∨ ((h57 18 7) ≤ (h57 3 2) ∧ (h57 66 1) = (h57 3 2) - (h57 18 7)) ∨ ((h57 3 2) < (h57 18 7) ∧ (h57 66 1) = 0) by omega), (GQS.back gq0 (by omega) (MSN.same (fun i hi => ((y57_2 (by omega) i hi).trans (u54 238 i (fo_nk rfl))))) (fun i => ((u57 242 i (fn_a (by decide) (fn_a (by decide) (fn_a (by decide) (fn_a (by decide) fn_0))))).trans (u54 242 i (fo_nk rfl))))), (MR.mv mr0 (MSN.same (fun i hi => ((y57_2 (by omega) i hi).trans (u54 238 i (fo_nk rfl))))) (by omega) q152 q153 (by omega)), (fun e => SM.mv (sm0 (by omega)) q154 q155 q156 (by omega) q157)⟩, (by omega)⟩ (by omega) (by omega)
    ·
      exfalso; omega
-- the law, case at 1501
set_option maxRecDepth 100000 in
set_option maxHeartbeats 100000000 in
theorem lc_1501 {L : Nat} {xs : Nat → Int32} {d b c : Nat} {h : hp} {cr : Nat → Nat → Option Nat} {Q : hp_Q} (hcr : CR cr) (hL : L ≤ 3072) (hr : 1 ≤ b ∧ 6 ≤ c) (i : Int) (I : LIm i h) (hi : 0 ≤ i ∧ i + 6 ≤ L) (k : ∀ (h2 : hp) (b2 c2 : Nat), LIm (i + 6) h2 → b ≤ b2 + 1 → c ≤ c2 + 6 → wp (md_xa (L, xs)) (d + 107) 0 (1501, [(0, .ref 1000000), (1, .ref 0), (2, .ref 236), (3, .ref 259), (4, vi i)], [], hp_w h2 cr, b2, c2) Q) : wp (md_xa (L, xs)) (d + 107) 0 (1501, [(0, .ref 1000000), (1, .ref 0), (2, .ref 236), (3, .ref 259), (4, vi i)], [], hp_w h cr, b, c) Q := by
  obtain ⟨⟨g, i11, r238, r241, gp0, br0, er2, er3, sv0, sf0, ss0, gs0, mi0, ml1, ml2, gq0, mr0, sm0⟩, ie0⟩ := I
  have r238e := r238.e0
  have r241e := r241.e0
  obtain ⟨⟨se0, se1, se2, se3, se4, se5, se6, se7, se8, se9⟩, -⟩ := id sv0
  have b1 := gi_b (lo := 0) (hi := 5) g 3 0 rfl
  have b2 := gi_b (lo := 0) (hi := 5) g 238 0 rfl
  have b3 := gi_b (lo := 0) (hi := 4) g 3 1 rfl
  have b4 := gi_b (lo := 0) (hi := 4) g 238 1 rfl
  have b5 := gi_b (lo := 0) (hi := 12) g 3 2 rfl
  have b6 := gi_b (lo := 0) (hi := 12) g 238 2 rfl
  have b7 := gi_b (lo := -2147483648) (hi := 2147483647) g 3 3 rfl
  have b8 := gi_b (lo := 0) (hi := 999) g 238 3 rfl
  have b9 := gi_b (lo := -2147483648) (hi := 2147483647) g 3 4 rfl
  have b10 := gi_b (lo := 0) (hi := 999) g 238 4 rfl
  have b11 := gi_b (lo := -2147483648) (hi := 2147483647) g 3 5 rfl
  have b12 := gi_b (lo := 0) (hi := 9) g 238 5 rfl
  have b13 := gi_b (lo := -2147483648) (hi := 2147483647) g 3 6 rfl
  have b14 := gi_b (lo := 0) (hi := 999) g 238 6 rfl
  have b15 := gi_b (lo := -2147483648) (hi := 2147483647) g 3 7 rfl
  have b16 := gi_b (lo := 0) (hi := 3) g 238 7 rfl
  have b17 := gi_b (lo := -2147483648) (hi := 2147483647) g 3 8 rfl
  have b18 := gi_b (lo := 0) (hi := 999) g 238 8 rfl
  have b19 := gi_b (lo := -2147483648) (hi := 2147483647) g 3 9 rfl
  have b20 := gi_b (lo := 0) (hi := 999) g 238 9 rfl
  have b21 := gi_b (lo := -2147483648) (hi := 2147483647) g 63 5 rfl
  have b22 := gi_b (lo := 0) (hi := 12) g 18 7 rfl
  have b23 := gi_b (lo := 0) (hi := 12) g 66 1 rfl
  have b24 := gi_b (lo := 0) (hi := 1) g 0 12 rfl
  have b25 := gi_b (lo := 0) (hi := 1) g 236 21 rfl
  have bl_ := gi_b (lo := 0) (hi := 800) g 1 1 rfl
  have tb0 : BufC (h 2) (h 1 1) h := ⟨fun _ => rfl, rfl, by omega, by omega⟩
  have b26 := gi_b (lo := 0) (hi := 6) g 238 98 rfl
  have b27 := gi_b (lo := 0) (hi := 6) g 238 99 rfl
  have b28 := gi_b (lo := 0) (hi := 6) g 238 100 rfl
  have b29 := gi_b (lo := 0) (hi := 6) g 238 101 rfl
  have b30 := gi_b (lo := 0) (hi := 3) g 238 102 rfl
  have b31 := gi_b (lo := 0) (hi := 12) g 238 106 rfl
  have b32 := gi_b (lo := 0) (hi := 12) g 238 73 rfl
  have b33 := gi_b (lo := 0) (hi := 9999) g 238 119 rfl
  have b34 := gi_b (lo := 0) (hi := 9999) g 238 67 rfl
  have b35 := gi_b (lo := 0) (hi := 9) g 238 69 rfl
  have b36 := gi_b (lo := 0) (hi := 6) g 241 98 rfl
  have b37 := gi_b (lo := 0) (hi := 6) g 241 99 rfl
  have b38 := gi_b (lo := 0) (hi := 6) g 241 100 rfl
  have b39 := gi_b (lo := 0) (hi := 6) g 241 101 rfl
  have b40 := gi_b (lo := 0) (hi := 3) g 241 102 rfl
  have b41 := gi_b (lo := 0) (hi := 12) g 241 106 rfl
  have b42 := gi_b (lo := 0) (hi := 12) g 241 73 rfl
  have b43 := gi_b (lo := 0) (hi := 12) g 241 2 rfl
  have b44 := gi_b (lo := 0) (hi := 9999) g 241 119 rfl
  have b45 := gi_b (lo := 0) (hi := 9999) g 241 67 rfl
  have b46 := gi_b (lo := 0) (hi := 9) g 241 69 rfl
  have b47 := gi_b (lo := 0) (hi := 9) g 241 5 rfl
  have b48 := gi_b (lo := 0) (hi := 800) g 1 1 rfl
  have b49 := gi_b (lo := 0) (hi := 800) g 236 2 rfl
  have b50 := gi_b (lo := -2147483648) (hi := 2147483647) g 1 2 rfl
  have b51 := gi_b (lo := -2147483648) (hi := 2147483647) g 236 10 rfl
  have b52 := gi_b (lo := -2147483648) (hi := 2147483647) g 1 3 rfl
  have b53 := gi_b (lo := -2147483648) (hi := 2147483647) g 236 11 rfl
  have b54 := gi_b (lo := 0) (hi := 5) g 241 0 rfl
  have b55 := gi_b (lo := 0) (hi := 4) g 241 1 rfl
  have b56 := gi_b (lo := 0) (hi := 6) g 73 1 rfl
  have b57 := gi_b (lo := 0) (hi := 6) g 73 2 rfl
  have b58 := gi_b (lo := 0) (hi := 6) g 236 22 rfl
  have b59 := gi_b (lo := 0) (hi := 12) g 210 2 rfl
  have q60 : h 8 = h 8 := funext (fun i => rfl)
  have q61 : h 7 = h 7 := funext (fun i => rfl)
  have q62 : h 215 = h 215 := funext (fun i => rfl)
  have q63 : h 218 = h 218 := funext (fun i => rfl)
  have q64 : h 214 = h 214 := funext (fun i => rfl)
  have q65 : h 241 = h 241 := funext (fun i => rfl)
  exact k h b c ⟨⟨g, (show h 1 1 = h 236 2 by omega), (RS.i0 (f := h 238) (by refine ⟨?_, ?_, ?_, ?_, ?_⟩ <;> omega)), (RS.i0 (f := h 241) (by refine ⟨?_, ?_, ?_, ?_, ?_⟩ <;> omega)), gp0, (BRh.keep br0 (fun i => rfl) (fun i => rfl) (by omega)), (show h 1 2 = h 236 10 by omega), (show h 1 3 = h 236 11 by omega), (SVx.keep sv0 (by omega) (fun i _ => rfl) (fun i _ => rfl) (fun i _ => rfl) (fun i _ => rfl) (fun i _ => rfl)), (show h 0 12 = h 236 21 by omega), (fun e => (SVx.keep (ss0 (by omega)) (by omega) (fun i _ => rfl) (fun i _ => rfl) (fun i _ => rfl) (fun i _ => rfl) (fun i _ => rfl))), gs0, mi0, (show h 63 5 ≤ h 18 16 by omega), (show (h 63 5) < (h 18 16) ∨ ((h 18 7) ≤ (h 3 2) ∧ (h 66 1) = (h 3 2) - (h 18 7)) ∨ ((h 3 2) < (h 18 7) ∧ (h 66 1) = 0) by omega), gq0, (MR.mv mr0 (MSN.refl) (by omega) q60 q61 (by omega)), (fun e => SM.mv (sm0 (by omega)) q62 q63 q64 (by omega) q65)⟩, (by omega)⟩ (by omega) (by omega)
set_option maxRecDepth 100000 in
set_option maxHeartbeats 100000000 in
theorem lc_loop {L : Nat} {xs : Nat → Int32} {d : Nat} {cr : Nat → Nat → Option Nat} {Q : hp_Q} (hcr : CR cr) (hL : L ≤ 3072) (hQ : ∀ W b c, Q (.inl (some (vi 1))) W b c) (h : hp) (b c : Nat) (I : LIm 0 h) (hb : 3072 ≤ b) (hc : 6 * 3072 ≤ c) : wp (md_xa (L, xs)) (d + 107) 0 (23, [(0, .ref 1000000), (1, .ref 0), (2, .ref 236), (3, .ref 259), (4, vi 0)], [], hp_w h cr, b, c) Q := by
  refine wl_law (F := fun i W b c => (23, [(0, .ref 1000000), (1, .ref 0), (2, .ref 236), (3, .ref 259), (4, vi i)], [], W, b, c)) ?_ h b c I hb hc
  intro i h b c I h0 h1 hb hc k
  have hr : i + 6 ≤ L → 1 ≤ b ∧ 6 ≤ c := fun e => by omega
  refine wi_iload (i := 4) (e := i) (nx := 25) (r1 := 0) (r2 := 0) (r3 := 0) rfl rfl ?_
  refine wi_aload_n (i := 0) (x := 1000000) (nx := 26) (r1 := 0) (r2 := 0) (r3 := 0) rfl rfl ?_
  refine wr_xl (k0 := 1000000) (e := (L : Int)) (nx := 27) (r1 := 0) (r2 := 0) (r3 := 0) rfl (by decide) rfl rfl ?_
  refine wi_bipush (n := 6) (nx := 29) (r1 := 0) (r2 := 0) (r3 := 0) rfl (by decide) ?_
  refine wr_sub (nx := 30) (r1 := 0) (r2 := 0) (r3 := 0) rfl (fun e1 (fe1 : e1 = ((L : Int)) - 6) => ?_)
  refine wi_icmp (cd := .gt) (nx := 33) (r1 := 1507) (r2 := 0) (r3 := 0) rfl (by omega) (by omega) (fun (q2 : e1 < i) => ?_) (fun (q2 : ¬ (e1 < i)) => ?_)
  ·
    refine wi_iconst (n := 1) (nx := 1508) (r1 := 0) (r2 := 0) (r3 := 0) rfl ?_
    refine wi_zreturn (nx := 1509) (r1 := 0) (r2 := 0) (r3 := 0) rfl rfl (by omega) ?_
    exact hQ _ _ _
  ·
    refine wi_aload_n (i := 0) (x := 1000000) (nx := 34) (r1 := 0) (r2 := 0) (r3 := 0) rfl rfl ?_
    refine wi_iload (i := 4) (e := i) (nx := 36) (r1 := 0) (r2 := 0) (r3 := 0) rfl rfl ?_
    obtain ⟨i3, ei3⟩ : ∃ q : Nat, i = (q : Int) := ⟨(i).toNat, by omega⟩
    have s4 := sc_b (xs i3)
    refine wr_sc (a := i) (f := i3) (nx := 37) (r1 := 0) (r2 := 0) (r3 := 0) rfl (by omega) (by omega) hL ?_
    refine wi_bipush (n := 63) (nx := 39) (r1 := 0) (r2 := 0) (r3 := 0) rfl (by decide) ?_
    refine wi_iandm (m := 63) (nx := 40) (r1 := 0) (r2 := 0) (r3 := 0) rfl (by decide) (by decide) (fun e5 (fe5 : 0 ≤ e5 ∧ e5 ≤ 63) => ?_)
    rcases (show e5 = 0 ∨ e5 = 1 ∨ e5 = 2 ∨ e5 = 3 ∨ e5 = 4 ∨ e5 = 5 ∨ e5 = 6 ∨ e5 = 7 ∨ e5 = 8 ∨ e5 = 9 ∨ e5 = 10 ∨ e5 = 11 ∨ e5 = 12 ∨ e5 = 13 ∨ e5 = 14 ∨ e5 = 15 ∨ e5 = 16 ∨ e5 = 17 ∨ e5 = 18 ∨ e5 = 19 ∨ e5 = 20 ∨ e5 = 21 ∨ e5 = 22 ∨ e5 = 23 ∨ e5 = 24 ∨ e5 = 25 ∨ e5 = 26 ∨ e5 = 27 ∨ e5 = 28 ∨ e5 = 29 ∨ e5 = 30 ∨ e5 = 31 ∨ e5 = 32 ∨ e5 = 33 ∨ e5 = 34 ∨ e5 = 35 ∨ e5 = 36 ∨ e5 = 37 ∨ e5 = 38 ∨ e5 = 39 ∨ e5 = 40 ∨ e5 = 41 ∨ e5 = 42 ∨ e5 = 43 ∨ e5 = 44 ∨ e5 = 45 ∨ e5 = 46 ∨ e5 = 47 ∨ e5 = 48 ∨ e5 = 49 ∨ e5 = 50 ∨ e5 = 51 ∨ e5 = 52 ∨ e5 = 53 ∨ e5 = 54 ∨ e5 = 55 ∨ e5 = 56 ∨ e5 = 57 ∨ (e5 ≠ 0 ∧ e5 ≠ 1 ∧ e5 ≠ 2 ∧ e5 ≠ 3 ∧ e5 ≠ 4 ∧ e5 ≠ 5 ∧ e5 ≠ 6 ∧ e5 ≠ 7 ∧ e5 ≠ 8 ∧ e5 ≠ 9 ∧ e5 ≠ 10 ∧ e5 ≠ 11 ∧ e5 ≠ 12 ∧ e5 ≠ 13 ∧ e5 ≠ 14 ∧ e5 ≠ 15 ∧ e5 ≠ 16 ∧ e5 ≠ 17 ∧ e5 ≠ 18 ∧ e5 ≠ 19 ∧ e5 ≠ 20 ∧ e5 ≠ 21 ∧ e5 ≠ 22 ∧ e5 ≠ 23 ∧ e5 ≠ 24 ∧ e5 ≠ 25 ∧ e5 ≠ 26 ∧ e5 ≠ 27 ∧ e5 ≠ 28 ∧ e5 ≠ 29 ∧ e5 ≠ 30 ∧ e5 ≠ 31 ∧ e5 ≠ 32 ∧ e5 ≠ 33 ∧ e5 ≠ 34 ∧ e5 ≠ 35 ∧ e5 ≠ 36 ∧ e5 ≠ 37 ∧ e5 ≠ 38 ∧ e5 ≠ 39 ∧ e5 ≠ 40 ∧ e5 ≠ 41 ∧ e5 ≠ 42 ∧ e5 ≠ 43 ∧ e5 ≠ 44 ∧ e5 ≠ 45 ∧ e5 ≠ 46 ∧ e5 ≠ 47 ∧ e5 ≠ 48 ∧ e5 ≠ 49 ∧ e5 ≠ 50 ∧ e5 ≠ 51 ∧ e5 ≠ 52 ∧ e5 ≠ 53 ∧ e5 ≠ 54 ∧ e5 ≠ 55 ∧ e5 ≠ 56 ∧ e5 ≠ 57) by omega) with q6 | q6 | q6 | q6 | q6 | q6 | q6 | q6 | q6 | q6 | q6 | q6 | q6 | q6 | q6 | q6 | q6 | q6 | q6 | q6 | q6 | q6 | q6 | q6 | q6 | q6 | q6 | q6 | q6 | q6 | q6 | q6 | q6 | q6 | q6 | q6 | q6 | q6 | q6 | q6 | q6 | q6 | q6 | q6 | q6 | q6 | q6 | q6 | q6 | q6 | q6 | q6 | q6 | q6 | q6 | q6 | q6 | q6 | q6
    ·
      refine wr_tsw 288 (nx := 248) (r1 := 0) (r2 := 0) (r3 := 0) rfl (by rw [q6]; rfl) ?_
      refine lc_288 hcr hL (hr (by omega)) i I (by omega) (fun h2 b2 c2 I2 hb2 hc2 => ?_)
      refine wr_iinc (i := 4) (n := 6) (v := i) (fun e => [(4, vi e), (0, .ref 1000000), (1, .ref 0), (2, .ref 236), (3, .ref 259)]) (nx := 1504) (r1 := 0) (r2 := 0) (r3 := 0) rfl rfl (fun _ => rfl) (fun e fe => ?_)
      refine wi_goto (nx := 1507) (r1 := 23) (r2 := 0) (r3 := 0) rfl ?_
      refine wp.lo (lo := [(0, .ref 1000000), (1, .ref 0), (2, .ref 236), (3, .ref 259), (4, vi e)]) ⟨rfl, rfl, rfl, rfl, rfl, trivial⟩ rfl ?_
      rw [fe]
      exact k h2 b2 c2 I2 (by omega) hb2 hc2
    ·
      refine wr_tsw 364 (nx := 248) (r1 := 0) (r2 := 0) (r3 := 0) rfl (by rw [q6]; rfl) ?_
      refine lc_364 hcr hL (hr (by omega)) i I (by omega) (fun h2 b2 c2 I2 hb2 hc2 => ?_)
      refine wr_iinc (i := 4) (n := 6) (v := i) (fun e => [(4, vi e), (0, .ref 1000000), (1, .ref 0), (2, .ref 236), (3, .ref 259)]) (nx := 1504) (r1 := 0) (r2 := 0) (r3 := 0) rfl rfl (fun _ => rfl) (fun e fe => ?_)
      refine wi_goto (nx := 1507) (r1 := 23) (r2 := 0) (r3 := 0) rfl ?_
      refine wp.lo (lo := [(0, .ref 1000000), (1, .ref 0), (2, .ref 236), (3, .ref 259), (4, vi e)]) ⟨rfl, rfl, rfl, rfl, rfl, trivial⟩ rfl ?_
      rw [fe]
      exact k h2 b2 c2 I2 (by omega) hb2 hc2
    ·
      refine wr_tsw 392 (nx := 248) (r1 := 0) (r2 := 0) (r3 := 0) rfl (by rw [q6]; rfl) ?_
      refine lc_392 hcr hL (hr (by omega)) i I (by omega) (fun h2 b2 c2 I2 hb2 hc2 => ?_)
      refine wr_iinc (i := 4) (n := 6) (v := i) (fun e => [(4, vi e), (0, .ref 1000000), (1, .ref 0), (2, .ref 236), (3, .ref 259)]) (nx := 1504) (r1 := 0) (r2 := 0) (r3 := 0) rfl rfl (fun _ => rfl) (fun e fe => ?_)
      refine wi_goto (nx := 1507) (r1 := 23) (r2 := 0) (r3 := 0) rfl ?_
      refine wp.lo (lo := [(0, .ref 1000000), (1, .ref 0), (2, .ref 236), (3, .ref 259), (4, vi e)]) ⟨rfl, rfl, rfl, rfl, rfl, trivial⟩ rfl ?_
      rw [fe]
      exact k h2 b2 c2 I2 (by omega) hb2 hc2
    ·
      refine wr_tsw 408 (nx := 248) (r1 := 0) (r2 := 0) (r3 := 0) rfl (by rw [q6]; rfl) ?_
      refine lc_408 hcr hL (hr (by omega)) i I (by omega) (fun h2 b2 c2 I2 hb2 hc2 => ?_)
      refine wr_iinc (i := 4) (n := 6) (v := i) (fun e => [(4, vi e), (0, .ref 1000000), (1, .ref 0), (2, .ref 236), (3, .ref 259)]) (nx := 1504) (r1 := 0) (r2 := 0) (r3 := 0) rfl rfl (fun _ => rfl) (fun e fe => ?_)
      refine wi_goto (nx := 1507) (r1 := 23) (r2 := 0) (r3 := 0) rfl ?_
      refine wp.lo (lo := [(0, .ref 1000000), (1, .ref 0), (2, .ref 236), (3, .ref 259), (4, vi e)]) ⟨rfl, rfl, rfl, rfl, rfl, trivial⟩ rfl ?_
      rw [fe]
      exact k h2 b2 c2 I2 (by omega) hb2 hc2
    ·
      refine wr_tsw 424 (nx := 248) (r1 := 0) (r2 := 0) (r3 := 0) rfl (by rw [q6]; rfl) ?_
      refine lc_424 hcr hL (hr (by omega)) i I (by omega) (fun h2 b2 c2 I2 hb2 hc2 => ?_)
      refine wr_iinc (i := 4) (n := 6) (v := i) (fun e => [(4, vi e), (0, .ref 1000000), (1, .ref 0), (2, .ref 236), (3, .ref 259)]) (nx := 1504) (r1 := 0) (r2 := 0) (r3 := 0) rfl rfl (fun _ => rfl) (fun e fe => ?_)
      refine wi_goto (nx := 1507) (r1 := 23) (r2 := 0) (r3 := 0) rfl ?_
      refine wp.lo (lo := [(0, .ref 1000000), (1, .ref 0), (2, .ref 236), (3, .ref 259), (4, vi e)]) ⟨rfl, rfl, rfl, rfl, rfl, trivial⟩ rfl ?_
      rw [fe]
      exact k h2 b2 c2 I2 (by omega) hb2 hc2
    ·
      refine wr_tsw 437 (nx := 248) (r1 := 0) (r2 := 0) (r3 := 0) rfl (by rw [q6]; rfl) ?_
      refine lc_437 hcr hL (hr (by omega)) i I (by omega) (fun h2 b2 c2 I2 hb2 hc2 => ?_)
      refine wr_iinc (i := 4) (n := 6) (v := i) (fun e => [(4, vi e), (0, .ref 1000000), (1, .ref 0), (2, .ref 236), (3, .ref 259)]) (nx := 1504) (r1 := 0) (r2 := 0) (r3 := 0) rfl rfl (fun _ => rfl) (fun e fe => ?_)
      refine wi_goto (nx := 1507) (r1 := 23) (r2 := 0) (r3 := 0) rfl ?_
      refine wp.lo (lo := [(0, .ref 1000000), (1, .ref 0), (2, .ref 236), (3, .ref 259), (4, vi e)]) ⟨rfl, rfl, rfl, rfl, rfl, trivial⟩ rfl ?_
      rw [fe]
      exact k h2 b2 c2 I2 (by omega) hb2 hc2
    ·
      refine wr_tsw 450 (nx := 248) (r1 := 0) (r2 := 0) (r3 := 0) rfl (by rw [q6]; rfl) ?_
      refine lc_450 hcr hL (hr (by omega)) i I (by omega) (fun h2 b2 c2 I2 hb2 hc2 => ?_)
      refine wr_iinc (i := 4) (n := 6) (v := i) (fun e => [(4, vi e), (0, .ref 1000000), (1, .ref 0), (2, .ref 236), (3, .ref 259)]) (nx := 1504) (r1 := 0) (r2 := 0) (r3 := 0) rfl rfl (fun _ => rfl) (fun e fe => ?_)
      refine wi_goto (nx := 1507) (r1 := 23) (r2 := 0) (r3 := 0) rfl ?_
      refine wp.lo (lo := [(0, .ref 1000000), (1, .ref 0), (2, .ref 236), (3, .ref 259), (4, vi e)]) ⟨rfl, rfl, rfl, rfl, rfl, trivial⟩ rfl ?_
      rw [fe]
      exact k h2 b2 c2 I2 (by omega) hb2 hc2
    ·
      refine wr_tsw 478 (nx := 248) (r1 := 0) (r2 := 0) (r3 := 0) rfl (by rw [q6]; rfl) ?_
      refine lc_478 hcr hL (hr (by omega)) i I (by omega) (fun h2 b2 c2 I2 hb2 hc2 => ?_)
      refine wr_iinc (i := 4) (n := 6) (v := i) (fun e => [(4, vi e), (0, .ref 1000000), (1, .ref 0), (2, .ref 236), (3, .ref 259)]) (nx := 1504) (r1 := 0) (r2 := 0) (r3 := 0) rfl rfl (fun _ => rfl) (fun e fe => ?_)
      refine wi_goto (nx := 1507) (r1 := 23) (r2 := 0) (r3 := 0) rfl ?_
      refine wp.lo (lo := [(0, .ref 1000000), (1, .ref 0), (2, .ref 236), (3, .ref 259), (4, vi e)]) ⟨rfl, rfl, rfl, rfl, rfl, trivial⟩ rfl ?_
      rw [fe]
      exact k h2 b2 c2 I2 (by omega) hb2 hc2
    ·
      refine wr_tsw 506 (nx := 248) (r1 := 0) (r2 := 0) (r3 := 0) rfl (by rw [q6]; rfl) ?_
      refine lc_506 hcr hL (hr (by omega)) i I (by omega) (fun h2 b2 c2 I2 hb2 hc2 => ?_)
      refine wr_iinc (i := 4) (n := 6) (v := i) (fun e => [(4, vi e), (0, .ref 1000000), (1, .ref 0), (2, .ref 236), (3, .ref 259)]) (nx := 1504) (r1 := 0) (r2 := 0) (r3 := 0) rfl rfl (fun _ => rfl) (fun e fe => ?_)
      refine wi_goto (nx := 1507) (r1 := 23) (r2 := 0) (r3 := 0) rfl ?_
      refine wp.lo (lo := [(0, .ref 1000000), (1, .ref 0), (2, .ref 236), (3, .ref 259), (4, vi e)]) ⟨rfl, rfl, rfl, rfl, rfl, trivial⟩ rfl ?_
      rw [fe]
      exact k h2 b2 c2 I2 (by omega) hb2 hc2
    ·
      refine wr_tsw 534 (nx := 248) (r1 := 0) (r2 := 0) (r3 := 0) rfl (by rw [q6]; rfl) ?_
      refine lc_534 hcr hL (hr (by omega)) i I (by omega) (fun h2 b2 c2 I2 hb2 hc2 => ?_)
      refine wr_iinc (i := 4) (n := 6) (v := i) (fun e => [(4, vi e), (0, .ref 1000000), (1, .ref 0), (2, .ref 236), (3, .ref 259)]) (nx := 1504) (r1 := 0) (r2 := 0) (r3 := 0) rfl rfl (fun _ => rfl) (fun e fe => ?_)
      refine wi_goto (nx := 1507) (r1 := 23) (r2 := 0) (r3 := 0) rfl ?_
      refine wp.lo (lo := [(0, .ref 1000000), (1, .ref 0), (2, .ref 236), (3, .ref 259), (4, vi e)]) ⟨rfl, rfl, rfl, rfl, rfl, trivial⟩ rfl ?_
      rw [fe]
      exact k h2 b2 c2 I2 (by omega) hb2 hc2
    ·
      refine wr_tsw 562 (nx := 248) (r1 := 0) (r2 := 0) (r3 := 0) rfl (by rw [q6]; rfl) ?_
      refine lc_562 hcr hL (hr (by omega)) i I (by omega) (fun h2 b2 c2 I2 hb2 hc2 => ?_)
      refine wr_iinc (i := 4) (n := 6) (v := i) (fun e => [(4, vi e), (0, .ref 1000000), (1, .ref 0), (2, .ref 236), (3, .ref 259)]) (nx := 1504) (r1 := 0) (r2 := 0) (r3 := 0) rfl rfl (fun _ => rfl) (fun e fe => ?_)
      refine wi_goto (nx := 1507) (r1 := 23) (r2 := 0) (r3 := 0) rfl ?_
      refine wp.lo (lo := [(0, .ref 1000000), (1, .ref 0), (2, .ref 236), (3, .ref 259), (4, vi e)]) ⟨rfl, rfl, rfl, rfl, rfl, trivial⟩ rfl ?_
      rw [fe]
      exact k h2 b2 c2 I2 (by omega) hb2 hc2
    ·
      refine wr_tsw 590 (nx := 248) (r1 := 0) (r2 := 0) (r3 := 0) rfl (by rw [q6]; rfl) ?_
      refine lc_590 hcr hL (hr (by omega)) i I (by omega) (fun h2 b2 c2 I2 hb2 hc2 => ?_)
      refine wr_iinc (i := 4) (n := 6) (v := i) (fun e => [(4, vi e), (0, .ref 1000000), (1, .ref 0), (2, .ref 236), (3, .ref 259)]) (nx := 1504) (r1 := 0) (r2 := 0) (r3 := 0) rfl rfl (fun _ => rfl) (fun e fe => ?_)
      refine wi_goto (nx := 1507) (r1 := 23) (r2 := 0) (r3 := 0) rfl ?_
      refine wp.lo (lo := [(0, .ref 1000000), (1, .ref 0), (2, .ref 236), (3, .ref 259), (4, vi e)]) ⟨rfl, rfl, rfl, rfl, rfl, trivial⟩ rfl ?_
      rw [fe]
      exact k h2 b2 c2 I2 (by omega) hb2 hc2
    ·
      refine wr_tsw 618 (nx := 248) (r1 := 0) (r2 := 0) (r3 := 0) rfl (by rw [q6]; rfl) ?_
      refine lc_618 hcr hL (hr (by omega)) i I (by omega) (fun h2 b2 c2 I2 hb2 hc2 => ?_)
      refine wr_iinc (i := 4) (n := 6) (v := i) (fun e => [(4, vi e), (0, .ref 1000000), (1, .ref 0), (2, .ref 236), (3, .ref 259)]) (nx := 1504) (r1 := 0) (r2 := 0) (r3 := 0) rfl rfl (fun _ => rfl) (fun e fe => ?_)
      refine wi_goto (nx := 1507) (r1 := 23) (r2 := 0) (r3 := 0) rfl ?_
      refine wp.lo (lo := [(0, .ref 1000000), (1, .ref 0), (2, .ref 236), (3, .ref 259), (4, vi e)]) ⟨rfl, rfl, rfl, rfl, rfl, trivial⟩ rfl ?_
      rw [fe]
      exact k h2 b2 c2 I2 (by omega) hb2 hc2
    ·
      refine wr_tsw 631 (nx := 248) (r1 := 0) (r2 := 0) (r3 := 0) rfl (by rw [q6]; rfl) ?_
      refine lc_631 hcr hL (hr (by omega)) i I (by omega) (fun h2 b2 c2 I2 hb2 hc2 => ?_)
      refine wr_iinc (i := 4) (n := 6) (v := i) (fun e => [(4, vi e), (0, .ref 1000000), (1, .ref 0), (2, .ref 236), (3, .ref 259)]) (nx := 1504) (r1 := 0) (r2 := 0) (r3 := 0) rfl rfl (fun _ => rfl) (fun e fe => ?_)
      refine wi_goto (nx := 1507) (r1 := 23) (r2 := 0) (r3 := 0) rfl ?_
      refine wp.lo (lo := [(0, .ref 1000000), (1, .ref 0), (2, .ref 236), (3, .ref 259), (4, vi e)]) ⟨rfl, rfl, rfl, rfl, rfl, trivial⟩ rfl ?_
      rw [fe]
      exact k h2 b2 c2 I2 (by omega) hb2 hc2
    ·
      refine wr_tsw 644 (nx := 248) (r1 := 0) (r2 := 0) (r3 := 0) rfl (by rw [q6]; rfl) ?_
      refine lc_644 hcr hL (hr (by omega)) i I (by omega) (fun h2 b2 c2 I2 hb2 hc2 => ?_)
      refine wr_iinc (i := 4) (n := 6) (v := i) (fun e => [(4, vi e), (0, .ref 1000000), (1, .ref 0), (2, .ref 236), (3, .ref 259)]) (nx := 1504) (r1 := 0) (r2 := 0) (r3 := 0) rfl rfl (fun _ => rfl) (fun e fe => ?_)
      refine wi_goto (nx := 1507) (r1 := 23) (r2 := 0) (r3 := 0) rfl ?_
      refine wp.lo (lo := [(0, .ref 1000000), (1, .ref 0), (2, .ref 236), (3, .ref 259), (4, vi e)]) ⟨rfl, rfl, rfl, rfl, rfl, trivial⟩ rfl ?_
      rw [fe]
      exact k h2 b2 c2 I2 (by omega) hb2 hc2
    ·
      refine wr_tsw 672 (nx := 248) (r1 := 0) (r2 := 0) (r3 := 0) rfl (by rw [q6]; rfl) ?_
      refine lc_672 hcr hL (hr (by omega)) i I (by omega) (fun h2 b2 c2 I2 hb2 hc2 => ?_)
      refine wr_iinc (i := 4) (n := 6) (v := i) (fun e => [(4, vi e), (0, .ref 1000000), (1, .ref 0), (2, .ref 236), (3, .ref 259)]) (nx := 1504) (r1 := 0) (r2 := 0) (r3 := 0) rfl rfl (fun _ => rfl) (fun e fe => ?_)
      refine wi_goto (nx := 1507) (r1 := 23) (r2 := 0) (r3 := 0) rfl ?_
      refine wp.lo (lo := [(0, .ref 1000000), (1, .ref 0), (2, .ref 236), (3, .ref 259), (4, vi e)]) ⟨rfl, rfl, rfl, rfl, rfl, trivial⟩ rfl ?_
      rw [fe]
      exact k h2 b2 c2 I2 (by omega) hb2 hc2
    ·
      refine wr_tsw 685 (nx := 248) (r1 := 0) (r2 := 0) (r3 := 0) rfl (by rw [q6]; rfl) ?_
      refine lc_685 hcr hL (hr (by omega)) i I (by omega) (fun h2 b2 c2 I2 hb2 hc2 => ?_)
      refine wr_iinc (i := 4) (n := 6) (v := i) (fun e => [(4, vi e), (0, .ref 1000000), (1, .ref 0), (2, .ref 236), (3, .ref 259)]) (nx := 1504) (r1 := 0) (r2 := 0) (r3 := 0) rfl rfl (fun _ => rfl) (fun e fe => ?_)
      refine wi_goto (nx := 1507) (r1 := 23) (r2 := 0) (r3 := 0) rfl ?_
      refine wp.lo (lo := [(0, .ref 1000000), (1, .ref 0), (2, .ref 236), (3, .ref 259), (4, vi e)]) ⟨rfl, rfl, rfl, rfl, rfl, trivial⟩ rfl ?_
      rw [fe]
      exact k h2 b2 c2 I2 (by omega) hb2 hc2
    ·
      refine wr_tsw 713 (nx := 248) (r1 := 0) (r2 := 0) (r3 := 0) rfl (by rw [q6]; rfl) ?_
      refine lc_713 hcr hL (hr (by omega)) i I (by omega) (fun h2 b2 c2 I2 hb2 hc2 => ?_)
      refine wr_iinc (i := 4) (n := 6) (v := i) (fun e => [(4, vi e), (0, .ref 1000000), (1, .ref 0), (2, .ref 236), (3, .ref 259)]) (nx := 1504) (r1 := 0) (r2 := 0) (r3 := 0) rfl rfl (fun _ => rfl) (fun e fe => ?_)
      refine wi_goto (nx := 1507) (r1 := 23) (r2 := 0) (r3 := 0) rfl ?_
      refine wp.lo (lo := [(0, .ref 1000000), (1, .ref 0), (2, .ref 236), (3, .ref 259), (4, vi e)]) ⟨rfl, rfl, rfl, rfl, rfl, trivial⟩ rfl ?_
      rw [fe]
      exact k h2 b2 c2 I2 (by omega) hb2 hc2
    ·
      refine wr_tsw 753 (nx := 248) (r1 := 0) (r2 := 0) (r3 := 0) rfl (by rw [q6]; rfl) ?_
      refine lc_753 hcr hL (hr (by omega)) i I (by omega) (fun h2 b2 c2 I2 hb2 hc2 => ?_)
      refine wr_iinc (i := 4) (n := 6) (v := i) (fun e => [(4, vi e), (0, .ref 1000000), (1, .ref 0), (2, .ref 236), (3, .ref 259)]) (nx := 1504) (r1 := 0) (r2 := 0) (r3 := 0) rfl rfl (fun _ => rfl) (fun e fe => ?_)
      refine wi_goto (nx := 1507) (r1 := 23) (r2 := 0) (r3 := 0) rfl ?_
      refine wp.lo (lo := [(0, .ref 1000000), (1, .ref 0), (2, .ref 236), (3, .ref 259), (4, vi e)]) ⟨rfl, rfl, rfl, rfl, rfl, trivial⟩ rfl ?_
      rw [fe]
      exact k h2 b2 c2 I2 (by omega) hb2 hc2
    ·
      refine wr_tsw 778 (nx := 248) (r1 := 0) (r2 := 0) (r3 := 0) rfl (by rw [q6]; rfl) ?_
      refine lc_778 hcr hL (hr (by omega)) i I (by omega) (fun h2 b2 c2 I2 hb2 hc2 => ?_)
      refine wr_iinc (i := 4) (n := 6) (v := i) (fun e => [(4, vi e), (0, .ref 1000000), (1, .ref 0), (2, .ref 236), (3, .ref 259)]) (nx := 1504) (r1 := 0) (r2 := 0) (r3 := 0) rfl rfl (fun _ => rfl) (fun e fe => ?_)
      refine wi_goto (nx := 1507) (r1 := 23) (r2 := 0) (r3 := 0) rfl ?_
      refine wp.lo (lo := [(0, .ref 1000000), (1, .ref 0), (2, .ref 236), (3, .ref 259), (4, vi e)]) ⟨rfl, rfl, rfl, rfl, rfl, trivial⟩ rfl ?_
      rw [fe]
      exact k h2 b2 c2 I2 (by omega) hb2 hc2
    ·
      refine wr_tsw 791 (nx := 248) (r1 := 0) (r2 := 0) (r3 := 0) rfl (by rw [q6]; rfl) ?_
      refine lc_791 hcr hL (hr (by omega)) i I (by omega) (fun h2 b2 c2 I2 hb2 hc2 => ?_)
      refine wr_iinc (i := 4) (n := 6) (v := i) (fun e => [(4, vi e), (0, .ref 1000000), (1, .ref 0), (2, .ref 236), (3, .ref 259)]) (nx := 1504) (r1 := 0) (r2 := 0) (r3 := 0) rfl rfl (fun _ => rfl) (fun e fe => ?_)
      refine wi_goto (nx := 1507) (r1 := 23) (r2 := 0) (r3 := 0) rfl ?_
      refine wp.lo (lo := [(0, .ref 1000000), (1, .ref 0), (2, .ref 236), (3, .ref 259), (4, vi e)]) ⟨rfl, rfl, rfl, rfl, rfl, trivial⟩ rfl ?_
      rw [fe]
      exact k h2 b2 c2 I2 (by omega) hb2 hc2
    ·
      refine wr_tsw 804 (nx := 248) (r1 := 0) (r2 := 0) (r3 := 0) rfl (by rw [q6]; rfl) ?_
      refine lc_804 hcr hL (hr (by omega)) i I (by omega) (fun h2 b2 c2 I2 hb2 hc2 => ?_)
      refine wr_iinc (i := 4) (n := 6) (v := i) (fun e => [(4, vi e), (0, .ref 1000000), (1, .ref 0), (2, .ref 236), (3, .ref 259)]) (nx := 1504) (r1 := 0) (r2 := 0) (r3 := 0) rfl rfl (fun _ => rfl) (fun e fe => ?_)
      refine wi_goto (nx := 1507) (r1 := 23) (r2 := 0) (r3 := 0) rfl ?_
      refine wp.lo (lo := [(0, .ref 1000000), (1, .ref 0), (2, .ref 236), (3, .ref 259), (4, vi e)]) ⟨rfl, rfl, rfl, rfl, rfl, trivial⟩ rfl ?_
      rw [fe]
      exact k h2 b2 c2 I2 (by omega) hb2 hc2
    ·
      refine wr_tsw 829 (nx := 248) (r1 := 0) (r2 := 0) (r3 := 0) rfl (by rw [q6]; rfl) ?_
      refine lc_829 hcr hL (hr (by omega)) i I (by omega) (fun h2 b2 c2 I2 hb2 hc2 => ?_)
      refine wr_iinc (i := 4) (n := 6) (v := i) (fun e => [(4, vi e), (0, .ref 1000000), (1, .ref 0), (2, .ref 236), (3, .ref 259)]) (nx := 1504) (r1 := 0) (r2 := 0) (r3 := 0) rfl rfl (fun _ => rfl) (fun e fe => ?_)
      refine wi_goto (nx := 1507) (r1 := 23) (r2 := 0) (r3 := 0) rfl ?_
      refine wp.lo (lo := [(0, .ref 1000000), (1, .ref 0), (2, .ref 236), (3, .ref 259), (4, vi e)]) ⟨rfl, rfl, rfl, rfl, rfl, trivial⟩ rfl ?_
      rw [fe]
      exact k h2 b2 c2 I2 (by omega) hb2 hc2
    ·
      refine wr_tsw 857 (nx := 248) (r1 := 0) (r2 := 0) (r3 := 0) rfl (by rw [q6]; rfl) ?_
      refine lc_857 hcr hL (hr (by omega)) i I (by omega) (fun h2 b2 c2 I2 hb2 hc2 => ?_)
      refine wr_iinc (i := 4) (n := 6) (v := i) (fun e => [(4, vi e), (0, .ref 1000000), (1, .ref 0), (2, .ref 236), (3, .ref 259)]) (nx := 1504) (r1 := 0) (r2 := 0) (r3 := 0) rfl rfl (fun _ => rfl) (fun e fe => ?_)
      refine wi_goto (nx := 1507) (r1 := 23) (r2 := 0) (r3 := 0) rfl ?_
      refine wp.lo (lo := [(0, .ref 1000000), (1, .ref 0), (2, .ref 236), (3, .ref 259), (4, vi e)]) ⟨rfl, rfl, rfl, rfl, rfl, trivial⟩ rfl ?_
      rw [fe]
      exact k h2 b2 c2 I2 (by omega) hb2 hc2
    ·
      refine wr_tsw 870 (nx := 248) (r1 := 0) (r2 := 0) (r3 := 0) rfl (by rw [q6]; rfl) ?_
      refine lc_870 hcr hL (hr (by omega)) i I (by omega) (fun h2 b2 c2 I2 hb2 hc2 => ?_)
      refine wr_iinc (i := 4) (n := 6) (v := i) (fun e => [(4, vi e), (0, .ref 1000000), (1, .ref 0), (2, .ref 236), (3, .ref 259)]) (nx := 1504) (r1 := 0) (r2 := 0) (r3 := 0) rfl rfl (fun _ => rfl) (fun e fe => ?_)
      refine wi_goto (nx := 1507) (r1 := 23) (r2 := 0) (r3 := 0) rfl ?_
      refine wp.lo (lo := [(0, .ref 1000000), (1, .ref 0), (2, .ref 236), (3, .ref 259), (4, vi e)]) ⟨rfl, rfl, rfl, rfl, rfl, trivial⟩ rfl ?_
      rw [fe]
      exact k h2 b2 c2 I2 (by omega) hb2 hc2
    ·
      refine wr_tsw 883 (nx := 248) (r1 := 0) (r2 := 0) (r3 := 0) rfl (by rw [q6]; rfl) ?_
      refine lc_883 hcr hL (hr (by omega)) i I (by omega) (fun h2 b2 c2 I2 hb2 hc2 => ?_)
      refine wr_iinc (i := 4) (n := 6) (v := i) (fun e => [(4, vi e), (0, .ref 1000000), (1, .ref 0), (2, .ref 236), (3, .ref 259)]) (nx := 1504) (r1 := 0) (r2 := 0) (r3 := 0) rfl rfl (fun _ => rfl) (fun e fe => ?_)
      refine wi_goto (nx := 1507) (r1 := 23) (r2 := 0) (r3 := 0) rfl ?_
      refine wp.lo (lo := [(0, .ref 1000000), (1, .ref 0), (2, .ref 236), (3, .ref 259), (4, vi e)]) ⟨rfl, rfl, rfl, rfl, rfl, trivial⟩ rfl ?_
      rw [fe]
      exact k h2 b2 c2 I2 (by omega) hb2 hc2
    ·
      refine wr_tsw 911 (nx := 248) (r1 := 0) (r2 := 0) (r3 := 0) rfl (by rw [q6]; rfl) ?_
      refine lc_911 hcr hL (hr (by omega)) i I (by omega) (fun h2 b2 c2 I2 hb2 hc2 => ?_)
      refine wr_iinc (i := 4) (n := 6) (v := i) (fun e => [(4, vi e), (0, .ref 1000000), (1, .ref 0), (2, .ref 236), (3, .ref 259)]) (nx := 1504) (r1 := 0) (r2 := 0) (r3 := 0) rfl rfl (fun _ => rfl) (fun e fe => ?_)
      refine wi_goto (nx := 1507) (r1 := 23) (r2 := 0) (r3 := 0) rfl ?_
      refine wp.lo (lo := [(0, .ref 1000000), (1, .ref 0), (2, .ref 236), (3, .ref 259), (4, vi e)]) ⟨rfl, rfl, rfl, rfl, rfl, trivial⟩ rfl ?_
      rw [fe]
      exact k h2 b2 c2 I2 (by omega) hb2 hc2
    ·
      refine wr_tsw 924 (nx := 248) (r1 := 0) (r2 := 0) (r3 := 0) rfl (by rw [q6]; rfl) ?_
      refine lc_924 hcr hL (hr (by omega)) i I (by omega) (fun h2 b2 c2 I2 hb2 hc2 => ?_)
      refine wr_iinc (i := 4) (n := 6) (v := i) (fun e => [(4, vi e), (0, .ref 1000000), (1, .ref 0), (2, .ref 236), (3, .ref 259)]) (nx := 1504) (r1 := 0) (r2 := 0) (r3 := 0) rfl rfl (fun _ => rfl) (fun e fe => ?_)
      refine wi_goto (nx := 1507) (r1 := 23) (r2 := 0) (r3 := 0) rfl ?_
      refine wp.lo (lo := [(0, .ref 1000000), (1, .ref 0), (2, .ref 236), (3, .ref 259), (4, vi e)]) ⟨rfl, rfl, rfl, rfl, rfl, trivial⟩ rfl ?_
      rw [fe]
      exact k h2 b2 c2 I2 (by omega) hb2 hc2
    ·
      refine wr_tsw 937 (nx := 248) (r1 := 0) (r2 := 0) (r3 := 0) rfl (by rw [q6]; rfl) ?_
      refine lc_937 hcr hL (hr (by omega)) i I (by omega) (fun h2 b2 c2 I2 hb2 hc2 => ?_)
      refine wr_iinc (i := 4) (n := 6) (v := i) (fun e => [(4, vi e), (0, .ref 1000000), (1, .ref 0), (2, .ref 236), (3, .ref 259)]) (nx := 1504) (r1 := 0) (r2 := 0) (r3 := 0) rfl rfl (fun _ => rfl) (fun e fe => ?_)
      refine wi_goto (nx := 1507) (r1 := 23) (r2 := 0) (r3 := 0) rfl ?_
      refine wp.lo (lo := [(0, .ref 1000000), (1, .ref 0), (2, .ref 236), (3, .ref 259), (4, vi e)]) ⟨rfl, rfl, rfl, rfl, rfl, trivial⟩ rfl ?_
      rw [fe]
      exact k h2 b2 c2 I2 (by omega) hb2 hc2
    ·
      refine wr_tsw 950 (nx := 248) (r1 := 0) (r2 := 0) (r3 := 0) rfl (by rw [q6]; rfl) ?_
      refine lc_950 hcr hL (hr (by omega)) i I (by omega) (fun h2 b2 c2 I2 hb2 hc2 => ?_)
      refine wr_iinc (i := 4) (n := 6) (v := i) (fun e => [(4, vi e), (0, .ref 1000000), (1, .ref 0), (2, .ref 236), (3, .ref 259)]) (nx := 1504) (r1 := 0) (r2 := 0) (r3 := 0) rfl rfl (fun _ => rfl) (fun e fe => ?_)
      refine wi_goto (nx := 1507) (r1 := 23) (r2 := 0) (r3 := 0) rfl ?_
      refine wp.lo (lo := [(0, .ref 1000000), (1, .ref 0), (2, .ref 236), (3, .ref 259), (4, vi e)]) ⟨rfl, rfl, rfl, rfl, rfl, trivial⟩ rfl ?_
      rw [fe]
      exact k h2 b2 c2 I2 (by omega) hb2 hc2
    ·
      refine wr_tsw 963 (nx := 248) (r1 := 0) (r2 := 0) (r3 := 0) rfl (by rw [q6]; rfl) ?_
      refine lc_963 hcr hL (hr (by omega)) i I (by omega) (fun h2 b2 c2 I2 hb2 hc2 => ?_)
      refine wr_iinc (i := 4) (n := 6) (v := i) (fun e => [(4, vi e), (0, .ref 1000000), (1, .ref 0), (2, .ref 236), (3, .ref 259)]) (nx := 1504) (r1 := 0) (r2 := 0) (r3 := 0) rfl rfl (fun _ => rfl) (fun e fe => ?_)
      refine wi_goto (nx := 1507) (r1 := 23) (r2 := 0) (r3 := 0) rfl ?_
      refine wp.lo (lo := [(0, .ref 1000000), (1, .ref 0), (2, .ref 236), (3, .ref 259), (4, vi e)]) ⟨rfl, rfl, rfl, rfl, rfl, trivial⟩ rfl ?_
      rw [fe]
      exact k h2 b2 c2 I2 (by omega) hb2 hc2
    ·
      refine wr_tsw 976 (nx := 248) (r1 := 0) (r2 := 0) (r3 := 0) rfl (by rw [q6]; rfl) ?_
      refine lc_976 hcr hL (hr (by omega)) i I (by omega) (fun h2 b2 c2 I2 hb2 hc2 => ?_)
      refine wr_iinc (i := 4) (n := 6) (v := i) (fun e => [(4, vi e), (0, .ref 1000000), (1, .ref 0), (2, .ref 236), (3, .ref 259)]) (nx := 1504) (r1 := 0) (r2 := 0) (r3 := 0) rfl rfl (fun _ => rfl) (fun e fe => ?_)
      refine wi_goto (nx := 1507) (r1 := 23) (r2 := 0) (r3 := 0) rfl ?_
      refine wp.lo (lo := [(0, .ref 1000000), (1, .ref 0), (2, .ref 236), (3, .ref 259), (4, vi e)]) ⟨rfl, rfl, rfl, rfl, rfl, trivial⟩ rfl ?_
      rw [fe]
      exact k h2 b2 c2 I2 (by omega) hb2 hc2
    ·
      refine wr_tsw 989 (nx := 248) (r1 := 0) (r2 := 0) (r3 := 0) rfl (by rw [q6]; rfl) ?_
      refine lc_989 hcr hL (hr (by omega)) i I (by omega) (fun h2 b2 c2 I2 hb2 hc2 => ?_)
      refine wr_iinc (i := 4) (n := 6) (v := i) (fun e => [(4, vi e), (0, .ref 1000000), (1, .ref 0), (2, .ref 236), (3, .ref 259)]) (nx := 1504) (r1 := 0) (r2 := 0) (r3 := 0) rfl rfl (fun _ => rfl) (fun e fe => ?_)
      refine wi_goto (nx := 1507) (r1 := 23) (r2 := 0) (r3 := 0) rfl ?_
      refine wp.lo (lo := [(0, .ref 1000000), (1, .ref 0), (2, .ref 236), (3, .ref 259), (4, vi e)]) ⟨rfl, rfl, rfl, rfl, rfl, trivial⟩ rfl ?_
      rw [fe]
      exact k h2 b2 c2 I2 (by omega) hb2 hc2
    ·
      refine wr_tsw 1017 (nx := 248) (r1 := 0) (r2 := 0) (r3 := 0) rfl (by rw [q6]; rfl) ?_
      refine lc_1017 hcr hL (hr (by omega)) i I (by omega) (fun h2 b2 c2 I2 hb2 hc2 => ?_)
      refine wr_iinc (i := 4) (n := 6) (v := i) (fun e => [(4, vi e), (0, .ref 1000000), (1, .ref 0), (2, .ref 236), (3, .ref 259)]) (nx := 1504) (r1 := 0) (r2 := 0) (r3 := 0) rfl rfl (fun _ => rfl) (fun e fe => ?_)
      refine wi_goto (nx := 1507) (r1 := 23) (r2 := 0) (r3 := 0) rfl ?_
      refine wp.lo (lo := [(0, .ref 1000000), (1, .ref 0), (2, .ref 236), (3, .ref 259), (4, vi e)]) ⟨rfl, rfl, rfl, rfl, rfl, trivial⟩ rfl ?_
      rw [fe]
      exact k h2 b2 c2 I2 (by omega) hb2 hc2
    ·
      refine wr_tsw 1045 (nx := 248) (r1 := 0) (r2 := 0) (r3 := 0) rfl (by rw [q6]; rfl) ?_
      refine lc_1045 hcr hL (hr (by omega)) i I (by omega) (fun h2 b2 c2 I2 hb2 hc2 => ?_)
      refine wr_iinc (i := 4) (n := 6) (v := i) (fun e => [(4, vi e), (0, .ref 1000000), (1, .ref 0), (2, .ref 236), (3, .ref 259)]) (nx := 1504) (r1 := 0) (r2 := 0) (r3 := 0) rfl rfl (fun _ => rfl) (fun e fe => ?_)
      refine wi_goto (nx := 1507) (r1 := 23) (r2 := 0) (r3 := 0) rfl ?_
      refine wp.lo (lo := [(0, .ref 1000000), (1, .ref 0), (2, .ref 236), (3, .ref 259), (4, vi e)]) ⟨rfl, rfl, rfl, rfl, rfl, trivial⟩ rfl ?_
      rw [fe]
      exact k h2 b2 c2 I2 (by omega) hb2 hc2
    ·
      refine wr_tsw 1073 (nx := 248) (r1 := 0) (r2 := 0) (r3 := 0) rfl (by rw [q6]; rfl) ?_
      refine lc_1073 hcr hL (hr (by omega)) i I (by omega) (fun h2 b2 c2 I2 hb2 hc2 => ?_)
      refine wr_iinc (i := 4) (n := 6) (v := i) (fun e => [(4, vi e), (0, .ref 1000000), (1, .ref 0), (2, .ref 236), (3, .ref 259)]) (nx := 1504) (r1 := 0) (r2 := 0) (r3 := 0) rfl rfl (fun _ => rfl) (fun e fe => ?_)
      refine wi_goto (nx := 1507) (r1 := 23) (r2 := 0) (r3 := 0) rfl ?_
      refine wp.lo (lo := [(0, .ref 1000000), (1, .ref 0), (2, .ref 236), (3, .ref 259), (4, vi e)]) ⟨rfl, rfl, rfl, rfl, rfl, trivial⟩ rfl ?_
      rw [fe]
      exact k h2 b2 c2 I2 (by omega) hb2 hc2
    ·
      refine wr_tsw 1086 (nx := 248) (r1 := 0) (r2 := 0) (r3 := 0) rfl (by rw [q6]; rfl) ?_
      refine lc_1086 hcr hL (hr (by omega)) i I (by omega) (fun h2 b2 c2 I2 hb2 hc2 => ?_)
      refine wr_iinc (i := 4) (n := 6) (v := i) (fun e => [(4, vi e), (0, .ref 1000000), (1, .ref 0), (2, .ref 236), (3, .ref 259)]) (nx := 1504) (r1 := 0) (r2 := 0) (r3 := 0) rfl rfl (fun _ => rfl) (fun e fe => ?_)
      refine wi_goto (nx := 1507) (r1 := 23) (r2 := 0) (r3 := 0) rfl ?_
      refine wp.lo (lo := [(0, .ref 1000000), (1, .ref 0), (2, .ref 236), (3, .ref 259), (4, vi e)]) ⟨rfl, rfl, rfl, rfl, rfl, trivial⟩ rfl ?_
      rw [fe]
      exact k h2 b2 c2 I2 (by omega) hb2 hc2
    ·
      refine wr_tsw 1099 (nx := 248) (r1 := 0) (r2 := 0) (r3 := 0) rfl (by rw [q6]; rfl) ?_
      refine lc_1099 hcr hL (hr (by omega)) i I (by omega) (fun h2 b2 c2 I2 hb2 hc2 => ?_)
      refine wr_iinc (i := 4) (n := 6) (v := i) (fun e => [(4, vi e), (0, .ref 1000000), (1, .ref 0), (2, .ref 236), (3, .ref 259)]) (nx := 1504) (r1 := 0) (r2 := 0) (r3 := 0) rfl rfl (fun _ => rfl) (fun e fe => ?_)
      refine wi_goto (nx := 1507) (r1 := 23) (r2 := 0) (r3 := 0) rfl ?_
      refine wp.lo (lo := [(0, .ref 1000000), (1, .ref 0), (2, .ref 236), (3, .ref 259), (4, vi e)]) ⟨rfl, rfl, rfl, rfl, rfl, trivial⟩ rfl ?_
      rw [fe]
      exact k h2 b2 c2 I2 (by omega) hb2 hc2
    ·
      refine wr_tsw 1112 (nx := 248) (r1 := 0) (r2 := 0) (r3 := 0) rfl (by rw [q6]; rfl) ?_
      refine lc_1112 hcr hL (hr (by omega)) i I (by omega) (fun h2 b2 c2 I2 hb2 hc2 => ?_)
      refine wr_iinc (i := 4) (n := 6) (v := i) (fun e => [(4, vi e), (0, .ref 1000000), (1, .ref 0), (2, .ref 236), (3, .ref 259)]) (nx := 1504) (r1 := 0) (r2 := 0) (r3 := 0) rfl rfl (fun _ => rfl) (fun e fe => ?_)
      refine wi_goto (nx := 1507) (r1 := 23) (r2 := 0) (r3 := 0) rfl ?_
      refine wp.lo (lo := [(0, .ref 1000000), (1, .ref 0), (2, .ref 236), (3, .ref 259), (4, vi e)]) ⟨rfl, rfl, rfl, rfl, rfl, trivial⟩ rfl ?_
      rw [fe]
      exact k h2 b2 c2 I2 (by omega) hb2 hc2
    ·
      refine wr_tsw 1125 (nx := 248) (r1 := 0) (r2 := 0) (r3 := 0) rfl (by rw [q6]; rfl) ?_
      refine lc_1125 hcr hL (hr (by omega)) i I (by omega) (fun h2 b2 c2 I2 hb2 hc2 => ?_)
      refine wr_iinc (i := 4) (n := 6) (v := i) (fun e => [(4, vi e), (0, .ref 1000000), (1, .ref 0), (2, .ref 236), (3, .ref 259)]) (nx := 1504) (r1 := 0) (r2 := 0) (r3 := 0) rfl rfl (fun _ => rfl) (fun e fe => ?_)
      refine wi_goto (nx := 1507) (r1 := 23) (r2 := 0) (r3 := 0) rfl ?_
      refine wp.lo (lo := [(0, .ref 1000000), (1, .ref 0), (2, .ref 236), (3, .ref 259), (4, vi e)]) ⟨rfl, rfl, rfl, rfl, rfl, trivial⟩ rfl ?_
      rw [fe]
      exact k h2 b2 c2 I2 (by omega) hb2 hc2
    ·
      refine wr_tsw 1153 (nx := 248) (r1 := 0) (r2 := 0) (r3 := 0) rfl (by rw [q6]; rfl) ?_
      refine lc_1153 hcr hL (hr (by omega)) i I (by omega) (fun h2 b2 c2 I2 hb2 hc2 => ?_)
      refine wr_iinc (i := 4) (n := 6) (v := i) (fun e => [(4, vi e), (0, .ref 1000000), (1, .ref 0), (2, .ref 236), (3, .ref 259)]) (nx := 1504) (r1 := 0) (r2 := 0) (r3 := 0) rfl rfl (fun _ => rfl) (fun e fe => ?_)
      refine wi_goto (nx := 1507) (r1 := 23) (r2 := 0) (r3 := 0) rfl ?_
      refine wp.lo (lo := [(0, .ref 1000000), (1, .ref 0), (2, .ref 236), (3, .ref 259), (4, vi e)]) ⟨rfl, rfl, rfl, rfl, rfl, trivial⟩ rfl ?_
      rw [fe]
      exact k h2 b2 c2 I2 (by omega) hb2 hc2
    ·
      refine wr_tsw 1181 (nx := 248) (r1 := 0) (r2 := 0) (r3 := 0) rfl (by rw [q6]; rfl) ?_
      refine lc_1181 hcr hL (hr (by omega)) i I (by omega) (fun h2 b2 c2 I2 hb2 hc2 => ?_)
      refine wr_iinc (i := 4) (n := 6) (v := i) (fun e => [(4, vi e), (0, .ref 1000000), (1, .ref 0), (2, .ref 236), (3, .ref 259)]) (nx := 1504) (r1 := 0) (r2 := 0) (r3 := 0) rfl rfl (fun _ => rfl) (fun e fe => ?_)
      refine wi_goto (nx := 1507) (r1 := 23) (r2 := 0) (r3 := 0) rfl ?_
      refine wp.lo (lo := [(0, .ref 1000000), (1, .ref 0), (2, .ref 236), (3, .ref 259), (4, vi e)]) ⟨rfl, rfl, rfl, rfl, rfl, trivial⟩ rfl ?_
      rw [fe]
      exact k h2 b2 c2 I2 (by omega) hb2 hc2
    ·
      refine wr_tsw 1209 (nx := 248) (r1 := 0) (r2 := 0) (r3 := 0) rfl (by rw [q6]; rfl) ?_
      refine lc_1209 hcr hL (hr (by omega)) i I (by omega) (fun h2 b2 c2 I2 hb2 hc2 => ?_)
      refine wr_iinc (i := 4) (n := 6) (v := i) (fun e => [(4, vi e), (0, .ref 1000000), (1, .ref 0), (2, .ref 236), (3, .ref 259)]) (nx := 1504) (r1 := 0) (r2 := 0) (r3 := 0) rfl rfl (fun _ => rfl) (fun e fe => ?_)
      refine wi_goto (nx := 1507) (r1 := 23) (r2 := 0) (r3 := 0) rfl ?_
      refine wp.lo (lo := [(0, .ref 1000000), (1, .ref 0), (2, .ref 236), (3, .ref 259), (4, vi e)]) ⟨rfl, rfl, rfl, rfl, rfl, trivial⟩ rfl ?_
      rw [fe]
      exact k h2 b2 c2 I2 (by omega) hb2 hc2
    ·
      refine wr_tsw 1237 (nx := 248) (r1 := 0) (r2 := 0) (r3 := 0) rfl (by rw [q6]; rfl) ?_
      refine lc_1237 hcr hL (hr (by omega)) i I (by omega) (fun h2 b2 c2 I2 hb2 hc2 => ?_)
      refine wr_iinc (i := 4) (n := 6) (v := i) (fun e => [(4, vi e), (0, .ref 1000000), (1, .ref 0), (2, .ref 236), (3, .ref 259)]) (nx := 1504) (r1 := 0) (r2 := 0) (r3 := 0) rfl rfl (fun _ => rfl) (fun e fe => ?_)
      refine wi_goto (nx := 1507) (r1 := 23) (r2 := 0) (r3 := 0) rfl ?_
      refine wp.lo (lo := [(0, .ref 1000000), (1, .ref 0), (2, .ref 236), (3, .ref 259), (4, vi e)]) ⟨rfl, rfl, rfl, rfl, rfl, trivial⟩ rfl ?_
      rw [fe]
      exact k h2 b2 c2 I2 (by omega) hb2 hc2
    ·
      refine wr_tsw 1250 (nx := 248) (r1 := 0) (r2 := 0) (r3 := 0) rfl (by rw [q6]; rfl) ?_
      refine lc_1250 hcr hL (hr (by omega)) i I (by omega) (fun h2 b2 c2 I2 hb2 hc2 => ?_)
      refine wr_iinc (i := 4) (n := 6) (v := i) (fun e => [(4, vi e), (0, .ref 1000000), (1, .ref 0), (2, .ref 236), (3, .ref 259)]) (nx := 1504) (r1 := 0) (r2 := 0) (r3 := 0) rfl rfl (fun _ => rfl) (fun e fe => ?_)
      refine wi_goto (nx := 1507) (r1 := 23) (r2 := 0) (r3 := 0) rfl ?_
      refine wp.lo (lo := [(0, .ref 1000000), (1, .ref 0), (2, .ref 236), (3, .ref 259), (4, vi e)]) ⟨rfl, rfl, rfl, rfl, rfl, trivial⟩ rfl ?_
      rw [fe]
      exact k h2 b2 c2 I2 (by omega) hb2 hc2
    ·
      refine wr_tsw 1263 (nx := 248) (r1 := 0) (r2 := 0) (r3 := 0) rfl (by rw [q6]; rfl) ?_
      refine lc_1263 hcr hL (hr (by omega)) i I (by omega) (fun h2 b2 c2 I2 hb2 hc2 => ?_)
      refine wr_iinc (i := 4) (n := 6) (v := i) (fun e => [(4, vi e), (0, .ref 1000000), (1, .ref 0), (2, .ref 236), (3, .ref 259)]) (nx := 1504) (r1 := 0) (r2 := 0) (r3 := 0) rfl rfl (fun _ => rfl) (fun e fe => ?_)
      refine wi_goto (nx := 1507) (r1 := 23) (r2 := 0) (r3 := 0) rfl ?_
      refine wp.lo (lo := [(0, .ref 1000000), (1, .ref 0), (2, .ref 236), (3, .ref 259), (4, vi e)]) ⟨rfl, rfl, rfl, rfl, rfl, trivial⟩ rfl ?_
      rw [fe]
      exact k h2 b2 c2 I2 (by omega) hb2 hc2
    ·
      refine wr_tsw 1288 (nx := 248) (r1 := 0) (r2 := 0) (r3 := 0) rfl (by rw [q6]; rfl) ?_
      refine lc_1288 hcr hL (hr (by omega)) i I (by omega) (fun h2 b2 c2 I2 hb2 hc2 => ?_)
      refine wr_iinc (i := 4) (n := 6) (v := i) (fun e => [(4, vi e), (0, .ref 1000000), (1, .ref 0), (2, .ref 236), (3, .ref 259)]) (nx := 1504) (r1 := 0) (r2 := 0) (r3 := 0) rfl rfl (fun _ => rfl) (fun e fe => ?_)
      refine wi_goto (nx := 1507) (r1 := 23) (r2 := 0) (r3 := 0) rfl ?_
      refine wp.lo (lo := [(0, .ref 1000000), (1, .ref 0), (2, .ref 236), (3, .ref 259), (4, vi e)]) ⟨rfl, rfl, rfl, rfl, rfl, trivial⟩ rfl ?_
      rw [fe]
      exact k h2 b2 c2 I2 (by omega) hb2 hc2
    ·
      refine wr_tsw 1301 (nx := 248) (r1 := 0) (r2 := 0) (r3 := 0) rfl (by rw [q6]; rfl) ?_
      refine lc_1301 hcr hL (hr (by omega)) i I (by omega) (fun h2 b2 c2 I2 hb2 hc2 => ?_)
      refine wr_iinc (i := 4) (n := 6) (v := i) (fun e => [(4, vi e), (0, .ref 1000000), (1, .ref 0), (2, .ref 236), (3, .ref 259)]) (nx := 1504) (r1 := 0) (r2 := 0) (r3 := 0) rfl rfl (fun _ => rfl) (fun e fe => ?_)
      refine wi_goto (nx := 1507) (r1 := 23) (r2 := 0) (r3 := 0) rfl ?_
      refine wp.lo (lo := [(0, .ref 1000000), (1, .ref 0), (2, .ref 236), (3, .ref 259), (4, vi e)]) ⟨rfl, rfl, rfl, rfl, rfl, trivial⟩ rfl ?_
      rw [fe]
      exact k h2 b2 c2 I2 (by omega) hb2 hc2
    ·
      refine wr_tsw 1314 (nx := 248) (r1 := 0) (r2 := 0) (r3 := 0) rfl (by rw [q6]; rfl) ?_
      refine lc_1314 hcr hL (hr (by omega)) i I (by omega) (fun h2 b2 c2 I2 hb2 hc2 => ?_)
      refine wr_iinc (i := 4) (n := 6) (v := i) (fun e => [(4, vi e), (0, .ref 1000000), (1, .ref 0), (2, .ref 236), (3, .ref 259)]) (nx := 1504) (r1 := 0) (r2 := 0) (r3 := 0) rfl rfl (fun _ => rfl) (fun e fe => ?_)
      refine wi_goto (nx := 1507) (r1 := 23) (r2 := 0) (r3 := 0) rfl ?_
      refine wp.lo (lo := [(0, .ref 1000000), (1, .ref 0), (2, .ref 236), (3, .ref 259), (4, vi e)]) ⟨rfl, rfl, rfl, rfl, rfl, trivial⟩ rfl ?_
      rw [fe]
      exact k h2 b2 c2 I2 (by omega) hb2 hc2
    ·
      refine wr_tsw 1327 (nx := 248) (r1 := 0) (r2 := 0) (r3 := 0) rfl (by rw [q6]; rfl) ?_
      refine lc_1327 hcr hL (hr (by omega)) i I (by omega) (fun h2 b2 c2 I2 hb2 hc2 => ?_)
      refine wr_iinc (i := 4) (n := 6) (v := i) (fun e => [(4, vi e), (0, .ref 1000000), (1, .ref 0), (2, .ref 236), (3, .ref 259)]) (nx := 1504) (r1 := 0) (r2 := 0) (r3 := 0) rfl rfl (fun _ => rfl) (fun e fe => ?_)
      refine wi_goto (nx := 1507) (r1 := 23) (r2 := 0) (r3 := 0) rfl ?_
      refine wp.lo (lo := [(0, .ref 1000000), (1, .ref 0), (2, .ref 236), (3, .ref 259), (4, vi e)]) ⟨rfl, rfl, rfl, rfl, rfl, trivial⟩ rfl ?_
      rw [fe]
      exact k h2 b2 c2 I2 (by omega) hb2 hc2
    ·
      refine wr_tsw 1340 (nx := 248) (r1 := 0) (r2 := 0) (r3 := 0) rfl (by rw [q6]; rfl) ?_
      refine lc_1340 hcr hL (hr (by omega)) i I (by omega) (fun h2 b2 c2 I2 hb2 hc2 => ?_)
      refine wr_iinc (i := 4) (n := 6) (v := i) (fun e => [(4, vi e), (0, .ref 1000000), (1, .ref 0), (2, .ref 236), (3, .ref 259)]) (nx := 1504) (r1 := 0) (r2 := 0) (r3 := 0) rfl rfl (fun _ => rfl) (fun e fe => ?_)
      refine wi_goto (nx := 1507) (r1 := 23) (r2 := 0) (r3 := 0) rfl ?_
      refine wp.lo (lo := [(0, .ref 1000000), (1, .ref 0), (2, .ref 236), (3, .ref 259), (4, vi e)]) ⟨rfl, rfl, rfl, rfl, rfl, trivial⟩ rfl ?_
      rw [fe]
      exact k h2 b2 c2 I2 (by omega) hb2 hc2
    ·
      refine wr_tsw 1365 (nx := 248) (r1 := 0) (r2 := 0) (r3 := 0) rfl (by rw [q6]; rfl) ?_
      refine lc_1365 hcr hL (hr (by omega)) i I (by omega) (fun h2 b2 c2 I2 hb2 hc2 => ?_)
      refine wr_iinc (i := 4) (n := 6) (v := i) (fun e => [(4, vi e), (0, .ref 1000000), (1, .ref 0), (2, .ref 236), (3, .ref 259)]) (nx := 1504) (r1 := 0) (r2 := 0) (r3 := 0) rfl rfl (fun _ => rfl) (fun e fe => ?_)
      refine wi_goto (nx := 1507) (r1 := 23) (r2 := 0) (r3 := 0) rfl ?_
      refine wp.lo (lo := [(0, .ref 1000000), (1, .ref 0), (2, .ref 236), (3, .ref 259), (4, vi e)]) ⟨rfl, rfl, rfl, rfl, rfl, trivial⟩ rfl ?_
      rw [fe]
      exact k h2 b2 c2 I2 (by omega) hb2 hc2
    ·
      refine wr_tsw 1378 (nx := 248) (r1 := 0) (r2 := 0) (r3 := 0) rfl (by rw [q6]; rfl) ?_
      refine lc_1378 hcr hL (hr (by omega)) i I (by omega) (fun h2 b2 c2 I2 hb2 hc2 => ?_)
      refine wr_iinc (i := 4) (n := 6) (v := i) (fun e => [(4, vi e), (0, .ref 1000000), (1, .ref 0), (2, .ref 236), (3, .ref 259)]) (nx := 1504) (r1 := 0) (r2 := 0) (r3 := 0) rfl rfl (fun _ => rfl) (fun e fe => ?_)
      refine wi_goto (nx := 1507) (r1 := 23) (r2 := 0) (r3 := 0) rfl ?_
      refine wp.lo (lo := [(0, .ref 1000000), (1, .ref 0), (2, .ref 236), (3, .ref 259), (4, vi e)]) ⟨rfl, rfl, rfl, rfl, rfl, trivial⟩ rfl ?_
      rw [fe]
      exact k h2 b2 c2 I2 (by omega) hb2 hc2
    ·
      refine wr_tsw 1418 (nx := 248) (r1 := 0) (r2 := 0) (r3 := 0) rfl (by rw [q6]; rfl) ?_
      refine lc_1418 hcr hL (hr (by omega)) i I (by omega) (fun h2 b2 c2 I2 hb2 hc2 => ?_)
      refine wr_iinc (i := 4) (n := 6) (v := i) (fun e => [(4, vi e), (0, .ref 1000000), (1, .ref 0), (2, .ref 236), (3, .ref 259)]) (nx := 1504) (r1 := 0) (r2 := 0) (r3 := 0) rfl rfl (fun _ => rfl) (fun e fe => ?_)
      refine wi_goto (nx := 1507) (r1 := 23) (r2 := 0) (r3 := 0) rfl ?_
      refine wp.lo (lo := [(0, .ref 1000000), (1, .ref 0), (2, .ref 236), (3, .ref 259), (4, vi e)]) ⟨rfl, rfl, rfl, rfl, rfl, trivial⟩ rfl ?_
      rw [fe]
      exact k h2 b2 c2 I2 (by omega) hb2 hc2
    ·
      refine wr_tsw 1431 (nx := 248) (r1 := 0) (r2 := 0) (r3 := 0) rfl (by rw [q6]; rfl) ?_
      refine lc_1431 hcr hL (hr (by omega)) i I (by omega) (fun h2 b2 c2 I2 hb2 hc2 => ?_)
      refine wr_iinc (i := 4) (n := 6) (v := i) (fun e => [(4, vi e), (0, .ref 1000000), (1, .ref 0), (2, .ref 236), (3, .ref 259)]) (nx := 1504) (r1 := 0) (r2 := 0) (r3 := 0) rfl rfl (fun _ => rfl) (fun e fe => ?_)
      refine wi_goto (nx := 1507) (r1 := 23) (r2 := 0) (r3 := 0) rfl ?_
      refine wp.lo (lo := [(0, .ref 1000000), (1, .ref 0), (2, .ref 236), (3, .ref 259), (4, vi e)]) ⟨rfl, rfl, rfl, rfl, rfl, trivial⟩ rfl ?_
      rw [fe]
      exact k h2 b2 c2 I2 (by omega) hb2 hc2
    ·
      refine wr_tsw 1459 (nx := 248) (r1 := 0) (r2 := 0) (r3 := 0) rfl (by rw [q6]; rfl) ?_
      refine lc_1459 hcr hL (hr (by omega)) i I (by omega) (fun h2 b2 c2 I2 hb2 hc2 => ?_)
      refine wr_iinc (i := 4) (n := 6) (v := i) (fun e => [(4, vi e), (0, .ref 1000000), (1, .ref 0), (2, .ref 236), (3, .ref 259)]) (nx := 1504) (r1 := 0) (r2 := 0) (r3 := 0) rfl rfl (fun _ => rfl) (fun e fe => ?_)
      refine wi_goto (nx := 1507) (r1 := 23) (r2 := 0) (r3 := 0) rfl ?_
      refine wp.lo (lo := [(0, .ref 1000000), (1, .ref 0), (2, .ref 236), (3, .ref 259), (4, vi e)]) ⟨rfl, rfl, rfl, rfl, rfl, trivial⟩ rfl ?_
      rw [fe]
      exact k h2 b2 c2 I2 (by omega) hb2 hc2
    ·
      refine wr_tsw 1472 (nx := 248) (r1 := 0) (r2 := 0) (r3 := 0) rfl (by rw [q6]; rfl) ?_
      refine lc_1472 hcr hL (hr (by omega)) i I (by omega) (fun h2 b2 c2 I2 hb2 hc2 => ?_)
      refine wr_iinc (i := 4) (n := 6) (v := i) (fun e => [(4, vi e), (0, .ref 1000000), (1, .ref 0), (2, .ref 236), (3, .ref 259)]) (nx := 1504) (r1 := 0) (r2 := 0) (r3 := 0) rfl rfl (fun _ => rfl) (fun e fe => ?_)
      refine wi_goto (nx := 1507) (r1 := 23) (r2 := 0) (r3 := 0) rfl ?_
      refine wp.lo (lo := [(0, .ref 1000000), (1, .ref 0), (2, .ref 236), (3, .ref 259), (4, vi e)]) ⟨rfl, rfl, rfl, rfl, rfl, trivial⟩ rfl ?_
      rw [fe]
      exact k h2 b2 c2 I2 (by omega) hb2 hc2
    ·
      refine wr_tsw 1485 (nx := 248) (r1 := 0) (r2 := 0) (r3 := 0) rfl (by rw [q6]; rfl) ?_
      refine lc_1485 hcr hL (hr (by omega)) i I (by omega) (fun h2 b2 c2 I2 hb2 hc2 => ?_)
      refine wr_iinc (i := 4) (n := 6) (v := i) (fun e => [(4, vi e), (0, .ref 1000000), (1, .ref 0), (2, .ref 236), (3, .ref 259)]) (nx := 1504) (r1 := 0) (r2 := 0) (r3 := 0) rfl rfl (fun _ => rfl) (fun e fe => ?_)
      refine wi_goto (nx := 1507) (r1 := 23) (r2 := 0) (r3 := 0) rfl ?_
      refine wp.lo (lo := [(0, .ref 1000000), (1, .ref 0), (2, .ref 236), (3, .ref 259), (4, vi e)]) ⟨rfl, rfl, rfl, rfl, rfl, trivial⟩ rfl ?_
      rw [fe]
      exact k h2 b2 c2 I2 (by omega) hb2 hc2
    ·
      refine wr_tswD 1501 (nx := 248) (r1 := 0) (r2 := 0) (r3 := 0) rfl (by omega) (by omega) rfl ?_
      refine lc_1501 hcr hL (hr (by omega)) i I (by omega) (fun h2 b2 c2 I2 hb2 hc2 => ?_)
      refine wr_iinc (i := 4) (n := 6) (v := i) (fun e => [(4, vi e), (0, .ref 1000000), (1, .ref 0), (2, .ref 236), (3, .ref 259)]) (nx := 1504) (r1 := 0) (r2 := 0) (r3 := 0) rfl rfl (fun _ => rfl) (fun e fe => ?_)
      refine wi_goto (nx := 1507) (r1 := 23) (r2 := 0) (r3 := 0) rfl ?_
      refine wp.lo (lo := [(0, .ref 1000000), (1, .ref 0), (2, .ref 236), (3, .ref 259), (4, vi e)]) ⟨rfl, rfl, rfl, rfl, rfl, trivial⟩ rfl ?_
      rw [fe]
      exact k h2 b2 c2 I2 (by omega) hb2 hc2
