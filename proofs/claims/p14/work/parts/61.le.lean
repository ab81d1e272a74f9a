-- the law, case at 1045
set_option maxRecDepth 100000 in
set_option maxHeartbeats 100000000 in
theorem lc_1045 {L : Nat} {xs : Nat → Int32} {d b c : Nat} {h : hp} {cr : Nat → Nat → Option Nat} {Q : hp_Q} (hcr : CR cr) (hL : L ≤ 3072) (hr : 1 ≤ b ∧ 6 ≤ c) (i : Int) (I : LIm i h) (hi : 0 ≤ i ∧ i + 6 ≤ L) (k : ∀ (h2 : hp) (b2 c2 : Nat), LIm (i + 6) h2 → b ≤ b2 + 1 → c ≤ c2 + 6 → wp (md_xa (L, xs)) (d + 107) 0 (1501, [(0, .ref 1000000), (1, .ref 0), (2, .ref 236), (3, .ref 259), (4, vi i)], [], hp_w h2 cr, b2, c2) Q) : wp (md_xa (L, xs)) (d + 107) 0 (1045, [(0, .ref 1000000), (1, .ref 0), (2, .ref 236), (3, .ref 259), (4, vi i)], [], hp_w h cr, b, c) Q := by
  obtain ⟨⟨g, i11, r238, r241, gp0, br0, er2, er3, sv0, sf0, ss0, gs0, mi0, ml1, ml2, gq0, mr0, sm0⟩, ie0⟩ := I
  have r238e := r238.e0
  have r241e := r241.e0
  obtain ⟨⟨se0, se1, se2, se3, se4, se5, se6, se7, se8, se9⟩, -⟩ := id sv0
  have b1 := gi_b (lo := 0) (hi := 5) g 3 0 rfl
  have b2 := gi_b (lo := 0) (hi := 5) g 238 0 rfl
  have b3 := gi_b (lo := 0) (hi := 4) g 3 1 rfl
  have b4 := gi_b (lo := 0) (hi := 4) g 238 1 rfl
  have b5 := gi_b (lo := 0) (hi := 12) g 3 2 rfl
  have b6 := gi_b (lo := 0) (hi := 12) g 238 2 rfl
  have b7 := gi_b (lo := -2147483648) (hi := 2147483647) g 3 3 rfl
  have b8 := gi_b (lo := 0) (hi := 999) g 238 3 rfl
  have b9 := gi_b (lo := -2147483648) (hi := 2147483647) g 3 4 rfl
  have b10 := gi_b (lo := 0) (hi := 999) g 238 4 rfl
  have b11 := gi_b (lo := -2147483648) (hi := 2147483647) g 3 5 rfl
  have b12 := gi_b (lo := 0) (hi := 9) g 238 5 rfl
  have b13 := gi_b (lo := -2147483648) (hi := 2147483647) g 3 6 rfl
  have b14 := gi_b (lo := 0) (hi := 999) g 238 6 rfl
  have b15 := gi_b (lo := -2147483648) (hi := 2147483647) g 3 7 rfl
  have b16 := gi_b (lo := 0) (hi := 3) g 238 7 rfl
  have b17 := gi_b (lo := -2147483648) (hi := 2147483647) g 3 8 rfl
  have b18 := gi_b (lo := 0) (hi := 999) g 238 8 rfl
  have b19 := gi_b (lo := -2147483648) (hi := 2147483647) g 3 9 rfl
  have b20 := gi_b (lo := 0) (hi := 999) g 238 9 rfl
  have b21 := gi_b (lo := -2147483648) (hi := 2147483647) g 63 5 rfl
  have b22 := gi_b (lo := 0) (hi := 12) g 18 7 rfl
  have b23 := gi_b (lo := 0) (hi := 12) g 66 1 rfl
  have b24 := gi_b (lo := 0) (hi := 1) g 0 12 rfl
  have b25 := gi_b (lo := 0) (hi := 1) g 236 21 rfl
  have bl_ := gi_b (lo := 0) (hi := 800) g 1 1 rfl
  have tb0 : BufC (h 2) (h 1 1) h := ⟨fun _ => rfl, rfl, by omega, by omega⟩
  have b26 := gi_b (lo := 0) (hi := 6) g 238 98 rfl
  have b27 := gi_b (lo := 0) (hi := 6) g 238 99 rfl
  have b28 := gi_b (lo := 0) (hi := 6) g 238 100 rfl
  have b29 := gi_b (lo := 0) (hi := 6) g 238 101 rfl
  have b30 := gi_b (lo := 0) (hi := 3) g 238 102 rfl
  have b31 := gi_b (lo := 0) (hi := 12) g 238 106 rfl
  have b32 := gi_b (lo := 0) (hi := 12) g 238 73 rfl
  have b33 := gi_b (lo := 0) (hi := 9999) g 238 119 rfl
  have b34 := gi_b (lo := 0) (hi := 9999) g 238 67 rfl
  have b35 := gi_b (lo := 0) (hi := 9) g 238 69 rfl
  have b36 := gi_b (lo := 0) (hi := 6) g 241 98 rfl
  have b37 := gi_b (lo := 0) (hi := 6) g 241 99 rfl
  have b38 := gi_b (lo := 0) (hi := 6) g 241 100 rfl
  have b39 := gi_b (lo := 0) (hi := 6) g 241 101 rfl
  have b40 := gi_b (lo := 0) (hi := 3) g 241 102 rfl
  have b41 := gi_b (lo := 0) (hi := 12) g 241 106 rfl
  have b42 := gi_b (lo := 0) (hi := 12) g 241 73 rfl
  have b43 := gi_b (lo := 0) (hi := 12) g 241 2 rfl
  have b44 := gi_b (lo := 0) (hi := 9999) g 241 119 rfl
  have b45 := gi_b (lo := 0) (hi := 9999) g 241 67 rfl
  have b46 := gi_b (lo := 0) (hi := 9) g 241 69 rfl
  have b47 := gi_b (lo := 0) (hi := 9) g 241 5 rfl
  have b48 := gi_b (lo := 0) (hi := 800) g 1 1 rfl
  have b49 := gi_b (lo := 0) (hi := 800) g 236 2 rfl
  have b50 := gi_b (lo := -2147483648) (hi := 2147483647) g 1 2 rfl
  have b51 := gi_b (lo := -2147483648) (hi := 2147483647) g 236 10 rfl
  have b52 := gi_b (lo := -2147483648) (hi := 2147483647) g 1 3 rfl
  have b53 := gi_b (lo := -2147483648) (hi := 2147483647) g 236 11 rfl
  refine wi_aload_n (i := 1) (x := 0) (nx := 1046) (r1 := 0) (r2 := 0) (r3 := 0) rfl rfl ?_
  refine wi_aload_n (i := 0) (x := 1000000) (nx := 1047) (r1 := 0) (r2 := 0) (r3 := 0) rfl rfl ?_
  refine wi_iload (i := 4) (e := i) (nx := 1049) (r1 := 0) (r2 := 0) (r3 := 0) rfl rfl ?_
  refine wi_iconst (n := 1) (nx := 1050) (r1 := 0) (r2 := 0) (r3 := 0) rfl ?_
  refine wr_add (nx := 1051) (r1 := 0) (r2 := 0) (r3 := 0) rfl (fun e54 (fe54 : e54 = i + 1) => ?_)
  obtain ⟨i55, ei55⟩ : ∃ q : Nat, e54 = (q : Int) := ⟨(e54).toNat, by omega⟩
  have s56 := sc_b (xs i55)
  refine wr_sc (a := e54) (f := i55) (nx := 1052) (r1 := 0) (r2 := 0) (r3 := 0) rfl (by omega) (by omega) hL ?_
  refine wi_aload_n (i := 3) (x := 259) (nx := 1053) (r1 := 0) (r2 := 0) (r3 := 0) rfl rfl ?_
  refine wi_S (rest := []) (as := [.ref 0, vi ((xs i55).toInt), .ref 259]) (nx := 1056) (r1 := 18) (r2 := 19) (r3 := 0) rfl rfl rfl (of_decide_eq_true rfl) rfl rfl (of_decide_eq_true rfl) (of_decide_eq_true rfl) ?_
  refine wi_aload_n (i := 2) (x := 259) (nx := 1) (r1 := 0) (r2 := 0) (r3 := 0) rfl rfl ?_
  refine wi_iconst (n := 0) (nx := 2) (r1 := 0) (r2 := 0) (r3 := 0) rfl ?_
  refine wi_aload_n (i := 0) (x := 0) (nx := 3) (r1 := 0) (r2 := 0) (r3 := 0) rfl rfl ?_
  refine wi_iload_n (i := 1) (e := (xs i55).toInt) (nx := 4) (r1 := 0) (r2 := 0) (r3 := 0) rfl rfl ?_
  refine wr_V (k0 := 0) (rest := [vi 0, .ref 259]) (as := [.ref 0, vi ((xs i55).toInt)]) (nx := 7) (r1 := 80) (r2 := 1) (r3 := 0) rfl rfl rfl (of_decide_eq_true rfl) rfl rfl (by decide) rfl rfl (of_decide_eq_true rfl) (of_decide_eq_true rfl) ?_
  refine ct_80_0 hcr hr  g ((xs i55).toInt) (by omega) (show (h 63 5) ≤ (h 18 16) by omega) (show (h 63 5) < (h 18 16) ∨ ((h 18 7) ≤ (h 3 2) ∧ (h 66 1) = (h 3 2) - (h 18 7)) ∨ ((h 3 2) < (h 18 7) ∧ (h 66 1) = 0) by omega) (show 0 ≤ (h 3 9) by omega) (show (h 18 16) ≤ 1900000000 by omega) mi0 (fun h57 z58 g57 u57 (fz58 : -2147483648 ≤ z58 ∧ z58 ≤ 2147483647) (p57_0 : (h57 63 5) ≤ (h57 18 16)) (p57_1 : (h57 63 5) < (h57 18 16) ∨ ((h57 18 7) ≤ (h57 3 2) ∧ (h57 66 1) = (h57 3 2) - (h57 18 7)) ∨ ((h57 3 2) < (h57 18 7) ∧ (h57 66 1) = 0)) (p57_2 : (h 18 16) ≤ (h57 18 16) ∧ (h57 18 16) ≤ (h 18 16) + 4) y57_0 => ?_) (fun h57 g57 u57 (pe57_0 : (h57 63 5) ≤ (h57 18 16)) (pe57_1 : (h57 63 5) < (h57 18 16) ∨ ((h57 18 7) ≤ (h57 3 2) ∧ (h57 66 1) = (h57 3 2) - (h57 18 7)) ∨ ((h57 3 2) < (h57 18 7) ∧ (h57 66 1) = 0)) (pe57_2 : (h57 18 16) = (h 18 16)) ye57_0 => ?_)
  ·
    have e59 : h57 63 5 = h 63 5 := (u57 63 5 rfl)
    have b60 := gi_b (lo := -2147483648) (hi := 2147483647) g57 18 16 rfl
    have e61 : h57 18 7 = h 18 7 := (u57 18 7 rfl)
    have e62 : h57 3 2 = h 3 2 := (u57 3 2 rfl)
    have e63 : h57 66 1 = h 66 1 := (u57 66 1 rfl)
    refine wk_i ?_
    refine wi_i2l (nx := 8) (r1 := 0) (r2 := 0) (r3 := 0) rfl (by omega) ?_
    refine wr_ls (k0 := 259) (a := 0) (f := 0) (x := z58) (bl := -9223372036854775808) (bh := 9223372036854775807) (nx := 9) (r1 := 0) (r2 := 0) (r3 := 0) rfl (by decide) rfl (by omega) (by omega) (by decide) g57 rfl (by omega) (fun h64 g64 w64 u64 => ?_)
    refine wi_goto (nx := 12) (r1 := 15) (r2 := 0) (r3 := 0) rfl ?_
    refine wi_iconst (n := 0) (nx := 16) (r1 := 0) (r2 := 0) (r3 := 0) rfl ?_
    refine wi_ireturn (nx := 17) (r1 := 0) (r2 := 0) (r3 := 0) rfl rfl ?_
    refine wk_i ?_
    refine wi_istore (i := 5) (e := 0) (lo2 := [(5, vi 0), (0, .ref 1000000), (1, .ref 0), (2, .ref 236), (3, .ref 259), (4, vi i)]) (nx := 1058) (r1 := 0) (r2 := 0) (r3 := 0) rfl rfl ?_
    refine wi_aload_n (i := 2) (x := 236) (nx := 1059) (r1 := 0) (r2 := 0) (r3 := 0) rfl rfl ?_
    refine wi_aload_n (i := 0) (x := 1000000) (nx := 1060) (r1 := 0) (r2 := 0) (r3 := 0) rfl rfl ?_
    refine wi_iload (i := 4) (e := i) (nx := 1062) (r1 := 0) (r2 := 0) (r3 := 0) rfl rfl ?_
    refine wi_iconst (n := 1) (nx := 1063) (r1 := 0) (r2 := 0) (r3 := 0) rfl ?_
    refine wr_add (nx := 1064) (r1 := 0) (r2 := 0) (r3 := 0) rfl (fun e65 (fe65 : e65 = i + 1) => ?_)
    refine wr_sc (a := e65) (f := i55) (nx := 1065) (r1 := 0) (r2 := 0) (r3 := 0) rfl (by omega) (by omega) hL ?_
    refine wr_V (k0 := 236) (rest := []) (as := [.ref 236, vi ((xs i55).toInt)]) (nx := 1068) (r1 := 283) (r2 := 1) (r3 := 11) rfl rfl rfl (of_decide_eq_true rfl) rfl rfl (by decide) rfl rfl (of_decide_eq_true rfl) (of_decide_eq_true rfl) ?_
    have e67 : h64 238 98 = h 238 98 := ((u64 238 98 rfl).trans (u57 238 98 rfl))
    have e68 : h64 238 99 = h 238 99 := ((u64 238 99 rfl).trans (u57 238 99 rfl))
    have e69 : h64 238 100 = h 238 100 := ((u64 238 100 rfl).trans (u57 238 100 rfl))
    have e70 : h64 238 101 = h 238 101 := ((u64 238 101 rfl).trans (u57 238 101 rfl))
    have e71 : h64 238 102 = h 238 102 := ((u64 238 102 rfl).trans (u57 238 102 rfl))
    have e72 : h64 238 106 = h 238 106 := ((u64 238 106 rfl).trans (u57 238 106 rfl))
    have e73 : h64 238 73 = h 238 73 := ((u64 238 73 rfl).trans (u57 238 73 rfl))
    have e74 : h64 238 2 = h 238 2 := ((u64 238 2 rfl).trans (u57 238 2 rfl))
    have e75 : h64 238 119 = h 238 119 := ((u64 238 119 rfl).trans (u57 238 119 rfl))
    have e76 : h64 238 67 = h 238 67 := ((u64 238 67 rfl).trans (u57 238 67 rfl))
    have e77 : h64 238 69 = h 238 69 := ((u64 238 69 rfl).trans (u57 238 69 rfl))
    have e78 : h64 238 5 = h 238 5 := ((u64 238 5 rfl).trans (u57 238 5 rfl))
    have gs80 := GPS.fr u57 rfl gs0
    have gs81 := GPS.fr u64 rfl gs80
    have gq82 := GQS.fr u57 rfl gq0
    have gq83 := GQS.fr u64 rfl gq82
    have gp84 := GPH.fr u57 rfl gp0
    have gp85 := GPH.fr u64 rfl gp84
    refine ct_283_236 hcr  g64 ((xs i55).toInt) (by omega) (show (h64 238 98) + (h64 238 99) + (h64 238 100) + (h64 238 101) + (h64 238 102) + (h64 238 106) = (h64 238 73) by omega) (show (h64 238 73) ≤ (h64 238 2) by omega) (show (h64 238 119) ≤ (h64 238 67) by omega) (show (h64 238 69) ≤ (h64 238 5) by omega) (show (h64 238 2) ≤ 12 * (h64 238 5) by omega) gs81 gq83 gp85 (fun h66 z79 g66 u66 (fz79 : -1 ≤ z79 ∧ z79 ≤ 11) (p66_0 : (h66 238 98) + (h66 238 99) + (h66 238 100) + (h66 238 101) + (h66 238 102) + (h66 238 106) = (h66 238 73)) (p66_1 : (h66 238 73) ≤ (h66 238 2)) (p66_2 : (h66 238 119) ≤ (h66 238 67)) (p66_3 : (h66 238 69) ≤ (h66 238 5)) (p66_4 : (h66 238 2) ≤ 12 * (h66 238 5)) y66_0 y66_1 y66_2 => ?_)
    have b86 := gi_b (lo := 0) (hi := 6) g66 238 98 rfl
    have b87 := gi_b (lo := 0) (hi := 6) g66 238 99 rfl
    have b88 := gi_b (lo := 0) (hi := 6) g66 238 100 rfl
    have b89 := gi_b (lo := 0) (hi := 6) g66 238 101 rfl
    have b90 := gi_b (lo := 0) (hi := 3) g66 238 102 rfl
    have e91 : h66 238 106 = h 238 106 := ((u66 238 106 rfl).trans ((u64 238 106 rfl).trans (u57 238 106 rfl)))
    have e92 : h66 238 73 = h 238 73 := ((u66 238 73 rfl).trans ((u64 238 73 rfl).trans (u57 238 73 rfl)))
    have e93 : h66 238 2 = h 238 2 := ((u66 238 2 rfl).trans ((u64 238 2 rfl).trans (u57 238 2 rfl)))
    have e94 : h66 238 119 = h 238 119 := ((u66 238 119 rfl).trans ((u64 238 119 rfl).trans (u57 238 119 rfl)))
    have e95 : h66 238 67 = h 238 67 := ((u66 238 67 rfl).trans ((u64 238 67 rfl).trans (u57 238 67 rfl)))
    have e96 : h66 238 69 = h 238 69 := ((u66 238 69 rfl).trans ((u64 238 69 rfl).trans (u57 238 69 rfl)))
    have e97 : h66 238 5 = h 238 5 := ((u66 238 5 rfl).trans ((u64 238 5 rfl).trans (u57 238 5 rfl)))
    refine wk_i ?_
    refine wi_istore (i := 6) (e := z79) (lo2 := [(6, vi z79), (5, vi 0), (0, .ref 1000000), (1, .ref 0), (2, .ref 236), (3, .ref 259), (4, vi i)]) (nx := 1070) (r1 := 0) (r2 := 0) (r3 := 0) rfl rfl ?_
    refine wi_goto (nx := 1073) (r1 := 1501) (r2 := 0) (r3 := 0) rfl ?_
    refine wp.lo (lo := [(0, .ref 1000000), (1, .ref 0), (2, .ref 236), (3, .ref 259), (4, vi i)]) ⟨rfl, rfl, rfl, rfl, rfl, trivial⟩ rfl ?_
    have e98 : h66 241 98 = h 241 98 := ((u66 241 98 rfl).trans ((u64 241 98 rfl).trans (u57 241 98 rfl)))
    have e99 : h66 241 99 = h 241 99 := ((u66 241 99 rfl).trans ((u64 241 99 rfl).trans (u57 241 99 rfl)))
    have e100 : h66 241 100 = h 241 100 := ((u66 241 100 rfl).trans ((u64 241 100 rfl).trans (u57 241 100 rfl)))
    have e101 : h66 241 101 = h 241 101 := ((u66 241 101 rfl).trans ((u64 241 101 rfl).trans (u57 241 101 rfl)))
    have e102 : h66 241 102 = h 241 102 := ((u66 241 102 rfl).trans ((u64 241 102 rfl).trans (u57 241 102 rfl)))
    have e103 : h66 241 106 = h 241 106 := ((u66 241 106 rfl).trans ((u64 241 106 rfl).trans (u57 241 106 rfl)))
    have e104 : h66 241 73 = h 241 73 := ((u66 241 73 rfl).trans ((u64 241 73 rfl).trans (u57 241 73 rfl)))
    have e105 : h66 241 2 = h 241 2 := ((u66 241 2 rfl).trans ((u64 241 2 rfl).trans (u57 241 2 rfl)))
    have e106 : h66 241 119 = h 241 119 := ((u66 241 119 rfl).trans ((u64 241 119 rfl).trans (u57 241 119 rfl)))
    have e107 : h66 241 67 = h 241 67 := ((u66 241 67 rfl).trans ((u64 241 67 rfl).trans (u57 241 67 rfl)))
    have e108 : h66 241 69 = h 241 69 := ((u66 241 69 rfl).trans ((u64 241 69 rfl).trans (u57 241 69 rfl)))
    have e109 : h66 241 5 = h 241 5 := ((u66 241 5 rfl).trans ((u64 241 5 rfl).trans (u57 241 5 rfl)))
    have e110 : h66 1 1 = h 1 1 := ((u66 1 1 rfl).trans ((u64 1 1 rfl).trans (u57 1 1 rfl)))
    have e111 : h66 236 2 = h 236 2 := ((u66 236 2 rfl).trans ((u64 236 2 rfl).trans (u57 236 2 rfl)))
    have e112 : h66 1 2 = h 1 2 := ((u66 1 2 rfl).trans ((u64 1 2 rfl).trans (u57 1 2 rfl)))
    have e113 : h66 236 10 = h 236 10 := ((u66 236 10 rfl).trans ((u64 236 10 rfl).trans (u57 236 10 rfl)))
    have e114 : h66 1 3 = h 1 3 := ((u66 1 3 rfl).trans ((u64 1 3 rfl).trans (u57 1 3 rfl)))
    have e115 : h66 236 11 = h 236 11 := ((u66 236 11 rfl).trans ((u64 236 11 rfl).trans (u57 236 11 rfl)))
    have b116 := gi_b (lo := 0) (hi := 5) g 241 0 rfl
    have b117 := gi_b (lo := 0) (hi := 4) g 241 1 rfl
    have e118 : h66 0 12 = h 0 12 := ((u66 0 12 rfl).trans ((u64 0 12 rfl).trans (u57 0 12 rfl)))
    have e119 : h66 236 21 = h 236 21 := ((u66 236 21 rfl).trans ((u64 236 21 rfl).trans (u57 236 21 rfl)))
    have e120 : h66 63 5 = h 63 5 := ((u66 63 5 rfl).trans ((u64 63 5 rfl).trans (u57 63 5 rfl)))
    have e121 : h66 18 16 = h57 18 16 := ((u66 18 16 rfl).trans (u64 18 16 rfl))
    have e122 : h66 18 7 = h 18 7 := ((u66 18 7 rfl).trans ((u64 18 7 rfl).trans (u57 18 7 rfl)))
    have e123 : h66 3 2 = h 3 2 := ((u66 3 2 rfl).trans ((u64 3 2 rfl).trans (u57 3 2 rfl)))
    have e124 : h66 66 1 = h 66 1 := ((u66 66 1 rfl).trans ((u64 66 1 rfl).trans (u57 66 1 rfl)))
    have b125 := gi_b (lo := 0) (hi := 6) g57 73 1 rfl
    have e126 : h66 73 1 = h57 73 1 := ((u66 73 1 rfl).trans (u64 73 1 rfl))
    have b127 := gi_b (lo := 0) (hi := 6) g 73 1 rfl
    have b128 := gi_b (lo := 0) (hi := 6) g57 73 2 rfl
    have e129 : h66 73 2 = h57 73 2 := ((u66 73 2 rfl).trans (u64 73 2 rfl))
    have b130 := gi_b (lo := 0) (hi := 6) g 73 2 rfl
    have b131 := gi_b (lo := 0) (hi := 6) g66 236 22 rfl
    have b132 := gi_b (lo := 0) (hi := 6) g 236 22 rfl
    have b133 := gi_b (lo := 0) (hi := 12) g 210 2 rfl
    have e134 : h66 210 2 = h 210 2 := ((u66 210 2 rfl).trans ((u64 210 2 rfl).trans (u57 210 2 rfl)))
    have q137 : h66 8 = h57 8 := funext (fun i => ((u66 8 i (fo_no_ok (by decide) i)).trans (u64 8 i rfl)))
    have q138 : h66 7 = h57 7 := funext (fun i => ((u66 7 i (fo_no_ok (by decide) i)).trans (u64 7 i rfl)))
    have q139 : h66 19 = h57 19 := funext (fun i => ((u66 19 i (fo_no_ok (by decide) i)).trans (u64 19 i rfl)))
    have q140 : h66 67 = h57 67 := funext (fun i => ((u66 67 i (fo_no_ok (by decide) i)).trans (u64 67 i rfl)))
    have ml136 : MCL h66 := MCL.mv y57_0.1 q137 q138 q139 q140 (by omega) (by omega) (by omega) (by omega)
    have q142 : h66 69 = h57 69 := funext (fun i => ((u66 69 i (fo_no_ok (by decide) i)).trans (u64 69 i rfl)))
    have q143 : h66 70 = h57 70 := funext (fun i => ((u66 70 i (fo_no_ok (by decide) i)).trans (u64 70 i rfl)))
    have nb141 : NBc (h66 69) (h66 70) := by rw [q142, q143]; exact y57_0.2.2
    have q144 : h66 8 = h57 8 := funext (fun i => ((u66 8 i (fo_no_ok (by decide) i)).trans (u64 8 i rfl)))
    have q145 : h66 7 = h57 7 := funext (fun i => ((u66 7 i (fo_no_ok (by decide) i)).trans (u64 7 i rfl)))
    have mi135 : MCI h66 := ⟨ml136, HIv.mv y57_0.2.1 q144 q145 (by omega) (by omega) (sv_seven (P := fun x => ∀ i, h66 (76 + 19 * x) i = h57 (76 + 19 * x) i) (fun i => ((u66 76 i (fo_nk rfl)).trans (u64 76 i (fn_a (by omega) fn_0)))) (fun i => ((u66 95 i (fo_nk rfl)).trans (u64 95 i (fn_a (by omega) fn_0)))) (fun i => ((u66 114 i (fo_nk rfl)).trans (u64 114 i (fn_a (by omega) fn_0)))) (fun i => ((u66 133 i (fo_nk rfl)).trans (u64 133 i (fn_a (by omega) fn_0)))) (fun i => ((u66 152 i (fo_nk rfl)).trans (u64 152 i (fn_a (by omega) fn_0)))) (fun i => ((u66 171 i (fo_nk rfl)).trans (u64 171 i (fn_a (by omega) fn_0)))) (fun i => ((u66 190 i (fo_nk rfl)).trans (u64 190 i (fn_a (by omega) fn_0))))) (by omega) (by omega), nb141⟩
    have q146 : h66 8 = h 8 := funext (fun i => ((u66 8 i (fo_no_ok (by decide) i)).trans ((u64 8 i rfl).trans (u57 8 i (fo_no_ok (by decide) i)))))
    have q147 : h66 7 = h 7 := funext (fun i => ((u66 7 i (fo_no_ok (by decide) i)).trans ((u64 7 i rfl).trans (u57 7 i (fo_no_ok (by decide) i)))))
    have q148 : h66 215 = h 215 := funext (fun i => ((u66 215 i (fo_no_ok (by decide) i)).trans ((u64 215 i rfl).trans (u57 215 i (fo_no_ok (by decide) i)))))
    have q149 : h66 218 = h 218 := funext (fun i => ((u66 218 i (fo_no_ok (by decide) i)).trans ((u64 218 i rfl).trans (u57 218 i (fo_no_ok (by decide) i)))))
    have q150 : h66 214 = h 214 := funext (fun i => ((u66 214 i (fo_no_ok (by decide) i)).trans ((u64 214 i rfl).trans (u57 214 i (fo_no_ok (by decide) i)))))
    have q151 : h66 241 = h 241 := funext (fun i => ((u66 241 i (fo_no_ok (by decide) i)).trans ((u64 241 i rfl).trans (u57 241 i (fo_no_ok (by decide) i)))))
    exact k h66 b c ⟨⟨g66, (show h66 1 1 = h66 236 2 by omega), (RS.i0 (f := h66 238) (by refine ⟨?_, ?_, ?_, ?_, ?_⟩ <;> omega)), (RS.i0 (f := h66 241) (by refine ⟨?_, ?_, ?_, ?_, ?_⟩ <;> omega)), y66_2, (BRh.keep br0 (fun i => ((u66 2 i (fo_nk rfl)).trans ((u64 2 i (fn_a (by omega) fn_0)).trans (u57 2 i (fo_nk rfl))))) (fun i => ((u66 237 i (fo_nk rfl)).trans ((u64 237 i (fn_a (by omega) fn_0)).trans (u57 237 i (fo_nk rfl))))) (by omega)), (show h66 1 2 = h66 236 10 by omega), (show h66 1 3 = h66 236 11 by omega), (SVx.keep sv0 (by omega) (fun i _ => ((u66 3 i (fo_nk rfl)).trans ((u64 3 i (fn_a (by omega) fn_0)).trans (u57 3 i (fo_nk rfl))))) (fun i _ => ((u66 5 i (fo_nk rfl)).trans ((u64 5 i (fn_a (by omega) fn_0)).trans (u57 5 i (fo_nk rfl))))) (fun i _ => ((u66 6 i (fo_nk rfl)).trans ((u64 6 i (fn_a (by omega) fn_0)).trans (u57 6 i (fo_nk rfl))))) (fun i _ => ((u66 8 i (fo_nk rfl)).trans ((u64 8 i (fn_a (by omega) fn_0)).trans (u57 8 i (fo_nk rfl))))) (fun i _ => ((u66 238 i (fo_lk (m := 74) (by omega) rfl)).trans ((u64 238 i (fn_a (by omega) fn_0)).trans (u57 238 i (fo_nk rfl)))))), (show h66 0 12 = h66 236 21 by omega), (fun e => (SVx.keep (ss0 (by omega)) (by omega) (fun i _ => ((u66 210 i (fo_nk rfl)).trans ((u64 210 i (fn_a (by omega) fn_0)).trans (u57 210 i (fo_nk rfl))))) (fun i _ => ((u66 212 i (fo_nk rfl)).trans ((u64 212 i (fn_a (by omega) fn_0)).trans (u57 212 i (fo_nk rfl))))) (fun i _ => ((u66 213 i (fo_nk rfl)).trans ((u64 213 i (fn_a (by omega) fn_0)).trans (u57 213 i (fo_nk rfl))))) (fun i _ => ((u66 215 i (fo_nk rfl)).trans ((u64 215 i (fn_a (by omega) fn_0)).trans (u57 215 i (fo_nk rfl))))) (fun i _ => ((u66 241 i (fo_nk rfl)).trans ((u64 241 i (fn_a (by omega) fn_0)).trans (u57 241 i (fo_nk rfl))))))), y66_0, mi135, (show h66 63 5 ≤ h66 18 16 by omega), (show (h66 63 5) < (h66 18 16) ∨ ((h66 18 7) ≤ (h66 3 2) ∧ (h66 66 1) = (h66 3 2) - (h66 18 7)) ∨ ((h66 3 2) < (h66 18 7) ∧ (h66 66 1) = 0) by omega), y66_1, (MR.mv mr0 (MSN.then (MSN.refl) (fun i _ => ((u66 238 i (fo_lk (m := 74) (by omega) rfl)).trans ((u64 238 i (fn_a (by omega) fn_0)).trans (u57 238 i (fo_nk rfl)))))) (by omega) q146 q147 (by omega)), (fun e => SM.mv (sm0 (by omega)) q148 q149 q150 (by omega) q151)⟩, (by omega)⟩ (by omega) (by omega)
  ·
    have e59 : h57 63 5 = h 63 5 := (u57 63 5 rfl)
    have b60 := gi_b (lo := -2147483648) (hi := 2147483647) g57 18 16 rfl
    have e61 : h57 18 7 = h 18 7 := (u57 18 7 rfl)
    have e62 : h57 3 2 = h 3 2 := (u57 3 2 rfl)
    have e63 : h57 66 1 = h 66 1 := (u57 66 1 rfl)
    refine wk_h 12 (by decide) rfl ?_
    refine wr_astx (i := 3) (lo2 := [(3, .retAddr 0), (0, .ref 0), (1, vi ((xs i55).toInt)), (2, .ref 259)]) (nx := 13) (r1 := 0) (r2 := 0) (r3 := 0) rfl rfl ?_
    refine wi_iconst (n := 1) (nx := 14) (r1 := 0) (r2 := 0) (r3 := 0) rfl ?_
    refine wi_ireturn (nx := 15) (r1 := 0) (r2 := 0) (r3 := 0) rfl rfl ?_
    refine wk_i ?_
    refine wi_istore (i := 5) (e := 1) (lo2 := [(5, vi 1), (0, .ref 1000000), (1, .ref 0), (2, .ref 236), (3, .ref 259), (4, vi i)]) (nx := 1058) (r1 := 0) (r2 := 0) (r3 := 0) rfl rfl ?_
    refine wi_aload_n (i := 2) (x := 236) (nx := 1059) (r1 := 0) (r2 := 0) (r3 := 0) rfl rfl ?_
    refine wi_aload_n (i := 0) (x := 1000000) (nx := 1060) (r1 := 0) (r2 := 0) (r3 := 0) rfl rfl ?_
    refine wi_iload (i := 4) (e := i) (nx := 1062) (r1 := 0) (r2 := 0) (r3 := 0) rfl rfl ?_
    refine wi_iconst (n := 1) (nx := 1063) (r1 := 0) (r2 := 0) (r3 := 0) rfl ?_
    refine wr_add (nx := 1064) (r1 := 0) (r2 := 0) (r3 := 0) rfl (fun e64 (fe64 : e64 = i + 1) => ?_)
    refine wr_sc (a := e64) (f := i55) (nx := 1065) (r1 := 0) (r2 := 0) (r3 := 0) rfl (by omega) (by omega) hL ?_
    refine wr_V (k0 := 236) (rest := []) (as := [.ref 236, vi ((xs i55).toInt)]) (nx := 1068) (r1 := 283) (r2 := 1) (r3 := 11) rfl rfl rfl (of_decide_eq_true rfl) rfl rfl (by decide) rfl rfl (of_decide_eq_true rfl) (of_decide_eq_true rfl) ?_
    have e66 : h57 238 98 = h 238 98 := (u57 238 98 rfl)
    have e67 : h57 238 99 = h 238 99 := (u57 238 99 rfl)
    have e68 : h57 238 100 = h 238 100 := (u57 238 100 rfl)
    have e69 : h57 238 101 = h 238 101 := (u57 238 101 rfl)
    have e70 : h57 238 102 = h 238 102 := (u57 238 102 rfl)
    have e71 : h57 238 106 = h 238 106 := (u57 238 106 rfl)
    have e72 : h57 238 73 = h 238 73 := (u57 238 73 rfl)
    have e73 : h57 238 2 = h 238 2 := (u57 238 2 rfl)
    have e74 : h57 238 119 = h 238 119 := (u57 238 119 rfl)
    have e75 : h57 238 67 = h 238 67 := (u57 238 67 rfl)
    have e76 : h57 238 69 = h 238 69 := (u57 238 69 rfl)
    have e77 : h57 238 5 = h 238 5 := (u57 238 5 rfl)
    have gs79 := GPS.fr u57 rfl gs0
    have gq80 := GQS.fr u57 rfl gq0
    have gp81 := GPH.fr u57 rfl gp0
    refine ct_283_236 hcr  g57 ((xs i55).toInt) (by omega) (show (h57 238 98) + (h57 238 99) + (h57 238 100) + (h57 238 101) + (h57 238 102) + (h57 238 106) = (h57 238 73) by omega) (show (h57 238 73) ≤ (h57 238 2) by omega) (show (h57 238 119) ≤ (h57 238 67) by omega) (show (h57 238 69) ≤ (h57 238 5) by omega) (show (h57 238 2) ≤ 12 * (h57 238 5) by omega) gs79 gq80 gp81 (fun h65 z78 g65 u65 (fz78 : -1 ≤ z78 ∧ z78 ≤ 11) (p65_0 : (h65 238 98) + (h65 238 99) + (h65 238 100) + (h65 238 101) + (h65 238 102) + (h65 238 106) = (h65 238 73)) (p65_1 : (h65 238 73) ≤ (h65 238 2)) (p65_2 : (h65 238 119) ≤ (h65 238 67)) (p65_3 : (h65 238 69) ≤ (h65 238 5)) (p65_4 : (h65 238 2) ≤ 12 * (h65 238 5)) y65_0 y65_1 y65_2 => ?_)
    have b82 := gi_b (lo := 0) (hi := 6) g65 238 98 rfl
    have b83 := gi_b (lo := 0) (hi := 6) g65 238 99 rfl
    have b84 := gi_b (lo := 0) (hi := 6) g65 238 100 rfl
    have b85 := gi_b (lo := 0) (hi := 6) g65 238 101 rfl
    have b86 := gi_b (lo := 0) (hi := 3) g65 238 102 rfl
    have e87 : h65 238 106 = h 238 106 := ((u65 238 106 rfl).trans (u57 238 106 rfl))
    have e88 : h65 238 73 = h 238 73 := ((u65 238 73 rfl).trans (u57 238 73 rfl))
    have e89 : h65 238 2 = h 238 2 := ((u65 238 2 rfl).trans (u57 238 2 rfl))
    have e90 : h65 238 119 = h 238 119 := ((u65 238 119 rfl).trans (u57 238 119 rfl))
    have e91 : h65 238 67 = h 238 67 := ((u65 238 67 rfl).trans (u57 238 67 rfl))
    have e92 : h65 238 69 = h 238 69 := ((u65 238 69 rfl).trans (u57 238 69 rfl))
    have e93 : h65 238 5 = h 238 5 := ((u65 238 5 rfl).trans (u57 238 5 rfl))
    refine wk_i ?_
    refine wi_istore (i := 6) (e := z78) (lo2 := [(6, vi z78), (5, vi 1), (0, .ref 1000000), (1, .ref 0), (2, .ref 236), (3, .ref 259), (4, vi i)]) (nx := 1070) (r1 := 0) (r2 := 0) (r3 := 0) rfl rfl ?_
    refine wi_goto (nx := 1073) (r1 := 1501) (r2 := 0) (r3 := 0) rfl ?_
    refine wp.lo (lo := [(0, .ref 1000000), (1, .ref 0), (2, .ref 236), (3, .ref 259), (4, vi i)]) ⟨rfl, rfl, rfl, rfl, rfl, trivial⟩ rfl ?_
    have e94 : h65 241 98 = h 241 98 := ((u65 241 98 rfl).trans (u57 241 98 rfl))
    have e95 : h65 241 99 = h 241 99 := ((u65 241 99 rfl).trans (u57 241 99 rfl))
    have e96 : h65 241 100 = h 241 100 := ((u65 241 100 rfl).trans (u57 241 100 rfl))
    have e97 : h65 241 101 = h 241 101 := ((u65 241 101 rfl).trans (u57 241 101 rfl))
    have e98 : h65 241 102 = h 241 102 := ((u65 241 102 rfl).trans (u57 241 102 rfl))
    have e99 : h65 241 106 = h 241 106 := ((u65 241 106 rfl).trans (u57 241 106 rfl))
    have e100 : h65 241 73 = h 241 73 := ((u65 241 73 rfl).trans (u57 241 73 rfl))
    have e101 : h65 241 2 = h 241 2 := ((u65 241 2 rfl).trans (u57 241 2 rfl))
    have e102 : h65 241 119 = h 241 119 := ((u65 241 119 rfl).trans (u57 241 119 rfl))
    have e103 : h65 241 67 = h 241 67 := ((u65 241 67 rfl).trans (u57 241 67 rfl))
    have e104 : h65 241 69 = h 241 69 := ((u65 241 69 rfl).trans (u57 241 69 rfl))
    have e105 : h65 241 5 = h 241 5 := ((u65 241 5 rfl).trans (u57 241 5 rfl))
    have e106 : h65 1 1 = h 1 1 := ((u65 1 1 rfl).trans (u57 1 1 rfl))
    have e107 : h65 236 2 = h 236 2 := ((u65 236 2 rfl).trans (u57 236 2 rfl))
    have e108 : h65 1 2 = h 1 2 := ((u65 1 2 rfl).trans (u57 1 2 rfl))
    have e109 : h65 236 10 = h 236 10 := ((u65 236 10 rfl).trans (u57 236 10 rfl))
    have e110 : h65 1 3 = h 1 3 := ((u65 1 3 rfl).trans (u57 1 3 rfl))
    have e111 : h65 236 11 = h 236 11 := ((u65 236 11 rfl).trans (u57 236 11 rfl))
    have b112 := gi_b (lo := 0) (hi := 5) g 241 0 rfl
    have b113 := gi_b (lo := 0) (hi := 4) g 241 1 rfl
    have e114 : h65 0 12 = h 0 12 := ((u65 0 12 rfl).trans (u57 0 12 rfl))
    have e115 : h65 236 21 = h 236 21 := ((u65 236 21 rfl).trans (u57 236 21 rfl))
    have e116 : h65 63 5 = h 63 5 := ((u65 63 5 rfl).trans (u57 63 5 rfl))
    have e117 : h65 18 16 = h57 18 16 := (u65 18 16 rfl)
    have e118 : h65 18 7 = h 18 7 := ((u65 18 7 rfl).trans (u57 18 7 rfl))
    have e119 : h65 3 2 = h 3 2 := ((u65 3 2 rfl).trans (u57 3 2 rfl))
    have e120 : h65 66 1 = h 66 1 := ((u65 66 1 rfl).trans (u57 66 1 rfl))
    have b121 := gi_b (lo := 0) (hi := 6) g57 73 1 rfl
    have e122 : h65 73 1 = h57 73 1 := (u65 73 1 rfl)
    have b123 := gi_b (lo := 0) (hi := 6) g 73 1 rfl
    have b124 := gi_b (lo := 0) (hi := 6) g57 73 2 rfl
    have e125 : h65 73 2 = h57 73 2 := (u65 73 2 rfl)
    have b126 := gi_b (lo := 0) (hi := 6) g 73 2 rfl
    have b127 := gi_b (lo := 0) (hi := 6) g65 236 22 rfl
    have b128 := gi_b (lo := 0) (hi := 6) g 236 22 rfl
    have b129 := gi_b (lo := 0) (hi := 12) g 210 2 rfl
    have e130 : h65 210 2 = h 210 2 := ((u65 210 2 rfl).trans (u57 210 2 rfl))
    have q133 : h65 8 = h57 8 := funext (fun i => (u65 8 i (fo_no_ok (by decide) i)))
    have q134 : h65 7 = h57 7 := funext (fun i => (u65 7 i (fo_no_ok (by decide) i)))
    have q135 : h65 19 = h57 19 := funext (fun i => (u65 19 i (fo_no_ok (by decide) i)))
    have q136 : h65 67 = h57 67 := funext (fun i => (u65 67 i (fo_no_ok (by decide) i)))
    have ml132 : MCL h65 := MCL.mv ye57_0.1 q133 q134 q135 q136 (by omega) (by omega) (by omega) (by omega)
    have q138 : h65 69 = h57 69 := funext (fun i => (u65 69 i (fo_no_ok (by decide) i)))
    have q139 : h65 70 = h57 70 := funext (fun i => (u65 70 i (fo_no_ok (by decide) i)))
    have nb137 : NBc (h65 69) (h65 70) := by rw [q138, q139]; exact ye57_0.2.2
    have q140 : h65 8 = h57 8 := funext (fun i => (u65 8 i (fo_no_ok (by decide) i)))
    have q141 : h65 7 = h57 7 := funext (fun i => (u65 7 i (fo_no_ok (by decide) i)))
    have mi131 : MCI h65 := ⟨ml132, HIv.mv ye57_0.2.1 q140 q141 (by omega) (by omega) (sv_seven (P := fun x => ∀ i, h65 (76 + 19 * x) i = h57 (76 + 19 * x) i) (fun i => (u65 76 i (fo_nk rfl))) (fun i => (u65 95 i (fo_nk rfl))) (fun i => (u65 114 i (fo_nk rfl))) (fun i => (u65 133 i (fo_nk rfl))) (fun i => (u65 152 i (fo_nk rfl))) (fun i => (u65 171 i (fo_nk rfl))) (fun i => (u65 190 i (fo_nk rfl)))) (by omega) (by omega), nb137⟩
    have q142 : h65 8 = h 8 := funext (fun i => ((u65 8 i (fo_no_ok (by decide) i)).trans (u57 8 i (fo_no_ok (by decide) i))))
    have q143 : h65 7 = h 7 := funext (fun i => ((u65 7 i (fo_no_ok (by decide) i)).trans (u57 7 i (fo_no_ok (by decide) i))))
    have q144 : h65 215 = h 215 := funext (fun i => ((u65 215 i (fo_no_ok (by decide) i)).trans (u57 215 i (fo_no_ok (by decide) i))))
    have q145 : h65 218 = h 218 := funext (fun i => ((u65 218 i (fo_no_ok (by decide) i)).trans (u57 218 i (fo_no_ok (by decide) i))))
    have q146 : h65 214 = h 214 := funext (fun i => ((u65 214 i (fo_no_ok (by decide) i)).trans (u57 214 i (fo_no_ok (by decide) i))))
    have q147 : h65 241 = h 241 := funext (fun i => ((u65 241 i (fo_no_ok (by decide) i)).trans (u57 241 i (fo_no_ok (by decide) i))))
    exact k h65 (b - 1) (c - 6) ⟨⟨g65, (show h65 1 1 = h65 236 2 by omega), (RS.i0 (f := h65 238) (by refine ⟨?_, ?_, ?_, ?_, ?_⟩ <;> omega)), (RS.i0 (f := h65 241) (by refine ⟨?_, ?_, ?_, ?_, ?_⟩ <;> omega)), y65_2, (BRh.keep br0 (fun i => ((u65 2 i (fo_nk rfl)).trans (u57 2 i (fo_nk rfl)))) (fun i => ((u65 237 i (fo_nk rfl)).trans (u57 237 i (fo_nk rfl)))) (by omega)), (show h65 1 2 = h65 236 10 by omega), (show h65 1 3 = h65 236 11 by omega), (SVx.keep sv0 (by omega) (fun i _ => ((u65 3 i (fo_nk rfl)).trans (u57 3 i (fo_nk rfl)))) (fun i _ => ((u65 5 i (fo_nk rfl)).trans (u57 5 i (fo_nk rfl)))) (fun i _ => ((u65 6 i (fo_nk rfl)).trans (u57 6 i (fo_nk rfl)))) (fun i _ => ((u65 8 i (fo_nk rfl)).trans (u57 8 i (fo_nk rfl)))) (fun i _ => ((u65 238 i (fo_lk (m := 74) (by omega) rfl)).trans (u57 238 i (fo_nk rfl))))), (show h65 0 12 = h65 236 21 by omega), (fun e => (SVx.keep (ss0 (by omega)) (by omega) (fun i _ => ((u65 210 i (fo_nk rfl)).trans (u57 210 i (fo_nk rfl)))) (fun i _ => ((u65 212 i (fo_nk rfl)).trans (u57 212 i (fo_nk rfl)))) (fun i _ => ((u65 213 i (fo_nk rfl)).trans (u57 213 i (fo_nk rfl)))) (fun i _ => ((u65 215 i (fo_nk rfl)).trans (u57 215 i (fo_nk rfl)))) (fun i _ => ((u65 241 i (fo_nk rfl)).trans (u57 241 i (fo_nk rfl)))))), y65_0, mi131, (show h65 63 5 ≤ h65 18 16 by omega), (show (h65 63 5) < (h65 18 16) ∨ ((h65 18 7) ≤ (h65 3 2) ∧ (h65 66 1) = (h65 3 2) - (h65 18 7)) ∨ ((h65 3 2) < (h65 18 7) ∧ (h65 66 1) = 0) by omega), y65_1, (MR.mv mr0 (MSN.then (MSN.refl) (fun i _ => ((u65 238 i (fo_lk (m := 74) (by omega) rfl)).trans (u57 238 i (fo_nk rfl))))) (by omega) q142 q143 (by omega)), (fun e => SM.mv (sm0 (by omega)) q144 q145 q146 (by omega) q147)⟩, (by omega)⟩ (by omega) (by omega)
-- the law, case at 1073
set_option maxRecDepth 100000 in
set_option maxHeartbeats 100000000 in
theorem lc_1073 {L : Nat} {xs : Nat → Int32} {d b c : Nat} {h : hp} {cr : Nat → Nat → Option Nat} {Q : hp_Q} (hcr : CR cr) (hL : L ≤ 3072) (hr : 1 ≤ b ∧ 6 ≤ c) (i : Int) (I : LIm i h) (hi : 0 ≤ i ∧ i + 6 ≤ L) (k : ∀ (h2 : hp) (b2 c2 : Nat), LIm (i + 6) h2 → b ≤ b2 + 1 → c ≤ c2 + 6 → wp (md_xa (L, xs)) (d + 107) 0 (1501, [(0, .ref 1000000), (1, .ref 0), (2, .ref 236), (3, .ref 259), (4, vi i)], [], hp_w h2 cr, b2, c2) Q) : wp (md_xa (L, xs)) (d + 107) 0 (1073, [(0, .ref 1000000), (1, .ref 0), (2, .ref 236), (3, .ref 259), (4, vi i)], [], hp_w h cr, b, c) Q := by
  obtain ⟨⟨g, i11, r238, r241, gp0, br0, er2, er3, sv0, sf0, ss0, gs0, mi0, ml1, ml2, gq0, mr0, sm0⟩, ie0⟩ := I
  have r238e := r238.e0
  have r241e := r241.e0
  obtain ⟨⟨se0, se1, se2, se3, se4, se5, se6, se7, se8, se9⟩, -⟩ := id sv0
  have b1 := gi_b (lo := 0) (hi := 5) g 3 0 rfl
  have b2 := gi_b (lo := 0) (hi := 5) g 238 0 rfl
  have b3 := gi_b (lo := 0) (hi := 4) g 3 1 rfl
  have b4 := gi_b (lo := 0) (hi := 4) g 238 1 rfl
  have b5 := gi_b (lo := 0) (hi := 12) g 3 2 rfl
  have b6 := gi_b (lo := 0) (hi := 12) g 238 2 rfl
  have b7 := gi_b (lo := -2147483648) (hi := 2147483647) g 3 3 rfl
  have b8 := gi_b (lo := 0) (hi := 999) g 238 3 rfl
  have b9 := gi_b (lo := -2147483648) (hi := 2147483647) g 3 4 rfl
  have b10 := gi_b (lo := 0) (hi := 999) g 238 4 rfl
  have b11 := gi_b (lo := -2147483648) (hi := 2147483647) g 3 5 rfl
  have b12 := gi_b (lo := 0) (hi := 9) g 238 5 rfl
  have b13 := gi_b (lo := -2147483648) (hi := 2147483647) g 3 6 rfl
  have b14 := gi_b (lo := 0) (hi := 999) g 238 6 rfl
  have b15 := gi_b (lo := -2147483648) (hi := 2147483647) g 3 7 rfl
  have b16 := gi_b (lo := 0) (hi := 3) g 238 7 rfl
  have b17 := gi_b (lo := -2147483648) (hi := 2147483647) g 3 8 rfl
  have b18 := gi_b (lo := 0) (hi := 999) g 238 8 rfl
  have b19 := gi_b (lo := -2147483648) (hi := 2147483647) g 3 9 rfl
  have b20 := gi_b (lo := 0) (hi := 999) g 238 9 rfl
  have b21 := gi_b (lo := -2147483648) (hi := 2147483647) g 63 5 rfl
  have b22 := gi_b (lo := 0) (hi := 12) g 18 7 rfl
  have b23 := gi_b (lo := 0) (hi := 12) g 66 1 rfl
  have b24 := gi_b (lo := 0) (hi := 1) g 0 12 rfl
  have b25 := gi_b (lo := 0) (hi := 1) g 236 21 rfl
  have bl_ := gi_b (lo := 0) (hi := 800) g 1 1 rfl
  have tb0 : BufC (h 2) (h 1 1) h := ⟨fun _ => rfl, rfl, by omega, by omega⟩
  have b26 := gi_b (lo := 0) (hi := 6) g 238 98 rfl
  have b27 := gi_b (lo := 0) (hi := 6) g 238 99 rfl
  have b28 := gi_b (lo := 0) (hi := 6) g 238 100 rfl
  have b29 := gi_b (lo := 0) (hi := 6) g 238 101 rfl
  have b30 := gi_b (lo := 0) (hi := 3) g 238 102 rfl
  have b31 := gi_b (lo := 0) (hi := 12) g 238 106 rfl
  have b32 := gi_b (lo := 0) (hi := 12) g 238 73 rfl
  have b33 := gi_b (lo := 0) (hi := 9999) g 238 119 rfl
  have b34 := gi_b (lo := 0) (hi := 9999) g 238 67 rfl
  have b35 := gi_b (lo := 0) (hi := 9) g 238 69 rfl
  have b36 := gi_b (lo := 0) (hi := 6) g 241 98 rfl
  have b37 := gi_b (lo := 0) (hi := 6) g 241 99 rfl
  have b38 := gi_b (lo := 0) (hi := 6) g 241 100 rfl
  have b39 := gi_b (lo := 0) (hi := 6) g 241 101 rfl
  have b40 := gi_b (lo := 0) (hi := 3) g 241 102 rfl
  have b41 := gi_b (lo := 0) (hi := 12) g 241 106 rfl
  have b42 := gi_b (lo := 0) (hi := 12) g 241 73 rfl
  have b43 := gi_b (lo := 0) (hi := 12) g 241 2 rfl
  have b44 := gi_b (lo := 0) (hi := 9999) g 241 119 rfl
  have b45 := gi_b (lo := 0) (hi := 9999) g 241 67 rfl
  have b46 := gi_b (lo := 0) (hi := 9) g 241 69 rfl
  have b47 := gi_b (lo := 0) (hi := 9) g 241 5 rfl
  have b48 := gi_b (lo := 0) (hi := 800) g 1 1 rfl
  have b49 := gi_b (lo := 0) (hi := 800) g 236 2 rfl
  have b50 := gi_b (lo := -2147483648) (hi := 2147483647) g 1 2 rfl
  have b51 := gi_b (lo := -2147483648) (hi := 2147483647) g 236 10 rfl
  have b52 := gi_b (lo := -2147483648) (hi := 2147483647) g 1 3 rfl
  have b53 := gi_b (lo := -2147483648) (hi := 2147483647) g 236 11 rfl
  refine wi_aload_n (i := 1) (x := 0) (nx := 1074) (r1 := 0) (r2 := 0) (r3 := 0) rfl rfl ?_
  refine wr_V (k0 := 0) (rest := []) (as := [.ref 0]) (nx := 1077) (r1 := 44) (r2 := 0) (r3 := 0) rfl rfl rfl (of_decide_eq_true rfl) rfl rfl (by decide) rfl rfl (of_decide_eq_true rfl) (of_decide_eq_true rfl) ?_
  refine ct_44_0 hcr  g   (show (h 63 5) ≤ (h 18 16) by omega) (show (h 63 5) < (h 18 16) ∨ ((h 18 7) ≤ (h 3 2) ∧ (h 66 1) = (h 3 2) - (h 18 7)) ∨ ((h 3 2) < (h 18 7) ∧ (h 66 1) = 0) by omega) (show 0 ≤ (h 3 9) by omega) (show (h 18 16) ≤ 1900000000 by omega) mi0 (fun h54 z55 g54 u54 (fz55 : -2147483647 ≤ z55 ∧ z55 ≤ 9999) (p54_0 : (h54 63 5) ≤ (h54 18 16)) (p54_1 : (h54 63 5) < (h54 18 16) ∨ ((h54 18 7) ≤ (h54 3 2) ∧ (h54 66 1) = (h54 3 2) - (h54 18 7)) ∨ ((h54 3 2) < (h54 18 7) ∧ (h54 66 1) = 0)) (p54_2 : (h 18 16) ≤ (h54 18 16) ∧ (h54 18 16) ≤ (h 18 16) + 4) y54_0 => ?_)
  have e56 : h54 63 5 = h 63 5 := (u54 63 5 rfl)
  have b57 := gi_b (lo := -2147483648) (hi := 2147483647) g54 18 16 rfl
  have e58 : h54 18 7 = h 18 7 := (u54 18 7 rfl)
  have e59 : h54 3 2 = h 3 2 := (u54 3 2 rfl)
  have e60 : h54 66 1 = h 66 1 := (u54 66 1 rfl)
  refine wk_i ?_
  refine wi_pop (nx := 1078) (r1 := 0) (r2 := 0) (r3 := 0) rfl rfl ?_
  refine wi_aload_n (i := 2) (x := 236) (nx := 1079) (r1 := 0) (r2 := 0) (r3 := 0) rfl rfl ?_
  refine wr_V (k0 := 236) (rest := []) (as := [.ref 236]) (nx := 1082) (r1 := 286) (r2 := 0) (r3 := 11) rfl rfl rfl (of_decide_eq_true rfl) rfl rfl (by decide) rfl rfl (of_decide_eq_true rfl) (of_decide_eq_true rfl) ?_
  have e62 : h54 238 98 = h 238 98 := (u54 238 98 rfl)
  have e63 : h54 238 99 = h 238 99 := (u54 238 99 rfl)
  have e64 : h54 238 100 = h 238 100 := (u54 238 100 rfl)
  have e65 : h54 238 101 = h 238 101 := (u54 238 101 rfl)
  have e66 : h54 238 102 = h 238 102 := (u54 238 102 rfl)
  have e67 : h54 238 106 = h 238 106 := (u54 238 106 rfl)
  have e68 : h54 238 73 = h 238 73 := (u54 238 73 rfl)
  have e69 : h54 238 2 = h 238 2 := (u54 238 2 rfl)
  have e70 : h54 238 119 = h 238 119 := (u54 238 119 rfl)
  have e71 : h54 238 67 = h 238 67 := (u54 238 67 rfl)
  have e72 : h54 238 69 = h 238 69 := (u54 238 69 rfl)
  have e73 : h54 238 5 = h 238 5 := (u54 238 5 rfl)
  have gs75 := GPS.fr u54 rfl gs0
  have gq76 := GQS.fr u54 rfl gq0
  have gp77 := GPH.fr u54 rfl gp0
  refine ct_286_236 hcr  g54   (show (h54 238 98) + (h54 238 99) + (h54 238 100) + (h54 238 101) + (h54 238 102) + (h54 238 106) = (h54 238 73) by omega) (show (h54 238 73) ≤ (h54 238 2) by omega) (show (h54 238 119) ≤ (h54 238 67) by omega) (show (h54 238 69) ≤ (h54 238 5) by omega) (show (h54 238 2) ≤ 12 * (h54 238 5) by omega) gs75 gq76 gp77 (fun h61 z74 g61 u61 (fz74 : -1 ≤ z74 ∧ z74 ≤ 9999) (p61_0 : (h61 238 98) + (h61 238 99) + (h61 238 100) + (h61 238 101) + (h61 238 102) + (h61 238 106) = (h61 238 73)) (p61_1 : (h61 238 73) ≤ (h61 238 2)) (p61_2 : (h61 238 119) ≤ (h61 238 67)) (p61_3 : (h61 238 69) ≤ (h61 238 5)) (p61_4 : (h61 238 2) ≤ 12 * (h61 238 5)) y61_0 y61_1 y61_2 => ?_)
  have e78 : h61 238 98 = h 238 98 := ((u61 238 98 rfl).trans (u54 238 98 rfl))
  have e79 : h61 238 99 = h 238 99 := ((u61 238 99 rfl).trans (u54 238 99 rfl))
  have e80 : h61 238 100 = h 238 100 := ((u61 238 100 rfl).trans (u54 238 100 rfl))
  have e81 : h61 238 101 = h 238 101 := ((u61 238 101 rfl).trans (u54 238 101 rfl))
  have e82 : h61 238 102 = h 238 102 := ((u61 238 102 rfl).trans (u54 238 102 rfl))
  have e83 : h61 238 106 = h 238 106 := ((u61 238 106 rfl).trans (u54 238 106 rfl))
  have e84 : h61 238 73 = h 238 73 := ((u61 238 73 rfl).trans (u54 238 73 rfl))
  have e85 : h61 238 2 = h 238 2 := ((u61 238 2 rfl).trans (u54 238 2 rfl))
  have e86 : h61 238 119 = h 238 119 := ((u61 238 119 rfl).trans (u54 238 119 rfl))
  have b87 := gi_b (lo := 0) (hi := 9999) g61 238 67 rfl
  have e88 : h61 238 69 = h 238 69 := ((u61 238 69 rfl).trans (u54 238 69 rfl))
  have e89 : h61 238 5 = h 238 5 := ((u61 238 5 rfl).trans (u54 238 5 rfl))
  refine wk_i ?_
  refine wi_pop (nx := 1083) (r1 := 0) (r2 := 0) (r3 := 0) rfl rfl ?_
  refine wi_goto (nx := 1086) (r1 := 1501) (r2 := 0) (r3 := 0) rfl ?_
  have e90 : h61 241 98 = h 241 98 := ((u61 241 98 rfl).trans (u54 241 98 rfl))
  have e91 : h61 241 99 = h 241 99 := ((u61 241 99 rfl).trans (u54 241 99 rfl))
  have e92 : h61 241 100 = h 241 100 := ((u61 241 100 rfl).trans (u54 241 100 rfl))
  have e93 : h61 241 101 = h 241 101 := ((u61 241 101 rfl).trans (u54 241 101 rfl))
  have e94 : h61 241 102 = h 241 102 := ((u61 241 102 rfl).trans (u54 241 102 rfl))
  have e95 : h61 241 106 = h 241 106 := ((u61 241 106 rfl).trans (u54 241 106 rfl))
  have e96 : h61 241 73 = h 241 73 := ((u61 241 73 rfl).trans (u54 241 73 rfl))
  have e97 : h61 241 2 = h 241 2 := ((u61 241 2 rfl).trans (u54 241 2 rfl))
  have e98 : h61 241 119 = h 241 119 := ((u61 241 119 rfl).trans (u54 241 119 rfl))
  have e99 : h61 241 67 = h 241 67 := ((u61 241 67 rfl).trans (u54 241 67 rfl))
  have e100 : h61 241 69 = h 241 69 := ((u61 241 69 rfl).trans (u54 241 69 rfl))
  have e101 : h61 241 5 = h 241 5 := ((u61 241 5 rfl).trans (u54 241 5 rfl))
  have e102 : h61 1 1 = h 1 1 := ((u61 1 1 rfl).trans (u54 1 1 rfl))
  have e103 : h61 236 2 = h 236 2 := ((u61 236 2 rfl).trans (u54 236 2 rfl))
  have e104 : h61 1 2 = h 1 2 := ((u61 1 2 rfl).trans (u54 1 2 rfl))
  have e105 : h61 236 10 = h 236 10 := ((u61 236 10 rfl).trans (u54 236 10 rfl))
  have e106 : h61 1 3 = h 1 3 := ((u61 1 3 rfl).trans (u54 1 3 rfl))
  have e107 : h61 236 11 = h 236 11 := ((u61 236 11 rfl).trans (u54 236 11 rfl))
  have b108 := gi_b (lo := 0) (hi := 5) g 241 0 rfl
  have b109 := gi_b (lo := 0) (hi := 4) g 241 1 rfl
  have e110 : h61 0 12 = h 0 12 := ((u61 0 12 rfl).trans (u54 0 12 rfl))
  have e111 : h61 236 21 = h 236 21 := ((u61 236 21 rfl).trans (u54 236 21 rfl))
  have e112 : h61 63 5 = h 63 5 := ((u61 63 5 rfl).trans (u54 63 5 rfl))
  have e113 : h61 18 16 = h54 18 16 := (u61 18 16 rfl)
  have e114 : h61 18 7 = h 18 7 := ((u61 18 7 rfl).trans (u54 18 7 rfl))
  have e115 : h61 3 2 = h 3 2 := ((u61 3 2 rfl).trans (u54 3 2 rfl))
  have e116 : h61 66 1 = h 66 1 := ((u61 66 1 rfl).trans (u54 66 1 rfl))
  have b117 := gi_b (lo := 0) (hi := 6) g54 73 1 rfl
  have e118 : h61 73 1 = h54 73 1 := (u61 73 1 rfl)
  have b119 := gi_b (lo := 0) (hi := 6) g 73 1 rfl
  have b120 := gi_b (lo := 0) (hi := 6) g54 73 2 rfl
  have e121 : h61 73 2 = h54 73 2 := (u61 73 2 rfl)
  have b122 := gi_b (lo := 0) (hi := 6) g 73 2 rfl
  have b123 := gi_b (lo := 0) (hi := 6) g61 236 22 rfl
  have b124 := gi_b (lo := 0) (hi := 6) g 236 22 rfl
  have b125 := gi_b (lo := 0) (hi := 12) g 210 2 rfl
  have e126 : h61 210 2 = h 210 2 := ((u61 210 2 rfl).trans (u54 210 2 rfl))
  have q129 : h61 8 = h54 8 := funext (fun i => (u61 8 i (fo_no_ok (by decide) i)))
  have q130 : h61 7 = h54 7 := funext (fun i => (u61 7 i (fo_no_ok (by decide) i)))
  have q131 : h61 19 = h54 19 := funext (fun i => (u61 19 i (fo_no_ok (by decide) i)))
  have q132 : h61 67 = h54 67 := funext (fun i => (u61 67 i (fo_no_ok (by decide) i)))
  have ml128 : MCL h61 := MCL.mv y54_0.1 q129 q130 q131 q132 (by omega) (by omega) (by omega) (by omega)
  have q134 : h61 69 = h54 69 := funext (fun i => (u61 69 i (fo_no_ok (by decide) i)))
  have q135 : h61 70 = h54 70 := funext (fun i => (u61 70 i (fo_no_ok (by decide) i)))
  have nb133 : NBc (h61 69) (h61 70) := by rw [q134, q135]; exact y54_0.2.2
  have q136 : h61 8 = h54 8 := funext (fun i => (u61 8 i (fo_no_ok (by decide) i)))
  have q137 : h61 7 = h54 7 := funext (fun i => (u61 7 i (fo_no_ok (by decide) i)))
  have mi127 : MCI h61 := ⟨ml128, HIv.mv y54_0.2.1 q136 q137 (by omega) (by omega) (sv_seven (P := fun x => ∀ i, h61 (76 + 19 * x) i = h54 (76 + 19 * x) i) (fun i => (u61 76 i (fo_nk rfl))) (fun i => (u61 95 i (fo_nk rfl))) (fun i => (u61 114 i (fo_nk rfl))) (fun i => (u61 133 i (fo_nk rfl))) (fun i => (u61 152 i (fo_nk rfl))) (fun i => (u61 171 i (fo_nk rfl))) (fun i => (u61 190 i (fo_nk rfl)))) (by omega) (by omega), nb133⟩
  have q138 : h61 8 = h 8 := funext (fun i => ((u61 8 i (fo_no_ok (by decide) i)).trans (u54 8 i (fo_no_ok (by decide) i))))
  have q139 : h61 7 = h 7 := funext (fun i => ((u61 7 i (fo_no_ok (by decide) i)).trans (u54 7 i (fo_no_ok (by decide) i))))
  have q140 : h61 215 = h 215 := funext (fun i => ((u61 215 i (fo_no_ok (by decide) i)).trans (u54 215 i (fo_no_ok (by decide) i))))
  have q141 : h61 218 = h 218 := funext (fun i => ((u61 218 i (fo_no_ok (by decide) i)).trans (u54 218 i (fo_no_ok (by decide) i))))
  have q142 : h61 214 = h 214 := funext (fun i => ((u61 214 i (fo_no_ok (by decide) i)).trans (u54 214 i (fo_no_ok (by decide) i))))
  have q143 : h61 241 = h 241 := funext (fun i => ((u61 241 i (fo_no_ok (by decide) i)).trans (u54 241 i (fo_no_ok (by decide) i))))
  exact k h61 b c ⟨⟨g61, (show h61 1 1 = h61 236 2 by omega), (RS.i0 (f := h61 238) (by refine ⟨?_, ?_, ?_, ?_, ?_⟩ <;> omega)), (RS.i0 (f := h61 241) (by refine ⟨?_, ?_, ?_, ?_, ?_⟩ <;> omega)), y61_2, (BRh.keep br0 (fun i => ((u61 2 i (fo_nk rfl)).trans (u54 2 i (fo_nk rfl)))) (fun i => ((u61 237 i (fo_nk rfl)).trans (u54 237 i (fo_nk rfl)))) (by omega)), (show h61 1 2 = h61 236 10 by omega), (show h61 1 3 = h61 236 11 by omega), (SVx.keep sv0 (by omega) (fun i _ => ((u61 3 i (fo_nk rfl)).trans (u54 3 i (fo_nk rfl)))) (fun i _ => ((u61 5 i (fo_nk rfl)).trans (u54 5 i (fo_nk rfl)))) (fun i _ => ((u61 6 i (fo_nk rfl)).trans (u54 6 i (fo_nk rfl)))) (fun i _ => ((u61 8 i (fo_nk rfl)).trans (u54 8 i (fo_nk rfl)))) (fun i _ => ((u61 238 i (fo_lk (m := 67) (by omega) rfl)).trans (u54 238 i (fo_nk rfl))))), (show h61 0 12 = h61 236 21 by omega), (fun e => (SVx.keep (ss0 (by omega)) (by omega) (fun i _ => ((u61 210 i (fo_nk rfl)).trans (u54 210 i (fo_nk rfl)))) (fun i _ => ((u61 212 i (fo_nk rfl)).trans (u54 212 i (fo_nk rfl)))) (fun i _ => ((u61 213 i (fo_nk rfl)).trans (u54 213 i (fo_nk rfl)))) (fun i _ => ((u61 215 i (fo_nk rfl)).trans (u54 215 i (fo_nk rfl)))) (fun i _ => ((u61 241 i (fo_nk rfl)).trans (u54 241 i (fo_nk rfl)))))), y61_0, mi127, (show h61 63 5 ≤ h61 18 16 by omega), (show (h61 63 5) < (h61 18 16) ∨ ((h61 18 7) ≤ (h61 3 2) ∧ (h61 66 1) = (h61 3 2) - (h61 18 7)) ∨ ((h61 3 2) < (h61 18 7) ∧ (h61 66 1) = 0) by omega), y61_1, (MR.mv mr0 (MSN.then (MSN.refl) (fun i _ => ((u61 238 i (fo_lk (m := 67) (by omega) rfl)).trans (u54 238 i (fo_nk rfl))))) (by omega) q138 q139 (by omega)), (fun e => SM.mv (sm0 (by omega)) q140 q141 q142 (by omega) q143)⟩, (by omega)⟩ (by omega) (by omega)
-- the law, case at 1086
set_option maxRecDepth 100000 in
set_option maxHeartbeats 100000000 in
theorem lc_1086 {L : Nat} {xs : Nat → Int32} {d b c : Nat} {h : hp} {cr : Nat → Nat → Option Nat} {Q : hp_Q} (hcr : CR cr) (hL : L ≤ 3072) (hr : 1 ≤ b ∧ 6 ≤ c) (i : Int) (I : LIm i h) (hi : 0 ≤ i ∧ i + 6 ≤ L) (k : ∀ (h2 : hp) (b2 c2 : Nat), LIm (i + 6) h2 → b ≤ b2 + 1 → c ≤ c2 + 6 → wp (md_xa (L, xs)) (d + 107) 0 (1501, [(0, .ref 1000000), (1, .ref 0), (2, .ref 236), (3, .ref 259), (4, vi i)], [], hp_w h2 cr, b2, c2) Q) : wp (md_xa (L, xs)) (d + 107) 0 (1086, [(0, .ref 1000000), (1, .ref 0), (2, .ref 236), (3, .ref 259), (4, vi i)], [], hp_w h cr, b, c) Q := by
  obtain ⟨⟨g, i11, r238, r241, gp0, br0, er2, er3, sv0, sf0, ss0, gs0, mi0, ml1, ml2, gq0, mr0, sm0⟩, ie0⟩ := I
  have r238e := r238.e0
  have r241e := r241.e0
  obtain ⟨⟨se0, se1, se2, se3, se4, se5, se6, se7, se8, se9⟩, -⟩ := id sv0
  have b1 := gi_b (lo := 0) (hi := 5) g 3 0 rfl
  have b2 := gi_b (lo := 0) (hi := 5) g 238 0 rfl
  have b3 := gi_b (lo := 0) (hi := 4) g 3 1 rfl
  have b4 := gi_b (lo := 0) (hi := 4) g 238 1 rfl
  have b5 := gi_b (lo := 0) (hi := 12) g 3 2 rfl
  have b6 := gi_b (lo := 0) (hi := 12) g 238 2 rfl
  have b7 := gi_b (lo := -2147483648) (hi := 2147483647) g 3 3 rfl
  have b8 := gi_b (lo := 0) (hi := 999) g 238 3 rfl
  have b9 := gi_b (lo := -2147483648) (hi := 2147483647) g 3 4 rfl
  have b10 := gi_b (lo := 0) (hi := 999) g 238 4 rfl
  have b11 := gi_b (lo := -2147483648) (hi := 2147483647) g 3 5 rfl
  have b12 := gi_b (lo := 0) (hi := 9) g 238 5 rfl
  have b13 := gi_b (lo := -2147483648) (hi := 2147483647) g 3 6 rfl
  have b14 := gi_b (lo := 0) (hi := 999) g 238 6 rfl
  have b15 := gi_b (lo := -2147483648) (hi := 2147483647) g 3 7 rfl
  have b16 := gi_b (lo := 0) (hi := 3) g 238 7 rfl
  have b17 := gi_b (lo := -2147483648) (hi := 2147483647) g 3 8 rfl
  have b18 := gi_b (lo := 0) (hi := 999) g 238 8 rfl
  have b19 := gi_b (lo := -2147483648) (hi := 2147483647) g 3 9 rfl
  have b20 := gi_b (lo := 0) (hi := 999) g 238 9 rfl
  have b21 := gi_b (lo := -2147483648) (hi := 2147483647) g 63 5 rfl
  have b22 := gi_b (lo := 0) (hi := 12) g 18 7 rfl
  have b23 := gi_b (lo := 0) (hi := 12) g 66 1 rfl
  have b24 := gi_b (lo := 0) (hi := 1) g 0 12 rfl
  have b25 := gi_b (lo := 0) (hi := 1) g 236 21 rfl
  have bl_ := gi_b (lo := 0) (hi := 800) g 1 1 rfl
  have tb0 : BufC (h 2) (h 1 1) h := ⟨fun _ => rfl, rfl, by omega, by omega⟩
  have b26 := gi_b (lo := 0) (hi := 6) g 238 98 rfl
  have b27 := gi_b (lo := 0) (hi := 6) g 238 99 rfl
  have b28 := gi_b (lo := 0) (hi := 6) g 238 100 rfl
  have b29 := gi_b (lo := 0) (hi := 6) g 238 101 rfl
  have b30 := gi_b (lo := 0) (hi := 3) g 238 102 rfl
  have b31 := gi_b (lo := 0) (hi := 12) g 238 106 rfl
  have b32 := gi_b (lo := 0) (hi := 12) g 238 73 rfl
  have b33 := gi_b (lo := 0) (hi := 9999) g 238 119 rfl
  have b34 := gi_b (lo := 0) (hi := 9999) g 238 67 rfl
  have b35 := gi_b (lo := 0) (hi := 9) g 238 69 rfl
  have b36 := gi_b (lo := 0) (hi := 6) g 241 98 rfl
  have b37 := gi_b (lo := 0) (hi := 6) g 241 99 rfl
  have b38 := gi_b (lo := 0) (hi := 6) g 241 100 rfl
  have b39 := gi_b (lo := 0) (hi := 6) g 241 101 rfl
  have b40 := gi_b (lo := 0) (hi := 3) g 241 102 rfl
  have b41 := gi_b (lo := 0) (hi := 12) g 241 106 rfl
  have b42 := gi_b (lo := 0) (hi := 12) g 241 73 rfl
  have b43 := gi_b (lo := 0) (hi := 12) g 241 2 rfl
  have b44 := gi_b (lo := 0) (hi := 9999) g 241 119 rfl
  have b45 := gi_b (lo := 0) (hi := 9999) g 241 67 rfl
  have b46 := gi_b (lo := 0) (hi := 9) g 241 69 rfl
  have b47 := gi_b (lo := 0) (hi := 9) g 241 5 rfl
  have b48 := gi_b (lo := 0) (hi := 800) g 1 1 rfl
  have b49 := gi_b (lo := 0) (hi := 800) g 236 2 rfl
  have b50 := gi_b (lo := -2147483648) (hi := 2147483647) g 1 2 rfl
  have b51 := gi_b (lo := -2147483648) (hi := 2147483647) g 236 10 rfl
  have b52 := gi_b (lo := -2147483648) (hi := 2147483647) g 1 3 rfl
  have b53 := gi_b (lo := -2147483648) (hi := 2147483647) g 236 11 rfl
  refine wi_aload_n (i := 1) (x := 0) (nx := 1087) (r1 := 0) (r2 := 0) (r3 := 0) rfl rfl ?_
  refine wr_V (k0 := 0) (rest := []) (as := [.ref 0]) (nx := 1090) (r1 := 46) (r2 := 0) (r3 := 0) rfl rfl rfl (of_decide_eq_true rfl) rfl rfl (by decide) rfl rfl (of_decide_eq_true rfl) (of_decide_eq_true rfl) ?_
  refine ct_46_0 hcr  g   (show (h 63 5) ≤ (h 18 16) by omega) (show (h 63 5) < (h 18 16) ∨ ((h 18 7) ≤ (h 3 2) ∧ (h 66 1) = (h 3 2) - (h 18 7)) ∨ ((h 3 2) < (h 18 7) ∧ (h 66 1) = 0) by omega) (show 0 ≤ (h 3 9) by omega) (show (h 18 16) ≤ 1900000000 by omega) mi0 (fun h54 z55 g54 u54 (fz55 : -1 ≤ z55 ∧ z55 ≤ 3) (p54_0 : (h54 63 5) ≤ (h54 18 16)) (p54_1 : (h54 63 5) < (h54 18 16) ∨ ((h54 18 7) ≤ (h54 3 2) ∧ (h54 66 1) = (h54 3 2) - (h54 18 7)) ∨ ((h54 3 2) < (h54 18 7) ∧ (h54 66 1) = 0)) (p54_2 : (h 18 16) ≤ (h54 18 16) ∧ (h54 18 16) ≤ (h 18 16) + 4) y54_0 => ?_)
  have e56 : h54 63 5 = h 63 5 := (u54 63 5 rfl)
  have b57 := gi_b (lo := -2147483648) (hi := 2147483647) g54 18 16 rfl
  have b58 := gi_b (lo := 0) (hi := 12) g54 18 7 rfl
  have e59 : h54 3 2 = h 3 2 := (u54 3 2 rfl)
  have e60 : h54 66 1 = h 66 1 := (u54 66 1 rfl)
  refine wk_i ?_
  refine wi_pop (nx := 1091) (r1 := 0) (r2 := 0) (r3 := 0) rfl rfl ?_
  refine wi_aload_n (i := 2) (x := 236) (nx := 1092) (r1 := 0) (r2 := 0) (r3 := 0) rfl rfl ?_
  refine wr_V (k0 := 236) (rest := []) (as := [.ref 236]) (nx := 1095) (r1 := 287) (r2 := 0) (r3 := 11) rfl rfl rfl (of_decide_eq_true rfl) rfl rfl (by decide) rfl rfl (of_decide_eq_true rfl) (of_decide_eq_true rfl) ?_
  have e62 : h54 238 98 = h 238 98 := (u54 238 98 rfl)
  have e63 : h54 238 99 = h 238 99 := (u54 238 99 rfl)
  have e64 : h54 238 100 = h 238 100 := (u54 238 100 rfl)
  have e65 : h54 238 101 = h 238 101 := (u54 238 101 rfl)
  have e66 : h54 238 102 = h 238 102 := (u54 238 102 rfl)
  have e67 : h54 238 106 = h 238 106 := (u54 238 106 rfl)
  have e68 : h54 238 73 = h 238 73 := (u54 238 73 rfl)
  have e69 : h54 238 2 = h 238 2 := (u54 238 2 rfl)
  have e70 : h54 238 119 = h 238 119 := (u54 238 119 rfl)
  have e71 : h54 238 67 = h 238 67 := (u54 238 67 rfl)
  have e72 : h54 238 69 = h 238 69 := (u54 238 69 rfl)
  have e73 : h54 238 5 = h 238 5 := (u54 238 5 rfl)
  have gs75 := GPS.fr u54 rfl gs0
  have gq76 := GQS.fr u54 rfl gq0
  have gp77 := GPH.fr u54 rfl gp0
  refine ct_287_236 hcr  g54   (show (h54 238 98) + (h54 238 99) + (h54 238 100) + (h54 238 101) + (h54 238 102) + (h54 238 106) = (h54 238 73) by omega) (show (h54 238 73) ≤ (h54 238 2) by omega) (show (h54 238 119) ≤ (h54 238 67) by omega) (show (h54 238 69) ≤ (h54 238 5) by omega) (show (h54 238 2) ≤ 12 * (h54 238 5) by omega) gs75 gq76 gp77 (fun h61 z74 g61 u61 (fz74 : -1 ≤ z74 ∧ z74 ≤ 3) (p61_0 : (h61 238 98) + (h61 238 99) + (h61 238 100) + (h61 238 101) + (h61 238 102) + (h61 238 106) = (h61 238 73)) (p61_1 : (h61 238 73) ≤ (h61 238 2)) (p61_2 : (h61 238 119) ≤ (h61 238 67)) (p61_3 : (h61 238 69) ≤ (h61 238 5)) (p61_4 : (h61 238 2) ≤ 12 * (h61 238 5)) y61_0 y61_1 y61_2 => ?_)
  have b78 := gi_b (lo := 0) (hi := 6) g61 238 98 rfl
  have b79 := gi_b (lo := 0) (hi := 6) g61 238 99 rfl
  have b80 := gi_b (lo := 0) (hi := 6) g61 238 100 rfl
  have b81 := gi_b (lo := 0) (hi := 6) g61 238 101 rfl
  have b82 := gi_b (lo := 0) (hi := 3) g61 238 102 rfl
  have b83 := gi_b (lo := 0) (hi := 12) g61 238 106 rfl
  have b84 := gi_b (lo := 0) (hi := 12) g61 238 73 rfl
  have e85 : h61 238 2 = h 238 2 := ((u61 238 2 rfl).trans (u54 238 2 rfl))
  have b86 := gi_b (lo := 0) (hi := 9999) g61 238 119 rfl
  have b87 := gi_b (lo := 0) (hi := 9999) g61 238 67 rfl
  have b88 := gi_b (lo := 0) (hi := 9) g61 238 69 rfl
  have e89 : h61 238 5 = h 238 5 := ((u61 238 5 rfl).trans (u54 238 5 rfl))
  refine wk_i ?_
  refine wi_pop (nx := 1096) (r1 := 0) (r2 := 0) (r3 := 0) rfl rfl ?_
  refine wi_goto (nx := 1099) (r1 := 1501) (r2 := 0) (r3 := 0) rfl ?_
  have e90 : h61 241 98 = h 241 98 := ((u61 241 98 rfl).trans (u54 241 98 rfl))
  have e91 : h61 241 99 = h 241 99 := ((u61 241 99 rfl).trans (u54 241 99 rfl))
  have e92 : h61 241 100 = h 241 100 := ((u61 241 100 rfl).trans (u54 241 100 rfl))
  have e93 : h61 241 101 = h 241 101 := ((u61 241 101 rfl).trans (u54 241 101 rfl))
  have e94 : h61 241 102 = h 241 102 := ((u61 241 102 rfl).trans (u54 241 102 rfl))
  have e95 : h61 241 106 = h 241 106 := ((u61 241 106 rfl).trans (u54 241 106 rfl))
  have e96 : h61 241 73 = h 241 73 := ((u61 241 73 rfl).trans (u54 241 73 rfl))
  have e97 : h61 241 2 = h 241 2 := ((u61 241 2 rfl).trans (u54 241 2 rfl))
  have e98 : h61 241 119 = h 241 119 := ((u61 241 119 rfl).trans (u54 241 119 rfl))
  have e99 : h61 241 67 = h 241 67 := ((u61 241 67 rfl).trans (u54 241 67 rfl))
  have e100 : h61 241 69 = h 241 69 := ((u61 241 69 rfl).trans (u54 241 69 rfl))
  have e101 : h61 241 5 = h 241 5 := ((u61 241 5 rfl).trans (u54 241 5 rfl))
  have e102 : h61 1 1 = h 1 1 := ((u61 1 1 rfl).trans (u54 1 1 rfl))
  have e103 : h61 236 2 = h 236 2 := ((u61 236 2 rfl).trans (u54 236 2 rfl))
  have e104 : h61 1 2 = h 1 2 := ((u61 1 2 rfl).trans (u54 1 2 rfl))
  have e105 : h61 236 10 = h 236 10 := ((u61 236 10 rfl).trans (u54 236 10 rfl))
  have e106 : h61 1 3 = h 1 3 := ((u61 1 3 rfl).trans (u54 1 3 rfl))
  have e107 : h61 236 11 = h 236 11 := ((u61 236 11 rfl).trans (u54 236 11 rfl))
  have b108 := gi_b (lo := 0) (hi := 5) g 241 0 rfl
  have b109 := gi_b (lo := 0) (hi := 4) g 241 1 rfl
  have e110 : h61 0 12 = h 0 12 := ((u61 0 12 rfl).trans (u54 0 12 rfl))
  have e111 : h61 236 21 = h 236 21 := ((u61 236 21 rfl).trans (u54 236 21 rfl))
  have e112 : h61 63 5 = h 63 5 := ((u61 63 5 rfl).trans (u54 63 5 rfl))
  have e113 : h61 18 16 = h54 18 16 := (u61 18 16 rfl)
  have e114 : h61 18 7 = h54 18 7 := (u61 18 7 rfl)
  have e115 : h61 3 2 = h 3 2 := ((u61 3 2 rfl).trans (u54 3 2 rfl))
  have e116 : h61 66 1 = h 66 1 := ((u61 66 1 rfl).trans (u54 66 1 rfl))
  have b117 := gi_b (lo := 0) (hi := 6) g54 73 1 rfl
  have e118 : h61 73 1 = h54 73 1 := (u61 73 1 rfl)
  have b119 := gi_b (lo := 0) (hi := 6) g 73 1 rfl
  have b120 := gi_b (lo := 0) (hi := 6) g54 73 2 rfl
  have e121 : h61 73 2 = h54 73 2 := (u61 73 2 rfl)
  have b122 := gi_b (lo := 0) (hi := 6) g 73 2 rfl
  have b123 := gi_b (lo := 0) (hi := 6) g61 236 22 rfl
  have b124 := gi_b (lo := 0) (hi := 6) g 236 22 rfl
  have b125 := gi_b (lo := 0) (hi := 12) g 210 2 rfl
  have e126 : h61 210 2 = h 210 2 := ((u61 210 2 rfl).trans (u54 210 2 rfl))
  have q129 : h61 8 = h54 8 := funext (fun i => (u61 8 i (fo_no_ok (by decide) i)))
  have q130 : h61 7 = h54 7 := funext (fun i => (u61 7 i (fo_no_ok (by decide) i)))
  have q131 : h61 19 = h54 19 := funext (fun i => (u61 19 i (fo_no_ok (by decide) i)))
  have q132 : h61 67 = h54 67 := funext (fun i => (u61 67 i (fo_no_ok (by decide) i)))
  have ml128 : MCL h61 := MCL.mv y54_0.1 q129 q130 q131 q132 (by omega) (by omega) (by omega) (by omega)
  have q134 : h61 69 = h54 69 := funext (fun i => (u61 69 i (fo_no_ok (by decide) i)))
  have q135 : h61 70 = h54 70 := funext (fun i => (u61 70 i (fo_no_ok (by decide) i)))
  have nb133 : NBc (h61 69) (h61 70) := by rw [q134, q135]; exact y54_0.2.2
  have q136 : h61 8 = h54 8 := funext (fun i => (u61 8 i (fo_no_ok (by decide) i)))
  have q137 : h61 7 = h54 7 := funext (fun i => (u61 7 i (fo_no_ok (by decide) i)))
  have mi127 : MCI h61 := ⟨ml128, HIv.mv y54_0.2.1 q136 q137 (by omega) (by omega) (sv_seven (P := fun x => ∀ i, h61 (76 + 19 * x) i = h54 (76 + 19 * x) i) (fun i => (u61 76 i (fo_nk rfl))) (fun i => (u61 95 i (fo_nk rfl))) (fun i => (u61 114 i (fo_nk rfl))) (fun i => (u61 133 i (fo_nk rfl))) (fun i => (u61 152 i (fo_nk rfl))) (fun i => (u61 171 i (fo_nk rfl))) (fun i => (u61 190 i (fo_nk rfl)))) (by omega) (by omega), nb133⟩
  have q138 : h61 8 = h 8 := funext (fun i => ((u61 8 i (fo_no_ok (by decide) i)).trans (u54 8 i (fo_no_ok (by decide) i))))
  have q139 : h61 7 = h 7 := funext (fun i => ((u61 7 i (fo_no_ok (by decide) i)).trans (u54 7 i (fo_no_ok (by decide) i))))
  have q140 : h61 215 = h 215 := funext (fun i => ((u61 215 i (fo_no_ok (by decide) i)).trans (u54 215 i (fo_no_ok (by decide) i))))
  have q141 : h61 218 = h 218 := funext (fun i => ((u61 218 i (fo_no_ok (by decide) i)).trans (u54 218 i (fo_no_ok (by decide) i))))
  have q142 : h61 214 = h 214 := funext (fun i => ((u61 214 i (fo_no_ok (by decide) i)).trans (u54 214 i (fo_no_ok (by decide) i))))
  have q143 : h61 241 = h 241 := funext (fun i => ((u61 241 i (fo_no_ok (by decide) i)).trans (u54 241 i (fo_no_ok (by decide) i))))
  exact k h61 b c ⟨⟨g61, (show h61 1 1 = h61 236 2 by omega), (RS.i0 (f := h61 238) (by refine ⟨?_, ?_, ?_, ?_, ?_⟩ <;> omega)), (RS.i0 (f := h61 241) (by refine ⟨?_, ?_, ?_, ?_, ?_⟩ <;> omega)), y61_2, (BRh.keep br0 (fun i => ((u61 2 i (fo_nk rfl)).trans (u54 2 i (fo_nk rfl)))) (fun i => ((u61 237 i (fo_nk rfl)).trans (u54 237 i (fo_nk rfl)))) (by omega)), (show h61 1 2 = h61 236 10 by omega), (show h61 1 3 = h61 236 11 by omega), (SVx.keep sv0 (by omega) (fun i _ => ((u61 3 i (fo_nk rfl)).trans (u54 3 i (fo_nk rfl)))) (fun i _ => ((u61 5 i (fo_nk rfl)).trans (u54 5 i (fo_nk rfl)))) (fun i _ => ((u61 6 i (fo_nk rfl)).trans (u54 6 i (fo_nk rfl)))) (fun i _ => ((u61 8 i (fo_nk rfl)).trans (u54 8 i (fo_nk rfl)))) (fun i _ => ((u61 238 i (fo_lk (m := 43) (by omega) rfl)).trans (u54 238 i (fo_nk rfl))))), (show h61 0 12 = h61 236 21 by omega), (fun e => (SVx.keep (ss0 (by omega)) (by omega) (fun i _ => ((u61 210 i (fo_nk rfl)).trans (u54 210 i (fo_nk rfl)))) (fun i _ => ((u61 212 i (fo_nk rfl)).trans (u54 212 i (fo_nk rfl)))) (fun i _ => ((u61 213 i (fo_nk rfl)).trans (u54 213 i (fo_nk rfl)))) (fun i _ => ((u61 215 i (fo_nk rfl)).trans (u54 215 i (fo_nk rfl)))) (fun i _ => ((u61 241 i (fo_nk rfl)).trans (u54 241 i (fo_nk rfl)))))), y61_0, mi127, (show h61 63 5 ≤ h61 18 16 by omega), (show (h61 63 5) < (h61 18 16) ∨ ((h61 18 7) ≤ (h61 3 2) ∧ (h61 66 1) = (h61 3 2) - (h61 18 7)) ∨ ((h61 3 2) < (h61 18 7) ∧ (h61 66 1) = 0) by omega), y61_1, (MR.mv mr0 (MSN.then (MSN.refl) (fun i _ => ((u61 238 i (fo_lk (m := 43) (by omega) rfl)).trans (u54 238 i (fo_nk rfl))))) (by omega) q138 q139 (by omega)), (fun e => SM.mv (sm0 (by omega)) q140 q141 q142 (by omega) q143)⟩, (by omega)⟩ (by omega) (by omega)
-- the law, case at 1099
set_option maxRecDepth 100000 in
set_option maxHeartbeats 100000000 in
theorem lc_1099 {L : Nat} {xs : Nat → Int32} {d b c : Nat} {h : hp} {cr : Nat → Nat → Option Nat} {Q : hp_Q} (hcr : CR cr) (hL : L ≤ 3072) (hr : 1 ≤ b ∧ 6 ≤ c) (i : Int) (I : LIm i h) (hi : 0 ≤ i ∧ i + 6 ≤ L) (k : ∀ (h2 : hp) (b2 c2 : Nat), LIm (i + 6) h2 → b ≤ b2 + 1 → c ≤ c2 + 6 → wp (md_xa (L, xs)) (d + 107) 0 (1501, [(0, .ref 1000000), (1, .ref 0), (2, .ref 236), (3, .ref 259), (4, vi i)], [], hp_w h2 cr, b2, c2) Q) : wp (md_xa (L, xs)) (d + 107) 0 (1099, [(0, .ref 1000000), (1, .ref 0), (2, .ref 236), (3, .ref 259), (4, vi i)], [], hp_w h cr, b, c) Q := by
  obtain ⟨⟨g, i11, r238, r241, gp0, br0, er2, er3, sv0, sf0, ss0, gs0, mi0, ml1, ml2, gq0, mr0, sm0⟩, ie0⟩ := I
  have r238e := r238.e0
  have r241e := r241.e0
  obtain ⟨⟨se0, se1, se2, se3, se4, se5, se6, se7, se8, se9⟩, -⟩ := id sv0
  have b1 := gi_b (lo := 0) (hi := 5) g 3 0 rfl
  have b2 := gi_b (lo := 0) (hi := 5) g 238 0 rfl
  have b3 := gi_b (lo := 0) (hi := 4) g 3 1 rfl
  have b4 := gi_b (lo := 0) (hi := 4) g 238 1 rfl
  have b5 := gi_b (lo := 0) (hi := 12) g 3 2 rfl
  have b6 := gi_b (lo := 0) (hi := 12) g 238 2 rfl
  have b7 := gi_b (lo := -2147483648) (hi := 2147483647) g 3 3 rfl
  have b8 := gi_b (lo := 0) (hi := 999) g 238 3 rfl
  have b9 := gi_b (lo := -2147483648) (hi := 2147483647) g 3 4 rfl
  have b10 := gi_b (lo := 0) (hi := 999) g 238 4 rfl
  have b11 := gi_b (lo := -2147483648) (hi := 2147483647) g 3 5 rfl
  have b12 := gi_b (lo := 0) (hi := 9) g 238 5 rfl
  have b13 := gi_b (lo := -2147483648) (hi := 2147483647) g 3 6 rfl
  have b14 := gi_b (lo := 0) (hi := 999) g 238 6 rfl
  have b15 := gi_b (lo := -2147483648) (hi := 2147483647) g 3 7 rfl
  have b16 := gi_b (lo := 0) (hi := 3) g 238 7 rfl
  have b17 := gi_b (lo := -2147483648) (hi := 2147483647) g 3 8 rfl
  have b18 := gi_b (lo := 0) (hi := 999) g 238 8 rfl
  have b19 := gi_b (lo := -2147483648) (hi := 2147483647) g 3 9 rfl
  have b20 := gi_b (lo := 0) (hi := 999) g 238 9 rfl
  have b21 := gi_b (lo := -2147483648) (hi := 2147483647) g 63 5 rfl
  have b22 := gi_b (lo := 0) (hi := 12) g 18 7 rfl
  have b23 := gi_b (lo := 0) (hi := 12) g 66 1 rfl
  have b24 := gi_b (lo := 0) (hi := 1) g 0 12 rfl
  have b25 := gi_b (lo := 0) (hi := 1) g 236 21 rfl
  have bl_ := gi_b (lo := 0) (hi := 800) g 1 1 rfl
  have tb0 : BufC (h 2) (h 1 1) h := ⟨fun _ => rfl, rfl, by omega, by omega⟩
  have b26 := gi_b (lo := 0) (hi := 6) g 238 98 rfl
  have b27 := gi_b (lo := 0) (hi := 6) g 238 99 rfl
  have b28 := gi_b (lo := 0) (hi := 6) g 238 100 rfl
  have b29 := gi_b (lo := 0) (hi := 6) g 238 101 rfl
  have b30 := gi_b (lo := 0) (hi := 3) g 238 102 rfl
  have b31 := gi_b (lo := 0) (hi := 12) g 238 106 rfl
  have b32 := gi_b (lo := 0) (hi := 12) g 238 73 rfl
  have b33 := gi_b (lo := 0) (hi := 9999) g 238 119 rfl
  have b34 := gi_b (lo := 0) (hi := 9999) g 238 67 rfl
  have b35 := gi_b (lo := 0) (hi := 9) g 238 69 rfl
  have b36 := gi_b (lo := 0) (hi := 6) g 241 98 rfl
  have b37 := gi_b (lo := 0) (hi := 6) g 241 99 rfl
  have b38 := gi_b (lo := 0) (hi := 6) g 241 100 rfl
  have b39 := gi_b (lo := 0) (hi := 6) g 241 101 rfl
  have b40 := gi_b (lo := 0) (hi := 3) g 241 102 rfl
  have b41 := gi_b (lo := 0) (hi := 12) g 241 106 rfl
  have b42 := gi_b (lo := 0) (hi := 12) g 241 73 rfl
  have b43 := gi_b (lo := 0) (hi := 12) g 241 2 rfl
  have b44 := gi_b (lo := 0) (hi := 9999) g 241 119 rfl
  have b45 := gi_b (lo := 0) (hi := 9999) g 241 67 rfl
  have b46 := gi_b (lo := 0) (hi := 9) g 241 69 rfl
  have b47 := gi_b (lo := 0) (hi := 9) g 241 5 rfl
  have b48 := gi_b (lo := 0) (hi := 800) g 1 1 rfl
  have b49 := gi_b (lo := 0) (hi := 800) g 236 2 rfl
  have b50 := gi_b (lo := -2147483648) (hi := 2147483647) g 1 2 rfl
  have b51 := gi_b (lo := -2147483648) (hi := 2147483647) g 236 10 rfl
  have b52 := gi_b (lo := -2147483648) (hi := 2147483647) g 1 3 rfl
  have b53 := gi_b (lo := -2147483648) (hi := 2147483647) g 236 11 rfl
  refine wi_aload_n (i := 1) (x := 0) (nx := 1100) (r1 := 0) (r2 := 0) (r3 := 0) rfl rfl ?_
  refine wr_V (k0 := 0) (rest := []) (as := [.ref 0]) (nx := 1103) (r1 := 47) (r2 := 0) (r3 := 0) rfl rfl rfl (of_decide_eq_true rfl) rfl rfl (by decide) rfl rfl (of_decide_eq_true rfl) (of_decide_eq_true rfl) ?_
  refine ct_47_0 hcr  g   (show (h 63 5) ≤ (h 18 16) by omega) (show (h 63 5) < (h 18 16) ∨ ((h 18 7) ≤ (h 3 2) ∧ (h 66 1) = (h 3 2) - (h 18 7)) ∨ ((h 3 2) < (h 18 7) ∧ (h 66 1) = 0) by omega) (show 0 ≤ (h 3 9) by omega) (show (h 18 16) ≤ 1900000000 by omega) mi0 (fun h54 z55 g54 u54 (fz55 : -1 ≤ z55 ∧ z55 ≤ 12) (p54_0 : (h54 63 5) ≤ (h54 18 16)) (p54_1 : (h54 63 5) < (h54 18 16) ∨ ((h54 18 7) ≤ (h54 3 2) ∧ (h54 66 1) = (h54 3 2) - (h54 18 7)) ∨ ((h54 3 2) < (h54 18 7) ∧ (h54 66 1) = 0)) (p54_2 : (h 18 16) ≤ (h54 18 16) ∧ (h54 18 16) ≤ (h 18 16) + 20) y54_0 => ?_)
  have e56 : h54 63 5 = h 63 5 := (u54 63 5 rfl)
  have b57 := gi_b (lo := -2147483648) (hi := 2147483647) g54 18 16 rfl
  have e58 : h54 18 7 = h 18 7 := (u54 18 7 rfl)
  have e59 : h54 3 2 = h 3 2 := (u54 3 2 rfl)
  have e60 : h54 66 1 = h 66 1 := (u54 66 1 rfl)
  refine wk_i ?_
  refine wi_pop (nx := 1104) (r1 := 0) (r2 := 0) (r3 := 0) rfl rfl ?_
  refine wi_aload_n (i := 2) (x := 236) (nx := 1105) (r1 := 0) (r2 := 0) (r3 := 0) rfl rfl ?_
  refine wr_V (k0 := 236) (rest := []) (as := [.ref 236]) (nx := 1108) (r1 := 312) (r2 := 0) (r3 := 11) rfl rfl rfl (of_decide_eq_true rfl) rfl rfl (by decide) rfl rfl (of_decide_eq_true rfl) (of_decide_eq_true rfl) ?_
  have e62 : h54 238 98 = h 238 98 := (u54 238 98 rfl)
  have e63 : h54 238 99 = h 238 99 := (u54 238 99 rfl)
  have e64 : h54 238 100 = h 238 100 := (u54 238 100 rfl)
  have e65 : h54 238 101 = h 238 101 := (u54 238 101 rfl)
  have e66 : h54 238 102 = h 238 102 := (u54 238 102 rfl)
  have e67 : h54 238 106 = h 238 106 := (u54 238 106 rfl)
  have e68 : h54 238 73 = h 238 73 := (u54 238 73 rfl)
  have e69 : h54 238 2 = h 238 2 := (u54 238 2 rfl)
  have e70 : h54 238 119 = h 238 119 := (u54 238 119 rfl)
  have e71 : h54 238 67 = h 238 67 := (u54 238 67 rfl)
  have e72 : h54 238 69 = h 238 69 := (u54 238 69 rfl)
  have e73 : h54 238 5 = h 238 5 := (u54 238 5 rfl)
  have gs75 := GPS.fr u54 rfl gs0
  have gq76 := GQS.fr u54 rfl gq0
  have gp77 := GPH.fr u54 rfl gp0
  refine ct_312_236 hcr  g54   (show (h54 238 98) + (h54 238 99) + (h54 238 100) + (h54 238 101) + (h54 238 102) + (h54 238 106) = (h54 238 73) by omega) (show (h54 238 73) ≤ (h54 238 2) by omega) (show (h54 238 119) ≤ (h54 238 67) by omega) (show (h54 238 69) ≤ (h54 238 5) by omega) (show (h54 238 2) ≤ 12 * (h54 238 5) by omega) gs75 gq76 gp77 (fun h61 z74 g61 u61 (fz74 : -1 ≤ z74 ∧ z74 ≤ 12) (p61_0 : (h61 238 98) + (h61 238 99) + (h61 238 100) + (h61 238 101) + (h61 238 102) + (h61 238 106) = (h61 238 73)) (p61_1 : (h61 238 73) ≤ (h61 238 2)) (p61_2 : (h61 238 119) ≤ (h61 238 67)) (p61_3 : (h61 238 69) ≤ (h61 238 5)) (p61_4 : (h61 238 2) ≤ 12 * (h61 238 5)) y61_0 y61_1 y61_2 y61_3 => ?_)
  have b78 := gi_b (lo := 0) (hi := 6) g61 238 98 rfl
  have b79 := gi_b (lo := 0) (hi := 6) g61 238 99 rfl
  have b80 := gi_b (lo := 0) (hi := 6) g61 238 100 rfl
  have b81 := gi_b (lo := 0) (hi := 6) g61 238 101 rfl
  have b82 := gi_b (lo := 0) (hi := 3) g61 238 102 rfl
  have b83 := gi_b (lo := 0) (hi := 12) g61 238 106 rfl
  have e84 : h61 238 73 = h 238 73 := ((u61 238 73 rfl).trans (u54 238 73 rfl))
  have e85 : h61 238 2 = h 238 2 := ((u61 238 2 rfl).trans (u54 238 2 rfl))
  have b86 := gi_b (lo := 0) (hi := 9999) g61 238 119 rfl
  have b87 := gi_b (lo := 0) (hi := 9999) g61 238 67 rfl
  have b88 := gi_b (lo := 0) (hi := 9) g61 238 69 rfl
  have e89 : h61 238 5 = h 238 5 := ((u61 238 5 rfl).trans (u54 238 5 rfl))
  refine wk_i ?_
  refine wi_pop (nx := 1109) (r1 := 0) (r2 := 0) (r3 := 0) rfl rfl ?_
  refine wi_goto (nx := 1112) (r1 := 1501) (r2 := 0) (r3 := 0) rfl ?_
  have e90 : h61 241 98 = h 241 98 := ((u61 241 98 rfl).trans (u54 241 98 rfl))
  have e91 : h61 241 99 = h 241 99 := ((u61 241 99 rfl).trans (u54 241 99 rfl))
  have e92 : h61 241 100 = h 241 100 := ((u61 241 100 rfl).trans (u54 241 100 rfl))
  have e93 : h61 241 101 = h 241 101 := ((u61 241 101 rfl).trans (u54 241 101 rfl))
  have e94 : h61 241 102 = h 241 102 := ((u61 241 102 rfl).trans (u54 241 102 rfl))
  have e95 : h61 241 106 = h 241 106 := ((u61 241 106 rfl).trans (u54 241 106 rfl))
  have e96 : h61 241 73 = h 241 73 := ((u61 241 73 rfl).trans (u54 241 73 rfl))
  have e97 : h61 241 2 = h 241 2 := ((u61 241 2 rfl).trans (u54 241 2 rfl))
  have e98 : h61 241 119 = h 241 119 := ((u61 241 119 rfl).trans (u54 241 119 rfl))
  have e99 : h61 241 67 = h 241 67 := ((u61 241 67 rfl).trans (u54 241 67 rfl))
  have e100 : h61 241 69 = h 241 69 := ((u61 241 69 rfl).trans (u54 241 69 rfl))
  have e101 : h61 241 5 = h 241 5 := ((u61 241 5 rfl).trans (u54 241 5 rfl))
  have e102 : h61 1 1 = h 1 1 := ((u61 1 1 rfl).trans (u54 1 1 rfl))
  have e103 : h61 236 2 = h 236 2 := ((u61 236 2 rfl).trans (u54 236 2 rfl))
  have e104 : h61 1 2 = h 1 2 := ((u61 1 2 rfl).trans (u54 1 2 rfl))
  have e105 : h61 236 10 = h 236 10 := ((u61 236 10 rfl).trans (u54 236 10 rfl))
  have e106 : h61 1 3 = h 1 3 := ((u61 1 3 rfl).trans (u54 1 3 rfl))
  have e107 : h61 236 11 = h 236 11 := ((u61 236 11 rfl).trans (u54 236 11 rfl))
  have b108 := gi_b (lo := 0) (hi := 5) g 241 0 rfl
  have b109 := gi_b (lo := 0) (hi := 4) g 241 1 rfl
  have e110 : h61 0 12 = h 0 12 := ((u61 0 12 rfl).trans (u54 0 12 rfl))
  have e111 : h61 236 21 = h 236 21 := ((u61 236 21 rfl).trans (u54 236 21 rfl))
  have e112 : h61 63 5 = h 63 5 := ((u61 63 5 rfl).trans (u54 63 5 rfl))
  have e113 : h61 18 16 = h54 18 16 := (u61 18 16 rfl)
  have e114 : h61 18 7 = h 18 7 := ((u61 18 7 rfl).trans (u54 18 7 rfl))
  have e115 : h61 3 2 = h 3 2 := ((u61 3 2 rfl).trans (u54 3 2 rfl))
  have e116 : h61 66 1 = h 66 1 := ((u61 66 1 rfl).trans (u54 66 1 rfl))
  have b117 := gi_b (lo := 0) (hi := 6) g54 73 1 rfl
  have e118 : h61 73 1 = h54 73 1 := (u61 73 1 rfl)
  have b119 := gi_b (lo := 0) (hi := 6) g 73 1 rfl
  have b120 := gi_b (lo := 0) (hi := 6) g54 73 2 rfl
  have e121 : h61 73 2 = h54 73 2 := (u61 73 2 rfl)
  have b122 := gi_b (lo := 0) (hi := 6) g 73 2 rfl
  have b123 := gi_b (lo := 0) (hi := 6) g61 236 22 rfl
  have b124 := gi_b (lo := 0) (hi := 6) g 236 22 rfl
  have b125 := gi_b (lo := 0) (hi := 12) g 210 2 rfl
  have e126 : h61 210 2 = h 210 2 := ((u61 210 2 rfl).trans (u54 210 2 rfl))
  have q129 : h61 8 = h54 8 := funext (fun i => (u61 8 i (fo_no_ok (by decide) i)))
  have q130 : h61 7 = h54 7 := funext (fun i => (u61 7 i (fo_no_ok (by decide) i)))
  have q131 : h61 19 = h54 19 := funext (fun i => (u61 19 i (fo_no_ok (by decide) i)))
  have q132 : h61 67 = h54 67 := funext (fun i => (u61 67 i (fo_no_ok (by decide) i)))
  have ml128 : MCL h61 := MCL.mv y54_0.1 q129 q130 q131 q132 (by omega) (by omega) (by omega) (by omega)
  have q134 : h61 69 = h54 69 := funext (fun i => (u61 69 i (fo_no_ok (by decide) i)))
  have q135 : h61 70 = h54 70 := funext (fun i => (u61 70 i (fo_no_ok (by decide) i)))
  have nb133 : NBc (h61 69) (h61 70) := by rw [q134, q135]; exact y54_0.2.2
  have q136 : h61 8 = h54 8 := funext (fun i => (u61 8 i (fo_no_ok (by decide) i)))
  have q137 : h61 7 = h54 7 := funext (fun i => (u61 7 i (fo_no_ok (by decide) i)))
  have mi127 : MCI h61 := ⟨ml128, HIv.mv y54_0.2.1 q136 q137 (by omega) (by omega) (sv_seven (P := fun x => ∀ i, h61 (76 + 19 * x) i = h54 (76 + 19 * x) i) (fun i => (u61 76 i (fo_nk rfl))) (fun i => (u61 95 i (fo_nk rfl))) (fun i => (u61 114 i (fo_nk rfl))) (fun i => (u61 133 i (fo_nk rfl))) (fun i => (u61 152 i (fo_nk rfl))) (fun i => (u61 171 i (fo_nk rfl))) (fun i => (u61 190 i (fo_nk rfl)))) (by omega) (by omega), nb133⟩
  have q138 : h61 8 = h 8 := funext (fun i => ((u61 8 i (fo_no_ok (by decide) i)).trans (u54 8 i (fo_no_ok (by decide) i))))
  have q139 : h61 7 = h 7 := funext (fun i => ((u61 7 i (fo_no_ok (by decide) i)).trans (u54 7 i (fo_no_ok (by decide) i))))
  have q140 : h61 215 = h 215 := funext (fun i => ((u61 215 i (fo_no_ok (by decide) i)).trans (u54 215 i (fo_no_ok (by decide) i))))
  have q141 : h61 218 = h 218 := funext (fun i => ((u61 218 i (fo_no_ok (by decide) i)).trans (u54 218 i (fo_no_ok (by decide) i))))
  have q142 : h61 214 = h 214 := funext (fun i => ((u61 214 i (fo_no_ok (by decide) i)).trans (u54 214 i (fo_no_ok (by decide) i))))
  have q143 : h61 241 = h 241 := funext (fun i => ((u61 241 i (fo_no_ok (by decide) i)).trans (u54 241 i (fo_no_ok (by decide) i))))
  exact k h61 b c ⟨⟨g61, (show h61 1 1 = h61 236 2 by omega), (RS.i0 (f := h61 238) (by refine ⟨?_, ?_, ?_, ?_, ?_⟩ <;> omega)), (RS.i0 (f := h61 241) (by refine ⟨?_, ?_, ?_, ?_, ?_⟩ <;> omega)), y61_3, (BRh.keep br0 (fun i => ((u61 2 i (fo_nk rfl)).trans (u54 2 i (fo_nk rfl)))) (fun i => ((u61 237 i (fo_nk rfl)).trans (u54 237 i (fo_nk rfl)))) (by omega)), (show h61 1 2 = h61 236 10 by omega), (show h61 1 3 = h61 236 11 by omega), (SVx.keep sv0 (by omega) (fun i _ => ((u61 3 i (fo_nk rfl)).trans (u54 3 i (fo_nk rfl)))) (fun i _ => ((u61 5 i (fo_nk rfl)).trans (u54 5 i (fo_nk rfl)))) (fun i _ => ((u61 6 i (fo_nk rfl)).trans (u54 6 i (fo_nk rfl)))) (fun i _ => ((u61 8 i (fo_nk rfl)).trans (u54 8 i (fo_nk rfl)))) (fun i _ => ((u61 238 i (fo_lk (m := 43) (by omega) rfl)).trans (u54 238 i (fo_nk rfl))))), (show h61 0 12 = h61 236 21 by omega), (fun e => (SVx.keep (ss0 (by omega)) (by omega) (fun i _ => ((u61 210 i (fo_nk rfl)).trans (u54 210 i (fo_nk rfl)))) (fun i _ => ((u61 212 i (fo_nk rfl)).trans (u54 212 i (fo_nk rfl)))) (fun i _ => ((u61 213 i (fo_nk rfl)).trans (u54 213 i (fo_nk rfl)))) (fun i _ => ((u61 215 i (fo_nk rfl)).trans (u54 215 i (fo_nk rfl)))) (fun i _ => ((u61 241 i (fo_nk rfl)).trans (u54 241 i (fo_nk rfl)))))), y61_0, mi127, (show h61 63 5 ≤ h61 18 16 by omega), (show (h61 63 5) < (h61 18 16) ∨ ((h61 18 7) ≤ (h61 3 2) ∧ (h61 66 1) = (h61 3 2) - (h61 18 7)) ∨ ((h61 3 2) < (h61 18 7) ∧ (h61 66 1) = 0) by omega), y61_1, (MR.mv mr0 (MSN.trans (MSN.then (MSN.refl) (fun i _ => (u54 238 i (fo_nk rfl)))) y61_2) (by omega) q138 q139 (by omega)), (fun e => SM.mv (sm0 (by omega)) q140 q141 q142 (by omega) q143)⟩, (by omega)⟩ (by omega) (by omega)
-- the law, case at 1112
set_option maxRecDepth 100000 in
set_option maxHeartbeats 100000000 in
theorem lc_1112 {L : Nat} {xs : Nat → Int32} {d b c : Nat} {h : hp} {cr : Nat → Nat → Option Nat} {Q : hp_Q} (hcr : CR cr) (hL : L ≤ 3072) (hr : 1 ≤ b ∧ 6 ≤ c) (i : Int) (I : LIm i h) (hi : 0 ≤ i ∧ i + 6 ≤ L) (k : ∀ (h2 : hp) (b2 c2 : Nat), LIm (i + 6) h2 → b ≤ b2 + 1 → c ≤ c2 + 6 → wp (md_xa (L, xs)) (d + 107) 0 (1501, [(0, .ref 1000000), (1, .ref 0), (2, .ref 236), (3, .ref 259), (4, vi i)], [], hp_w h2 cr, b2, c2) Q) : wp (md_xa (L, xs)) (d + 107) 0 (1112, [(0, .ref 1000000), (1, .ref 0), (2, .ref 236), (3, .ref 259), (4, vi i)], [], hp_w h cr, b, c) Q := by
  obtain ⟨⟨g, i11, r238, r241, gp0, br0, er2, er3, sv0, sf0, ss0, gs0, mi0, ml1, ml2, gq0, mr0, sm0⟩, ie0⟩ := I
  have r238e := r238.e0
  have r241e := r241.e0
  obtain ⟨⟨se0, se1, se2, se3, se4, se5, se6, se7, se8, se9⟩, -⟩ := id sv0
  have b1 := gi_b (lo := 0) (hi := 5) g 3 0 rfl
  have b2 := gi_b (lo := 0) (hi := 5) g 238 0 rfl
  have b3 := gi_b (lo := 0) (hi := 4) g 3 1 rfl
  have b4 := gi_b (lo := 0) (hi := 4) g 238 1 rfl
  have b5 := gi_b (lo := 0) (hi := 12) g 3 2 rfl
  have b6 := gi_b (lo := 0) (hi := 12) g 238 2 rfl
  have b7 := gi_b (lo := -2147483648) (hi := 2147483647) g 3 3 rfl
  have b8 := gi_b (lo := 0) (hi := 999) g 238 3 rfl
  have b9 := gi_b (lo := -2147483648) (hi := 2147483647) g 3 4 rfl
  have b10 := gi_b (lo := 0) (hi := 999) g 238 4 rfl
  have b11 := gi_b (lo := -2147483648) (hi := 2147483647) g 3 5 rfl
  have b12 := gi_b (lo := 0) (hi := 9) g 238 5 rfl
  have b13 := gi_b (lo := -2147483648) (hi := 2147483647) g 3 6 rfl
  have b14 := gi_b (lo := 0) (hi := 999) g 238 6 rfl
  have b15 := gi_b (lo := -2147483648) (hi := 2147483647) g 3 7 rfl
  have b16 := gi_b (lo := 0) (hi := 3) g 238 7 rfl
  have b17 := gi_b (lo := -2147483648) (hi := 2147483647) g 3 8 rfl
  have b18 := gi_b (lo := 0) (hi := 999) g 238 8 rfl
  have b19 := gi_b (lo := -2147483648) (hi := 2147483647) g 3 9 rfl
  have b20 := gi_b (lo := 0) (hi := 999) g 238 9 rfl
  have b21 := gi_b (lo := -2147483648) (hi := 2147483647) g 63 5 rfl
  have b22 := gi_b (lo := 0) (hi := 12) g 18 7 rfl
  have b23 := gi_b (lo := 0) (hi := 12) g 66 1 rfl
  have b24 := gi_b (lo := 0) (hi := 1) g 0 12 rfl
  have b25 := gi_b (lo := 0) (hi := 1) g 236 21 rfl
  have bl_ := gi_b (lo := 0) (hi := 800) g 1 1 rfl
  have tb0 : BufC (h 2) (h 1 1) h := ⟨fun _ => rfl, rfl, by omega, by omega⟩
  have b26 := gi_b (lo := 0) (hi := 6) g 238 98 rfl
  have b27 := gi_b (lo := 0) (hi := 6) g 238 99 rfl
  have b28 := gi_b (lo := 0) (hi := 6) g 238 100 rfl
  have b29 := gi_b (lo := 0) (hi := 6) g 238 101 rfl
  have b30 := gi_b (lo := 0) (hi := 3) g 238 102 rfl
  have b31 := gi_b (lo := 0) (hi := 12) g 238 106 rfl
  have b32 := gi_b (lo := 0) (hi := 12) g 238 73 rfl
  have b33 := gi_b (lo := 0) (hi := 9999) g 238 119 rfl
  have b34 := gi_b (lo := 0) (hi := 9999) g 238 67 rfl
  have b35 := gi_b (lo := 0) (hi := 9) g 238 69 rfl
  have b36 := gi_b (lo := 0) (hi := 6) g 241 98 rfl
  have b37 := gi_b (lo := 0) (hi := 6) g 241 99 rfl
  have b38 := gi_b (lo := 0) (hi := 6) g 241 100 rfl
  have b39 := gi_b (lo := 0) (hi := 6) g 241 101 rfl
  have b40 := gi_b (lo := 0) (hi := 3) g 241 102 rfl
  have b41 := gi_b (lo := 0) (hi := 12) g 241 106 rfl
  have b42 := gi_b (lo := 0) (hi := 12) g 241 73 rfl
  have b43 := gi_b (lo := 0) (hi := 12) g 241 2 rfl
  have b44 := gi_b (lo := 0) (hi := 9999) g 241 119 rfl
  have b45 := gi_b (lo := 0) (hi := 9999) g 241 67 rfl
  have b46 := gi_b (lo := 0) (hi := 9) g 241 69 rfl
  have b47 := gi_b (lo := 0) (hi := 9) g 241 5 rfl
  have b48 := gi_b (lo := 0) (hi := 800) g 1 1 rfl
  have b49 := gi_b (lo := 0) (hi := 800) g 236 2 rfl
  have b50 := gi_b (lo := -2147483648) (hi := 2147483647) g 1 2 rfl
  have b51 := gi_b (lo := -2147483648) (hi := 2147483647) g 236 10 rfl
  have b52 := gi_b (lo := -2147483648) (hi := 2147483647) g 1 3 rfl
  have b53 := gi_b (lo := -2147483648) (hi := 2147483647) g 236 11 rfl
  refine wi_aload_n (i := 1) (x := 0) (nx := 1113) (r1 := 0) (r2 := 0) (r3 := 0) rfl rfl ?_
  refine wr_V (k0 := 0) (rest := []) (as := [.ref 0]) (nx := 1116) (r1 := 48) (r2 := 0) (r3 := 0) rfl rfl rfl (of_decide_eq_true rfl) rfl rfl (by decide) rfl rfl (of_decide_eq_true rfl) (of_decide_eq_true rfl) ?_
  refine ct_48_0 hcr  g   (show (h 63 5) ≤ (h 18 16) by omega) (show (h 63 5) < (h 18 16) ∨ ((h 18 7) ≤ (h 3 2) ∧ (h 66 1) = (h 3 2) - (h 18 7)) ∨ ((h 3 2) < (h 18 7) ∧ (h 66 1) = 0) by omega) (show 0 ≤ (h 3 9) by omega) (show (h 18 16) ≤ 1900000000 by omega) mi0 (fun h54 z55 g54 u54 (fz55 : -1 ≤ z55 ∧ z55 ≤ 12) (p54_0 : (h54 63 5) ≤ (h54 18 16)) (p54_1 : (h54 63 5) < (h54 18 16) ∨ ((h54 18 7) ≤ (h54 3 2) ∧ (h54 66 1) = (h54 3 2) - (h54 18 7)) ∨ ((h54 3 2) < (h54 18 7) ∧ (h54 66 1) = 0)) (p54_2 : (h 18 16) ≤ (h54 18 16) ∧ (h54 18 16) ≤ (h 18 16) + 20) y54_0 => ?_)
  have b56 := gi_b (lo := -2147483648) (hi := 2147483647) g54 63 5 rfl
  have b57 := gi_b (lo := -2147483648) (hi := 2147483647) g54 18 16 rfl
  have e58 : h54 18 7 = h 18 7 := (u54 18 7 rfl)
  have e59 : h54 3 2 = h 3 2 := (u54 3 2 rfl)
  have b60 := gi_b (lo := 0) (hi := 12) g54 66 1 rfl
  refine wk_i ?_
  refine wi_pop (nx := 1117) (r1 := 0) (r2 := 0) (r3 := 0) rfl rfl ?_
  refine wi_aload_n (i := 2) (x := 236) (nx := 1118) (r1 := 0) (r2 := 0) (r3 := 0) rfl rfl ?_
  refine wr_V (k0 := 236) (rest := []) (as := [.ref 236]) (nx := 1121) (r1 := 331) (r2 := 0) (r3 := 11) rfl rfl rfl (of_decide_eq_true rfl) rfl rfl (by decide) rfl rfl (of_decide_eq_true rfl) (of_decide_eq_true rfl) ?_
  have e62 : h54 238 98 = h 238 98 := (u54 238 98 rfl)
  have e63 : h54 238 99 = h 238 99 := (u54 238 99 rfl)
  have e64 : h54 238 100 = h 238 100 := (u54 238 100 rfl)
  have e65 : h54 238 101 = h 238 101 := (u54 238 101 rfl)
  have e66 : h54 238 102 = h 238 102 := (u54 238 102 rfl)
  have e67 : h54 238 106 = h 238 106 := (u54 238 106 rfl)
  have e68 : h54 238 73 = h 238 73 := (u54 238 73 rfl)
  have e69 : h54 238 2 = h 238 2 := (u54 238 2 rfl)
  have e70 : h54 238 119 = h 238 119 := (u54 238 119 rfl)
  have e71 : h54 238 67 = h 238 67 := (u54 238 67 rfl)
  have e72 : h54 238 69 = h 238 69 := (u54 238 69 rfl)
  have e73 : h54 238 5 = h 238 5 := (u54 238 5 rfl)
  have gs75 := GPS.fr u54 rfl gs0
  have gq76 := GQS.fr u54 rfl gq0
  have gp77 := GPH.fr u54 rfl gp0
  refine ct_331_236 hcr  g54   (show (h54 238 98) + (h54 238 99) + (h54 238 100) + (h54 238 101) + (h54 238 102) + (h54 238 106) = (h54 238 73) by omega) (show (h54 238 73) ≤ (h54 238 2) by omega) (show (h54 238 119) ≤ (h54 238 67) by omega) (show (h54 238 69) ≤ (h54 238 5) by omega) (show (h54 238 2) ≤ 12 * (h54 238 5) by omega) gs75 gq76 gp77 (fun h61 z74 g61 u61 (fz74 : -2147483648 ≤ z74 ∧ z74 ≤ 2147483647) (p61_0 : (h61 238 98) + (h61 238 99) + (h61 238 100) + (h61 238 101) + (h61 238 102) + (h61 238 106) = (h61 238 73)) (p61_1 : (h61 238 73) ≤ (h61 238 2)) (p61_2 : (h61 238 119) ≤ (h61 238 67)) (p61_3 : (h61 238 69) ≤ (h61 238 5)) (p61_4 : (h61 238 2) ≤ 12 * (h61 238 5)) y61_0 y61_1 y61_2 y61_3 => ?_)
  have e78 : h61 238 98 = h 238 98 := ((u61 238 98 rfl).trans (u54 238 98 rfl))
  have e79 : h61 238 99 = h 238 99 := ((u61 238 99 rfl).trans (u54 238 99 rfl))
  have e80 : h61 238 100 = h 238 100 := ((u61 238 100 rfl).trans (u54 238 100 rfl))
  have e81 : h61 238 101 = h 238 101 := ((u61 238 101 rfl).trans (u54 238 101 rfl))
  have e82 : h61 238 102 = h 238 102 := ((u61 238 102 rfl).trans (u54 238 102 rfl))
  have e83 : h61 238 106 = h 238 106 := ((u61 238 106 rfl).trans (u54 238 106 rfl))
  have e84 : h61 238 73 = h 238 73 := ((u61 238 73 rfl).trans (u54 238 73 rfl))
  have e85 : h61 238 2 = h 238 2 := ((u61 238 2 rfl).trans (u54 238 2 rfl))
  have e86 : h61 238 119 = h 238 119 := ((u61 238 119 rfl).trans (u54 238 119 rfl))
  have e87 : h61 238 67 = h 238 67 := ((u61 238 67 rfl).trans (u54 238 67 rfl))
  have e88 : h61 238 69 = h 238 69 := ((u61 238 69 rfl).trans (u54 238 69 rfl))
  have e89 : h61 238 5 = h 238 5 := ((u61 238 5 rfl).trans (u54 238 5 rfl))
  refine wk_i ?_
  refine wi_pop (nx := 1122) (r1 := 0) (r2 := 0) (r3 := 0) rfl rfl ?_
  refine wi_goto (nx := 1125) (r1 := 1501) (r2 := 0) (r3 := 0) rfl ?_
  have e90 : h61 241 98 = h 241 98 := ((u61 241 98 rfl).trans (u54 241 98 rfl))
  have e91 : h61 241 99 = h 241 99 := ((u61 241 99 rfl).trans (u54 241 99 rfl))
  have e92 : h61 241 100 = h 241 100 := ((u61 241 100 rfl).trans (u54 241 100 rfl))
  have e93 : h61 241 101 = h 241 101 := ((u61 241 101 rfl).trans (u54 241 101 rfl))
  have e94 : h61 241 102 = h 241 102 := ((u61 241 102 rfl).trans (u54 241 102 rfl))
  have e95 : h61 241 106 = h 241 106 := ((u61 241 106 rfl).trans (u54 241 106 rfl))
  have e96 : h61 241 73 = h 241 73 := ((u61 241 73 rfl).trans (u54 241 73 rfl))
  have e97 : h61 241 2 = h 241 2 := ((u61 241 2 rfl).trans (u54 241 2 rfl))
  have e98 : h61 241 119 = h 241 119 := ((u61 241 119 rfl).trans (u54 241 119 rfl))
  have e99 : h61 241 67 = h 241 67 := ((u61 241 67 rfl).trans (u54 241 67 rfl))
  have e100 : h61 241 69 = h 241 69 := ((u61 241 69 rfl).trans (u54 241 69 rfl))
  have e101 : h61 241 5 = h 241 5 := ((u61 241 5 rfl).trans (u54 241 5 rfl))
  have e102 : h61 1 1 = h 1 1 := ((u61 1 1 rfl).trans (u54 1 1 rfl))
  have e103 : h61 236 2 = h 236 2 := ((u61 236 2 rfl).trans (u54 236 2 rfl))
  have e104 : h61 1 2 = h 1 2 := ((u61 1 2 rfl).trans (u54 1 2 rfl))
  have e105 : h61 236 10 = h 236 10 := ((u61 236 10 rfl).trans (u54 236 10 rfl))
  have e106 : h61 1 3 = h 1 3 := ((u61 1 3 rfl).trans (u54 1 3 rfl))
  have e107 : h61 236 11 = h 236 11 := ((u61 236 11 rfl).trans (u54 236 11 rfl))
  have b108 := gi_b (lo := 0) (hi := 5) g 241 0 rfl
  have b109 := gi_b (lo := 0) (hi := 4) g 241 1 rfl
  have e110 : h61 0 12 = h 0 12 := ((u61 0 12 rfl).trans (u54 0 12 rfl))
  have e111 : h61 236 21 = h 236 21 := ((u61 236 21 rfl).trans (u54 236 21 rfl))
  have e112 : h61 63 5 = h54 63 5 := (u61 63 5 rfl)
  have e113 : h61 18 16 = h54 18 16 := (u61 18 16 rfl)
  have e114 : h61 18 7 = h 18 7 := ((u61 18 7 rfl).trans (u54 18 7 rfl))
  have e115 : h61 3 2 = h 3 2 := ((u61 3 2 rfl).trans (u54 3 2 rfl))
  have e116 : h61 66 1 = h54 66 1 := (u61 66 1 rfl)
  have b117 := gi_b (lo := 0) (hi := 6) g54 73 1 rfl
  have e118 : h61 73 1 = h54 73 1 := (u61 73 1 rfl)
  have b119 := gi_b (lo := 0) (hi := 6) g 73 1 rfl
  have b120 := gi_b (lo := 0) (hi := 6) g54 73 2 rfl
  have e121 : h61 73 2 = h54 73 2 := (u61 73 2 rfl)
  have b122 := gi_b (lo := 0) (hi := 6) g 73 2 rfl
  have b123 := gi_b (lo := 0) (hi := 6) g61 236 22 rfl
  have b124 := gi_b (lo := 0) (hi := 6) g 236 22 rfl
  have b125 := gi_b (lo := 0) (hi := 12) g 210 2 rfl
  have e126 : h61 210 2 = h 210 2 := ((u61 210 2 rfl).trans (u54 210 2 rfl))
  have q129 : h61 8 = h54 8 := funext (fun i => (u61 8 i (fo_no_ok (by decide) i)))
  have q130 : h61 7 = h54 7 := funext (fun i => (u61 7 i (fo_no_ok (by decide) i)))
  have q131 : h61 19 = h54 19 := funext (fun i => (u61 19 i (fo_no_ok (by decide) i)))
  have q132 : h61 67 = h54 67 := funext (fun i => (u61 67 i (fo_no_ok (by decide) i)))
  have ml128 : MCL h61 := MCL.mv y54_0.1 q129 q130 q131 q132 (by omega) (by omega) (by omega) (by omega)
  have q134 : h61 69 = h54 69 := funext (fun i => (u61 69 i (fo_no_ok (by decide) i)))
  have q135 : h61 70 = h54 70 := funext (fun i => (u61 70 i (fo_no_ok (by decide) i)))
  have nb133 : NBc (h61 69) (h61 70) := by rw [q134, q135]; exact y54_0.2.2
  have q136 : h61 8 = h54 8 := funext (fun i => (u61 8 i (fo_no_ok (by decide) i)))
  have q137 : h61 7 = h54 7 := funext (fun i => (u61 7 i (fo_no_ok (by decide) i)))
  have mi127 : MCI h61 := ⟨ml128, HIv.mv y54_0.2.1 q136 q137 (by omega) (by omega) (sv_seven (P := fun x => ∀ i, h61 (76 + 19 * x) i = h54 (76 + 19 * x) i) (fun i => (u61 76 i (fo_nk rfl))) (fun i => (u61 95 i (fo_nk rfl))) (fun i => (u61 114 i (fo_nk rfl))) (fun i => (u61 133 i (fo_nk rfl))) (fun i => (u61 152 i (fo_nk rfl))) (fun i => (u61 171 i (fo_nk rfl))) (fun i => (u61 190 i (fo_nk rfl)))) (by omega) (by omega), nb133⟩
  have q138 : h61 8 = h 8 := funext (fun i => ((u61 8 i (fo_no_ok (by decide) i)).trans (u54 8 i (fo_no_ok (by decide) i))))
  have q139 : h61 7 = h 7 := funext (fun i => ((u61 7 i (fo_no_ok (by decide) i)).trans (u54 7 i (fo_no_ok (by decide) i))))
  have q140 : h61 215 = h 215 := funext (fun i => ((u61 215 i (fo_no_ok (by decide) i)).trans (u54 215 i (fo_no_ok (by decide) i))))
  have q141 : h61 218 = h 218 := funext (fun i => ((u61 218 i (fo_no_ok (by decide) i)).trans (u54 218 i (fo_no_ok (by decide) i))))
  have q142 : h61 214 = h 214 := funext (fun i => ((u61 214 i (fo_no_ok (by decide) i)).trans (u54 214 i (fo_no_ok (by decide) i))))
  have q143 : h61 241 = h 241 := funext (fun i => ((u61 241 i (fo_no_ok (by decide) i)).trans (u54 241 i (fo_no_ok (by decide) i))))
  exact k h61 b c ⟨⟨g61, (show h61 1 1 = h61 236 2 by omega), (RS.i0 (f := h61 238) (by refine ⟨?_, ?_, ?_, ?_, ?_⟩ <;> omega)), (RS.i0 (f := h61 241) (by refine ⟨?_, ?_, ?_, ?_, ?_⟩ <;> omega)), y61_3, (BRh.keep br0 (fun i => ((u61 2 i (fo_nk rfl)).trans (u54 2 i (fo_nk rfl)))) (fun i => ((u61 237 i (fo_nk rfl)).trans (u54 237 i (fo_nk rfl)))) (by omega)), (show h61 1 2 = h61 236 10 by omega), (show h61 1 3 = h61 236 11 by omega), (SVx.keep sv0 (by omega) (fun i _ => ((u61 3 i (fo_nk rfl)).trans (u54 3 i (fo_nk rfl)))) (fun i _ => ((u61 5 i (fo_nk rfl)).trans (u54 5 i (fo_nk rfl)))) (fun i _ => ((u61 6 i (fo_nk rfl)).trans (u54 6 i (fo_nk rfl)))) (fun i _ => ((u61 8 i (fo_nk rfl)).trans (u54 8 i (fo_nk rfl)))) (fun i _ => ((u61 238 i (fo_lk (m := 31) (by omega) rfl)).trans (u54 238 i (fo_nk rfl))))), (show h61 0 12 = h61 236 21 by omega), (fun e => (SVx.keep (ss0 (by omega)) (by omega) (fun i _ => ((u61 210 i (fo_nk rfl)).trans (u54 210 i (fo_nk rfl)))) (fun i _ => ((u61 212 i (fo_nk rfl)).trans (u54 212 i (fo_nk rfl)))) (fun i _ => ((u61 213 i (fo_nk rfl)).trans (u54 213 i (fo_nk rfl)))) (fun i _ => ((u61 215 i (fo_nk rfl)).trans (u54 215 i (fo_nk rfl)))) (fun i _ => ((u61 241 i (fo_nk rfl)).trans (u54 241 i (fo_nk rfl)))))), y61_0, mi127, (show h61 63 5 ≤ h61 18 16 by omega), (show (h61 63 5) < (h61 18 16) ∨ ((h61 18 7) ≤ (h61 3 2) ∧ (h61 66 1) = (h61 3 2) - (h61 18 7)) ∨ ((h61 3 2) < (h61 18 7) ∧ (h61 66 1) = 0) by omega), y61_1, (MR.mv mr0 (MSN.trans (MSN.then (MSN.refl) (fun i _ => (u54 238 i (fo_nk rfl)))) y61_2) (by omega) q138 q139 (by omega)), (fun e => SM.mv (sm0 (by omega)) q140 q141 q142 (by omega) q143)⟩, (by omega)⟩ (by omega) (by omega)
-- the law, case at 1125
set_option maxRecDepth 100000 in
set_option maxHeartbeats 100000000 in
theorem lc_1125 {L : Nat} {xs : Nat → Int32} {d b c : Nat} {h : hp} {cr : Nat → Nat → Option Nat} {Q : hp_Q} (hcr : CR cr) (hL : L ≤ 3072) (hr : 1 ≤ b ∧ 6 ≤ c) (i : Int) (I : LIm i h) (hi : 0 ≤ i ∧ i + 6 ≤ L) (k : ∀ (h2 : hp) (b2 c2 : Nat), LIm (i + 6) h2 → b ≤ b2 + 1 → c ≤ c2 + 6 → wp (md_xa (L, xs)) (d + 107) 0 (1501, [(0, .ref 1000000), (1, .ref 0), (2, .ref 236), (3, .ref 259), (4, vi i)], [], hp_w h2 cr, b2, c2) Q) : wp (md_xa (L, xs)) (d + 107) 0 (1125, [(0, .ref 1000000), (1, .ref 0), (2, .ref 236), (3, .ref 259), (4, vi i)], [], hp_w h cr, b, c) Q := by
  obtain ⟨⟨g, i11, r238, r241, gp0, br0, er2, er3, sv0, sf0, ss0, gs0, mi0, ml1, ml2, gq0, mr0, sm0⟩, ie0⟩ := I
  have r238e := r238.e0
  have r241e := r241.e0
  obtain ⟨⟨se0, se1, se2, se3, se4, se5, se6, se7, se8, se9⟩, -⟩ := id sv0
  have b1 := gi_b (lo := 0) (hi := 5) g 3 0 rfl
  have b2 := gi_b (lo := 0) (hi := 5) g 238 0 rfl
  have b3 := gi_b (lo := 0) (hi := 4) g 3 1 rfl
  have b4 := gi_b (lo := 0) (hi := 4) g 238 1 rfl
  have b5 := gi_b (lo := 0) (hi := 12) g 3 2 rfl
  have b6 := gi_b (lo := 0) (hi := 12) g 238 2 rfl
  have b7 := gi_b (lo := -2147483648) (hi := 2147483647) g 3 3 rfl
  have b8 := gi_b (lo := 0) (hi := 999) g 238 3 rfl
  have b9 := gi_b (lo := -2147483648) (hi := 2147483647) g 3 4 rfl
  have b10 := gi_b (lo := 0) (hi := 999) g 238 4 rfl
  have b11 := gi_b (lo := -2147483648) (hi := 2147483647) g 3 5 rfl
  have b12 := gi_b (lo := 0) (hi := 9) g 238 5 rfl
  have b13 := gi_b (lo := -2147483648) (hi := 2147483647) g 3 6 rfl
  have b14 := gi_b (lo := 0) (hi := 999) g 238 6 rfl
  have b15 := gi_b (lo := -2147483648) (hi := 2147483647) g 3 7 rfl
  have b16 := gi_b (lo := 0) (hi := 3) g 238 7 rfl
  have b17 := gi_b (lo := -2147483648) (hi := 2147483647) g 3 8 rfl
  have b18 := gi_b (lo := 0) (hi := 999) g 238 8 rfl
  have b19 := gi_b (lo := -2147483648) (hi := 2147483647) g 3 9 rfl
  have b20 := gi_b (lo := 0) (hi := 999) g 238 9 rfl
  have b21 := gi_b (lo := -2147483648) (hi := 2147483647) g 63 5 rfl
  have b22 := gi_b (lo := 0) (hi := 12) g 18 7 rfl
  have b23 := gi_b (lo := 0) (hi := 12) g 66 1 rfl
  have b24 := gi_b (lo := 0) (hi := 1) g 0 12 rfl
  have b25 := gi_b (lo := 0) (hi := 1) g 236 21 rfl
  have bl_ := gi_b (lo := 0) (hi := 800) g 1 1 rfl
  have tb0 : BufC (h 2) (h 1 1) h := ⟨fun _ => rfl, rfl, by omega, by omega⟩
  have b26 := gi_b (lo := 0) (hi := 6) g 238 98 rfl
  have b27 := gi_b (lo := 0) (hi := 6) g 238 99 rfl
  have b28 := gi_b (lo := 0) (hi := 6) g 238 100 rfl
  have b29 := gi_b (lo := 0) (hi := 6) g 238 101 rfl
  have b30 := gi_b (lo := 0) (hi := 3) g 238 102 rfl
  have b31 := gi_b (lo := 0) (hi := 12) g 238 106 rfl
  have b32 := gi_b (lo := 0) (hi := 12) g 238 73 rfl
  have b33 := gi_b (lo := 0) (hi := 9999) g 238 119 rfl
  have b34 := gi_b (lo := 0) (hi := 9999) g 238 67 rfl
  have b35 := gi_b (lo := 0) (hi := 9) g 238 69 rfl
  have b36 := gi_b (lo := 0) (hi := 6) g 241 98 rfl
  have b37 := gi_b (lo := 0) (hi := 6) g 241 99 rfl
  have b38 := gi_b (lo := 0) (hi := 6) g 241 100 rfl
  have b39 := gi_b (lo := 0) (hi := 6) g 241 101 rfl
  have b40 := gi_b (lo := 0) (hi := 3) g 241 102 rfl
  have b41 := gi_b (lo := 0) (hi := 12) g 241 106 rfl
  have b42 := gi_b (lo := 0) (hi := 12) g 241 73 rfl
  have b43 := gi_b (lo := 0) (hi := 12) g 241 2 rfl
  have b44 := gi_b (lo := 0) (hi := 9999) g 241 119 rfl
  have b45 := gi_b (lo := 0) (hi := 9999) g 241 67 rfl
  have b46 := gi_b (lo := 0) (hi := 9) g 241 69 rfl
  have b47 := gi_b (lo := 0) (hi := 9) g 241 5 rfl
  have b48 := gi_b (lo := 0) (hi := 800) g 1 1 rfl
  have b49 := gi_b (lo := 0) (hi := 800) g 236 2 rfl
  have b50 := gi_b (lo := -2147483648) (hi := 2147483647) g 1 2 rfl
  have b51 := gi_b (lo := -2147483648) (hi := 2147483647) g 236 10 rfl
  have b52 := gi_b (lo := -2147483648) (hi := 2147483647) g 1 3 rfl
  have b53 := gi_b (lo := -2147483648) (hi := 2147483647) g 236 11 rfl
  refine wi_aload_n (i := 1) (x := 0) (nx := 1126) (r1 := 0) (r2 := 0) (r3 := 0) rfl rfl ?_
  refine wi_aload_n (i := 0) (x := 1000000) (nx := 1127) (r1 := 0) (r2 := 0) (r3 := 0) rfl rfl ?_
  refine wi_iload (i := 4) (e := i) (nx := 1129) (r1 := 0) (r2 := 0) (r3 := 0) rfl rfl ?_
  refine wi_iconst (n := 1) (nx := 1130) (r1 := 0) (r2 := 0) (r3 := 0) rfl ?_
  refine wr_add (nx := 1131) (r1 := 0) (r2 := 0) (r3 := 0) rfl (fun e54 (fe54 : e54 = i + 1) => ?_)
  obtain ⟨i55, ei55⟩ : ∃ q : Nat, e54 = (q : Int) := ⟨(e54).toNat, by omega⟩
  have s56 := sc_b (xs i55)
  refine wr_sc (a := e54) (f := i55) (nx := 1132) (r1 := 0) (r2 := 0) (r3 := 0) rfl (by omega) (by omega) hL ?_
  refine wi_aload_n (i := 3) (x := 259) (nx := 1133) (r1 := 0) (r2 := 0) (r3 := 0) rfl rfl ?_
  refine wi_S (rest := []) (as := [.ref 0, vi ((xs i55).toInt), .ref 259]) (nx := 1136) (r1 := 19) (r2 := 19) (r3 := 0) rfl rfl rfl (of_decide_eq_true rfl) rfl rfl (of_decide_eq_true rfl) (of_decide_eq_true rfl) ?_
  refine wi_aload_n (i := 2) (x := 259) (nx := 1) (r1 := 0) (r2 := 0) (r3 := 0) rfl rfl ?_
  refine wi_iconst (n := 0) (nx := 2) (r1 := 0) (r2 := 0) (r3 := 0) rfl ?_
  refine wi_aload_n (i := 0) (x := 0) (nx := 3) (r1 := 0) (r2 := 0) (r3 := 0) rfl rfl ?_
  refine wi_iload_n (i := 1) (e := (xs i55).toInt) (nx := 4) (r1 := 0) (r2 := 0) (r3 := 0) rfl rfl ?_
  refine wr_V (k0 := 0) (rest := [vi 0, .ref 259]) (as := [.ref 0, vi ((xs i55).toInt)]) (nx := 7) (r1 := 81) (r2 := 1) (r3 := 0) rfl rfl rfl (of_decide_eq_true rfl) rfl rfl (by decide) rfl rfl (of_decide_eq_true rfl) (of_decide_eq_true rfl) ?_
  refine ct_81_0 hcr hr  g ((xs i55).toInt) (by omega)  (fun h57 z58 g57 u57 (fz58 : -2147483648 ≤ z58 ∧ z58 ≤ 2147483647) => ?_) (fun h57 g57 u57 => ?_)
  ·
    refine wk_i ?_
    refine wi_i2l (nx := 8) (r1 := 0) (r2 := 0) (r3 := 0) rfl (by omega) ?_
    refine wr_ls (k0 := 259) (a := 0) (f := 0) (x := z58) (bl := -9223372036854775808) (bh := 9223372036854775807) (nx := 9) (r1 := 0) (r2 := 0) (r3 := 0) rfl (by decide) rfl (by omega) (by omega) (by decide) g57 rfl (by omega) (fun h59 g59 w59 u59 => ?_)
    refine wi_goto (nx := 12) (r1 := 15) (r2 := 0) (r3 := 0) rfl ?_
    refine wi_iconst (n := 0) (nx := 16) (r1 := 0) (r2 := 0) (r3 := 0) rfl ?_
    refine wi_ireturn (nx := 17) (r1 := 0) (r2 := 0) (r3 := 0) rfl rfl ?_
    refine wk_i ?_
    refine wi_istore (i := 5) (e := 0) (lo2 := [(5, vi 0), (0, .ref 1000000), (1, .ref 0), (2, .ref 236), (3, .ref 259), (4, vi i)]) (nx := 1138) (r1 := 0) (r2 := 0) (r3 := 0) rfl rfl ?_
    refine wi_aload_n (i := 2) (x := 236) (nx := 1139) (r1 := 0) (r2 := 0) (r3 := 0) rfl rfl ?_
    refine wi_aload_n (i := 0) (x := 1000000) (nx := 1140) (r1 := 0) (r2 := 0) (r3 := 0) rfl rfl ?_
    refine wi_iload (i := 4) (e := i) (nx := 1142) (r1 := 0) (r2 := 0) (r3 := 0) rfl rfl ?_
    refine wi_iconst (n := 1) (nx := 1143) (r1 := 0) (r2 := 0) (r3 := 0) rfl ?_
    refine wr_add (nx := 1144) (r1 := 0) (r2 := 0) (r3 := 0) rfl (fun e60 (fe60 : e60 = i + 1) => ?_)
    refine wr_sc (a := e60) (f := i55) (nx := 1145) (r1 := 0) (r2 := 0) (r3 := 0) rfl (by omega) (by omega) hL ?_
    refine wr_V (k0 := 236) (rest := []) (as := [.ref 236, vi ((xs i55).toInt)]) (nx := 1148) (r1 := 292) (r2 := 1) (r3 := 11) rfl rfl rfl (of_decide_eq_true rfl) rfl rfl (by decide) rfl rfl (of_decide_eq_true rfl) (of_decide_eq_true rfl) ?_
    have e62 : h59 238 98 = h 238 98 := ((u59 238 98 rfl).trans (u57 238 98 rfl))
    have e63 : h59 238 99 = h 238 99 := ((u59 238 99 rfl).trans (u57 238 99 rfl))
    have e64 : h59 238 100 = h 238 100 := ((u59 238 100 rfl).trans (u57 238 100 rfl))
    have e65 : h59 238 101 = h 238 101 := ((u59 238 101 rfl).trans (u57 238 101 rfl))
    have e66 : h59 238 102 = h 238 102 := ((u59 238 102 rfl).trans (u57 238 102 rfl))
    have e67 : h59 238 106 = h 238 106 := ((u59 238 106 rfl).trans (u57 238 106 rfl))
    have e68 : h59 238 73 = h 238 73 := ((u59 238 73 rfl).trans (u57 238 73 rfl))
    have e69 : h59 238 2 = h 238 2 := ((u59 238 2 rfl).trans (u57 238 2 rfl))
    have e70 : h59 238 119 = h 238 119 := ((u59 238 119 rfl).trans (u57 238 119 rfl))
    have e71 : h59 238 67 = h 238 67 := ((u59 238 67 rfl).trans (u57 238 67 rfl))
    have e72 : h59 238 69 = h 238 69 := ((u59 238 69 rfl).trans (u57 238 69 rfl))
    have e73 : h59 238 5 = h 238 5 := ((u59 238 5 rfl).trans (u57 238 5 rfl))
    refine ct_292_236 hcr  g59 ((xs i55).toInt) (by omega) (show (h59 238 98) + (h59 238 99) + (h59 238 100) + (h59 238 101) + (h59 238 102) + (h59 238 106) = (h59 238 73) by omega) (show (h59 238 73) ≤ (h59 238 2) by omega) (show (h59 238 119) ≤ (h59 238 67) by omega) (show (h59 238 69) ≤ (h59 238 5) by omega) (show (h59 238 2) ≤ 12 * (h59 238 5) by omega) (fun h61 z74 g61 u61 (fz74 : -2147483648 ≤ z74 ∧ z74 ≤ 2147483647) (p61_0 : (h61 238 98) + (h61 238 99) + (h61 238 100) + (h61 238 101) + (h61 238 102) + (h61 238 106) = (h61 238 73)) (p61_1 : (h61 238 73) ≤ (h61 238 2)) (p61_2 : (h61 238 119) ≤ (h61 238 67)) (p61_3 : (h61 238 69) ≤ (h61 238 5)) (p61_4 : (h61 238 2) ≤ 12 * (h61 238 5)) y61_0 => ?_)
    have b75 := gi_b (lo := 0) (hi := 6) g61 238 98 rfl
    have b76 := gi_b (lo := 0) (hi := 6) g61 238 99 rfl
    have b77 := gi_b (lo := 0) (hi := 6) g61 238 100 rfl
    have b78 := gi_b (lo := 0) (hi := 6) g61 238 101 rfl
    have b79 := gi_b (lo := 0) (hi := 3) g61 238 102 rfl
    have b80 := gi_b (lo := 0) (hi := 12) g61 238 106 rfl
    have b81 := gi_b (lo := 0) (hi := 12) g61 238 73 rfl
    have e82 : h61 238 2 = h 238 2 := ((y61_0 2 (by decide)).trans ((u59 238 2 rfl).trans (u57 238 2 rfl)))
    have b83 := gi_b (lo := 0) (hi := 9999) g61 238 119 rfl
    have b84 := gi_b (lo := 0) (hi := 9999) g61 238 67 rfl
    have b85 := gi_b (lo := 0) (hi := 9) g61 238 69 rfl
    have e86 : h61 238 5 = h 238 5 := ((y61_0 5 (by decide)).trans ((u59 238 5 rfl).trans (u57 238 5 rfl)))
    refine wk_i ?_
    refine wi_istore (i := 6) (e := z74) (lo2 := [(6, vi z74), (5, vi 0), (0, .ref 1000000), (1, .ref 0), (2, .ref 236), (3, .ref 259), (4, vi i)]) (nx := 1150) (r1 := 0) (r2 := 0) (r3 := 0) rfl rfl ?_
    refine wi_goto (nx := 1153) (r1 := 1501) (r2 := 0) (r3 := 0) rfl ?_
    refine wp.lo (lo := [(0, .ref 1000000), (1, .ref 0), (2, .ref 236), (3, .ref 259), (4, vi i)]) ⟨rfl, rfl, rfl, rfl, rfl, trivial⟩ rfl ?_
    have e87 : h61 241 98 = h 241 98 := ((u61 241 98 rfl).trans ((u59 241 98 rfl).trans (u57 241 98 rfl)))
    have e88 : h61 241 99 = h 241 99 := ((u61 241 99 rfl).trans ((u59 241 99 rfl).trans (u57 241 99 rfl)))
    have e89 : h61 241 100 = h 241 100 := ((u61 241 100 rfl).trans ((u59 241 100 rfl).trans (u57 241 100 rfl)))
    have e90 : h61 241 101 = h 241 101 := ((u61 241 101 rfl).trans ((u59 241 101 rfl).trans (u57 241 101 rfl)))
    have e91 : h61 241 102 = h 241 102 := ((u61 241 102 rfl).trans ((u59 241 102 rfl).trans (u57 241 102 rfl)))
    have e92 : h61 241 106 = h 241 106 := ((u61 241 106 rfl).trans ((u59 241 106 rfl).trans (u57 241 106 rfl)))
    have e93 : h61 241 73 = h 241 73 := ((u61 241 73 rfl).trans ((u59 241 73 rfl).trans (u57 241 73 rfl)))
    have e94 : h61 241 2 = h 241 2 := ((u61 241 2 rfl).trans ((u59 241 2 rfl).trans (u57 241 2 rfl)))
    have e95 : h61 241 119 = h 241 119 := ((u61 241 119 rfl).trans ((u59 241 119 rfl).trans (u57 241 119 rfl)))
    have e96 : h61 241 67 = h 241 67 := ((u61 241 67 rfl).trans ((u59 241 67 rfl).trans (u57 241 67 rfl)))
    have e97 : h61 241 69 = h 241 69 := ((u61 241 69 rfl).trans ((u59 241 69 rfl).trans (u57 241 69 rfl)))
    have e98 : h61 241 5 = h 241 5 := ((u61 241 5 rfl).trans ((u59 241 5 rfl).trans (u57 241 5 rfl)))
    have e99 : h61 1 1 = h 1 1 := ((u61 1 1 rfl).trans ((u59 1 1 rfl).trans (u57 1 1 rfl)))
    have e100 : h61 236 2 = h 236 2 := ((u61 236 2 rfl).trans ((u59 236 2 rfl).trans (u57 236 2 rfl)))
    have e101 : h61 1 2 = h 1 2 := ((u61 1 2 rfl).trans ((u59 1 2 rfl).trans (u57 1 2 rfl)))
    have e102 : h61 236 10 = h 236 10 := ((u61 236 10 rfl).trans ((u59 236 10 rfl).trans (u57 236 10 rfl)))
    have e103 : h61 1 3 = h 1 3 := ((u61 1 3 rfl).trans ((u59 1 3 rfl).trans (u57 1 3 rfl)))
    have e104 : h61 236 11 = h 236 11 := ((u61 236 11 rfl).trans ((u59 236 11 rfl).trans (u57 236 11 rfl)))
    have gp105 := GPH.fr u57 rfl gp0
    have gp106 := GPH.fr u59 rfl gp105
    have gp107 := GPH.fr u61 rfl gp106
    have b108 := gi_b (lo := 0) (hi := 5) g 241 0 rfl
    have b109 := gi_b (lo := 0) (hi := 4) g 241 1 rfl
    have gs110 := GPS.fr u57 rfl gs0
    have gs111 := GPS.fr u59 rfl gs110
    have gs112 := GPS.kept u61 rfl y61_0 gs111
    have e113 : h61 0 12 = h 0 12 := ((u61 0 12 rfl).trans ((u59 0 12 rfl).trans (u57 0 12 rfl)))
    have e114 : h61 236 21 = h 236 21 := ((u61 236 21 rfl).trans ((u59 236 21 rfl).trans (u57 236 21 rfl)))
    have e115 : h61 63 5 = h 63 5 := ((u61 63 5 rfl).trans ((u59 63 5 rfl).trans (u57 63 5 rfl)))
    have e116 : h61 18 16 = h 18 16 := ((u61 18 16 rfl).trans ((u59 18 16 rfl).trans (u57 18 16 rfl)))
    have e117 : h61 18 7 = h 18 7 := ((u61 18 7 rfl).trans ((u59 18 7 rfl).trans (u57 18 7 rfl)))
    have e118 : h61 3 2 = h 3 2 := ((u61 3 2 rfl).trans ((u59 3 2 rfl).trans (u57 3 2 rfl)))
    have e119 : h61 66 1 = h 66 1 := ((u61 66 1 rfl).trans ((u59 66 1 rfl).trans (u57 66 1 rfl)))
    have b120 := gi_b (lo := 0) (hi := 6) g 73 1 rfl
    have e121 : h61 73 1 = h 73 1 := ((u61 73 1 rfl).trans ((u59 73 1 rfl).trans (u57 73 1 rfl)))
    have b122 := gi_b (lo := 0) (hi := 6) g 73 2 rfl
    have e123 : h61 73 2 = h 73 2 := ((u61 73 2 rfl).trans ((u59 73 2 rfl).trans (u57 73 2 rfl)))
    have b124 := gi_b (lo := 0) (hi := 6) g 236 22 rfl
    have e125 : h61 236 22 = h 236 22 := ((u61 236 22 rfl).trans ((u59 236 22 rfl).trans (u57 236 22 rfl)))
    have b126 := gi_b (lo := 0) (hi := 12) g 210 2 rfl
    have e127 : h61 210 2 = h 210 2 := ((u61 210 2 rfl).trans ((u59 210 2 rfl).trans (u57 210 2 rfl)))
    have q130 : h61 8 = h 8 := funext (fun i => ((u61 8 i (fo_no_ok (by decide) i)).trans ((u59 8 i rfl).trans (u57 8 i (fo_no_ok (by decide) i)))))
    have q131 : h61 7 = h 7 := funext (fun i => ((u61 7 i (fo_no_ok (by decide) i)).trans ((u59 7 i rfl).trans (u57 7 i (fo_no_ok (by decide) i)))))
    have q132 : h61 19 = h 19 := funext (fun i => ((u61 19 i (fo_no_ok (by decide) i)).trans ((u59 19 i rfl).trans (u57 19 i (fo_no_ok (by decide) i)))))
    have q133 : h61 67 = h 67 := funext (fun i => ((u61 67 i (fo_no_ok (by decide) i)).trans ((u59 67 i rfl).trans (u57 67 i (fo_no_ok (by decide) i)))))
    have ml129 : MCL h61 := MCL.mv mi0.1 q130 q131 q132 q133 (by omega) (by omega) (by omega) (by omega)
    have q135 : h61 69 = h 69 := funext (fun i => ((u61 69 i (fo_no_ok (by decide) i)).trans ((u59 69 i rfl).trans (u57 69 i (fo_no_ok (by decide) i)))))
    have q136 : h61 70 = h 70 := funext (fun i => ((u61 70 i (fo_no_ok (by decide) i)).trans ((u59 70 i rfl).trans (u57 70 i (fo_no_ok (by decide) i)))))
    have nb134 : NBc (h61 69) (h61 70) := by rw [q135, q136]; exact mi0.2.2
    have q137 : h61 8 = h 8 := funext (fun i => ((u61 8 i (fo_no_ok (by decide) i)).trans ((u59 8 i rfl).trans (u57 8 i (fo_no_ok (by decide) i)))))
    have q138 : h61 7 = h 7 := funext (fun i => ((u61 7 i (fo_no_ok (by decide) i)).trans ((u59 7 i rfl).trans (u57 7 i (fo_no_ok (by decide) i)))))
    have mi128 : MCI h61 := ⟨ml129, HIv.mv mi0.2.1 q137 q138 (by omega) (by omega) (sv_seven (P := fun x => ∀ i, h61 (76 + 19 * x) i = h (76 + 19 * x) i) (fun i => ((u61 76 i (fn_a (by decide) (fn_a (by decide) (fn_a (by decide) (fn_a (by decide) fn_0))))).trans ((u59 76 i (fn_a (by omega) fn_0)).trans (u57 76 i (fn_a (by decide) fn_0))))) (fun i => ((u61 95 i (fn_a (by decide) (fn_a (by decide) (fn_a (by decide) (fn_a (by decide) fn_0))))).trans ((u59 95 i (fn_a (by omega) fn_0)).trans (u57 95 i (fn_a (by decide) fn_0))))) (fun i => ((u61 114 i (fn_a (by decide) (fn_a (by decide) (fn_a (by decide) (fn_a (by decide) fn_0))))).trans ((u59 114 i (fn_a (by omega) fn_0)).trans (u57 114 i (fn_a (by decide) fn_0))))) (fun i => ((u61 133 i (fn_a (by decide) (fn_a (by decide) (fn_a (by decide) (fn_a (by decide) fn_0))))).trans ((u59 133 i (fn_a (by omega) fn_0)).trans (u57 133 i (fn_a (by decide) fn_0))))) (fun i => ((u61 152 i (fn_a (by decide) (fn_a (by decide) (fn_a (by decide) (fn_a (by decide) fn_0))))).trans ((u59 152 i (fn_a (by omega) fn_0)).trans (u57 152 i (fn_a (by decide) fn_0))))) (fun i => ((u61 171 i (fn_a (by decide) (fn_a (by decide) (fn_a (by decide) (fn_a (by decide) fn_0))))).trans ((u59 171 i (fn_a (by omega) fn_0)).trans (u57 171 i (fn_a (by decide) fn_0))))) (fun i => ((u61 190 i (fn_a (by decide) (fn_a (by decide) (fn_a (by decide) (fn_a (by decide) fn_0))))).trans ((u59 190 i (fn_a (by omega) fn_0)).trans (u57 190 i (fn_a (by decide) fn_0)))))) (by omega) (by omega), nb134⟩
    have gq139 := GQS.fr u57 rfl gq0
    have gq140 := GQS.fr u59 rfl gq139
    have gq141 := GQS.kept u61 rfl y61_0 gq140
    have q142 : h61 8 = h 8 := funext (fun i => ((u61 8 i (fo_no_ok (by decide) i)).trans ((u59 8 i rfl).trans (u57 8 i (fo_no_ok (by decide) i)))))
    have q143 : h61 7 = h 7 := funext (fun i => ((u61 7 i (fo_no_ok (by decide) i)).trans ((u59 7 i rfl).trans (u57 7 i (fo_no_ok (by decide) i)))))
    have q144 : h61 215 = h 215 := funext (fun i => ((u61 215 i (fo_no_ok (by decide) i)).trans ((u59 215 i rfl).trans (u57 215 i (fo_no_ok (by decide) i)))))
    have q145 : h61 218 = h 218 := funext (fun i => ((u61 218 i (fo_no_ok (by decide) i)).trans ((u59 218 i rfl).trans (u57 218 i (fo_no_ok (by decide) i)))))
    have q146 : h61 214 = h 214 := funext (fun i => ((u61 214 i (fo_no_ok (by decide) i)).trans ((u59 214 i rfl).trans (u57 214 i (fo_no_ok (by decide) i)))))
    have q147 : h61 241 = h 241 := funext (fun i => ((u61 241 i (fo_no_ok (by decide) i)).trans ((u59 241 i rfl).trans (u57 241 i (fo_no_ok (by decide) i)))))
    exact k h61 b c ⟨⟨g61, (show h61 1 1 = h61 236 2 by omega), (RS.i0 (f := h61 238) (by refine ⟨?_, ?_, ?_, ?_, ?_⟩ <;> omega)), (RS.i0 (f := h61 241) (by refine ⟨?_, ?_, ?_, ?_, ?_⟩ <;> omega)), gp107, (BRh.keep br0 (fun i => ((u61 2 i (fn_a (by decide) (fn_a (by decide) (fn_a (by decide) (fn_a (by decide) fn_0))))).trans ((u59 2 i (fn_a (by omega) fn_0)).trans (u57 2 i (fn_a (by decide) fn_0))))) (fun i => ((u61 237 i (fn_a (by decide) (fn_a (by decide) (fn_a (by decide) (fn_a (by decide) fn_0))))).trans ((u59 237 i (fn_a (by omega) fn_0)).trans (u57 237 i (fn_a (by decide) fn_0))))) (by omega)), (show h61 1 2 = h61 236 10 by omega), (show h61 1 3 = h61 236 11 by omega), (SVx.keep sv0 (by omega) (fun i _ => ((u61 3 i (fn_a (by decide) (fn_a (by decide) (fn_a (by decide) (fn_a (by decide) fn_0))))).trans ((u59 3 i (fn_a (by omega) fn_0)).trans (u57 3 i (fn_a (by decide) fn_0))))) (fun i _ => ((u61 5 i (fn_a (by decide) (fn_a (by decide) (fn_a (by decide) (fn_a (by decide) fn_0))))).trans ((u59 5 i (fn_a (by omega) fn_0)).trans (u57 5 i (fn_a (by decide) fn_0))))) (fun i _ => ((u61 6 i (fn_a (by decide) (fn_a (by decide) (fn_a (by decide) (fn_a (by decide) fn_0))))).trans ((u59 6 i (fn_a (by omega) fn_0)).trans (u57 6 i (fn_a (by decide) fn_0))))) (fun i _ => ((u61 8 i (fn_a (by decide) (fn_a (by decide) (fn_a (by decide) (fn_a (by decide) fn_0))))).trans ((u59 8 i (fn_a (by omega) fn_0)).trans (u57 8 i (fn_a (by decide) fn_0))))) (fun i _ => ((y61_0 i (by omega)).trans ((u59 238 i (fn_a (by omega) fn_0)).trans (u57 238 i (fn_a (by decide) fn_0)))))), (show h61 0 12 = h61 236 21 by omega), (fun e => (SVx.keep (ss0 (by omega)) (by omega) (fun i _ => ((u61 210 i (fn_a (by decide) (fn_a (by decide) (fn_a (by decide) (fn_a (by decide) fn_0))))).trans ((u59 210 i (fn_a (by omega) fn_0)).trans (u57 210 i (fn_a (by decide) fn_0))))) (fun i _ => ((u61 212 i (fn_a (by decide) (fn_a (by decide) (fn_a (by decide) (fn_a (by decide) fn_0))))).trans ((u59 212 i (fn_a (by omega) fn_0)).trans (u57 212 i (fn_a (by decide) fn_0))))) (fun i _ => ((u61 213 i (fn_a (by decide) (fn_a (by decide) (fn_a (by decide) (fn_a (by decide) fn_0))))).trans ((u59 213 i (fn_a (by omega) fn_0)).trans (u57 213 i (fn_a (by decide) fn_0))))) (fun i _ => ((u61 215 i (fn_a (by decide) (fn_a (by decide) (fn_a (by decide) (fn_a (by decide) fn_0))))).trans ((u59 215 i (fn_a (by omega) fn_0)).trans (u57 215 i (fn_a (by decide) fn_0))))) (fun i _ => ((u61 241 i (fn_a (by decide) (fn_a (by decide) (fn_a (by decide) (fn_a (by decide) fn_0))))).trans ((u59 241 i (fn_a (by omega) fn_0)).trans (u57 241 i (fn_a (by decide) fn_0))))))), gs112, mi128, (show h61 63 5 ≤ h61 18 16 by omega), (show (h61 63 5) < (h61 18 16) ∨ ((h61 18 7) ≤ (h61 3 2) ∧ (h61 66 1) = (h61 3 2) - (h61 18 7)) ∨ ((h61 3 2) < (h61 18 7) ∧ (h61 66 1) = 0) by omega), gq141, (MR.mv mr0 (MSN.then (MSN.refl) (fun i _ => ((y61_0 i (by omega)).trans ((u59 238 i (fn_a (by omega) fn_0)).trans (u57 238 i (fn_a (by decide) fn_0)))))) (by omega) q142 q143 (by omega)), (fun e => SM.mv (sm0 (by omega)) q144 q145 q146 (by omega) q147)⟩, (by omega)⟩ (by omega) (by omega)
  ·
    refine wk_h 12 (by decide) rfl ?_
    refine wr_astx (i := 3) (lo2 := [(3, .retAddr 0), (0, .ref 0), (1, vi ((xs i55).toInt)), (2, .ref 259)]) (nx := 13) (r1 := 0) (r2 := 0) (r3 := 0) rfl rfl ?_
    refine wi_iconst (n := 1) (nx := 14) (r1 := 0) (r2 := 0) (r3 := 0) rfl ?_
    refine wi_ireturn (nx := 15) (r1 := 0) (r2 := 0) (r3 := 0) rfl rfl ?_
    refine wk_i ?_
    refine wi_istore (i := 5) (e := 1) (lo2 := [(5, vi 1), (0, .ref 1000000), (1, .ref 0), (2, .ref 236), (3, .ref 259), (4, vi i)]) (nx := 1138) (r1 := 0) (r2 := 0) (r3 := 0) rfl rfl ?_
    refine wi_aload_n (i := 2) (x := 236) (nx := 1139) (r1 := 0) (r2 := 0) (r3 := 0) rfl rfl ?_
    refine wi_aload_n (i := 0) (x := 1000000) (nx := 1140) (r1 := 0) (r2 := 0) (r3 := 0) rfl rfl ?_
    refine wi_iload (i := 4) (e := i) (nx := 1142) (r1 := 0) (r2 := 0) (r3 := 0) rfl rfl ?_
    refine wi_iconst (n := 1) (nx := 1143) (r1 := 0) (r2 := 0) (r3 := 0) rfl ?_
    refine wr_add (nx := 1144) (r1 := 0) (r2 := 0) (r3 := 0) rfl (fun e59 (fe59 : e59 = i + 1) => ?_)
    refine wr_sc (a := e59) (f := i55) (nx := 1145) (r1 := 0) (r2 := 0) (r3 := 0) rfl (by omega) (by omega) hL ?_
    refine wr_V (k0 := 236) (rest := []) (as := [.ref 236, vi ((xs i55).toInt)]) (nx := 1148) (r1 := 292) (r2 := 1) (r3 := 11) rfl rfl rfl (of_decide_eq_true rfl) rfl rfl (by decide) rfl rfl (of_decide_eq_true rfl) (of_decide_eq_true rfl) ?_
    have e61 : h57 238 98 = h 238 98 := (u57 238 98 rfl)
    have e62 : h57 238 99 = h 238 99 := (u57 238 99 rfl)
    have e63 : h57 238 100 = h 238 100 := (u57 238 100 rfl)
    have e64 : h57 238 101 = h 238 101 := (u57 238 101 rfl)
    have e65 : h57 238 102 = h 238 102 := (u57 238 102 rfl)
    have e66 : h57 238 106 = h 238 106 := (u57 238 106 rfl)
    have e67 : h57 238 73 = h 238 73 := (u57 238 73 rfl)
    have e68 : h57 238 2 = h 238 2 := (u57 238 2 rfl)
    have e69 : h57 238 119 = h 238 119 := (u57 238 119 rfl)
    have e70 : h57 238 67 = h 238 67 := (u57 238 67 rfl)
    have e71 : h57 238 69 = h 238 69 := (u57 238 69 rfl)
    have e72 : h57 238 5 = h 238 5 := (u57 238 5 rfl)
    refine ct_292_236 hcr  g57 ((xs i55).toInt) (by omega) (show (h57 238 98) + (h57 238 99) + (h57 238 100) + (h57 238 101) + (h57 238 102) + (h57 238 106) = (h57 238 73) by omega) (show (h57 238 73) ≤ (h57 238 2) by omega) (show (h57 238 119) ≤ (h57 238 67) by omega) (show (h57 238 69) ≤ (h57 238 5) by omega) (show (h57 238 2) ≤ 12 * (h57 238 5) by omega) (fun h60 z73 g60 u60 (fz73 : -2147483648 ≤ z73 ∧ z73 ≤ 2147483647) (p60_0 : (h60 238 98) + (h60 238 99) + (h60 238 100) + (h60 238 101) + (h60 238 102) + (h60 238 106) = (h60 238 73)) (p60_1 : (h60 238 73) ≤ (h60 238 2)) (p60_2 : (h60 238 119) ≤ (h60 238 67)) (p60_3 : (h60 238 69) ≤ (h60 238 5)) (p60_4 : (h60 238 2) ≤ 12 * (h60 238 5)) y60_0 => ?_)
    have b74 := gi_b (lo := 0) (hi := 6) g60 238 98 rfl
    have b75 := gi_b (lo := 0) (hi := 6) g60 238 99 rfl
    have b76 := gi_b (lo := 0) (hi := 6) g60 238 100 rfl
    have b77 := gi_b (lo := 0) (hi := 6) g60 238 101 rfl
    have b78 := gi_b (lo := 0) (hi := 3) g60 238 102 rfl
    have b79 := gi_b (lo := 0) (hi := 12) g60 238 106 rfl
    have b80 := gi_b (lo := 0) (hi := 12) g60 238 73 rfl
    have e81 : h60 238 2 = h 238 2 := ((y60_0 2 (by decide)).trans (u57 238 2 rfl))
    have b82 := gi_b (lo := 0) (hi := 9999) g60 238 119 rfl
    have b83 := gi_b (lo := 0) (hi := 9999) g60 238 67 rfl
    have b84 := gi_b (lo := 0) (hi := 9) g60 238 69 rfl
    have e85 : h60 238 5 = h 238 5 := ((y60_0 5 (by decide)).trans (u57 238 5 rfl))
    refine wk_i ?_
    refine wi_istore (i := 6) (e := z73) (lo2 := [(6, vi z73), (5, vi 1), (0, .ref 1000000), (1, .ref 0), (2, .ref 236), (3, .ref 259), (4, vi i)]) (nx := 1150) (r1 := 0) (r2 := 0) (r3 := 0) rfl rfl ?_
    refine wi_goto (nx := 1153) (r1 := 1501) (r2 := 0) (r3 := 0) rfl ?_
    refine wp.lo (lo := [(0, .ref 1000000), (1, .ref 0), (2, .ref 236), (3, .ref 259), (4, vi i)]) ⟨rfl, rfl, rfl, rfl, rfl, trivial⟩ rfl ?_
    have e86 : h60 241 98 = h 241 98 := ((u60 241 98 rfl).trans (u57 241 98 rfl))
    have e87 : h60 241 99 = h 241 99 := ((u60 241 99 rfl).trans (u57 241 99 rfl))
    have e88 : h60 241 100 = h 241 100 := ((u60 241 100 rfl).trans (u57 241 100 rfl))
    have e89 : h60 241 101 = h 241 101 := ((u60 241 101 rfl).trans (u57 241 101 rfl))
    have e90 : h60 241 102 = h 241 102 := ((u60 241 102 rfl).trans (u57 241 102 rfl))
    have e91 : h60 241 106 = h 241 106 := ((u60 241 106 rfl).trans (u57 241 106 rfl))
    have e92 : h60 241 73 = h 241 73 := ((u60 241 73 rfl).trans (u57 241 73 rfl))
    have e93 : h60 241 2 = h 241 2 := ((u60 241 2 rfl).trans (u57 241 2 rfl))
    have e94 : h60 241 119 = h 241 119 := ((u60 241 119 rfl).trans (u57 241 119 rfl))
    have e95 : h60 241 67 = h 241 67 := ((u60 241 67 rfl).trans (u57 241 67 rfl))
    have e96 : h60 241 69 = h 241 69 := ((u60 241 69 rfl).trans (u57 241 69 rfl))
    have e97 : h60 241 5 = h 241 5 := ((u60 241 5 rfl).trans (u57 241 5 rfl))
    have e98 : h60 1 1 = h 1 1 := ((u60 1 1 rfl).trans (u57 1 1 rfl))
    have e99 : h60 236 2 = h 236 2 := ((u60 236 2 rfl).trans (u57 236 2 rfl))
    have e100 : h60 1 2 = h 1 2 := ((u60 1 2 rfl).trans (u57 1 2 rfl))
    have e101 : h60 236 10 = h 236 10 := ((u60 236 10 rfl).trans (u57 236 10 rfl))
    have e102 : h60 1 3 = h 1 3 := ((u60 1 3 rfl).trans (u57 1 3 rfl))
    have e103 : h60 236 11 = h 236 11 := ((u60 236 11 rfl).trans (u57 236 11 rfl))
    have gp104 := GPH.fr u57 rfl gp0
    have gp105 := GPH.fr u60 rfl gp104
    have b106 := gi_b (lo := 0) (hi := 5) g 241 0 rfl
    have b107 := gi_b (lo := 0) (hi := 4) g 241 1 rfl
    have gs108 := GPS.fr u57 rfl gs0
    have gs109 := GPS.kept u60 rfl y60_0 gs108
    have e110 : h60 0 12 = h 0 12 := ((u60 0 12 rfl).trans (u57 0 12 rfl))
    have e111 : h60 236 21 = h 236 21 := ((u60 236 21 rfl).trans (u57 236 21 rfl))
    have e112 : h60 63 5 = h 63 5 := ((u60 63 5 rfl).trans (u57 63 5 rfl))
    have e113 : h60 18 16 = h 18 16 := ((u60 18 16 rfl).trans (u57 18 16 rfl))
    have e114 : h60 18 7 = h 18 7 := ((u60 18 7 rfl).trans (u57 18 7 rfl))
    have e115 : h60 3 2 = h 3 2 := ((u60 3 2 rfl).trans (u57 3 2 rfl))
    have e116 : h60 66 1 = h 66 1 := ((u60 66 1 rfl).trans (u57 66 1 rfl))
    have b117 := gi_b (lo := 0) (hi := 6) g 73 1 rfl
    have e118 : h60 73 1 = h 73 1 := ((u60 73 1 rfl).trans (u57 73 1 rfl))
    have b119 := gi_b (lo := 0) (hi := 6) g 73 2 rfl
    have e120 : h60 73 2 = h 73 2 := ((u60 73 2 rfl).trans (u57 73 2 rfl))
    have b121 := gi_b (lo := 0) (hi := 6) g 236 22 rfl
    have e122 : h60 236 22 = h 236 22 := ((u60 236 22 rfl).trans (u57 236 22 rfl))
    have b123 := gi_b (lo := 0) (hi := 12) g 210 2 rfl
    have e124 : h60 210 2 = h 210 2 := ((u60 210 2 rfl).trans (u57 210 2 rfl))
    have q127 : h60 8 = h 8 := funext (fun i => ((u60 8 i (fo_no_ok (by decide) i)).trans (u57 8 i (fo_no_ok (by decide) i))))
    have q128 : h60 7 = h 7 := funext (fun i => ((u60 7 i (fo_no_ok (by decide) i)).trans (u57 7 i (fo_no_ok (by decide) i))))
    have q129 : h60 19 = h 19 := funext (fun i => ((u60 19 i (fo_no_ok (by decide) i)).trans (u57 19 i (fo_no_ok (by decide) i))))
    have q130 : h60 67 = h 67 := funext (fun i => ((u60 67 i (fo_no_ok (by decide) i)).trans (u57 67 i (fo_no_ok (by decide) i))))
    have ml126 : MCL h60 := MCL.mv mi0.1 q127 q128 q129 q130 (by omega) (by omega) (by omega) (by omega)
    have q132 : h60 69 = h 69 := funext (fun i => ((u60 69 i (fo_no_ok (by decide) i)).trans (u57 69 i (fo_no_ok (by decide) i))))
    have q133 : h60 70 = h 70 := funext (fun i => ((u60 70 i (fo_no_ok (by decide) i)).trans (u57 70 i (fo_no_ok (by decide) i))))
    have nb131 : NBc (h60 69) (h60 70) := by rw [q132, q133]; exact mi0.2.2
    have q134 : h60 8 = h 8 := funext (fun i => ((u60 8 i (fo_no_ok (by decide) i)).trans (u57 8 i (fo_no_ok (by decide) i))))
    have q135 : h60 7 = h 7 := funext (fun i => ((u60 7 i (fo_no_ok (by decide) i)).trans (u57 7 i (fo_no_ok (by decide) i))))
    have mi125 : MCI h60 := ⟨ml126, HIv.mv mi0.2.1 q134 q135 (by omega) (by omega) (sv_seven (P := fun x => ∀ i, h60 (76 + 19 * x) i = h (76 + 19 * x) i) (fun i => ((u60 76 i (fn_a (by decide) (fn_a (by decide) (fn_a (by decide) (fn_a (by decide) fn_0))))).trans (u57 76 i (fn_a (by decide) fn_0)))) (fun i => ((u60 95 i (fn_a (by decide) (fn_a (by decide) (fn_a (by decide) (fn_a (by decide) fn_0))))).trans (u57 95 i (fn_a (by decide) fn_0)))) (fun i => ((u60 114 i (fn_a (by decide) (fn_a (by decide) (fn_a (by decide) (fn_a (by decide) fn_0))))).trans (u57 114 i (fn_a (by decide) fn_0)))) (fun i => ((u60 133 i (fn_a (by decide) (fn_a (by decide) (fn_a (by decide) (fn_a (by decide) fn_0))))).trans (u57 133 i (fn_a (by decide) fn_0)))) (fun i => ((u60 152 i (fn_a (by decide) (fn_a (by decide) (fn_a (by decide) (fn_a (by decide) fn_0))))).trans (u57 152 i (fn_a (by decide) fn_0)))) (fun i => ((u60 171 i (fn_a (by decide) (fn_a (by decide) (fn_a (by decide) (fn_a (by decide) fn_0))))).trans (u57 171 i (fn_a (by decide) fn_0)))) (fun i => ((u60 190 i (fn_a (by decide) (fn_a (by decide) (fn_a (by decide) (fn_a (by decide) fn_0))))).trans (u57 190 i (fn_a (by decide) fn_0))))) (by omega) (by omega), nb131⟩
    have gq136 := GQS.fr u57 rfl gq0
    have gq137 := GQS.kept u60 rfl y60_0 gq136
    have q138 : h60 8 = h 8 := funext (fun i => ((u60 8 i (fo_no_ok (by decide) i)).trans (u57 8 i (fo_no_ok (by decide) i))))
    have q139 : h60 7 = h 7 := funext (fun i => ((u60 7 i (fo_no_ok (by decide) i)).trans (u57 7 i (fo_no_ok (by decide) i))))
    have q140 : h60 215 = h 215 := funext (fun i => ((u60 215 i (fo_no_ok (by decide) i)).trans (u57 215 i (fo_no_ok (by decide) i))))
    have q141 : h60 218 = h 218 := funext (fun i => ((u60 218 i (fo_no_ok (by decide) i)).trans (u57 218 i (fo_no_ok (by decide) i))))
    have q142 : h60 214 = h 214 := funext (fun i => ((u60 214 i (fo_no_ok (by decide) i)).trans (u57 214 i (fo_no_ok (by decide) i))))
    have q143 : h60 241 = h 241 := funext (fun i => ((u60 241 i (fo_no_ok (by decide) i)).trans (u57 241 i (fo_no_ok (by decide) i))))
    exact k h60 (b - 1) (c - 6) ⟨⟨g60, (show h60 1 1 = h60 236 2 by omega), (RS.i0 (f := h60 238) (by refine ⟨?_, ?_, ?_, ?_, ?_⟩ <;> omega)), (RS.i0 (f := h60 241) (by refine ⟨?_, ?_, ?_, ?_, ?_⟩ <;> omega)), gp105, (BRh.keep br0 (fun i => ((u60 2 i (fn_a (by decide) (fn_a (by decide) (fn_a (by decide) (fn_a (by decide) fn_0))))).trans (u57 2 i (fn_a (by decide) fn_0)))) (fun i => ((u60 237 i (fn_a (by decide) (fn_a (by decide) (fn_a (by decide) (fn_a (by decide) fn_0))))).trans (u57 237 i (fn_a (by decide) fn_0)))) (by omega)), (show h60 1 2 = h60 236 10 by omega), (show h60 1 3 = h60 236 11 by omega), (SVx.keep sv0 (by omega) (fun i _ => ((u60 3 i (fn_a (by decide) (fn_a (by decide) (fn_a (by decide) (fn_a (by decide) fn_0))))).trans (u57 3 i (fn_a (by decide) fn_0)))) (fun i _ => ((u60 5 i (fn_a (by decide) (fn_a (by decide) (fn_a (by decide) (fn_a (by decide) fn_0))))).trans (u57 5 i (fn_a (by decide) fn_0)))) (fun i _ => ((u60 6 i (fn_a (by decide) (fn_a (by decide) (fn_a (by decide) (fn_a (by decide) fn_0))))).trans (u57 6 i (fn_a (by decide) fn_0)))) (fun i _ => ((u60 8 i (fn_a (by decide) (fn_a (by decide) (fn_a (by decide) (fn_a (by decide) fn_0))))).trans (u57 8 i (fn_a (by decide) fn_0)))) (fun i _ => ((y60_0 i (by omega)).trans (u57 238 i (fn_a (by decide) fn_0))))), (show h60 0 12 = h60 236 21 by omega), (fun e => (SVx.keep (ss0 (by omega)) (by omega) (fun i _ => ((u60 210 i (fn_a (by decide) (fn_a (by decide) (fn_a (by decide) (fn_a (by decide) fn_0))))).trans (u57 210 i (fn_a (by decide) fn_0)))) (fun i _ => ((u60 212 i (fn_a (by decide) (fn_a (by decide) (fn_a (by decide) (fn_a (by decide) fn_0))))).trans (u57 212 i (fn_a (by decide) fn_0)))) (fun i _ => ((u60 213 i (fn_a (by decide) (fn_a (by decide) (fn_a (by decide) (fn_a (by decide) fn_0))))).trans (u57 213 i (fn_a (by decide) fn_0)))) (fun i _ => ((u60 215 i (fn_a (by decide) (fn_a (by decide) (fn_a (by decide) (fn_a (by decide) fn_0))))).trans (u57 215 i (fn_a (by decide) fn_0)))) (fun i _ => ((u60 241 i (fn_a (by decide) (fn_a (by decide) (fn_a (by decide) (fn_a (by decide) fn_0))))).trans (u57 241 i (fn_a (by decide) fn_0)))))), gs109, mi125, (show h60 63 5 ≤ h60 18 16 by omega), (show (h60 63 5) < (h60 18 16) ∨ ((h60 18 7) ≤ (h60 3 2) ∧ (h60 66 1) = (h60 3 2) - (h60 18 7)) ∨ ((h60 3 2) < (h60 18 7) ∧ (h60 66 1) = 0) by omega), gq137, (MR.mv mr0 (MSN.then (MSN.refl) (fun i _ => ((y60_0 i (by omega)).trans (u57 238 i (fn_a (by decide) fn_0))))) (by omega) q138 q139 (by omega)), (fun e => SM.mv (sm0 (by omega)) q140 q141 q142 (by omega) q143)⟩, (by omega)⟩ (by omega) (by omega)
-- the law, case at 1153
set_option maxRecDepth 100000 in
set_option maxHeartbeats 100000000 in
theorem lc_1153 {L : Nat} {xs : Nat → Int32} {d b c : Nat} {h : hp} {cr : Nat → Nat → Option Nat} {Q : hp_Q} (hcr : CR cr) (hL : L ≤ 3072) (hr : 1 ≤ b ∧ 6 ≤ c) (i : Int) (I : LIm i h) (hi : 0 ≤ i ∧ i + 6 ≤ L) (k : ∀ (h2 : hp) (b2 c2 : Nat), LIm (i + 6) h2 → b ≤ b2 + 1 → c ≤ c2 + 6 → wp (md_xa (L, xs)) (d + 107) 0 (1501, [(0, .ref 1000000), (1, .ref 0), (2, .ref 236), (3, .ref 259), (4, vi i)], [], hp_w h2 cr, b2, c2) Q) : wp (md_xa (L, xs)) (d + 107) 0 (1153, [(0, .ref 1000000), (1, .ref 0), (2, .ref 236), (3, .ref 259), (4, vi i)], [], hp_w h cr, b, c) Q := by
  obtain ⟨⟨g, i11, r238, r241, gp0, br0, er2, er3, sv0, sf0, ss0, gs0, mi0, ml1, ml2, gq0, mr0, sm0⟩, ie0⟩ := I
  have r238e := r238.e0
  have r241e := r241.e0
  obtain ⟨⟨se0, se1, se2, se3, se4, se5, se6, se7, se8, se9⟩, -⟩ := id sv0
  have b1 := gi_b (lo := 0) (hi := 5) g 3 0 rfl
  have b2 := gi_b (lo := 0) (hi := 5) g 238 0 rfl
  have b3 := gi_b (lo := 0) (hi := 4) g 3 1 rfl
  have b4 := gi_b (lo := 0) (hi := 4) g 238 1 rfl
  have b5 := gi_b (lo := 0) (hi := 12) g 3 2 rfl
  have b6 := gi_b (lo := 0) (hi := 12) g 238 2 rfl
  have b7 := gi_b (lo := -2147483648) (hi := 2147483647) g 3 3 rfl
  have b8 := gi_b (lo := 0) (hi := 999) g 238 3 rfl
  have b9 := gi_b (lo := -2147483648) (hi := 2147483647) g 3 4 rfl
  have b10 := gi_b (lo := 0) (hi := 999) g 238 4 rfl
  have b11 := gi_b (lo := -2147483648) (hi := 2147483647) g 3 5 rfl
  have b12 := gi_b (lo := 0) (hi := 9) g 238 5 rfl
  have b13 := gi_b (lo := -2147483648) (hi := 2147483647) g 3 6 rfl
  have b14 := gi_b (lo := 0) (hi := 999) g 238 6 rfl
  have b15 := gi_b (lo := -2147483648) (hi := 2147483647) g 3 7 rfl
  have b16 := gi_b (lo := 0) (hi := 3) g 238 7 rfl
  have b17 := gi_b (lo := -2147483648) (hi := 2147483647) g 3 8 rfl
  have b18 := gi_b (lo := 0) (hi := 999) g 238 8 rfl
  have b19 := gi_b (lo := -2147483648) (hi := 2147483647) g 3 9 rfl
  have b20 := gi_b (lo := 0) (hi := 999) g 238 9 rfl
  have b21 := gi_b (lo := -2147483648) (hi := 2147483647) g 63 5 rfl
  have b22 := gi_b (lo := 0) (hi := 12) g 18 7 rfl
  have b23 := gi_b (lo := 0) (hi := 12) g 66 1 rfl
  have b24 := gi_b (lo := 0) (hi := 1) g 0 12 rfl
  have b25 := gi_b (lo := 0) (hi := 1) g 236 21 rfl
  have bl_ := gi_b (lo := 0) (hi := 800) g 1 1 rfl
  have tb0 : BufC (h 2) (h 1 1) h := ⟨fun _ => rfl, rfl, by omega, by omega⟩
  have b26 := gi_b (lo := 0) (hi := 6) g 238 98 rfl
  have b27 := gi_b (lo := 0) (hi := 6) g 238 99 rfl
  have b28 := gi_b (lo := 0) (hi := 6) g 238 100 rfl
  have b29 := gi_b (lo := 0) (hi := 6) g 238 101 rfl
  have b30 := gi_b (lo := 0) (hi := 3) g 238 102 rfl
  have b31 := gi_b (lo := 0) (hi := 12) g 238 106 rfl
  have b32 := gi_b (lo := 0) (hi := 12) g 238 73 rfl
  have b33 := gi_b (lo := 0) (hi := 9999) g 238 119 rfl
  have b34 := gi_b (lo := 0) (hi := 9999) g 238 67 rfl
  have b35 := gi_b (lo := 0) (hi := 9) g 238 69 rfl
  have b36 := gi_b (lo := 0) (hi := 6) g 241 98 rfl
  have b37 := gi_b (lo := 0) (hi := 6) g 241 99 rfl
  have b38 := gi_b (lo := 0) (hi := 6) g 241 100 rfl
  have b39 := gi_b (lo := 0) (hi := 6) g 241 101 rfl
  have b40 := gi_b (lo := 0) (hi := 3) g 241 102 rfl
  have b41 := gi_b (lo := 0) (hi := 12) g 241 106 rfl
  have b42 := gi_b (lo := 0) (hi := 12) g 241 73 rfl
  have b43 := gi_b (lo := 0) (hi := 12) g 241 2 rfl
  have b44 := gi_b (lo := 0) (hi := 9999) g 241 119 rfl
  have b45 := gi_b (lo := 0) (hi := 9999) g 241 67 rfl
  have b46 := gi_b (lo := 0) (hi := 9) g 241 69 rfl
  have b47 := gi_b (lo := 0) (hi := 9) g 241 5 rfl
  have b48 := gi_b (lo := 0) (hi := 800) g 1 1 rfl
  have b49 := gi_b (lo := 0) (hi := 800) g 236 2 rfl
  have b50 := gi_b (lo := -2147483648) (hi := 2147483647) g 1 2 rfl
  have b51 := gi_b (lo := -2147483648) (hi := 2147483647) g 236 10 rfl
  have b52 := gi_b (lo := -2147483648) (hi := 2147483647) g 1 3 rfl
  have b53 := gi_b (lo := -2147483648) (hi := 2147483647) g 236 11 rfl
  refine wi_aload_n (i := 1) (x := 0) (nx := 1154) (r1 := 0) (r2 := 0) (r3 := 0) rfl rfl ?_
  refine wi_aload_n (i := 0) (x := 1000000) (nx := 1155) (r1 := 0) (r2 := 0) (r3 := 0) rfl rfl ?_
  refine wi_iload (i := 4) (e := i) (nx := 1157) (r1 := 0) (r2 := 0) (r3 := 0) rfl rfl ?_
  refine wi_iconst (n := 1) (nx := 1158) (r1 := 0) (r2 := 0) (r3 := 0) rfl ?_
  refine wr_add (nx := 1159) (r1 := 0) (r2 := 0) (r3 := 0) rfl (fun e54 (fe54 : e54 = i + 1) => ?_)
  obtain ⟨i55, ei55⟩ : ∃ q : Nat, e54 = (q : Int) := ⟨(e54).toNat, by omega⟩
  have s56 := sc_b (xs i55)
  refine wr_sc (a := e54) (f := i55) (nx := 1160) (r1 := 0) (r2 := 0) (r3 := 0) rfl (by omega) (by omega) hL ?_
  refine wi_aload_n (i := 3) (x := 259) (nx := 1161) (r1 := 0) (r2 := 0) (r3 := 0) rfl rfl ?_
  refine wi_S (rest := []) (as := [.ref 0, vi ((xs i55).toInt), .ref 259]) (nx := 1164) (r1 := 20) (r2 := 19) (r3 := 0) rfl rfl rfl (of_decide_eq_true rfl) rfl rfl (of_decide_eq_true rfl) (of_decide_eq_true rfl) ?_
  refine wi_aload_n (i := 2) (x := 259) (nx := 1) (r1 := 0) (r2 := 0) (r3 := 0) rfl rfl ?_
  refine wi_iconst (n := 0) (nx := 2) (r1 := 0) (r2 := 0) (r3 := 0) rfl ?_
  refine wi_aload_n (i := 0) (x := 0) (nx := 3) (r1 := 0) (r2 := 0) (r3 := 0) rfl rfl ?_
  refine wi_iload_n (i := 1) (e := (xs i55).toInt) (nx := 4) (r1 := 0) (r2 := 0) (r3 := 0) rfl rfl ?_
  refine wr_V (k0 := 0) (rest := [vi 0, .ref 259]) (as := [.ref 0, vi ((xs i55).toInt)]) (nx := 7) (r1 := 84) (r2 := 1) (r3 := 0) rfl rfl rfl (of_decide_eq_true rfl) rfl rfl (by decide) rfl rfl (of_decide_eq_true rfl) (of_decide_eq_true rfl) ?_
  refine ct_84_0 hcr hr  g ((xs i55).toInt) (by omega)  (fun h57 z58 g57 u57 (fz58 : 0 ≤ z58 ∧ z58 ≤ 12) => ?_) (fun h57 g57 u57 => ?_)
  ·
    refine wk_i ?_
    refine wi_i2l (nx := 8) (r1 := 0) (r2 := 0) (r3 := 0) rfl (by omega) ?_
    refine wr_ls (k0 := 259) (a := 0) (f := 0) (x := z58) (bl := -9223372036854775808) (bh := 9223372036854775807) (nx := 9) (r1 := 0) (r2 := 0) (r3 := 0) rfl (by decide) rfl (by omega) (by omega) (by decide) g57 rfl (by omega) (fun h59 g59 w59 u59 => ?_)
    refine wi_goto (nx := 12) (r1 := 15) (r2 := 0) (r3 := 0) rfl ?_
    refine wi_iconst (n := 0) (nx := 16) (r1 := 0) (r2 := 0) (r3 := 0) rfl ?_
    refine wi_ireturn (nx := 17) (r1 := 0) (r2 := 0) (r3 := 0) rfl rfl ?_
    refine wk_i ?_
    refine wi_istore (i := 5) (e := 0) (lo2 := [(5, vi 0), (0, .ref 1000000), (1, .ref 0), (2, .ref 236), (3, .ref 259), (4, vi i)]) (nx := 1166) (r1 := 0) (r2 := 0) (r3 := 0) rfl rfl ?_
    refine wi_aload_n (i := 2) (x := 236) (nx := 1167) (r1 := 0) (r2 := 0) (r3 := 0) rfl rfl ?_
    refine wi_aload_n (i := 0) (x := 1000000) (nx := 1168) (r1 := 0) (r2 := 0) (r3 := 0) rfl rfl ?_
    refine wi_iload (i := 4) (e := i) (nx := 1170) (r1 := 0) (r2 := 0) (r3 := 0) rfl rfl ?_
    refine wi_iconst (n := 1) (nx := 1171) (r1 := 0) (r2 := 0) (r3 := 0) rfl ?_
    refine wr_add (nx := 1172) (r1 := 0) (r2 := 0) (r3 := 0) rfl (fun e60 (fe60 : e60 = i + 1) => ?_)
    refine wr_sc (a := e60) (f := i55) (nx := 1173) (r1 := 0) (r2 := 0) (r3 := 0) rfl (by omega) (by omega) hL ?_
    refine wr_V (k0 := 236) (rest := []) (as := [.ref 236, vi ((xs i55).toInt)]) (nx := 1176) (r1 := 294) (r2 := 1) (r3 := 11) rfl rfl rfl (of_decide_eq_true rfl) rfl rfl (by decide) rfl rfl (of_decide_eq_true rfl) (of_decide_eq_true rfl) ?_
    have e62 : h59 238 98 = h 238 98 := ((u59 238 98 rfl).trans (u57 238 98 rfl))
    have e63 : h59 238 99 = h 238 99 := ((u59 238 99 rfl).trans (u57 238 99 rfl))
    have e64 : h59 238 100 = h 238 100 := ((u59 238 100 rfl).trans (u57 238 100 rfl))
    have e65 : h59 238 101 = h 238 101 := ((u59 238 101 rfl).trans (u57 238 101 rfl))
    have e66 : h59 238 102 = h 238 102 := ((u59 238 102 rfl).trans (u57 238 102 rfl))
    have e67 : h59 238 106 = h 238 106 := ((u59 238 106 rfl).trans (u57 238 106 rfl))
    have e68 : h59 238 73 = h 238 73 := ((u59 238 73 rfl).trans (u57 238 73 rfl))
    have e69 : h59 238 2 = h 238 2 := ((u59 238 2 rfl).trans (u57 238 2 rfl))
    have e70 : h59 238 119 = h 238 119 := ((u59 238 119 rfl).trans (u57 238 119 rfl))
    have e71 : h59 238 67 = h 238 67 := ((u59 238 67 rfl).trans (u57 238 67 rfl))
    have e72 : h59 238 69 = h 238 69 := ((u59 238 69 rfl).trans (u57 238 69 rfl))
    have e73 : h59 238 5 = h 238 5 := ((u59 238 5 rfl).trans (u57 238 5 rfl))
    refine ct_294_236 hcr  g59 ((xs i55).toInt) (by omega) (show (h59 238 98) + (h59 238 99) + (h59 238 100) + (h59 238 101) + (h59 238 102) + (h59 238 106) = (h59 238 73) by omega) (show (h59 238 73) ≤ (h59 238 2) by omega) (show (h59 238 119) ≤ (h59 238 67) by omega) (show (h59 238 69) ≤ (h59 238 5) by omega) (show (h59 238 2) ≤ 12 * (h59 238 5) by omega) (fun h61 z74 g61 u61 (fz74 : 0 ≤ z74 ∧ z74 ≤ 12) (p61_0 : (h61 238 98) + (h61 238 99) + (h61 238 100) + (h61 238 101) + (h61 238 102) + (h61 238 106) = (h61 238 73)) (p61_1 : (h61 238 73) ≤ (h61 238 2)) (p61_2 : (h61 238 119) ≤ (h61 238 67)) (p61_3 : (h61 238 69) ≤ (h61 238 5)) (p61_4 : (h61 238 2) ≤ 12 * (h61 238 5)) y61_0 => ?_)
    have b75 := gi_b (lo := 0) (hi := 6) g61 238 98 rfl
    have b76 := gi_b (lo := 0) (hi := 6) g61 238 99 rfl
    have b77 := gi_b (lo := 0) (hi := 6) g61 238 100 rfl
    have b78 := gi_b (lo := 0) (hi := 6) g61 238 101 rfl
    have b79 := gi_b (lo := 0) (hi := 3) g61 238 102 rfl
    have b80 := gi_b (lo := 0) (hi := 12) g61 238 106 rfl
    have b81 := gi_b (lo := 0) (hi := 12) g61 238 73 rfl
    have e82 : h61 238 2 = h 238 2 := ((y61_0 2 (by decide)).trans ((u59 238 2 rfl).trans (u57 238 2 rfl)))
    have b83 := gi_b (lo := 0) (hi := 9999) g61 238 119 rfl
    have b84 := gi_b (lo := 0) (hi := 9999) g61 238 67 rfl
    have b85 := gi_b (lo := 0) (hi := 9) g61 238 69 rfl
    have e86 : h61 238 5 = h 238 5 := ((y61_0 5 (by decide)).trans ((u59 238 5 rfl).trans (u57 238 5 rfl)))
    refine wk_i ?_
    refine wi_istore (i := 6) (e := z74) (lo2 := [(6, vi z74), (5, vi 0), (0, .ref 1000000), (1, .ref 0), (2, .ref 236), (3, .ref 259), (4, vi i)]) (nx := 1178) (r1 := 0) (r2 := 0) (r3 := 0) rfl rfl ?_
    refine wi_goto (nx := 1181) (r1 := 1501) (r2 := 0) (r3 := 0) rfl ?_
    refine wp.lo (lo := [(0, .ref 1000000), (1, .ref 0), (2, .ref 236), (3, .ref 259), (4, vi i)]) ⟨rfl, rfl, rfl, rfl, rfl, trivial⟩ rfl ?_
    have e87 : h61 241 98 = h 241 98 := ((u61 241 98 rfl).trans ((u59 241 98 rfl).trans (u57 241 98 rfl)))
    have e88 : h61 241 99 = h 241 99 := ((u61 241 99 rfl).trans ((u59 241 99 rfl).trans (u57 241 99 rfl)))
    have e89 : h61 241 100 = h 241 100 := ((u61 241 100 rfl).trans ((u59 241 100 rfl).trans (u57 241 100 rfl)))
    have e90 : h61 241 101 = h 241 101 := ((u61 241 101 rfl).trans ((u59 241 101 rfl).trans (u57 241 101 rfl)))
    have e91 : h61 241 102 = h 241 102 := ((u61 241 102 rfl).trans ((u59 241 102 rfl).trans (u57 241 102 rfl)))
    have e92 : h61 241 106 = h 241 106 := ((u61 241 106 rfl).trans ((u59 241 106 rfl).trans (u57 241 106 rfl)))
    have e93 : h61 241 73 = h 241 73 := ((u61 241 73 rfl).trans ((u59 241 73 rfl).trans (u57 241 73 rfl)))
    have e94 : h61 241 2 = h 241 2 := ((u61 241 2 rfl).trans ((u59 241 2 rfl).trans (u57 241 2 rfl)))
    have e95 : h61 241 119 = h 241 119 := ((u61 241 119 rfl).trans ((u59 241 119 rfl).trans (u57 241 119 rfl)))
    have e96 : h61 241 67 = h 241 67 := ((u61 241 67 rfl).trans ((u59 241 67 rfl).trans (u57 241 67 rfl)))
    have e97 : h61 241 69 = h 241 69 := ((u61 241 69 rfl).trans ((u59 241 69 rfl).trans (u57 241 69 rfl)))
    have e98 : h61 241 5 = h 241 5 := ((u61 241 5 rfl).trans ((u59 241 5 rfl).trans (u57 241 5 rfl)))
    have e99 : h61 1 1 = h 1 1 := ((u61 1 1 rfl).trans ((u59 1 1 rfl).trans (u57 1 1 rfl)))
    have e100 : h61 236 2 = h 236 2 := ((u61 236 2 rfl).trans ((u59 236 2 rfl).trans (u57 236 2 rfl)))
    have e101 : h61 1 2 = h 1 2 := ((u61 1 2 rfl).trans ((u59 1 2 rfl).trans (u57 1 2 rfl)))
    have e102 : h61 236 10 = h 236 10 := ((u61 236 10 rfl).trans ((u59 236 10 rfl).trans (u57 236 10 rfl)))
    have e103 : h61 1 3 = h 1 3 := ((u61 1 3 rfl).trans ((u59 1 3 rfl).trans (u57 1 3 rfl)))
    have e104 : h61 236 11 = h 236 11 := ((u61 236 11 rfl).trans ((u59 236 11 rfl).trans (u57 236 11 rfl)))
    have gp105 := GPH.fr u57 rfl gp0
    have gp106 := GPH.fr u59 rfl gp105
    have gp107 := GPH.fr u61 rfl gp106
    have b108 := gi_b (lo := 0) (hi := 5) g 241 0 rfl
    have b109 := gi_b (lo := 0) (hi := 4) g 241 1 rfl
    have gs110 := GPS.fr u57 rfl gs0
    have gs111 := GPS.fr u59 rfl gs110
    have gs112 := GPS.kept u61 rfl y61_0 gs111
    have e113 : h61 0 12 = h 0 12 := ((u61 0 12 rfl).trans ((u59 0 12 rfl).trans (u57 0 12 rfl)))
    have e114 : h61 236 21 = h 236 21 := ((u61 236 21 rfl).trans ((u59 236 21 rfl).trans (u57 236 21 rfl)))
    have e115 : h61 63 5 = h 63 5 := ((u61 63 5 rfl).trans ((u59 63 5 rfl).trans (u57 63 5 rfl)))
    have e116 : h61 18 16 = h 18 16 := ((u61 18 16 rfl).trans ((u59 18 16 rfl).trans (u57 18 16 rfl)))
    have e117 : h61 18 7 = h 18 7 := ((u61 18 7 rfl).trans ((u59 18 7 rfl).trans (u57 18 7 rfl)))
    have e118 : h61 3 2 = h 3 2 := ((u61 3 2 rfl).trans ((u59 3 2 rfl).trans (u57 3 2 rfl)))
    have e119 : h61 66 1 = h 66 1 := ((u61 66 1 rfl).trans ((u59 66 1 rfl).trans (u57 66 1 rfl)))
    have b120 := gi_b (lo := 0) (hi := 6) g 73 1 rfl
    have e121 : h61 73 1 = h 73 1 := ((u61 73 1 rfl).trans ((u59 73 1 rfl).trans (u57 73 1 rfl)))
    have b122 := gi_b (lo := 0) (hi := 6) g 73 2 rfl
    have e123 : h61 73 2 = h 73 2 := ((u61 73 2 rfl).trans ((u59 73 2 rfl).trans (u57 73 2 rfl)))
    have b124 := gi_b (lo := 0) (hi := 6) g 236 22 rfl
    have e125 : h61 236 22 = h 236 22 := ((u61 236 22 rfl).trans ((u59 236 22 rfl).trans (u57 236 22 rfl)))
    have b126 := gi_b (lo := 0) (hi := 12) g 210 2 rfl
    have e127 : h61 210 2 = h 210 2 := ((u61 210 2 rfl).trans ((u59 210 2 rfl).trans (u57 210 2 rfl)))
    have q130 : h61 8 = h 8 := funext (fun i => ((u61 8 i (fo_no_ok (by decide) i)).trans ((u59 8 i rfl).trans (u57 8 i (fo_no_ok (by decide) i)))))
    have q131 : h61 7 = h 7 := funext (fun i => ((u61 7 i (fo_no_ok (by decide) i)).trans ((u59 7 i rfl).trans (u57 7 i (fo_no_ok (by decide) i)))))
    have q132 : h61 19 = h 19 := funext (fun i => ((u61 19 i (fo_no_ok (by decide) i)).trans ((u59 19 i rfl).trans (u57 19 i (fo_no_ok (by decide) i)))))
    have q133 : h61 67 = h 67 := funext (fun i => ((u61 67 i (fo_no_ok (by decide) i)).trans ((u59 67 i rfl).trans (u57 67 i (fo_no_ok (by decide) i)))))
    have ml129 : MCL h61 := MCL.mv mi0.1 q130 q131 q132 q133 (by omega) (by omega) (by omega) (by omega)
    have q135 : h61 69 = h 69 := funext (fun i => ((u61 69 i (fo_no_ok (by decide) i)).trans ((u59 69 i rfl).trans (u57 69 i (fo_no_ok (by decide) i)))))
    have q136 : h61 70 = h 70 := funext (fun i => ((u61 70 i (fo_no_ok (by decide) i)).trans ((u59 70 i rfl).trans (u57 70 i (fo_no_ok (by decide) i)))))
    have nb134 : NBc (h61 69) (h61 70) := by rw [q135, q136]; exact mi0.2.2
    have q137 : h61 8 = h 8 := funext (fun i => ((u61 8 i (fo_no_ok (by decide) i)).trans ((u59 8 i rfl).trans (u57 8 i (fo_no_ok (by decide) i)))))
    have q138 : h61 7 = h 7 := funext (fun i => ((u61 7 i (fo_no_ok (by decide) i)).trans ((u59 7 i rfl).trans (u57 7 i (fo_no_ok (by decide) i)))))
    have mi128 : MCI h61 := ⟨ml129, HIv.mv mi0.2.1 q137 q138 (by omega) (by omega) (sv_seven (P := fun x => ∀ i, h61 (76 + 19 * x) i = h (76 + 19 * x) i) (fun i => ((u61 76 i (fn_a (by decide) (fn_a (by decide) (fn_a (by decide) (fn_a (by decide) fn_0))))).trans ((u59 76 i (fn_a (by omega) fn_0)).trans (u57 76 i (fn_a (by decide) fn_0))))) (fun i => ((u61 95 i (fn_a (by decide) (fn_a (by decide) (fn_a (by decide) (fn_a (by decide) fn_0))))).trans ((u59 95 i (fn_a (by omega) fn_0)).trans (u57 95 i (fn_a (by decide) fn_0))))) (fun i => ((u61 114 i (fn_a (by decide) (fn_a (by decide) (fn_a (by decide) (fn_a (by decide) fn_0))))).trans ((u59 114 i (fn_a (by omega) fn_0)).trans (u57 114 i (fn_a (by decide) fn_0))))) (fun i => ((u61 133 i (fn_a (by decide) (fn_a (by decide) (fn_a (by decide) (fn_a (by decide) fn_0))))).trans ((u59 133 i (fn_a (by omega) fn_0)).trans (u57 133 i (fn_a (by decide) fn_0))))) (fun i => ((u61 152 i (fn_a (by decide) (fn_a (by decide) (fn_a (by decide) (fn_a (by decide) fn_0))))).trans ((u59 152 i (fn_a (by omega) fn_0)).trans (u57 152 i (fn_a (by decide) fn_0))))) (fun i => ((u61 171 i (fn_a (by decide) (fn_a (by decide) (fn_a (by decide) (fn_a (by decide) fn_0))))).trans ((u59 171 i (fn_a (by omega) fn_0)).trans (u57 171 i (fn_a (by decide) fn_0))))) (fun i => ((u61 190 i (fn_a (by decide) (fn_a (by decide) (fn_a (by decide) (fn_a (by decide) fn_0))))).trans ((u59 190 i (fn_a (by omega) fn_0)).trans (u57 190 i (fn_a (by decide) fn_0)))))) (by omega) (by omega), nb134⟩
    have gq139 := GQS.fr u57 rfl gq0
    have gq140 := GQS.fr u59 rfl gq139
    have gq141 := GQS.kept u61 rfl y61_0 gq140
    have q142 : h61 8 = h 8 := funext (fun i => ((u61 8 i (fo_no_ok (by decide) i)).trans ((u59 8 i rfl).trans (u57 8 i (fo_no_ok (by decide) i)))))
    have q143 : h61 7 = h 7 := funext (fun i => ((u61 7 i (fo_no_ok (by decide) i)).trans ((u59 7 i rfl).trans (u57 7 i (fo_no_ok (by decide) i)))))
    have q144 : h61 215 = h 215 := funext (fun i => ((u61 215 i (fo_no_ok (by decide) i)).trans ((u59 215 i rfl).trans (u57 215 i (fo_no_ok (by decide) i)))))
    have q145 : h61 218 = h 218 := funext (fun i => ((u61 218 i (fo_no_ok (by decide) i)).trans ((u59 218 i rfl).trans (u57 218 i (fo_no_ok (by decide) i)))))
    have q146 : h61 214 = h 214 := funext (fun i => ((u61 214 i (fo_no_ok (by decide) i)).trans ((u59 214 i rfl).trans (u57 214 i (fo_no_ok (by decide) i)))))
    have q147 : h61 241 = h 241 := funext (fun i => ((u61 241 i (fo_no_ok (by decide) i)).trans ((u59 241 i rfl).trans (u57 241 i (fo_no_ok (by decide) i)))))
    exact k h61 b c ⟨⟨g61, (show h61 1 1 = h61 236 2 by omega), (RS.i0 (f := h61 238) (by refine ⟨?_, ?_, ?_, ?_, ?_⟩ <;> omega)), (RS.i0 (f := h61 241) (by refine ⟨?_, ?_, ?_, ?_, ?_⟩ <;> omega)), gp107, (BRh.keep br0 (fun i => ((u61 2 i (fn_a (by decide) (fn_a (by decide) (fn_a (by decide) (fn_a (by decide) fn_0))))).trans ((u59 2 i (fn_a (by omega) fn_0)).trans (u57 2 i (fn_a (by decide) fn_0))))) (fun i => ((u61 237 i (fn_a (by decide) (fn_a (by decide) (fn_a (by decide) (fn_a (by decide) fn_0))))).trans ((u59 237 i (fn_a (by omega) fn_0)).trans (u57 237 i (fn_a (by decide) fn_0))))) (by omega)), (show h61 1 2 = h61 236 10 by omega), (show h61 1 3 = h61 236 11 by omega), (SVx.keep sv0 (by omega) (fun i _ => ((u61 3 i (fn_a (by decide) (fn_a (by decide) (fn_a (by decide) (fn_a (by decide) fn_0))))).trans ((u59 3 i (fn_a (by omega) fn_0)).trans (u57 3 i (fn_a (by decide) fn_0))))) (fun i _ => ((u61 5 i (fn_a (by decide) (fn_a (by decide) (fn_a (by decide) (fn_a (by decide) fn_0))))).trans ((u59 5 i (fn_a (by omega) fn_0)).trans (u57 5 i (fn_a (by decide) fn_0))))) (fun i _ => ((u61 6 i (fn_a (by decide) (fn_a (by decide) (fn_a (by decide) (fn_a (by decide) fn_0))))).trans ((u59 6 i (fn_a (by omega) fn_0)).trans (u57 6 i (fn_a (by decide) fn_0))))) (fun i _ => ((u61 8 i (fn_a (by decide) (fn_a (by decide) (fn_a (by decide) (fn_a (by decide) fn_0))))).trans ((u59 8 i (fn_a (by omega) fn_0)).trans (u57 8 i (fn_a (by decide) fn_0))))) (fun i _ => ((y61_0 i (by omega)).trans ((u59 238 i (fn_a (by omega) fn_0)).trans (u57 238 i (fn_a (by decide) fn_0)))))), (show h61 0 12 = h61 236 21 by omega), (fun e => (SVx.keep (ss0 (by omega)) (by omega) (fun i _ => ((u61 210 i (fn_a (by decide) (fn_a (by decide) (fn_a (by decide) (fn_a (by decide) fn_0))))).trans ((u59 210 i (fn_a (by omega) fn_0)).trans (u57 210 i (fn_a (by decide) fn_0))))) (fun i _ => ((u61 212 i (fn_a (by decide) (fn_a (by decide) (fn_a (by decide) (fn_a (by decide) fn_0))))).trans ((u59 212 i (fn_a (by omega) fn_0)).trans (u57 212 i (fn_a (by decide) fn_0))))) (fun i _ => ((u61 213 i (fn_a (by decide) (fn_a (by decide) (fn_a (by decide) (fn_a (by decide) fn_0))))).trans ((u59 213 i (fn_a (by omega) fn_0)).trans (u57 213 i (fn_a (by decide) fn_0))))) (fun i _ => ((u61 215 i (fn_a (by decide) (fn_a (by decide) (fn_a (by decide) (fn_a (by decide) fn_0))))).trans ((u59 215 i (fn_a (by omega) fn_0)).trans (u57 215 i (fn_a (by decide) fn_0))))) (fun i _ => ((u61 241 i (fn_a (by decide) (fn_a (by decide) (fn_a (by decide) (fn_a (by decide) fn_0))))).trans ((u59 241 i (fn_a (by omega) fn_0)).trans (u57 241 i (fn_a (by decide) fn_0))))))), gs112, mi128, (show h61 63 5 ≤ h61 18 16 by omega), (show (h61 63 5) < (h61 18 16) ∨ ((h61 18 7) ≤ (h61 3 2) ∧ (h61 66 1) = (h61 3 2) - (h61 18 7)) ∨ ((h61 3 2) < (h61 18 7) ∧ (h61 66 1) = 0) by omega), gq141, (MR.mv mr0 (MSN.then (MSN.refl) (fun i _ => ((y61_0 i (by omega)).trans ((u59 238 i (fn_a (by omega) fn_0)).trans (u57 238 i (fn_a (by decide) fn_0)))))) (by omega) q142 q143 (by omega)), (fun e => SM.mv (sm0 (by omega)) q144 q145 q146 (by omega) q147)⟩, (by omega)⟩ (by omega) (by omega)
  ·
    refine wk_h 12 (by decide) rfl ?_
    refine wr_astx (i := 3) (lo2 := [(3, .retAddr 0), (0, .ref 0), (1, vi ((xs i55).toInt)), (2, .ref 259)]) (nx := 13) (r1 := 0) (r2 := 0) (r3 := 0) rfl rfl ?_
    refine wi_iconst (n := 1) (nx := 14) (r1 := 0) (r2 := 0) (r3 := 0) rfl ?_
    refine wi_ireturn (nx := 15) (r1 := 0) (r2 := 0) (r3 := 0) rfl rfl ?_
    refine wk_i ?_
    refine wi_istore (i := 5) (e := 1) (lo2 := [(5, vi 1), (0, .ref 1000000), (1, .ref 0), (2, .ref 236), (3, .ref 259), (4, vi i)]) (nx := 1166) (r1 := 0) (r2 := 0) (r3 := 0) rfl rfl ?_
    refine wi_aload_n (i := 2) (x := 236) (nx := 1167) (r1 := 0) (r2 := 0) (r3 := 0) rfl rfl ?_
    refine wi_aload_n (i := 0) (x := 1000000) (nx := 1168) (r1 := 0) (r2 := 0) (r3 := 0) rfl rfl ?_
    refine wi_iload (i := 4) (e := i) (nx := 1170) (r1 := 0) (r2 := 0) (r3 := 0) rfl rfl ?_
    refine wi_iconst (n := 1) (nx := 1171) (r1 := 0) (r2 := 0) (r3 := 0) rfl ?_
    refine wr_add (nx := 1172) (r1 := 0) (r2 := 0) (r3 := 0) rfl (fun e59 (fe59 : e59 = i + 1) => ?_)
    refine wr_sc (a := e59) (f := i55) (nx := 1173) (r1 := 0) (r2 := 0) (r3 := 0) rfl (by omega) (by omega) hL ?_
    refine wr_V (k0 := 236) (rest := []) (as := [.ref 236, vi ((xs i55).toInt)]) (nx := 1176) (r1 := 294) (r2 := 1) (r3 := 11) rfl rfl rfl (of_decide_eq_true rfl) rfl rfl (by decide) rfl rfl (of_decide_eq_true rfl) (of_decide_eq_true rfl) ?_
    have e61 : h57 238 98 = h 238 98 := (u57 238 98 rfl)
    have e62 : h57 238 99 = h 238 99 := (u57 238 99 rfl)
    have e63 : h57 238 100 = h 238 100 := (u57 238 100 rfl)
    have e64 : h57 238 101 = h 238 101 := (u57 238 101 rfl)
    have e65 : h57 238 102 = h 238 102 := (u57 238 102 rfl)
    have e66 : h57 238 106 = h 238 106 := (u57 238 106 rfl)
    have e67 : h57 238 73 = h 238 73 := (u57 238 73 rfl)
    have e68 : h57 238 2 = h 238 2 := (u57 238 2 rfl)
    have e69 : h57 238 119 = h 238 119 := (u57 238 119 rfl)
    have e70 : h57 238 67 = h 238 67 := (u57 238 67 rfl)
    have e71 : h57 238 69 = h 238 69 := (u57 238 69 rfl)
    have e72 : h57 238 5 = h 238 5 := (u57 238 5 rfl)
    refine ct_294_236 hcr  g57 ((xs i55).toInt) (by omega) (show (h57 238 98) + (h57 238 99) + (h57 238 100) + (h57 238 101) + (h57 238 102) + (h57 238 106) = (h57 238 73) by omega) (show (h57 238 73) ≤ (h57 238 2) by omega) (show (h57 238 119) ≤ (h57 238 67) by omega) (show (h57 238 69) ≤ (h57 238 5) by omega) (show (h57 238 2) ≤ 12 * (h57 238 5) by omega) (fun h60 z73 g60 u60 (fz73 : 0 ≤ z73 ∧ z73 ≤ 12) (p60_0 : (h60 238 98) + (h60 238 99) + (h60 238 100) + (h60 238 101) + (h60 238 102) + (h60 238 106) = (h60 238 73)) (p60_1 : (h60 238 73) ≤ (h60 238 2)) (p60_2 : (h60 238 119) ≤ (h60 238 67)) (p60_3 : (h60 238 69) ≤ (h60 238 5)) (p60_4 : (h60 238 2) ≤ 12 * (h60 238 5)) y60_0 => ?_)
    have b74 := gi_b (lo := 0) (hi := 6) g60 238 98 rfl
    have b75 := gi_b (lo := 0) (hi := 6) g60 238 99 rfl
    have b76 := gi_b (lo := 0) (hi := 6) g60 238 100 rfl
    have b77 := gi_b (lo := 0) (hi := 6) g60 238 101 rfl
    have b78 := gi_b (lo := 0) (hi := 3) g60 238 102 rfl
    have b79 := gi_b (lo := 0) (hi := 12) g60 238 106 rfl
    have b80 := gi_b (lo := 0) (hi := 12) g60 238 73 rfl
    have e81 : h60 238 2 = h 238 2 := ((y60_0 2 (by decide)).trans (u57 238 2 rfl))
    have b82 := gi_b (lo := 0) (hi := 9999) g60 238 119 rfl
    have b83 := gi_b (lo := 0) (hi := 9999) g60 238 67 rfl
    have b84 := gi_b (lo := 0) (hi := 9) g60 238 69 rfl
    have e85 : h60 238 5 = h 238 5 := ((y60_0 5 (by decide)).trans (u57 238 5 rfl))
    refine wk_i ?_
    refine wi_istore (i := 6) (e := z73) (lo2 := [(6, vi z73), (5, vi 1), (0, .ref 1000000), (1, .ref 0), (2, .ref 236), (3, .ref 259), (4, vi i)]) (nx := 1178) (r1 := 0) (r2 := 0) (r3 := 0) rfl rfl ?_
    refine wi_goto (nx := 1181) (r1 := 1501) (r2 := 0) (r3 := 0) rfl ?_
    refine wp.lo (lo := [(0, .ref 1000000), (1, .ref 0), (2, .ref 236), (3, .ref 259), (4, vi i)]) ⟨rfl, rfl, rfl, rfl, rfl, trivial⟩ rfl ?_
    have e86 : h60 241 98 = h 241 98 := ((u60 241 98 rfl).trans (u57 241 98 rfl))
    have e87 : h60 241 99 = h 241 99 := ((u60 241 99 rfl).trans (u57 241 99 rfl))
    have e88 : h60 241 100 = h 241 100 := ((u60 241 100 rfl).trans (u57 241 100 rfl))
    have e89 : h60 241 101 = h 241 101 := ((u60 241 101 rfl).trans (u57 241 101 rfl))
    have e90 : h60 241 102 = h 241 102 := ((u60 241 102 rfl).trans (u57 241 102 rfl))
    have e91 : h60 241 106 = h 241 106 := ((u60 241 106 rfl).trans (u57 241 106 rfl))
    have e92 : h60 241 73 = h 241 73 := ((u60 241 73 rfl).trans (u57 241 73 rfl))
    have e93 : h60 241 2 = h 241 2 := ((u60 241 2 rfl).trans (u57 241 2 rfl))
    have e94 : h60 241 119 = h 241 119 := ((u60 241 119 rfl).trans (u57 241 119 rfl))
    have e95 : h60 241 67 = h 241 67 := ((u60 241 67 rfl).trans (u57 241 67 rfl))
    have e96 : h60 241 69 = h 241 69 := ((u60 241 69 rfl).trans (u57 241 69 rfl))
    have e97 : h60 241 5 = h 241 5 := ((u60 241 5 rfl).trans (u57 241 5 rfl))
    have e98 : h60 1 1 = h 1 1 := ((u60 1 1 rfl).trans (u57 1 1 rfl))
    have e99 : h60 236 2 = h 236 2 := ((u60 236 2 rfl).trans (u57 236 2 rfl))
    have e100 : h60 1 2 = h 1 2 := ((u60 1 2 rfl).trans (u57 1 2 rfl))
    have e101 : h60 236 10 = h 236 10 := ((u60 236 10 rfl).trans (u57 236 10 rfl))
    have e102 : h60 1 3 = h 1 3 := ((u60 1 3 rfl).trans (u57 1 3 rfl))
    have e103 : h60 236 11 = h 236 11 := ((u60 236 11 rfl).trans (u57 236 11 rfl))
    have gp104 := GPH.fr u57 rfl gp0
    have gp105 := GPH.fr u60 rfl gp104
    have b106 := gi_b (lo := 0) (hi := 5) g 241 0 rfl
    have b107 := gi_b (lo := 0) (hi := 4) g 241 1 rfl
    have gs108 := GPS.fr u57 rfl gs0
    have gs109 := GPS.kept u60 rfl y60_0 gs108
    have e110 : h60 0 12 = h 0 12 := ((u60 0 12 rfl).trans (u57 0 12 rfl))
    have e111 : h60 236 21 = h 236 21 := ((u60 236 21 rfl).trans (u57 236 21 rfl))
    have e112 : h60 63 5 = h 63 5 := ((u60 63 5 rfl).trans (u57 63 5 rfl))
    have e113 : h60 18 16 = h 18 16 := ((u60 18 16 rfl).trans (u57 18 16 rfl))
    have e114 : h60 18 7 = h 18 7 := ((u60 18 7 rfl).trans (u57 18 7 rfl))
    have e115 : h60 3 2 = h 3 2 := ((u60 3 2 rfl).trans (u57 3 2 rfl))
    have e116 : h60 66 1 = h 66 1 := ((u60 66 1 rfl).trans (u57 66 1 rfl))
    have b117 := gi_b (lo := 0) (hi := 6) g 73 1 rfl
    have e118 : h60 73 1 = h 73 1 := ((u60 73 1 rfl).trans (u57 73 1 rfl))
    have b119 := gi_b (lo := 0) (hi := 6) g 73 2 rfl
    have e120 : h60 73 2 = h 73 2 := ((u60 73 2 rfl).trans (u57 73 2 rfl))
    have b121 := gi_b (lo := 0) (hi := 6) g 236 22 rfl
    have e122 : h60 236 22 = h 236 22 := ((u60 236 22 rfl).trans (u57 236 22 rfl))
    have b123 := gi_b (lo := 0) (hi := 12) g 210 2 rfl
    have e124 : h60 210 2 = h 210 2 := ((u60 210 2 rfl).trans (u57 210 2 rfl))
    have q127 : h60 8 = h 8 := funext (fun i => ((u60 8 i (fo_no_ok (by decide) i)).trans (u57 8 i (fo_no_ok (by decide) i))))
    have q128 : h60 7 = h 7 := funext (fun i => ((u60 7 i (fo_no_ok (by decide) i)).trans (u57 7 i (fo_no_ok (by decide) i))))
    have q129 : h60 19 = h 19 := funext (fun i => ((u60 19 i (fo_no_ok (by decide) i)).trans (u57 19 i (fo_no_ok (by decide) i))))
    have q130 : h60 67 = h 67 := funext (fun i => ((u60 67 i (fo_no_ok (by decide) i)).trans (u57 67 i (fo_no_ok (by decide) i))))
    have ml126 : MCL h60 := MCL.mv mi0.1 q127 q128 q129 q130 (by omega) (by omega) (by omega) (by omega)
    have q132 : h60 69 = h 69 := funext (fun i => ((u60 69 i (fo_no_ok (by decide) i)).trans (u57 69 i (fo_no_ok (by decide) i))))
    have q133 : h60 70 = h 70 := funext (fun i => ((u60 70 i (fo_no_ok (by decide) i)).trans (u57 70 i (fo_no_ok (by decide) i))))
    have nb131 : NBc (h60 69) (h60 70) := by rw [q132, q133]; exact mi0.2.2
    have q134 : h60 8 = h 8 := funext (fun i => ((u60 8 i (fo_no_ok (by decide) i)).trans (u57 8 i (fo_no_ok (by decide) i))))
    have q135 : h60 7 = h 7 := funext (fun i => ((u60 7 i (fo_no_ok (by decide) i)).trans (u57 7 i (fo_no_ok (by decide) i))))
    have mi125 : MCI h60 := ⟨ml126, HIv.mv mi0.2.1 q134 q135 (by omega) (by omega) (sv_seven (P := fun x => ∀ i, h60 (76 + 19 * x) i = h (76 + 19 * x) i) (fun i => ((u60 76 i (fn_a (by decide) (fn_a (by decide) (fn_a (by decide) (fn_a (by decide) fn_0))))).trans (u57 76 i (fn_a (by decide) fn_0)))) (fun i => ((u60 95 i (fn_a (by decide) (fn_a (by decide) (fn_a (by decide) (fn_a (by decide) fn_0))))).trans (u57 95 i (fn_a (by decide) fn_0)))) (fun i => ((u60 114 i (fn_a (by decide) (fn_a (by decide) (fn_a (by decide) (fn_a (by decide) fn_0))))).trans (u57 114 i (fn_a (by decide) fn_0)))) (fun i => ((u60 133 i (fn_a (by decide) (fn_a (by decide) (fn_a (by decide) (fn_a (by decide) fn_0))))).trans (u57 133 i (fn_a (by decide) fn_0)))) (fun i => ((u60 152 i (fn_a (by decide) (fn_a (by decide) (fn_a (by decide) (fn_a (by decide) fn_0))))).trans (u57 152 i (fn_a (by decide) fn_0)))) (fun i => ((u60 171 i (fn_a (by decide) (fn_a (by decide) (fn_a (by decide) (fn_a (by decide) fn_0))))).trans (u57 171 i (fn_a (by decide) fn_0)))) (fun i => ((u60 190 i (fn_a (by decide) (fn_a (by decide) (fn_a (by decide) (fn_a (by decide) fn_0))))).trans (u57 190 i (fn_a (by decide) fn_0))))) (by omega) (by omega), nb131⟩
    have gq136 := GQS.fr u57 rfl gq0
    have gq137 := GQS.kept u60 rfl y60_0 gq136
    have q138 : h60 8 = h 8 := funext (fun i => ((u60 8 i (fo_no_ok (by decide) i)).trans (u57 8 i (fo_no_ok (by decide) i))))
    have q139 : h60 7 = h 7 := funext (fun i => ((u60 7 i (fo_no_ok (by decide) i)).trans (u57 7 i (fo_no_ok (by decide) i))))
    have q140 : h60 215 = h 215 := funext (fun i => ((u60 215 i (fo_no_ok (by decide) i)).trans (u57 215 i (fo_no_ok (by decide) i))))
    have q141 : h60 218 = h 218 := funext (fun i => ((u60 218 i (fo_no_ok (by decide) i)).trans (u57 218 i (fo_no_ok (by decide) i))))
    have q142 : h60 214 = h 214 := funext (fun i => ((u60 214 i (fo_no_ok (by decide) i)).trans (u57 214 i (fo_no_ok (by decide) i))))
    have q143 : h60 241 = h 241 := funext (fun i => ((u60 241 i (fo_no_ok (by decide) i)).trans (u57 241 i (fo_no_ok (by decide) i))))
    exact k h60 (b - 1) (c - 6) ⟨⟨g60, (show h60 1 1 = h60 236 2 by omega), (RS.i0 (f := h60 238) (by refine ⟨?_, ?_, ?_, ?_, ?_⟩ <;> omega)), (RS.i0 (f := h60 241) (by refine ⟨?_, ?_, ?_, ?_, ?_⟩ <;> omega)), gp105, (BRh.keep br0 (fun i => ((u60 2 i (fn_a (by decide) (fn_a (by decide) (fn_a (by decide) (fn_a (by decide) fn_0))))).trans (u57 2 i (fn_a (by decide) fn_0)))) (fun i => ((u60 237 i (fn_a (by decide) (fn_a (by decide) (fn_a (by decide) (fn_a (by decide) fn_0))))).trans (u57 237 i (fn_a (by decide) fn_0)))) (by omega)), (show h60 1 2 = h60 236 10 by omega), (show h60 1 3 = h60 236 11 by omega), (SVx.keep sv0 (by omega) (fun i _ => ((u60 3 i (fn_a (by decide) (fn_a (by decide) (fn_a (by decide) (fn_a (by decide) fn_0))))).trans (u57 3 i (fn_a (by decide) fn_0)))) (fun i _ => ((u60 5 i (fn_a (by decide) (fn_a (by decide) (fn_a (by decide) (fn_a (by decide) fn_0))))).trans (u57 5 i (fn_a (by decide) fn_0)))) (fun i _ => ((u60 6 i (fn_a (by decide) (fn_a (by decide) (fn_a (by decide) (fn_a (by decide) fn_0))))).trans (u57 6 i (fn_a (by decide) fn_0)))) (fun i _ => ((u60 8 i (fn_a (by decide) (fn_a (by decide) (fn_a (by decide) (fn_a (by decide) fn_0))))).trans (u57 8 i (fn_a (by decide) fn_0)))) (fun i _ => ((y60_0 i (by omega)).trans (u57 238 i (fn_a (by decide) fn_0))))), (show h60 0 12 = h60 236 21 by omega), (fun e => (SVx.keep (ss0 (by omega)) (by omega) (fun i _ => ((u60 210 i (fn_a (by decide) (fn_a (by decide) (fn_a (by decide) (fn_a (by decide) fn_0))))).trans (u57 210 i (fn_a (by decide) fn_0)))) (fun i _ => ((u60 212 i (fn_a (by decide) (fn_a (by decide) (fn_a (by decide) (fn_a (by decide) fn_0))))).trans (u57 212 i (fn_a (by decide) fn_0)))) (fun i _ => ((u60 213 i (fn_a (by decide) (fn_a (by decide) (fn_a (by decide) (fn_a (by decide) fn_0))))).trans (u57 213 i (fn_a (by decide) fn_0)))) (fun i _ => ((u60 215 i (fn_a (by decide) (fn_a (by decide) (fn_a (by decide) (fn_a (by decide) fn_0))))).trans (u57 215 i (fn_a (by decide) fn_0)))) (fun i _ => ((u60 241 i (fn_a (by decide) (fn_a (by decide) (fn_a (by decide) (fn_a (by decide) fn_0))))).trans (u57 241 i (fn_a (by decide) fn_0)))))), gs109, mi125, (show h60 63 5 ≤ h60 18 16 by omega), (show (h60 63 5) < (h60 18 16) ∨ ((h60 18 7) ≤ (h60 3 2) ∧ (h60 66 1) = (h60 3 2) - (h60 18 7)) ∨ ((h60 3 2) < (h60 18 7) ∧ (h60 66 1) = 0) by omega), gq137, (MR.mv mr0 (MSN.then (MSN.refl) (fun i _ => ((y60_0 i (by omega)).trans (u57 238 i (fn_a (by decide) fn_0))))) (by omega) q138 q139 (by omega)), (fun e => SM.mv (sm0 (by omega)) q140 q141 q142 (by omega) q143)⟩, (by omega)⟩ (by omega) (by omega)
-- the law, case at 1181
set_option maxRecDepth 100000 in
set_option maxHeartbeats 100000000 in
theorem lc_1181 {L : Nat} {xs : Nat → Int32} {d b c : Nat} {h : hp} {cr : Nat → Nat → Option Nat} {Q : hp_Q} (hcr : CR cr) (hL : L ≤ 3072) (hr : 1 ≤ b ∧ 6 ≤ c) (i : Int) (I : LIm i h) (hi : 0 ≤ i ∧ i + 6 ≤ L) (k : ∀ (h2 : hp) (b2 c2 : Nat), LIm (i + 6) h2 → b ≤ b2 + 1 → c ≤ c2 + 6 → wp (md_xa (L, xs)) (d + 107) 0 (1501, [(0, .ref 1000000), (1, .ref 0), (2, .ref 236), (3, .ref 259), (4, vi i)], [], hp_w h2 cr, b2, c2) Q) : wp (md_xa (L, xs)) (d + 107) 0 (1181, [(0, .ref 1000000), (1, .ref 0), (2, .ref 236), (3, .ref 259), (4, vi i)], [], hp_w h cr, b, c) Q := by
  obtain ⟨⟨g, i11, r238, r241, gp0, br0, er2, er3, sv0, sf0, ss0, gs0, mi0, ml1, ml2, gq0, mr0, sm0⟩, ie0⟩ := I
  have r238e := r238.e0
  have r241e := r241.e0
  obtain ⟨⟨se0, se1, se2, se3, se4, se5, se6, se7, se8, se9⟩, -⟩ := id sv0
  have b1 := gi_b (lo := 0) (hi := 5) g 3 0 rfl
  have b2 := gi_b (lo := 0) (hi := 5) g 238 0 rfl
  have b3 := gi_b (lo := 0) (hi := 4) g 3 1 rfl
  have b4 := gi_b (lo := 0) (hi := 4) g 238 1 rfl
  have b5 := gi_b (lo := 0) (hi := 12) g 3 2 rfl
  have b6 := gi_b (lo := 0) (hi := 12) g 238 2 rfl
  have b7 := gi_b (lo := -2147483648) (hi := 2147483647) g 3 3 rfl
  have b8 := gi_b (lo := 0) (hi := 999) g 238 3 rfl
  have b9 := gi_b (lo := -2147483648) (hi := 2147483647) g 3 4 rfl
  have b10 := gi_b (lo := 0) (hi := 999) g 238 4 rfl
  have b11 := gi_b (lo := -2147483648) (hi := 2147483647) g 3 5 rfl
  have b12 := gi_b (lo := 0) (hi := 9) g 238 5 rfl
  have b13 := gi_b (lo := -2147483648) (hi := 2147483647) g 3 6 rfl
  have b14 := gi_b (lo := 0) (hi := 999) g 238 6 rfl
  have b15 := gi_b (lo := -2147483648) (hi := 2147483647) g 3 7 rfl
  have b16 := gi_b (lo := 0) (hi := 3) g 238 7 rfl
  have b17 := gi_b (lo := -2147483648) (hi := 2147483647) g 3 8 rfl
  have b18 := gi_b (lo := 0) (hi := 999) g 238 8 rfl
  have b19 := gi_b (lo := -2147483648) (hi := 2147483647) g 3 9 rfl
  have b20 := gi_b (lo := 0) (hi := 999) g 238 9 rfl
  have b21 := gi_b (lo := -2147483648) (hi := 2147483647) g 63 5 rfl
  have b22 := gi_b (lo := 0) (hi := 12) g 18 7 rfl
  have b23 := gi_b (lo := 0) (hi := 12) g 66 1 rfl
  have b24 := gi_b (lo := 0) (hi := 1) g 0 12 rfl
  have b25 := gi_b (lo := 0) (hi := 1) g 236 21 rfl
  have bl_ := gi_b (lo := 0) (hi := 800) g 1 1 rfl
  have tb0 : BufC (h 2) (h 1 1) h := ⟨fun _ => rfl, rfl, by omega, by omega⟩
  have b26 := gi_b (lo := 0) (hi := 6) g 238 98 rfl
  have b27 := gi_b (lo := 0) (hi := 6) g 238 99 rfl
  have b28 := gi_b (lo := 0) (hi := 6) g 238 100 rfl
  have b29 := gi_b (lo := 0) (hi := 6) g 238 101 rfl
  have b30 := gi_b (lo := 0) (hi := 3) g 238 102 rfl
  have b31 := gi_b (lo := 0) (hi := 12) g 238 106 rfl
  have b32 := gi_b (lo := 0) (hi := 12) g 238 73 rfl
  have b33 := gi_b (lo := 0) (hi := 9999) g 238 119 rfl
  have b34 := gi_b (lo := 0) (hi := 9999) g 238 67 rfl
  have b35 := gi_b (lo := 0) (hi := 9) g 238 69 rfl
  have b36 := gi_b (lo := 0) (hi := 6) g 241 98 rfl
  have b37 := gi_b (lo := 0) (hi := 6) g 241 99 rfl
  have b38 := gi_b (lo := 0) (hi := 6) g 241 100 rfl
  have b39 := gi_b (lo := 0) (hi := 6) g 241 101 rfl
  have b40 := gi_b (lo := 0) (hi := 3) g 241 102 rfl
  have b41 := gi_b (lo := 0) (hi := 12) g 241 106 rfl
  have b42 := gi_b (lo := 0) (hi := 12) g 241 73 rfl
  have b43 := gi_b (lo := 0) (hi := 12) g 241 2 rfl
  have b44 := gi_b (lo := 0) (hi := 9999) g 241 119 rfl
  have b45 := gi_b (lo := 0) (hi := 9999) g 241 67 rfl
  have b46 := gi_b (lo := 0) (hi := 9) g 241 69 rfl
  have b47 := gi_b (lo := 0) (hi := 9) g 241 5 rfl
  have b48 := gi_b (lo := 0) (hi := 800) g 1 1 rfl
  have b49 := gi_b (lo := 0) (hi := 800) g 236 2 rfl
  have b50 := gi_b (lo := -2147483648) (hi := 2147483647) g 1 2 rfl
  have b51 := gi_b (lo := -2147483648) (hi := 2147483647) g 236 10 rfl
  have b52 := gi_b (lo := -2147483648) (hi := 2147483647) g 1 3 rfl
  have b53 := gi_b (lo := -2147483648) (hi := 2147483647) g 236 11 rfl
  refine wi_aload_n (i := 1) (x := 0) (nx := 1182) (r1 := 0) (r2 := 0) (r3 := 0) rfl rfl ?_
  refine wi_aload_n (i := 0) (x := 1000000) (nx := 1183) (r1 := 0) (r2 := 0) (r3 := 0) rfl rfl ?_
  refine wi_iload (i := 4) (e := i) (nx := 1185) (r1 := 0) (r2 := 0) (r3 := 0) rfl rfl ?_
  refine wi_iconst (n := 1) (nx := 1186) (r1 := 0) (r2 := 0) (r3 := 0) rfl ?_
  refine wr_add (nx := 1187) (r1 := 0) (r2 := 0) (r3 := 0) rfl (fun e54 (fe54 : e54 = i + 1) => ?_)
  obtain ⟨i55, ei55⟩ : ∃ q : Nat, e54 = (q : Int) := ⟨(e54).toNat, by omega⟩
  have s56 := sc_b (xs i55)
  refine wr_sc (a := e54) (f := i55) (nx := 1188) (r1 := 0) (r2 := 0) (r3 := 0) rfl (by omega) (by omega) hL ?_
  refine wi_aload_n (i := 3) (x := 259) (nx := 1189) (r1 := 0) (r2 := 0) (r3 := 0) rfl rfl ?_
  refine wi_S (rest := []) (as := [.ref 0, vi ((xs i55).toInt), .ref 259]) (nx := 1192) (r1 := 21) (r2 := 19) (r3 := 0) rfl rfl rfl (of_decide_eq_true rfl) rfl rfl (of_decide_eq_true rfl) (of_decide_eq_true rfl) ?_
  refine wi_aload_n (i := 2) (x := 259) (nx := 1) (r1 := 0) (r2 := 0) (r3 := 0) rfl rfl ?_
  refine wi_iconst (n := 0) (nx := 2) (r1 := 0) (r2 := 0) (r3 := 0) rfl ?_
  refine wi_aload_n (i := 0) (x := 0) (nx := 3) (r1 := 0) (r2 := 0) (r3 := 0) rfl rfl ?_
  refine wi_iload_n (i := 1) (e := (xs i55).toInt) (nx := 4) (r1 := 0) (r2 := 0) (r3 := 0) rfl rfl ?_
  refine wr_V (k0 := 0) (rest := [vi 0, .ref 259]) (as := [.ref 0, vi ((xs i55).toInt)]) (nx := 7) (r1 := 85) (r2 := 1) (r3 := 0) rfl rfl rfl (of_decide_eq_true rfl) rfl rfl (by decide) rfl rfl (of_decide_eq_true rfl) (of_decide_eq_true rfl) ?_
  refine ct_85_0 hcr hr  g ((xs i55).toInt) (by omega)  (fun h57 z58 g57 u57 (fz58 : -2147483648 ≤ z58 ∧ z58 ≤ 2147483647) => ?_) (fun h57 g57 u57 => ?_)
  ·
    refine wk_i ?_
    refine wi_i2l (nx := 8) (r1 := 0) (r2 := 0) (r3 := 0) rfl (by omega) ?_
    refine wr_ls (k0 := 259) (a := 0) (f := 0) (x := z58) (bl := -9223372036854775808) (bh := 9223372036854775807) (nx := 9) (r1 := 0) (r2 := 0) (r3 := 0) rfl (by decide) rfl (by omega) (by omega) (by decide) g57 rfl (by omega) (fun h59 g59 w59 u59 => ?_)
    refine wi_goto (nx := 12) (r1 := 15) (r2 := 0) (r3 := 0) rfl ?_
    refine wi_iconst (n := 0) (nx := 16) (r1 := 0) (r2 := 0) (r3 := 0) rfl ?_
    refine wi_ireturn (nx := 17) (r1 := 0) (r2 := 0) (r3 := 0) rfl rfl ?_
    refine wk_i ?_
    refine wi_istore (i := 5) (e := 0) (lo2 := [(5, vi 0), (0, .ref 1000000), (1, .ref 0), (2, .ref 236), (3, .ref 259), (4, vi i)]) (nx := 1194) (r1 := 0) (r2 := 0) (r3 := 0) rfl rfl ?_
    refine wi_aload_n (i := 2) (x := 236) (nx := 1195) (r1 := 0) (r2 := 0) (r3 := 0) rfl rfl ?_
    refine wi_aload_n (i := 0) (x := 1000000) (nx := 1196) (r1 := 0) (r2 := 0) (r3 := 0) rfl rfl ?_
    refine wi_iload (i := 4) (e := i) (nx := 1198) (r1 := 0) (r2 := 0) (r3 := 0) rfl rfl ?_
    refine wi_iconst (n := 1) (nx := 1199) (r1 := 0) (r2 := 0) (r3 := 0) rfl ?_
    refine wr_add (nx := 1200) (r1 := 0) (r2 := 0) (r3 := 0) rfl (fun e60 (fe60 : e60 = i + 1) => ?_)
    refine wr_sc (a := e60) (f := i55) (nx := 1201) (r1 := 0) (r2 := 0) (r3 := 0) rfl (by omega) (by omega) hL ?_
    refine wr_V (k0 := 236) (rest := []) (as := [.ref 236, vi ((xs i55).toInt)]) (nx := 1204) (r1 := 295) (r2 := 1) (r3 := 11) rfl rfl rfl (of_decide_eq_true rfl) rfl rfl (by decide) rfl rfl (of_decide_eq_true rfl) (of_decide_eq_true rfl) ?_
    have e62 : h59 238 98 = h 238 98 := ((u59 238 98 rfl).trans (u57 238 98 rfl))
    have e63 : h59 238 99 = h 238 99 := ((u59 238 99 rfl).trans (u57 238 99 rfl))
    have e64 : h59 238 100 = h 238 100 := ((u59 238 100 rfl).trans (u57 238 100 rfl))
    have e65 : h59 238 101 = h 238 101 := ((u59 238 101 rfl).trans (u57 238 101 rfl))
    have e66 : h59 238 102 = h 238 102 := ((u59 238 102 rfl).trans (u57 238 102 rfl))
    have e67 : h59 238 106 = h 238 106 := ((u59 238 106 rfl).trans (u57 238 106 rfl))
    have e68 : h59 238 73 = h 238 73 := ((u59 238 73 rfl).trans (u57 238 73 rfl))
    have e69 : h59 238 2 = h 238 2 := ((u59 238 2 rfl).trans (u57 238 2 rfl))
    have e70 : h59 238 119 = h 238 119 := ((u59 238 119 rfl).trans (u57 238 119 rfl))
    have e71 : h59 238 67 = h 238 67 := ((u59 238 67 rfl).trans (u57 238 67 rfl))
    have e72 : h59 238 69 = h 238 69 := ((u59 238 69 rfl).trans (u57 238 69 rfl))
    have e73 : h59 238 5 = h 238 5 := ((u59 238 5 rfl).trans (u57 238 5 rfl))
    refine ct_295_236 hcr  g59 ((xs i55).toInt) (by omega) (show (h59 238 98) + (h59 238 99) + (h59 238 100) + (h59 238 101) + (h59 238 102) + (h59 238 106) = (h59 238 73) by omega) (show (h59 238 73) ≤ (h59 238 2) by omega) (show (h59 238 119) ≤ (h59 238 67) by omega) (show (h59 238 69) ≤ (h59 238 5) by omega) (show (h59 238 2) ≤ 12 * (h59 238 5) by omega) (fun h61 z74 g61 u61 (fz74 : -1 ≤ z74 ∧ z74 ≤ 300) (p61_0 : (h61 238 98) + (h61 238 99) + (h61 238 100) + (h61 238 101) + (h61 238 102) + (h61 238 106) = (h61 238 73)) (p61_1 : (h61 238 73) ≤ (h61 238 2)) (p61_2 : (h61 238 119) ≤ (h61 238 67)) (p61_3 : (h61 238 69) ≤ (h61 238 5)) (p61_4 : (h61 238 2) ≤ 12 * (h61 238 5)) y61_0 => ?_)
    have b75 := gi_b (lo := 0) (hi := 6) g61 238 98 rfl
    have b76 := gi_b (lo := 0) (hi := 6) g61 238 99 rfl
    have b77 := gi_b (lo := 0) (hi := 6) g61 238 100 rfl
    have b78 := gi_b (lo := 0) (hi := 6) g61 238 101 rfl
    have b79 := gi_b (lo := 0) (hi := 3) g61 238 102 rfl
    have b80 := gi_b (lo := 0) (hi := 12) g61 238 106 rfl
    have b81 := gi_b (lo := 0) (hi := 12) g61 238 73 rfl
    have e82 : h61 238 2 = h 238 2 := ((y61_0 2 (by decide)).trans ((u59 238 2 rfl).trans (u57 238 2 rfl)))
    have b83 := gi_b (lo := 0) (hi := 9999) g61 238 119 rfl
    have b84 := gi_b (lo := 0) (hi := 9999) g61 238 67 rfl
    have b85 := gi_b (lo := 0) (hi := 9) g61 238 69 rfl
    have e86 : h61 238 5 = h 238 5 := ((y61_0 5 (by decide)).trans ((u59 238 5 rfl).trans (u57 238 5 rfl)))
    refine wk_i ?_
    refine wi_istore (i := 6) (e := z74) (lo2 := [(6, vi z74), (5, vi 0), (0, .ref 1000000), (1, .ref 0), (2, .ref 236), (3, .ref 259), (4, vi i)]) (nx := 1206) (r1 := 0) (r2 := 0) (r3 := 0) rfl rfl ?_
    refine wi_goto (nx := 1209) (r1 := 1501) (r2 := 0) (r3 := 0) rfl ?_
    refine wp.lo (lo := [(0, .ref 1000000), (1, .ref 0), (2, .ref 236), (3, .ref 259), (4, vi i)]) ⟨rfl, rfl, rfl, rfl, rfl, trivial⟩ rfl ?_
    have e87 : h61 241 98 = h 241 98 := ((u61 241 98 rfl).trans ((u59 241 98 rfl).trans (u57 241 98 rfl)))
    have e88 : h61 241 99 = h 241 99 := ((u61 241 99 rfl).trans ((u59 241 99 rfl).trans (u57 241 99 rfl)))
    have e89 : h61 241 100 = h 241 100 := ((u61 241 100 rfl).trans ((u59 241 100 rfl).trans (u57 241 100 rfl)))
    have e90 : h61 241 101 = h 241 101 := ((u61 241 101 rfl).trans ((u59 241 101 rfl).trans (u57 241 101 rfl)))
    have e91 : h61 241 102 = h 241 102 := ((u61 241 102 rfl).trans ((u59 241 102 rfl).trans (u57 241 102 rfl)))
    have e92 : h61 241 106 = h 241 106 := ((u61 241 106 rfl).trans ((u59 241 106 rfl).trans (u57 241 106 rfl)))
    have e93 : h61 241 73 = h 241 73 := ((u61 241 73 rfl).trans ((u59 241 73 rfl).trans (u57 241 73 rfl)))
    have e94 : h61 241 2 = h 241 2 := ((u61 241 2 rfl).trans ((u59 241 2 rfl).trans (u57 241 2 rfl)))
    have e95 : h61 241 119 = h 241 119 := ((u61 241 119 rfl).trans ((u59 241 119 rfl).trans (u57 241 119 rfl)))
    have e96 : h61 241 67 = h 241 67 := ((u61 241 67 rfl).trans ((u59 241 67 rfl).trans (u57 241 67 rfl)))
    have e97 : h61 241 69 = h 241 69 := ((u61 241 69 rfl).trans ((u59 241 69 rfl).trans (u57 241 69 rfl)))
    have e98 : h61 241 5 = h 241 5 := ((u61 241 5 rfl).trans ((u59 241 5 rfl).trans (u57 241 5 rfl)))
    have e99 : h61 1 1 = h 1 1 := ((u61 1 1 rfl).trans ((u59 1 1 rfl).trans (u57 1 1 rfl)))
    have e100 : h61 236 2 = h 236 2 := ((u61 236 2 rfl).trans ((u59 236 2 rfl).trans (u57 236 2 rfl)))
    have e101 : h61 1 2 = h 1 2 := ((u61 1 2 rfl).trans ((u59 1 2 rfl).trans (u57 1 2 rfl)))
    have e102 : h61 236 10 = h 236 10 := ((u61 236 10 rfl).trans ((u59 236 10 rfl).trans (u57 236 10 rfl)))
    have e103 : h61 1 3 = h 1 3 := ((u61 1 3 rfl).trans ((u59 1 3 rfl).trans (u57 1 3 rfl)))
    have e104 : h61 236 11 = h 236 11 := ((u61 236 11 rfl).trans ((u59 236 11 rfl).trans (u57 236 11 rfl)))
    have gp105 := GPH.fr u57 rfl gp0
    have gp106 := GPH.fr u59 rfl gp105
    have gp107 := GPH.fr u61 rfl gp106
    have b108 := gi_b (lo := 0) (hi := 5) g 241 0 rfl
    have b109 := gi_b (lo := 0) (hi := 4) g 241 1 rfl
    have gs110 := GPS.fr u57 rfl gs0
    have gs111 := GPS.fr u59 rfl gs110
    have gs112 := GPS.kept u61 rfl y61_0 gs111
    have e113 : h61 0 12 = h 0 12 := ((u61 0 12 rfl).trans ((u59 0 12 rfl).trans (u57 0 12 rfl)))
    have e114 : h61 236 21 = h 236 21 := ((u61 236 21 rfl).trans ((u59 236 21 rfl).trans (u57 236 21 rfl)))
    have e115 : h61 63 5 = h 63 5 := ((u61 63 5 rfl).trans ((u59 63 5 rfl).trans (u57 63 5 rfl)))
    have e116 : h61 18 16 = h 18 16 := ((u61 18 16 rfl).trans ((u59 18 16 rfl).trans (u57 18 16 rfl)))
    have e117 : h61 18 7 = h 18 7 := ((u61 18 7 rfl).trans ((u59 18 7 rfl).trans (u57 18 7 rfl)))
    have e118 : h61 3 2 = h 3 2 := ((u61 3 2 rfl).trans ((u59 3 2 rfl).trans (u57 3 2 rfl)))
    have e119 : h61 66 1 = h 66 1 := ((u61 66 1 rfl).trans ((u59 66 1 rfl).trans (u57 66 1 rfl)))
    have b120 := gi_b (lo := 0) (hi := 6) g 73 1 rfl
    have e121 : h61 73 1 = h 73 1 := ((u61 73 1 rfl).trans ((u59 73 1 rfl).trans (u57 73 1 rfl)))
    have b122 := gi_b (lo := 0) (hi := 6) g 73 2 rfl
    have e123 : h61 73 2 = h 73 2 := ((u61 73 2 rfl).trans ((u59 73 2 rfl).trans (u57 73 2 rfl)))
    have b124 := gi_b (lo := 0) (hi := 6) g 236 22 rfl
    have e125 : h61 236 22 = h 236 22 := ((u61 236 22 rfl).trans ((u59 236 22 rfl).trans (u57 236 22 rfl)))
    have b126 := gi_b (lo := 0) (hi := 12) g 210 2 rfl
    have e127 : h61 210 2 = h 210 2 := ((u61 210 2 rfl).trans ((u59 210 2 rfl).trans (u57 210 2 rfl)))
    have q130 : h61 8 = h 8 := funext (fun i => ((u61 8 i (fo_no_ok (by decide) i)).trans ((u59 8 i rfl).trans (u57 8 i (fo_no_ok (by decide) i)))))
    have q131 : h61 7 = h 7 := funext (fun i => ((u61 7 i (fo_no_ok (by decide) i)).trans ((u59 7 i rfl).trans (u57 7 i (fo_no_ok (by decide) i)))))
    have q132 : h61 19 = h 19 := funext (fun i => ((u61 19 i (fo_no_ok (by decide) i)).trans ((u59 19 i rfl).trans (u57 19 i (fo_no_ok (by decide) i)))))
    have q133 : h61 67 = h 67 := funext (fun i => ((u61 67 i (fo_no_ok (by decide) i)).trans ((u59 67 i rfl).trans (u57 67 i (fo_no_ok (by decide) i)))))
    have ml129 : MCL h61 := MCL.mv mi0.1 q130 q131 q132 q133 (by omega) (by omega) (by omega) (by omega)
    have q135 : h61 69 = h 69 := funext (fun i => ((u61 69 i (fo_no_ok (by decide) i)).trans ((u59 69 i rfl).trans (u57 69 i (fo_no_ok (by decide) i)))))
    have q136 : h61 70 = h 70 := funext (fun i => ((u61 70 i (fo_no_ok (by decide) i)).trans ((u59 70 i rfl).trans (u57 70 i (fo_no_ok (by decide) i)))))
    have nb134 : NBc (h61 69) (h61 70) := by rw [q135, q136]; exact mi0.2.2
    have q137 : h61 8 = h 8 := funext (fun i => ((u61 8 i (fo_no_ok (by decide) i)).trans ((u59 8 i rfl).trans (u57 8 i (fo_no_ok (by decide) i)))))
    have q138 : h61 7 = h 7 := funext (fun i => ((u61 7 i (fo_no_ok (by decide) i)).trans ((u59 7 i rfl).trans (u57 7 i (fo_no_ok (by decide) i)))))
    have mi128 : MCI h61 := ⟨ml129, HIv.mv mi0.2.1 q137 q138 (by omega) (by omega) (sv_seven (P := fun x => ∀ i, h61 (76 + 19 * x) i = h (76 + 19 * x) i) (fun i => ((u61 76 i (fn_a (by decide) (fn_a (by decide) (fn_a (by decide) (fn_a (by decide) fn_0))))).trans ((u59 76 i (fn_a (by omega) fn_0)).trans (u57 76 i (fn_a (by decide) fn_0))))) (fun i => ((u61 95 i (fn_a (by decide) (fn_a (by decide) (fn_a (by decide) (fn_a (by decide) fn_0))))).trans ((u59 95 i (fn_a (by omega) fn_0)).trans (u57 95 i (fn_a (by decide) fn_0))))) (fun i => ((u61 114 i (fn_a (by decide) (fn_a (by decide) (fn_a (by decide) (fn_a (by decide) fn_0))))).trans ((u59 114 i (fn_a (by omega) fn_0)).trans (u57 114 i (fn_a (by decide) fn_0))))) (fun i => ((u61 133 i (fn_a (by decide) (fn_a (by decide) (fn_a (by decide) (fn_a (by decide) fn_0))))).trans ((u59 133 i (fn_a (by omega) fn_0)).trans (u57 133 i (fn_a (by decide) fn_0))))) (fun i => ((u61 152 i (fn_a (by decide) (fn_a (by decide) (fn_a (by decide) (fn_a (by decide) fn_0))))).trans ((u59 152 i (fn_a (by omega) fn_0)).trans (u57 152 i (fn_a (by decide) fn_0))))) (fun i => ((u61 171 i (fn_a (by decide) (fn_a (by decide) (fn_a (by decide) (fn_a (by decide) fn_0))))).trans ((u59 171 i (fn_a (by omega) fn_0)).trans (u57 171 i (fn_a (by decide) fn_0))))) (fun i => ((u61 190 i (fn_a (by decide) (fn_a (by decide) (fn_a (by decide) (fn_a (by decide) fn_0))))).trans ((u59 190 i (fn_a (by omega) fn_0)).trans (u57 190 i (fn_a (by decide) fn_0)))))) (by omega) (by omega), nb134⟩
    have gq139 := GQS.fr u57 rfl gq0
    have gq140 := GQS.fr u59 rfl gq139
    have gq141 := GQS.kept u61 rfl y61_0 gq140
    have q142 : h61 8 = h 8 := funext (fun i => ((u61 8 i (fo_no_ok (by decide) i)).trans ((u59 8 i rfl).trans (u57 8 i (fo_no_ok (by decide) i)))))
    have q143 : h61 7 = h 7 := funext (fun i => ((u61 7 i (fo_no_ok (by decide) i)).trans ((u59 7 i rfl).trans (u57 7 i (fo_no_ok (by decide) i)))))
    have q144 : h61 215 = h 215 := funext (fun i => ((u61 215 i (fo_no_ok (by decide) i)).trans ((u59 215 i rfl).trans (u57 215 i (fo_no_ok (by decide) i)))))
    have q145 : h61 218 = h 218 := funext (fun i => ((u61 218 i (fo_no_ok (by decide) i)).trans ((u59 218 i rfl).trans (u57 218 i (fo_no_ok (by decide) i)))))
    have q146 : h61 214 = h 214 := funext (fun i => ((u61 214 i (fo_no_ok (by decide) i)).trans ((u59 214 i rfl).trans (u57 214 i (fo_no_ok (by decide) i)))))
    have q147 : h61 241 = h 241 := funext (fun i => ((u61 241 i (fo_no_ok (by decide) i)).trans ((u59 241 i rfl).trans (u57 241 i (fo_no_ok (by decide) i)))))
    exact k h61 b c ⟨⟨g61, (show h61 1 1 = h61 236 2 by omega), (RS.i0 (f := h61 238) (by refine ⟨?_, ?_, ?_, ?_, ?_⟩ <;> omega)), (RS.i0 (f := h61 241) (by refine ⟨?_, ?_, ?_, ?_, ?_⟩ <;> omega)), gp107, (BRh.keep br0 (fun i => ((u61 2 i (fn_a (by decide) (fn_a (by decide) (fn_a (by decide) (fn_a (by decide) fn_0))))).trans ((u59 2 i (fn_a (by omega) fn_0)).trans (u57 2 i (fn_a (by decide) fn_0))))) (fun i => ((u61 237 i (fn_a (by decide) (fn_a (by decide) (fn_a (by decide) (fn_a (by decide) fn_0))))).trans ((u59 237 i (fn_a (by omega) fn_0)).trans (u57 237 i (fn_a (by decide) fn_0))))) (by omega)), (show h61 1 2 = h61 236 10 by omega), (show h61 1 3 = h61 236 11 by omega), (SVx.keep sv0 (by omega) (fun i _ => ((u61 3 i (fn_a (by decide) (fn_a (by decide) (fn_a (by decide) (fn_a (by decide) fn_0))))).trans ((u59 3 i (fn_a (by omega) fn_0)).trans (u57 3 i (fn_a (by decide) fn_0))))) (fun i _ => ((u61 5 i (fn_a (by decide) (fn_a (by decide) (fn_a (by decide) (fn_a (by decide) fn_0))))).trans ((u59 5 i (fn_a (by omega) fn_0)).trans (u57 5 i (fn_a (by decide) fn_0))))) (fun i _ => ((u61 6 i (fn_a (by decide) (fn_a (by decide) (fn_a (by decide) (fn_a (by decide) fn_0))))).trans ((u59 6 i (fn_a (by omega) fn_0)).trans (u57 6 i (fn_a (by decide) fn_0))))) (fun i _ => ((u61 8 i (fn_a (by decide) (fn_a (by decide) (fn_a (by decide) (fn_a (by decide) fn_0))))).trans ((u59 8 i (fn_a (by omega) fn_0)).trans (u57 8 i (fn_a (by decide) fn_0))))) (fun i _ => ((y61_0 i (by omega)).trans ((u59 238 i (fn_a (by omega) fn_0)).trans (u57 238 i (fn_a (by decide) fn_0)))))), (show h61 0 12 = h61 236 21 by omega), (fun e => (SVx.keep (ss0 (by omega)) (by omega) (fun i _ => ((u61 210 i (fn_a (by decide) (fn_a (by decide) (fn_a (by decide) (fn_a (by decide) fn_0))))).trans ((u59 210 i (fn_a (by omega) fn_0)).trans (u57 210 i (fn_a (by decide) fn_0))))) (fun i _ => ((u61 212 i (fn_a (by decide) (fn_a (by decide) (fn_a (by decide) (fn_a (by decide) fn_0))))).trans ((u59 212 i (fn_a (by omega) fn_0)).trans (u57 212 i (fn_a (by decide) fn_0))))) (fun i _ => ((u61 213 i (fn_a (by decide) (fn_a (by decide) (fn_a (by decide) (fn_a (by decide) fn_0))))).trans ((u59 213 i (fn_a (by omega) fn_0)).trans (u57 213 i (fn_a (by decide) fn_0))))) (fun i _ => ((u61 215 i (fn_a (by decide) (fn_a (by decide) (fn_a (by decide) (fn_a (by decide) fn_0))))).trans ((u59 215 i (fn_a (by omega) fn_0)).trans (u57 215 i (fn_a (by decide) fn_0))))) (fun i _ => ((u61 241 i (fn_a (by decide) (fn_a (by decide) (fn_a (by decide) (fn_a (by decide) fn_0))))).trans ((u59 241 i (fn_a (by omega) fn_0)).trans (u57 241 i (fn_a (by decide) fn_0))))))), gs112, mi128, (show h61 63 5 ≤ h61 18 16 by omega), (show (h61 63 5) < (h61 18 16) ∨ ((h61 18 7) ≤ (h61 3 2) ∧ (h61 66 1) = (h61 3 2) - (h61 18 7)) ∨ ((h61 3 2) < (h61 18 7) ∧ (h61 66 1) = 0) by omega), gq141, (MR.mv mr0 (MSN.then (MSN.refl) (fun i _ => ((y61_0 i (by omega)).trans ((u59 238 i (fn_a (by omega) fn_0)).trans (u57 238 i (fn_a (by decide) fn_0)))))) (by omega) q142 q143 (by omega)), (fun e => SM.mv (sm0 (by omega)) q144 q145 q146 (by omega) q147)⟩, (by omega)⟩ (by omega) (by omega)
  ·
    refine wk_h 12 (by decide) rfl ?_
    refine wr_astx (i := 3) (lo2 := [(3, .retAddr 0), (0, .ref 0), (1, vi ((xs i55).toInt)), (2, .ref 259)]) (nx := 13) (r1 := 0) (r2 := 0) (r3 := 0) rfl rfl ?_
    refine wi_iconst (n := 1) (nx := 14) (r1 := 0) (r2 := 0) (r3 := 0) rfl ?_
    refine wi_ireturn (nx := 15) (r1 := 0) (r2 := 0) (r3 := 0) rfl rfl ?_
    refine wk_i ?_
    refine wi_istore (i := 5) (e := 1) (lo2 := [(5, vi 1), (0, .ref 1000000), (1, .ref 0), (2, .ref 236), (3, .ref 259), (4, vi i)]) (nx := 1194) (r1 := 0) (r2 := 0) (r3 := 0) rfl rfl ?_
    refine wi_aload_n (i := 2) (x := 236) (nx := 1195) (r1 := 0) (r2 := 0) (r3 := 0) rfl rfl ?_
    refine wi_aload_n (i := 0) (x := 1000000) (nx := 1196) (r1 := 0) (r2 := 0) (r3 := 0) rfl rfl ?_
    refine wi_iload (i := 4) (e := i) (nx := 1198) (r1 := 0) (r2 := 0) (r3 := 0) rfl rfl ?_
    refine wi_iconst (n := 1) (nx := 1199) (r1 := 0) (r2 := 0) (r3 := 0) rfl ?_
    refine wr_add (nx := 1200) (r1 := 0) (r2 := 0) (r3 := 0) rfl (fun e59 (fe59 : e59 = i + 1) => ?_)
    refine wr_sc (a := e59) (f := i55) (nx := 1201) (r1 := 0) (r2 := 0) (r3 := 0) rfl (by omega) (by omega) hL ?_
    refine wr_V (k0 := 236) (rest := []) (as := [.ref 236, vi ((xs i55).toInt)]) (nx := 1204) (r1 := 295) (r2 := 1) (r3 := 11) rfl rfl rfl (of_decide_eq_true rfl) rfl rfl (by decide) rfl rfl (of_decide_eq_true rfl) (of_decide_eq_true rfl) ?_
    have e61 : h57 238 98 = h 238 98 := (u57 238 98 rfl)
    have e62 : h57 238 99 = h 238 99 := (u57 238 99 rfl)
    have e63 : h57 238 100 = h 238 100 := (u57 238 100 rfl)
    have e64 : h57 238 101 = h 238 101 := (u57 238 101 rfl)
    have e65 : h57 238 102 = h 238 102 := (u57 238 102 rfl)
    have e66 : h57 238 106 = h 238 106 := (u57 238 106 rfl)
    have e67 : h57 238 73 = h 238 73 := (u57 238 73 rfl)
    have e68 : h57 238 2 = h 238 2 := (u57 238 2 rfl)
    have e69 : h57 238 119 = h 238 119 := (u57 238 119 rfl)
    have e70 : h57 238 67 = h 238 67 := (u57 238 67 rfl)
    have e71 : h57 238 69 = h 238 69 := (u57 238 69 rfl)
    have e72 : h57 238 5 = h 238 5 := (u57 238 5 rfl)
    refine ct_295_236 hcr  g57 ((xs i55).toInt) (by omega) (show (h57 238 98) + (h57 238 99) + (h57 238 100) + (h57 238 101) + (h57 238 102) + (h57 238 106) = (h57 238 73) by omega) (show (h57 238 73) ≤ (h57 238 2) by omega) (show (h57 238 119) ≤ (h57 238 67) by omega) (show (h57 238 69) ≤ (h57 238 5) by omega) (show (h57 238 2) ≤ 12 * (h57 238 5) by omega) (fun h60 z73 g60 u60 (fz73 : -1 ≤ z73 ∧ z73 ≤ 300) (p60_0 : (h60 238 98) + (h60 238 99) + (h60 238 100) + (h60 238 101) + (h60 238 102) + (h60 238 106) = (h60 238 73)) (p60_1 : (h60 238 73) ≤ (h60 238 2)) (p60_2 : (h60 238 119) ≤ (h60 238 67)) (p60_3 : (h60 238 69) ≤ (h60 238 5)) (p60_4 : (h60 238 2) ≤ 12 * (h60 238 5)) y60_0 => ?_)
    have b74 := gi_b (lo := 0) (hi := 6) g60 238 98 rfl
    have b75 := gi_b (lo := 0) (hi := 6) g60 238 99 rfl
    have b76 := gi_b (lo := 0) (hi := 6) g60 238 100 rfl
    have b77 := gi_b (lo := 0) (hi := 6) g60 238 101 rfl
    have b78 := gi_b (lo := 0) (hi := 3) g60 238 102 rfl
    have b79 := gi_b (lo := 0) (hi := 12) g60 238 106 rfl
    have b80 := gi_b (lo := 0) (hi := 12) g60 238 73 rfl
    have e81 : h60 238 2 = h 238 2 := ((y60_0 2 (by decide)).trans (u57 238 2 rfl))
    have b82 := gi_b (lo := 0) (hi := 9999) g60 238 119 rfl
    have b83 := gi_b (lo := 0) (hi := 9999) g60 238 67 rfl
    have b84 := gi_b (lo := 0) (hi := 9) g60 238 69 rfl
    have e85 : h60 238 5 = h 238 5 := ((y60_0 5 (by decide)).trans (u57 238 5 rfl))
    refine wk_i ?_
    refine wi_istore (i := 6) (e := z73) (lo2 := [(6, vi z73), (5, vi 1), (0, .ref 1000000), (1, .ref 0), (2, .ref 236), (3, .ref 259), (4, vi i)]) (nx := 1206) (r1 := 0) (r2 := 0) (r3 := 0) rfl rfl ?_
    refine wi_goto (nx := 1209) (r1 := 1501) (r2 := 0) (r3 := 0) rfl ?_
    refine wp.lo (lo := [(0, .ref 1000000), (1, .ref 0), (2, .ref 236), (3, .ref 259), (4, vi i)]) ⟨rfl, rfl, rfl, rfl, rfl, trivial⟩ rfl ?_
    have e86 : h60 241 98 = h 241 98 := ((u60 241 98 rfl).trans (u57 241 98 rfl))
    have e87 : h60 241 99 = h 241 99 := ((u60 241 99 rfl).trans (u57 241 99 rfl))
    have e88 : h60 241 100 = h 241 100 := ((u60 241 100 rfl).trans (u57 241 100 rfl))
    have e89 : h60 241 101 = h 241 101 := ((u60 241 101 rfl).trans (u57 241 101 rfl))
    have e90 : h60 241 102 = h 241 102 := ((u60 241 102 rfl).trans (u57 241 102 rfl))
    have e91 : h60 241 106 = h 241 106 := ((u60 241 106 rfl).trans (u57 241 106 rfl))
    have e92 : h60 241 73 = h 241 73 := ((u60 241 73 rfl).trans (u57 241 73 rfl))
    have e93 : h60 241 2 = h 241 2 := ((u60 241 2 rfl).trans (u57 241 2 rfl))
    have e94 : h60 241 119 = h 241 119 := ((u60 241 119 rfl).trans (u57 241 119 rfl))
    have e95 : h60 241 67 = h 241 67 := ((u60 241 67 rfl).trans (u57 241 67 rfl))
    have e96 : h60 241 69 = h 241 69 := ((u60 241 69 rfl).trans (u57 241 69 rfl))
    have e97 : h60 241 5 = h 241 5 := ((u60 241 5 rfl).trans (u57 241 5 rfl))
    have e98 : h60 1 1 = h 1 1 := ((u60 1 1 rfl).trans (u57 1 1 rfl))
    have e99 : h60 236 2 = h 236 2 := ((u60 236 2 rfl).trans (u57 236 2 rfl))
    have e100 : h60 1 2 = h 1 2 := ((u60 1 2 rfl).trans (u57 1 2 rfl))
    have e101 : h60 236 10 = h 236 10 := ((u60 236 10 rfl).trans (u57 236 10 rfl))
    have e102 : h60 1 3 = h 1 3 := ((u60 1 3 rfl).trans (u57 1 3 rfl))
    have e103 : h60 236 11 = h 236 11 := ((u60 236 11 rfl).trans (u57 236 11 rfl))
    have gp104 := GPH.fr u57 rfl gp0
    have gp105 := GPH.fr u60 rfl gp104
    have b106 := gi_b (lo := 0) (hi := 5) g 241 0 rfl
    have b107 := gi_b (lo := 0) (hi := 4) g 241 1 rfl
    have gs108 := GPS.fr u57 rfl gs0
    have gs109 := GPS.kept u60 rfl y60_0 gs108
    have e110 : h60 0 12 = h 0 12 := ((u60 0 12 rfl).trans (u57 0 12 rfl))
    have e111 : h60 236 21 = h 236 21 := ((u60 236 21 rfl).trans (u57 236 21 rfl))
    have e112 : h60 63 5 = h 63 5 := ((u60 63 5 rfl).trans (u57 63 5 rfl))
    have e113 : h60 18 16 = h 18 16 := ((u60 18 16 rfl).trans (u57 18 16 rfl))
    have e114 : h60 18 7 = h 18 7 := ((u60 18 7 rfl).trans (u57 18 7 rfl))
    have e115 : h60 3 2 = h 3 2 := ((u60 3 2 rfl).trans (u57 3 2 rfl))
    have e116 : h60 66 1 = h 66 1 := ((u60 66 1 rfl).trans (u57 66 1 rfl))
    have b117 := gi_b (lo := 0) (hi := 6) g 73 1 rfl
    have e118 : h60 73 1 = h 73 1 := ((u60 73 1 rfl).trans (u57 73 1 rfl))
    have b119 := gi_b (lo := 0) (hi := 6) g 73 2 rfl
    have e120 : h60 73 2 = h 73 2 := ((u60 73 2 rfl).trans (u57 73 2 rfl))
    have b121 := gi_b (lo := 0) (hi := 6) g 236 22 rfl
    have e122 : h60 236 22 = h 236 22 := ((u60 236 22 rfl).trans (u57 236 22 rfl))
    have b123 := gi_b (lo := 0) (hi := 12) g 210 2 rfl
    have e124 : h60 210 2 = h 210 2 := ((u60 210 2 rfl).trans (u57 210 2 rfl))
    have q127 : h60 8 = h 8 := funext (fun i => ((u60 8 i (fo_no_ok (by decide) i)).trans (u57 8 i (fo_no_ok (by decide) i))))
    have q128 : h60 7 = h 7 := funext (fun i => ((u60 7 i (fo_no_ok (by decide) i)).trans (u57 7 i (fo_no_ok (by decide) i))))
    have q129 : h60 19 = h 19 := funext (fun i => ((u60 19 i (fo_no_ok (by decide) i)).trans (u57 19 i (fo_no_ok (by decide) i))))
    have q130 : h60 67 = h 67 := funext (fun i => ((u60 67 i (fo_no_ok (by decide) i)).trans (u57 67 i (fo_no_ok (by decide) i))))
    have ml126 : MCL h60 := MCL.mv mi0.1 q127 q128 q129 q130 (by omega) (by omega) (by omega) (by omega)
    have q132 : h60 69 = h 69 := funext (fun i => ((u60 69 i (fo_no_ok (by decide) i)).trans (u57 69 i (fo_no_ok (by decide) i))))
    have q133 : h60 70 = h 70 := funext (fun i => ((u60 70 i (fo_no_ok (by decide) i)).trans (u57 70 i (fo_no_ok (by decide) i))))
    have nb131 : NBc (h60 69) (h60 70) := by rw [q132, q133]; exact mi0.2.2
    have q134 : h60 8 = h 8 := funext (fun i => ((u60 8 i (fo_no_ok (by decide) i)).trans (u57 8 i (fo_no_ok (by decide) i))))
    have q135 : h60 7 = h 7 := funext (fun i => ((u60 7 i (fo_no_ok (by decide) i)).trans (u57 7 i (fo_no_ok (by decide) i))))
    have mi125 : MCI h60 := ⟨ml126, HIv.mv mi0.2.1 q134 q135 (by omega) (by omega) (sv_seven (P := fun x => ∀ i, h60 (76 + 19 * x) i = h (76 + 19 * x) i) (fun i => ((u60 76 i (fn_a (by decide) (fn_a (by decide) (fn_a (by decide) (fn_a (by decide) fn_0))))).trans (u57 76 i (fn_a (by decide) fn_0)))) (fun i => ((u60 95 i (fn_a (by decide) (fn_a (by decide) (fn_a (by decide) (fn_a (by decide) fn_0))))).trans (u57 95 i (fn_a (by decide) fn_0)))) (fun i => ((u60 114 i (fn_a (by decide) (fn_a (by decide) (fn_a (by decide) (fn_a (by decide) fn_0))))).trans (u57 114 i (fn_a (by decide) fn_0)))) (fun i => ((u60 133 i (fn_a (by decide) (fn_a (by decide) (fn_a (by decide) (fn_a (by decide) fn_0))))).trans (u57 133 i (fn_a (by decide) fn_0)))) (fun i => ((u60 152 i (fn_a (by decide) (fn_a (by decide) (fn_a (by decide) (fn_a (by decide) fn_0))))).trans (u57 152 i (fn_a (by decide) fn_0)))) (fun i => ((u60 171 i (fn_a (by decide) (fn_a (by decide) (fn_a (by decide) (fn_a (by decide) fn_0))))).trans (u57 171 i (fn_a (by decide) fn_0)))) (fun i => ((u60 190 i (fn_a (by decide) (fn_a (by decide) (fn_a (by decide) (fn_a (by decide) fn_0))))).trans (u57 190 i (fn_a (by decide) fn_0))))) (by omega) (by omega), nb131⟩
    have gq136 := GQS.fr u57 rfl gq0
    have gq137 := GQS.kept u60 rfl y60_0 gq136
    have q138 : h60 8 = h 8 := funext (fun i => ((u60 8 i (fo_no_ok (by decide) i)).trans (u57 8 i (fo_no_ok (by decide) i))))
    have q139 : h60 7 = h 7 := funext (fun i => ((u60 7 i (fo_no_ok (by decide) i)).trans (u57 7 i (fo_no_ok (by decide) i))))
    have q140 : h60 215 = h 215 := funext (fun i => ((u60 215 i (fo_no_ok (by decide) i)).trans (u57 215 i (fo_no_ok (by decide) i))))
    have q141 : h60 218 = h 218 := funext (fun i => ((u60 218 i (fo_no_ok (by decide) i)).trans (u57 218 i (fo_no_ok (by decide) i))))
    have q142 : h60 214 = h 214 := funext (fun i => ((u60 214 i (fo_no_ok (by decide) i)).trans (u57 214 i (fo_no_ok (by decide) i))))
    have q143 : h60 241 = h 241 := funext (fun i => ((u60 241 i (fo_no_ok (by decide) i)).trans (u57 241 i (fo_no_ok (by decide) i))))
    exact k h60 (b - 1) (c - 6) ⟨⟨g60, (show h60 1 1 = h60 236 2 by omega), (RS.i0 (f := h60 238) (by refine ⟨?_, ?_, ?_, ?_, ?_⟩ <;> omega)), (RS.i0 (f := h60 241) (by refine ⟨?_, ?_, ?_, ?_, ?_⟩ <;> omega)), gp105, (BRh.keep br0 (fun i => ((u60 2 i (fn_a (by decide) (fn_a (by decide) (fn_a (by decide) (fn_a (by decide) fn_0))))).trans (u57 2 i (fn_a (by decide) fn_0)))) (fun i => ((u60 237 i (fn_a (by decide) (fn_a (by decide) (fn_a (by decide) (fn_a (by decide) fn_0))))).trans (u57 237 i (fn_a (by decide) fn_0)))) (by omega)), (show h60 1 2 = h60 236 10 by omega), (show h60 1 3 = h60 236 11 by omega), (SVx.keep sv0 (by omega) (fun i _ => ((u60 3 i (fn_a (by decide) (fn_a (by decide) (fn_a (by decide) (fn_a (by decide) fn_0))))).trans (u57 3 i (fn_a (by decide) fn_0)))) (fun i _ => ((u60 5 i (fn_a (by decide) (fn_a (by decide) (fn_a (by decide) (fn_a (by decide) fn_0))))).trans (u57 5 i (fn_a (by decide) fn_0)))) (fun i _ => ((u60 6 i (fn_a (by decide) (fn_a (by decide) (fn_a (by decide) (fn_a (by decide) fn_0))))).trans (u57 6 i (fn_a (by decide) fn_0)))) (fun i _ => ((u60 8 i (fn_a (by decide) (fn_a (by decide) (fn_a (by decide) (fn_a (by decide) fn_0))))).trans (u57 8 i (fn_a (by decide) fn_0)))) (fun i _ => ((y60_0 i (by omega)).trans (u57 238 i (fn_a (by decide) fn_0))))), (show h60 0 12 = h60 236 21 by omega), (fun e => (SVx.keep (ss0 (by omega)) (by omega) (fun i _ => ((u60 210 i (fn_a (by decide) (fn_a (by decide) (fn_a (by decide) (fn_a (by decide) fn_0))))).trans (u57 210 i (fn_a (by decide) fn_0)))) (fun i _ => ((u60 212 i (fn_a (by decide) (fn_a (by decide) (fn_a (by decide) (fn_a (by decide) fn_0))))).trans (u57 212 i (fn_a (by decide) fn_0)))) (fun i _ => ((u60 213 i (fn_a (by decide) (fn_a (by decide) (fn_a (by decide) (fn_a (by decide) fn_0))))).trans (u57 213 i (fn_a (by decide) fn_0)))) (fun i _ => ((u60 215 i (fn_a (by decide) (fn_a (by decide) (fn_a (by decide) (fn_a (by decide) fn_0))))).trans (u57 215 i (fn_a (by decide) fn_0)))) (fun i _ => ((u60 241 i (fn_a (by decide) (fn_a (by decide) (fn_a (by decide) (fn_a (by decide) fn_0))))).trans (u57 241 i (fn_a (by decide) fn_0)))))), gs109, mi125, (show h60 63 5 ≤ h60 18 16 by omega), (show (h60 63 5) < (h60 18 16) ∨ ((h60 18 7) ≤ (h60 3 2) ∧ (h60 66 1) = (h60 3 2) - (h60 18 7)) ∨ ((h60 3 2) < (h60 18 7) ∧ (h60 66 1) = 0) by omega), gq137, (MR.mv mr0 (MSN.then (MSN.refl) (fun i _ => ((y60_0 i (by omega)).trans (u57 238 i (fn_a (by decide) fn_0))))) (by omega) q138 q139 (by omega)), (fun e => SM.mv (sm0 (by omega)) q140 q141 q142 (by omega) q143)⟩, (by omega)⟩ (by omega) (by omega)
