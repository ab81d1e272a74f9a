-- the law, case at 1073
set_option maxRecDepth 100000 in
set_option maxHeartbeats 100000000 in
theorem lc_1073 {L : Nat} {xs : Nat → Int32} {d b c : Nat} {h : hp} {cr : Nat → Nat → Option Nat} {Q : hp_Q} (hcr : CR cr) (hL : L ≤ 3072) (hr : 1 ≤ b ∧ 6 ≤ c) (I : LI h) (i : Int) (hi : 0 ≤ i ∧ i + 6 ≤ L) (k : ∀ (h2 : hp) (b2 c2 : Nat), LI h2 → b ≤ b2 + 1 → c ≤ c2 + 6 → wp (md_xa (L, xs)) (d + 107) 0 (1529, [(0, .ref 1000000), (1, .ref 0), (2, .ref 236), (3, .ref 259), (4, vi i)], [], hp_w h2 cr, b2, c2) Q) : wp (md_xa (L, xs)) (d + 107) 0 (1073, [(0, .ref 1000000), (1, .ref 0), (2, .ref 236), (3, .ref 259), (4, vi i)], [], hp_w h cr, b, c) Q := by
  obtain ⟨g, i11, r238, r241, gp0, br0, er2, er3, sv0, sf0, ss0, gs0⟩ := I
  have r238e := r238.e0
  have r241e := r241.e0
  obtain ⟨⟨se0, se1, se2, se3, se4, se5, se6, se7, se8, se9⟩, -⟩ := id sv0
  have b1 := gi_b (lo := 0) (hi := 5) g 3 0 rfl
  have b2 := gi_b (lo := 0) (hi := 5) g 238 0 rfl
  have b3 := gi_b (lo := 0) (hi := 4) g 3 1 rfl
  have b4 := gi_b (lo := 0) (hi := 4) g 238 1 rfl
  have b5 := gi_b (lo := 0) (hi := 12) g 3 2 rfl
  have b6 := gi_b (lo := 0) (hi := 12) g 238 2 rfl
  have b7 := gi_b (lo := -2147483648) (hi := 2147483647) g 3 3 rfl
  have b8 := gi_b (lo := 0) (hi := 999) g 238 3 rfl
  have b9 := gi_b (lo := -2147483648) (hi := 2147483647) g 3 4 rfl
  have b10 := gi_b (lo := 0) (hi := 999) g 238 4 rfl
  have b11 := gi_b (lo := -2147483648) (hi := 2147483647) g 3 5 rfl
  have b12 := gi_b (lo := 0) (hi := 9) g 238 5 rfl
  have b13 := gi_b (lo := -2147483648) (hi := 2147483647) g 3 6 rfl
  have b14 := gi_b (lo := 0) (hi := 999) g 238 6 rfl
  have b15 := gi_b (lo := -2147483648) (hi := 2147483647) g 3 7 rfl
  have b16 := gi_b (lo := 0) (hi := 3) g 238 7 rfl
  have b17 := gi_b (lo := -2147483648) (hi := 2147483647) g 3 8 rfl
  have b18 := gi_b (lo := 0) (hi := 999) g 238 8 rfl
  have b19 := gi_b (lo := -2147483648) (hi := 2147483647) g 3 9 rfl
  have b20 := gi_b (lo := 0) (hi := 999) g 238 9 rfl
  have b21 := gi_b (lo := 0) (hi := 1) g 0 12 rfl
  have b22 := gi_b (lo := 0) (hi := 1) g 236 21 rfl
  have bl_ := gi_b (lo := 0) (hi := 800) g 1 1 rfl
  have tb0 : BufC (h 2) (h 1 1) h := ⟨fun _ => rfl, rfl, by omega, by omega⟩
  have b23 := gi_b (lo := 0) (hi := 6) g 238 98 rfl
  have b24 := gi_b (lo := 0) (hi := 6) g 238 99 rfl
  have b25 := gi_b (lo := 0) (hi := 6) g 238 100 rfl
  have b26 := gi_b (lo := 0) (hi := 6) g 238 101 rfl
  have b27 := gi_b (lo := 0) (hi := 3) g 238 102 rfl
  have b28 := gi_b (lo := 0) (hi := 12) g 238 106 rfl
  have b29 := gi_b (lo := 0) (hi := 12) g 238 73 rfl
  have b30 := gi_b (lo := 0) (hi := 9999) g 238 119 rfl
  have b31 := gi_b (lo := 0) (hi := 9999) g 238 67 rfl
  have b32 := gi_b (lo := 0) (hi := 9) g 238 69 rfl
  have b33 := gi_b (lo := 0) (hi := 6) g 241 98 rfl
  have b34 := gi_b (lo := 0) (hi := 6) g 241 99 rfl
  have b35 := gi_b (lo := 0) (hi := 6) g 241 100 rfl
  have b36 := gi_b (lo := 0) (hi := 6) g 241 101 rfl
  have b37 := gi_b (lo := 0) (hi := 3) g 241 102 rfl
  have b38 := gi_b (lo := 0) (hi := 12) g 241 106 rfl
  have b39 := gi_b (lo := 0) (hi := 12) g 241 73 rfl
  have b40 := gi_b (lo := 0) (hi := 12) g 241 2 rfl
  have b41 := gi_b (lo := 0) (hi := 9999) g 241 119 rfl
  have b42 := gi_b (lo := 0) (hi := 9999) g 241 67 rfl
  have b43 := gi_b (lo := 0) (hi := 9) g 241 69 rfl
  have b44 := gi_b (lo := 0) (hi := 9) g 241 5 rfl
  have b45 := gi_b (lo := 0) (hi := 800) g 1 1 rfl
  have b46 := gi_b (lo := 0) (hi := 800) g 236 2 rfl
  have b47 := gi_b (lo := -2147483648) (hi := 2147483647) g 1 2 rfl
  have b48 := gi_b (lo := -2147483648) (hi := 2147483647) g 236 10 rfl
  have b49 := gi_b (lo := -2147483648) (hi := 2147483647) g 1 3 rfl
  have b50 := gi_b (lo := -2147483648) (hi := 2147483647) g 236 11 rfl
  refine wi_aload_n (i := 1) (x := 0) (nx := 1074) (r1 := 0) (r2 := 0) (r3 := 0) rfl rfl ?_
  refine wi_aload_n (i := 0) (x := 1000000) (nx := 1075) (r1 := 0) (r2 := 0) (r3 := 0) rfl rfl ?_
  refine wi_iload (i := 4) (e := i) (nx := 1077) (r1 := 0) (r2 := 0) (r3 := 0) rfl rfl ?_
  refine wi_iconst (n := 1) (nx := 1078) (r1 := 0) (r2 := 0) (r3 := 0) rfl ?_
  refine wr_add (nx := 1079) (r1 := 0) (r2 := 0) (r3 := 0) rfl (fun e51 (fe51 : e51 = i + 1) => ?_)
  obtain ⟨i52, ei52⟩ : ∃ q : Nat, e51 = (q : Int) := ⟨(e51).toNat, by omega⟩
  have s53 := sc_b (xs i52)
  refine wr_sc (a := e51) (f := i52) (nx := 1080) (r1 := 0) (r2 := 0) (r3 := 0) rfl (by omega) (by omega) hL ?_
  refine wi_aload_n (i := 3) (x := 259) (nx := 1081) (r1 := 0) (r2 := 0) (r3 := 0) rfl rfl ?_
  refine wi_S (rest := []) (as := [.ref 0, vi ((xs i52).toInt), .ref 259]) (nx := 1084) (r1 := 18) (r2 := 19) (r3 := 0) rfl rfl rfl (of_decide_eq_true rfl) rfl rfl (of_decide_eq_true rfl) (of_decide_eq_true rfl) ?_
  refine wi_aload_n (i := 2) (x := 259) (nx := 1) (r1 := 0) (r2 := 0) (r3 := 0) rfl rfl ?_
  refine wi_iconst (n := 0) (nx := 2) (r1 := 0) (r2 := 0) (r3 := 0) rfl ?_
  refine wi_aload_n (i := 0) (x := 0) (nx := 3) (r1 := 0) (r2 := 0) (r3 := 0) rfl rfl ?_
  refine wi_iload_n (i := 1) (e := (xs i52).toInt) (nx := 4) (r1 := 0) (r2 := 0) (r3 := 0) rfl rfl ?_
  refine wr_V (k0 := 0) (rest := [vi 0, .ref 259]) (as := [.ref 0, vi ((xs i52).toInt)]) (nx := 7) (r1 := 80) (r2 := 1) (r3 := 0) rfl rfl rfl (of_decide_eq_true rfl) rfl rfl (by decide) rfl rfl (of_decide_eq_true rfl) (of_decide_eq_true rfl) ?_
  refine ct_80_0 hcr hr  g ((xs i52).toInt) (by omega)  (fun h54 z55 g54 u54 (fz55 : -2147483648 ≤ z55 ∧ z55 ≤ 2147483647) => ?_) (fun h54 g54 u54 => ?_)
  ·
    refine wk_i ?_
    refine wi_i2l (nx := 8) (r1 := 0) (r2 := 0) (r3 := 0) rfl (by omega) ?_
    refine wr_ls (k0 := 259) (a := 0) (f := 0) (x := z55) (bl := -9223372036854775808) (bh := 9223372036854775807) (nx := 9) (r1 := 0) (r2 := 0) (r3 := 0) rfl (by decide) rfl (by omega) (by omega) (by decide) g54 rfl (by omega) (fun h56 g56 w56 u56 => ?_)
    refine wi_goto (nx := 12) (r1 := 15) (r2 := 0) (r3 := 0) rfl ?_
    refine wi_iconst (n := 0) (nx := 16) (r1 := 0) (r2 := 0) (r3 := 0) rfl ?_
    refine wi_ireturn (nx := 17) (r1 := 0) (r2 := 0) (r3 := 0) rfl rfl ?_
    refine wk_i ?_
    refine wi_istore (i := 5) (e := 0) (lo2 := [(5, vi 0), (0, .ref 1000000), (1, .ref 0), (2, .ref 236), (3, .ref 259), (4, vi i)]) (nx := 1086) (r1 := 0) (r2 := 0) (r3 := 0) rfl rfl ?_
    refine wi_aload_n (i := 2) (x := 236) (nx := 1087) (r1 := 0) (r2 := 0) (r3 := 0) rfl rfl ?_
    refine wi_aload_n (i := 0) (x := 1000000) (nx := 1088) (r1 := 0) (r2 := 0) (r3 := 0) rfl rfl ?_
    refine wi_iload (i := 4) (e := i) (nx := 1090) (r1 := 0) (r2 := 0) (r3 := 0) rfl rfl ?_
    refine wi_iconst (n := 1) (nx := 1091) (r1 := 0) (r2 := 0) (r3 := 0) rfl ?_
    refine wr_add (nx := 1092) (r1 := 0) (r2 := 0) (r3 := 0) rfl (fun e57 (fe57 : e57 = i + 1) => ?_)
    refine wr_sc (a := e57) (f := i52) (nx := 1093) (r1 := 0) (r2 := 0) (r3 := 0) rfl (by omega) (by omega) hL ?_
    refine wr_V (k0 := 236) (rest := []) (as := [.ref 236, vi ((xs i52).toInt)]) (nx := 1096) (r1 := 284) (r2 := 1) (r3 := 11) rfl rfl rfl (of_decide_eq_true rfl) rfl rfl (by decide) rfl rfl (of_decide_eq_true rfl) (of_decide_eq_true rfl) ?_
    have e59 : h56 238 98 = h 238 98 := ((u56 238 98 rfl).trans (u54 238 98 rfl))
    have e60 : h56 238 99 = h 238 99 := ((u56 238 99 rfl).trans (u54 238 99 rfl))
    have e61 : h56 238 100 = h 238 100 := ((u56 238 100 rfl).trans (u54 238 100 rfl))
    have e62 : h56 238 101 = h 238 101 := ((u56 238 101 rfl).trans (u54 238 101 rfl))
    have e63 : h56 238 102 = h 238 102 := ((u56 238 102 rfl).trans (u54 238 102 rfl))
    have e64 : h56 238 106 = h 238 106 := ((u56 238 106 rfl).trans (u54 238 106 rfl))
    have e65 : h56 238 73 = h 238 73 := ((u56 238 73 rfl).trans (u54 238 73 rfl))
    have e66 : h56 238 2 = h 238 2 := ((u56 238 2 rfl).trans (u54 238 2 rfl))
    have e67 : h56 238 119 = h 238 119 := ((u56 238 119 rfl).trans (u54 238 119 rfl))
    have e68 : h56 238 67 = h 238 67 := ((u56 238 67 rfl).trans (u54 238 67 rfl))
    have e69 : h56 238 69 = h 238 69 := ((u56 238 69 rfl).trans (u54 238 69 rfl))
    have e70 : h56 238 5 = h 238 5 := ((u56 238 5 rfl).trans (u54 238 5 rfl))
    have gs72 := GPS.fr u54 rfl gs0
    have gs73 := GPS.fr u56 rfl gs72
    have gp74 := GPH.fr u54 rfl gp0
    have gp75 := GPH.fr u56 rfl gp74
    refine ct_284_236 hcr  g56 ((xs i52).toInt) (by omega) (show (h56 238 98) + (h56 238 99) + (h56 238 100) + (h56 238 101) + (h56 238 102) + (h56 238 106) = (h56 238 73) by omega) (show (h56 238 73) ≤ (h56 238 2) by omega) (show (h56 238 119) ≤ (h56 238 67) by omega) (show (h56 238 69) ≤ (h56 238 5) by omega) (show (h56 238 2) ≤ 12 * (h56 238 5) by omega) gs73 gp75 (fun h58 z71 g58 u58 (fz71 : -1 ≤ z71 ∧ z71 ≤ 11) (p58_0 : (h58 238 98) + (h58 238 99) + (h58 238 100) + (h58 238 101) + (h58 238 102) + (h58 238 106) = (h58 238 73)) (p58_1 : (h58 238 73) ≤ (h58 238 2)) (p58_2 : (h58 238 119) ≤ (h58 238 67)) (p58_3 : (h58 238 69) ≤ (h58 238 5)) (p58_4 : (h58 238 2) ≤ 12 * (h58 238 5)) y58_0 y58_1 => ?_)
    have b76 := gi_b (lo := 0) (hi := 6) g58 238 98 rfl
    have b77 := gi_b (lo := 0) (hi := 6) g58 238 99 rfl
    have b78 := gi_b (lo := 0) (hi := 6) g58 238 100 rfl
    have b79 := gi_b (lo := 0) (hi := 6) g58 238 101 rfl
    have b80 := gi_b (lo := 0) (hi := 3) g58 238 102 rfl
    have e81 : h58 238 106 = h 238 106 := ((u58 238 106 rfl).trans ((u56 238 106 rfl).trans (u54 238 106 rfl)))
    have e82 : h58 238 73 = h 238 73 := ((u58 238 73 rfl).trans ((u56 238 73 rfl).trans (u54 238 73 rfl)))
    have e83 : h58 238 2 = h 238 2 := ((u58 238 2 rfl).trans ((u56 238 2 rfl).trans (u54 238 2 rfl)))
    have e84 : h58 238 119 = h 238 119 := ((u58 238 119 rfl).trans ((u56 238 119 rfl).trans (u54 238 119 rfl)))
    have e85 : h58 238 67 = h 238 67 := ((u58 238 67 rfl).trans ((u56 238 67 rfl).trans (u54 238 67 rfl)))
    have e86 : h58 238 69 = h 238 69 := ((u58 238 69 rfl).trans ((u56 238 69 rfl).trans (u54 238 69 rfl)))
    have e87 : h58 238 5 = h 238 5 := ((u58 238 5 rfl).trans ((u56 238 5 rfl).trans (u54 238 5 rfl)))
    refine wk_i ?_
    refine wi_istore (i := 6) (e := z71) (lo2 := [(6, vi z71), (5, vi 0), (0, .ref 1000000), (1, .ref 0), (2, .ref 236), (3, .ref 259), (4, vi i)]) (nx := 1098) (r1 := 0) (r2 := 0) (r3 := 0) rfl rfl ?_
    refine wi_goto (nx := 1101) (r1 := 1529) (r2 := 0) (r3 := 0) rfl ?_
    refine wp.lo (lo := [(0, .ref 1000000), (1, .ref 0), (2, .ref 236), (3, .ref 259), (4, vi i)]) ⟨rfl, rfl, rfl, rfl, rfl, trivial⟩ rfl ?_
    have e88 : h58 241 98 = h 241 98 := ((u58 241 98 rfl).trans ((u56 241 98 rfl).trans (u54 241 98 rfl)))
    have e89 : h58 241 99 = h 241 99 := ((u58 241 99 rfl).trans ((u56 241 99 rfl).trans (u54 241 99 rfl)))
    have e90 : h58 241 100 = h 241 100 := ((u58 241 100 rfl).trans ((u56 241 100 rfl).trans (u54 241 100 rfl)))
    have e91 : h58 241 101 = h 241 101 := ((u58 241 101 rfl).trans ((u56 241 101 rfl).trans (u54 241 101 rfl)))
    have e92 : h58 241 102 = h 241 102 := ((u58 241 102 rfl).trans ((u56 241 102 rfl).trans (u54 241 102 rfl)))
    have e93 : h58 241 106 = h 241 106 := ((u58 241 106 rfl).trans ((u56 241 106 rfl).trans (u54 241 106 rfl)))
    have e94 : h58 241 73 = h 241 73 := ((u58 241 73 rfl).trans ((u56 241 73 rfl).trans (u54 241 73 rfl)))
    have e95 : h58 241 2 = h 241 2 := ((u58 241 2 rfl).trans ((u56 241 2 rfl).trans (u54 241 2 rfl)))
    have e96 : h58 241 119 = h 241 119 := ((u58 241 119 rfl).trans ((u56 241 119 rfl).trans (u54 241 119 rfl)))
    have e97 : h58 241 67 = h 241 67 := ((u58 241 67 rfl).trans ((u56 241 67 rfl).trans (u54 241 67 rfl)))
    have e98 : h58 241 69 = h 241 69 := ((u58 241 69 rfl).trans ((u56 241 69 rfl).trans (u54 241 69 rfl)))
    have e99 : h58 241 5 = h 241 5 := ((u58 241 5 rfl).trans ((u56 241 5 rfl).trans (u54 241 5 rfl)))
    have e100 : h58 1 1 = h 1 1 := ((u58 1 1 rfl).trans ((u56 1 1 rfl).trans (u54 1 1 rfl)))
    have e101 : h58 236 2 = h 236 2 := ((u58 236 2 rfl).trans ((u56 236 2 rfl).trans (u54 236 2 rfl)))
    have e102 : h58 1 2 = h 1 2 := ((u58 1 2 rfl).trans ((u56 1 2 rfl).trans (u54 1 2 rfl)))
    have e103 : h58 236 10 = h 236 10 := ((u58 236 10 rfl).trans ((u56 236 10 rfl).trans (u54 236 10 rfl)))
    have e104 : h58 1 3 = h 1 3 := ((u58 1 3 rfl).trans ((u56 1 3 rfl).trans (u54 1 3 rfl)))
    have e105 : h58 236 11 = h 236 11 := ((u58 236 11 rfl).trans ((u56 236 11 rfl).trans (u54 236 11 rfl)))
    have b106 := gi_b (lo := 0) (hi := 5) g 241 0 rfl
    have b107 := gi_b (lo := 0) (hi := 4) g 241 1 rfl
    have e108 : h58 0 12 = h 0 12 := ((u58 0 12 rfl).trans ((u56 0 12 rfl).trans (u54 0 12 rfl)))
    have e109 : h58 236 21 = h 236 21 := ((u58 236 21 rfl).trans ((u56 236 21 rfl).trans (u54 236 21 rfl)))
    exact k h58 b c ⟨g58, (show h58 1 1 = h58 236 2 by omega), (RS.i0 (f := h58 238) (by refine ⟨?_, ?_, ?_, ?_, ?_⟩ <;> omega)), (RS.i0 (f := h58 241) (by refine ⟨?_, ?_, ?_, ?_, ?_⟩ <;> omega)), y58_1, (BRh.keep br0 (fun i => ((u58 2 i (fo_nk rfl)).trans ((u56 2 i (fn_a (by omega) fn_0)).trans (u54 2 i (fo_nk rfl))))) (fun i => ((u58 237 i (fo_nk rfl)).trans ((u56 237 i (fn_a (by omega) fn_0)).trans (u54 237 i (fo_nk rfl))))) (by omega)), (show h58 1 2 = h58 236 10 by omega), (show h58 1 3 = h58 236 11 by omega), (SVx.keep sv0 (by omega) (fun i _ => ((u58 3 i (fo_nk rfl)).trans ((u56 3 i (fn_a (by omega) fn_0)).trans (u54 3 i (fo_nk rfl))))) (fun i _ => ((u58 5 i (fo_nk rfl)).trans ((u56 5 i (fn_a (by omega) fn_0)).trans (u54 5 i (fo_nk rfl))))) (fun i _ => ((u58 6 i (fo_nk rfl)).trans ((u56 6 i (fn_a (by omega) fn_0)).trans (u54 6 i (fo_nk rfl))))) (fun i _ => ((u58 8 i (fo_nk rfl)).trans ((u56 8 i (fn_a (by omega) fn_0)).trans (u54 8 i (fo_nk rfl))))) (fun i _ => ((u58 238 i (fo_lk (m := 74) (by omega) rfl)).trans ((u56 238 i (fn_a (by omega) fn_0)).trans (u54 238 i (fo_nk rfl)))))), (show h58 0 12 = h58 236 21 by omega), (fun e => (SVx.keep (ss0 (by omega)) (by omega) (fun i _ => ((u58 210 i (fo_nk rfl)).trans ((u56 210 i (fn_a (by omega) fn_0)).trans (u54 210 i (fo_nk rfl))))) (fun i _ => ((u58 212 i (fo_nk rfl)).trans ((u56 212 i (fn_a (by omega) fn_0)).trans (u54 212 i (fo_nk rfl))))) (fun i _ => ((u58 213 i (fo_nk rfl)).trans ((u56 213 i (fn_a (by omega) fn_0)).trans (u54 213 i (fo_nk rfl))))) (fun i _ => ((u58 215 i (fo_nk rfl)).trans ((u56 215 i (fn_a (by omega) fn_0)).trans (u54 215 i (fo_nk rfl))))) (fun i _ => ((u58 241 i (fo_nk rfl)).trans ((u56 241 i (fn_a (by omega) fn_0)).trans (u54 241 i (fo_nk rfl))))))), y58_0⟩ (by omega) (by omega)
  ·
    refine wk_h 12 (by decide) rfl ?_
    refine wr_astx (i := 3) (lo2 := [(3, .retAddr 0), (0, .ref 0), (1, vi ((xs i52).toInt)), (2, .ref 259)]) (nx := 13) (r1 := 0) (r2 := 0) (r3 := 0) rfl rfl ?_
    refine wi_iconst (n := 1) (nx := 14) (r1 := 0) (r2 := 0) (r3 := 0) rfl ?_
    refine wi_ireturn (nx := 15) (r1 := 0) (r2 := 0) (r3 := 0) rfl rfl ?_
    refine wk_i ?_
    refine wi_istore (i := 5) (e := 1) (lo2 := [(5, vi 1), (0, .ref 1000000), (1, .ref 0), (2, .ref 236), (3, .ref 259), (4, vi i)]) (nx := 1086) (r1 := 0) (r2 := 0) (r3 := 0) rfl rfl ?_
    refine wi_aload_n (i := 2) (x := 236) (nx := 1087) (r1 := 0) (r2 := 0) (r3 := 0) rfl rfl ?_
    refine wi_aload_n (i := 0) (x := 1000000) (nx := 1088) (r1 := 0) (r2 := 0) (r3 := 0) rfl rfl ?_
    refine wi_iload (i := 4) (e := i) (nx := 1090) (r1 := 0) (r2 := 0) (r3 := 0) rfl rfl ?_
    refine wi_iconst (n := 1) (nx := 1091) (r1 := 0) (r2 := 0) (r3 := 0) rfl ?_
    refine wr_add (nx := 1092) (r1 := 0) (r2 := 0) (r3 := 0) rfl (fun e56 (fe56 : e56 = i + 1) => ?_)
    refine wr_sc (a := e56) (f := i52) (nx := 1093) (r1 := 0) (r2 := 0) (r3 := 0) rfl (by omega) (by omega) hL ?_
    refine wr_V (k0 := 236) (rest := []) (as := [.ref 236, vi ((xs i52).toInt)]) (nx := 1096) (r1 := 284) (r2 := 1) (r3 := 11) rfl rfl rfl (of_decide_eq_true rfl) rfl rfl (by decide) rfl rfl (of_decide_eq_true rfl) (of_decide_eq_true rfl) ?_
    have e58 : h54 238 98 = h 238 98 := (u54 238 98 rfl)
    have e59 : h54 238 99 = h 238 99 := (u54 238 99 rfl)
    have e60 : h54 238 100 = h 238 100 := (u54 238 100 rfl)
    have e61 : h54 238 101 = h 238 101 := (u54 238 101 rfl)
    have e62 : h54 238 102 = h 238 102 := (u54 238 102 rfl)
    have e63 : h54 238 106 = h 238 106 := (u54 238 106 rfl)
    have e64 : h54 238 73 = h 238 73 := (u54 238 73 rfl)
    have e65 : h54 238 2 = h 238 2 := (u54 238 2 rfl)
    have e66 : h54 238 119 = h 238 119 := (u54 238 119 rfl)
    have e67 : h54 238 67 = h 238 67 := (u54 238 67 rfl)
    have e68 : h54 238 69 = h 238 69 := (u54 238 69 rfl)
    have e69 : h54 238 5 = h 238 5 := (u54 238 5 rfl)
    have gs71 := GPS.fr u54 rfl gs0
    have gp72 := GPH.fr u54 rfl gp0
    refine ct_284_236 hcr  g54 ((xs i52).toInt) (by omega) (show (h54 238 98) + (h54 238 99) + (h54 238 100) + (h54 238 101) + (h54 238 102) + (h54 238 106) = (h54 238 73) by omega) (show (h54 238 73) ≤ (h54 238 2) by omega) (show (h54 238 119) ≤ (h54 238 67) by omega) (show (h54 238 69) ≤ (h54 238 5) by omega) (show (h54 238 2) ≤ 12 * (h54 238 5) by omega) gs71 gp72 (fun h57 z70 g57 u57 (fz70 : -1 ≤ z70 ∧ z70 ≤ 11) (p57_0 : (h57 238 98) + (h57 238 99) + (h57 238 100) + (h57 238 101) + (h57 238 102) + (h57 238 106) = (h57 238 73)) (p57_1 : (h57 238 73) ≤ (h57 238 2)) (p57_2 : (h57 238 119) ≤ (h57 238 67)) (p57_3 : (h57 238 69) ≤ (h57 238 5)) (p57_4 : (h57 238 2) ≤ 12 * (h57 238 5)) y57_0 y57_1 => ?_)
    have b73 := gi_b (lo := 0) (hi := 6) g57 238 98 rfl
    have b74 := gi_b (lo := 0) (hi := 6) g57 238 99 rfl
    have b75 := gi_b (lo := 0) (hi := 6) g57 238 100 rfl
    have b76 := gi_b (lo := 0) (hi := 6) g57 238 101 rfl
    have b77 := gi_b (lo := 0) (hi := 3) g57 238 102 rfl
    have e78 : h57 238 106 = h 238 106 := ((u57 238 106 rfl).trans (u54 238 106 rfl))
    have e79 : h57 238 73 = h 238 73 := ((u57 238 73 rfl).trans (u54 238 73 rfl))
    have e80 : h57 238 2 = h 238 2 := ((u57 238 2 rfl).trans (u54 238 2 rfl))
    have e81 : h57 238 119 = h 238 119 := ((u57 238 119 rfl).trans (u54 238 119 rfl))
    have e82 : h57 238 67 = h 238 67 := ((u57 238 67 rfl).trans (u54 238 67 rfl))
    have e83 : h57 238 69 = h 238 69 := ((u57 238 69 rfl).trans (u54 238 69 rfl))
    have e84 : h57 238 5 = h 238 5 := ((u57 238 5 rfl).trans (u54 238 5 rfl))
    refine wk_i ?_
    refine wi_istore (i := 6) (e := z70) (lo2 := [(6, vi z70), (5, vi 1), (0, .ref 1000000), (1, .ref 0), (2, .ref 236), (3, .ref 259), (4, vi i)]) (nx := 1098) (r1 := 0) (r2 := 0) (r3 := 0) rfl rfl ?_
    refine wi_goto (nx := 1101) (r1 := 1529) (r2 := 0) (r3 := 0) rfl ?_
    refine wp.lo (lo := [(0, .ref 1000000), (1, .ref 0), (2, .ref 236), (3, .ref 259), (4, vi i)]) ⟨rfl, rfl, rfl, rfl, rfl, trivial⟩ rfl ?_
    have e85 : h57 241 98 = h 241 98 := ((u57 241 98 rfl).trans (u54 241 98 rfl))
    have e86 : h57 241 99 = h 241 99 := ((u57 241 99 rfl).trans (u54 241 99 rfl))
    have e87 : h57 241 100 = h 241 100 := ((u57 241 100 rfl).trans (u54 241 100 rfl))
    have e88 : h57 241 101 = h 241 101 := ((u57 241 101 rfl).trans (u54 241 101 rfl))
    have e89 : h57 241 102 = h 241 102 := ((u57 241 102 rfl).trans (u54 241 102 rfl))
    have e90 : h57 241 106 = h 241 106 := ((u57 241 106 rfl).trans (u54 241 106 rfl))
    have e91 : h57 241 73 = h 241 73 := ((u57 241 73 rfl).trans (u54 241 73 rfl))
    have e92 : h57 241 2 = h 241 2 := ((u57 241 2 rfl).trans (u54 241 2 rfl))
    have e93 : h57 241 119 = h 241 119 := ((u57 241 119 rfl).trans (u54 241 119 rfl))
    have e94 : h57 241 67 = h 241 67 := ((u57 241 67 rfl).trans (u54 241 67 rfl))
    have e95 : h57 241 69 = h 241 69 := ((u57 241 69 rfl).trans (u54 241 69 rfl))
    have e96 : h57 241 5 = h 241 5 := ((u57 241 5 rfl).trans (u54 241 5 rfl))
    have e97 : h57 1 1 = h 1 1 := ((u57 1 1 rfl).trans (u54 1 1 rfl))
    have e98 : h57 236 2 = h 236 2 := ((u57 236 2 rfl).trans (u54 236 2 rfl))
    have e99 : h57 1 2 = h 1 2 := ((u57 1 2 rfl).trans (u54 1 2 rfl))
    have e100 : h57 236 10 = h 236 10 := ((u57 236 10 rfl).trans (u54 236 10 rfl))
    have e101 : h57 1 3 = h 1 3 := ((u57 1 3 rfl).trans (u54 1 3 rfl))
    have e102 : h57 236 11 = h 236 11 := ((u57 236 11 rfl).trans (u54 236 11 rfl))
    have b103 := gi_b (lo := 0) (hi := 5) g 241 0 rfl
    have b104 := gi_b (lo := 0) (hi := 4) g 241 1 rfl
    have e105 : h57 0 12 = h 0 12 := ((u57 0 12 rfl).trans (u54 0 12 rfl))
    have e106 : h57 236 21 = h 236 21 := ((u57 236 21 rfl).trans (u54 236 21 rfl))
    exact k h57 (b - 1) (c - 6) ⟨g57, (show h57 1 1 = h57 236 2 by omega), (RS.i0 (f := h57 238) (by refine ⟨?_, ?_, ?_, ?_, ?_⟩ <;> omega)), (RS.i0 (f := h57 241) (by refine ⟨?_, ?_, ?_, ?_, ?_⟩ <;> omega)), y57_1, (BRh.keep br0 (fun i => ((u57 2 i (fo_nk rfl)).trans (u54 2 i (fo_nk rfl)))) (fun i => ((u57 237 i (fo_nk rfl)).trans (u54 237 i (fo_nk rfl)))) (by omega)), (show h57 1 2 = h57 236 10 by omega), (show h57 1 3 = h57 236 11 by omega), (SVx.keep sv0 (by omega) (fun i _ => ((u57 3 i (fo_nk rfl)).trans (u54 3 i (fo_nk rfl)))) (fun i _ => ((u57 5 i (fo_nk rfl)).trans (u54 5 i (fo_nk rfl)))) (fun i _ => ((u57 6 i (fo_nk rfl)).trans (u54 6 i (fo_nk rfl)))) (fun i _ => ((u57 8 i (fo_nk rfl)).trans (u54 8 i (fo_nk rfl)))) (fun i _ => ((u57 238 i (fo_lk (m := 74) (by omega) rfl)).trans (u54 238 i (fo_nk rfl))))), (show h57 0 12 = h57 236 21 by omega), (fun e => (SVx.keep (ss0 (by omega)) (by omega) (fun i _ => ((u57 210 i (fo_nk rfl)).trans (u54 210 i (fo_nk rfl)))) (fun i _ => ((u57 212 i (fo_nk rfl)).trans (u54 212 i (fo_nk rfl)))) (fun i _ => ((u57 213 i (fo_nk rfl)).trans (u54 213 i (fo_nk rfl)))) (fun i _ => ((u57 215 i (fo_nk rfl)).trans (u54 215 i (fo_nk rfl)))) (fun i _ => ((u57 241 i (fo_nk rfl)).trans (u54 241 i (fo_nk rfl)))))), y57_0⟩ (by omega) (by omega)
-- the law, case at 1101
set_option maxRecDepth 100000 in
set_option maxHeartbeats 100000000 in
theorem lc_1101 {L : Nat} {xs : Nat → Int32} {d b c : Nat} {h : hp} {cr : Nat → Nat → Option Nat} {Q : hp_Q} (hcr : CR cr) (hL : L ≤ 3072) (hr : 1 ≤ b ∧ 6 ≤ c) (I : LI h) (i : Int) (hi : 0 ≤ i ∧ i + 6 ≤ L) (k : ∀ (h2 : hp) (b2 c2 : Nat), LI h2 → b ≤ b2 + 1 → c ≤ c2 + 6 → wp (md_xa (L, xs)) (d + 107) 0 (1529, [(0, .ref 1000000), (1, .ref 0), (2, .ref 236), (3, .ref 259), (4, vi i)], [], hp_w h2 cr, b2, c2) Q) : wp (md_xa (L, xs)) (d + 107) 0 (1101, [(0, .ref 1000000), (1, .ref 0), (2, .ref 236), (3, .ref 259), (4, vi i)], [], hp_w h cr, b, c) Q := by
  obtain ⟨g, i11, r238, r241, gp0, br0, er2, er3, sv0, sf0, ss0, gs0⟩ := I
  have r238e := r238.e0
  have r241e := r241.e0
  obtain ⟨⟨se0, se1, se2, se3, se4, se5, se6, se7, se8, se9⟩, -⟩ := id sv0
  have b1 := gi_b (lo := 0) (hi := 5) g 3 0 rfl
  have b2 := gi_b (lo := 0) (hi := 5) g 238 0 rfl
  have b3 := gi_b (lo := 0) (hi := 4) g 3 1 rfl
  have b4 := gi_b (lo := 0) (hi := 4) g 238 1 rfl
  have b5 := gi_b (lo := 0) (hi := 12) g 3 2 rfl
  have b6 := gi_b (lo := 0) (hi := 12) g 238 2 rfl
  have b7 := gi_b (lo := -2147483648) (hi := 2147483647) g 3 3 rfl
  have b8 := gi_b (lo := 0) (hi := 999) g 238 3 rfl
  have b9 := gi_b (lo := -2147483648) (hi := 2147483647) g 3 4 rfl
  have b10 := gi_b (lo := 0) (hi := 999) g 238 4 rfl
  have b11 := gi_b (lo := -2147483648) (hi := 2147483647) g 3 5 rfl
  have b12 := gi_b (lo := 0) (hi := 9) g 238 5 rfl
  have b13 := gi_b (lo := -2147483648) (hi := 2147483647) g 3 6 rfl
  have b14 := gi_b (lo := 0) (hi := 999) g 238 6 rfl
  have b15 := gi_b (lo := -2147483648) (hi := 2147483647) g 3 7 rfl
  have b16 := gi_b (lo := 0) (hi := 3) g 238 7 rfl
  have b17 := gi_b (lo := -2147483648) (hi := 2147483647) g 3 8 rfl
  have b18 := gi_b (lo := 0) (hi := 999) g 238 8 rfl
  have b19 := gi_b (lo := -2147483648) (hi := 2147483647) g 3 9 rfl
  have b20 := gi_b (lo := 0) (hi := 999) g 238 9 rfl
  have b21 := gi_b (lo := 0) (hi := 1) g 0 12 rfl
  have b22 := gi_b (lo := 0) (hi := 1) g 236 21 rfl
  have bl_ := gi_b (lo := 0) (hi := 800) g 1 1 rfl
  have tb0 : BufC (h 2) (h 1 1) h := ⟨fun _ => rfl, rfl, by omega, by omega⟩
  have b23 := gi_b (lo := 0) (hi := 6) g 238 98 rfl
  have b24 := gi_b (lo := 0) (hi := 6) g 238 99 rfl
  have b25 := gi_b (lo := 0) (hi := 6) g 238 100 rfl
  have b26 := gi_b (lo := 0) (hi := 6) g 238 101 rfl
  have b27 := gi_b (lo := 0) (hi := 3) g 238 102 rfl
  have b28 := gi_b (lo := 0) (hi := 12) g 238 106 rfl
  have b29 := gi_b (lo := 0) (hi := 12) g 238 73 rfl
  have b30 := gi_b (lo := 0) (hi := 9999) g 238 119 rfl
  have b31 := gi_b (lo := 0) (hi := 9999) g 238 67 rfl
  have b32 := gi_b (lo := 0) (hi := 9) g 238 69 rfl
  have b33 := gi_b (lo := 0) (hi := 6) g 241 98 rfl
  have b34 := gi_b (lo := 0) (hi := 6) g 241 99 rfl
  have b35 := gi_b (lo := 0) (hi := 6) g 241 100 rfl
  have b36 := gi_b (lo := 0) (hi := 6) g 241 101 rfl
  have b37 := gi_b (lo := 0) (hi := 3) g 241 102 rfl
  have b38 := gi_b (lo := 0) (hi := 12) g 241 106 rfl
  have b39 := gi_b (lo := 0) (hi := 12) g 241 73 rfl
  have b40 := gi_b (lo := 0) (hi := 12) g 241 2 rfl
  have b41 := gi_b (lo := 0) (hi := 9999) g 241 119 rfl
  have b42 := gi_b (lo := 0) (hi := 9999) g 241 67 rfl
  have b43 := gi_b (lo := 0) (hi := 9) g 241 69 rfl
  have b44 := gi_b (lo := 0) (hi := 9) g 241 5 rfl
  have b45 := gi_b (lo := 0) (hi := 800) g 1 1 rfl
  have b46 := gi_b (lo := 0) (hi := 800) g 236 2 rfl
  have b47 := gi_b (lo := -2147483648) (hi := 2147483647) g 1 2 rfl
  have b48 := gi_b (lo := -2147483648) (hi := 2147483647) g 236 10 rfl
  have b49 := gi_b (lo := -2147483648) (hi := 2147483647) g 1 3 rfl
  have b50 := gi_b (lo := -2147483648) (hi := 2147483647) g 236 11 rfl
  refine wi_aload_n (i := 1) (x := 0) (nx := 1102) (r1 := 0) (r2 := 0) (r3 := 0) rfl rfl ?_
  refine wr_V (k0 := 0) (rest := []) (as := [.ref 0]) (nx := 1105) (r1 := 44) (r2 := 0) (r3 := 0) rfl rfl rfl (of_decide_eq_true rfl) rfl rfl (by decide) rfl rfl (of_decide_eq_true rfl) (of_decide_eq_true rfl) ?_
  refine ct_44_0 hcr  g    (fun h51 z52 g51 u51 (fz52 : -2147483648 ≤ z52 ∧ z52 ≤ 2147483647) => ?_)
  refine wk_i ?_
  refine wi_pop (nx := 1106) (r1 := 0) (r2 := 0) (r3 := 0) rfl rfl ?_
  refine wi_aload_n (i := 2) (x := 236) (nx := 1107) (r1 := 0) (r2 := 0) (r3 := 0) rfl rfl ?_
  refine wr_V (k0 := 236) (rest := []) (as := [.ref 236]) (nx := 1110) (r1 := 287) (r2 := 0) (r3 := 11) rfl rfl rfl (of_decide_eq_true rfl) rfl rfl (by decide) rfl rfl (of_decide_eq_true rfl) (of_decide_eq_true rfl) ?_
  have e54 : h51 238 98 = h 238 98 := (u51 238 98 rfl)
  have e55 : h51 238 99 = h 238 99 := (u51 238 99 rfl)
  have e56 : h51 238 100 = h 238 100 := (u51 238 100 rfl)
  have e57 : h51 238 101 = h 238 101 := (u51 238 101 rfl)
  have e58 : h51 238 102 = h 238 102 := (u51 238 102 rfl)
  have e59 : h51 238 106 = h 238 106 := (u51 238 106 rfl)
  have e60 : h51 238 73 = h 238 73 := (u51 238 73 rfl)
  have e61 : h51 238 2 = h 238 2 := (u51 238 2 rfl)
  have e62 : h51 238 119 = h 238 119 := (u51 238 119 rfl)
  have e63 : h51 238 67 = h 238 67 := (u51 238 67 rfl)
  have e64 : h51 238 69 = h 238 69 := (u51 238 69 rfl)
  have e65 : h51 238 5 = h 238 5 := (u51 238 5 rfl)
  have gs67 := GPS.fr u51 rfl gs0
  have gp68 := GPH.fr u51 rfl gp0
  refine ct_287_236 hcr  g51   (show (h51 238 98) + (h51 238 99) + (h51 238 100) + (h51 238 101) + (h51 238 102) + (h51 238 106) = (h51 238 73) by omega) (show (h51 238 73) ≤ (h51 238 2) by omega) (show (h51 238 119) ≤ (h51 238 67) by omega) (show (h51 238 69) ≤ (h51 238 5) by omega) (show (h51 238 2) ≤ 12 * (h51 238 5) by omega) gs67 gp68 (fun h53 z66 g53 u53 (fz66 : -1 ≤ z66 ∧ z66 ≤ 9999) (p53_0 : (h53 238 98) + (h53 238 99) + (h53 238 100) + (h53 238 101) + (h53 238 102) + (h53 238 106) = (h53 238 73)) (p53_1 : (h53 238 73) ≤ (h53 238 2)) (p53_2 : (h53 238 119) ≤ (h53 238 67)) (p53_3 : (h53 238 69) ≤ (h53 238 5)) (p53_4 : (h53 238 2) ≤ 12 * (h53 238 5)) y53_0 y53_1 => ?_)
  have e69 : h53 238 98 = h 238 98 := ((u53 238 98 rfl).trans (u51 238 98 rfl))
  have e70 : h53 238 99 = h 238 99 := ((u53 238 99 rfl).trans (u51 238 99 rfl))
  have e71 : h53 238 100 = h 238 100 := ((u53 238 100 rfl).trans (u51 238 100 rfl))
  have e72 : h53 238 101 = h 238 101 := ((u53 238 101 rfl).trans (u51 238 101 rfl))
  have e73 : h53 238 102 = h 238 102 := ((u53 238 102 rfl).trans (u51 238 102 rfl))
  have e74 : h53 238 106 = h 238 106 := ((u53 238 106 rfl).trans (u51 238 106 rfl))
  have e75 : h53 238 73 = h 238 73 := ((u53 238 73 rfl).trans (u51 238 73 rfl))
  have e76 : h53 238 2 = h 238 2 := ((u53 238 2 rfl).trans (u51 238 2 rfl))
  have e77 : h53 238 119 = h 238 119 := ((u53 238 119 rfl).trans (u51 238 119 rfl))
  have b78 := gi_b (lo := 0) (hi := 9999) g53 238 67 rfl
  have e79 : h53 238 69 = h 238 69 := ((u53 238 69 rfl).trans (u51 238 69 rfl))
  have e80 : h53 238 5 = h 238 5 := ((u53 238 5 rfl).trans (u51 238 5 rfl))
  refine wk_i ?_
  refine wi_pop (nx := 1111) (r1 := 0) (r2 := 0) (r3 := 0) rfl rfl ?_
  refine wi_goto (nx := 1114) (r1 := 1529) (r2 := 0) (r3 := 0) rfl ?_
  have e81 : h53 241 98 = h 241 98 := ((u53 241 98 rfl).trans (u51 241 98 rfl))
  have e82 : h53 241 99 = h 241 99 := ((u53 241 99 rfl).trans (u51 241 99 rfl))
  have e83 : h53 241 100 = h 241 100 := ((u53 241 100 rfl).trans (u51 241 100 rfl))
  have e84 : h53 241 101 = h 241 101 := ((u53 241 101 rfl).trans (u51 241 101 rfl))
  have e85 : h53 241 102 = h 241 102 := ((u53 241 102 rfl).trans (u51 241 102 rfl))
  have e86 : h53 241 106 = h 241 106 := ((u53 241 106 rfl).trans (u51 241 106 rfl))
  have e87 : h53 241 73 = h 241 73 := ((u53 241 73 rfl).trans (u51 241 73 rfl))
  have e88 : h53 241 2 = h 241 2 := ((u53 241 2 rfl).trans (u51 241 2 rfl))
  have e89 : h53 241 119 = h 241 119 := ((u53 241 119 rfl).trans (u51 241 119 rfl))
  have e90 : h53 241 67 = h 241 67 := ((u53 241 67 rfl).trans (u51 241 67 rfl))
  have e91 : h53 241 69 = h 241 69 := ((u53 241 69 rfl).trans (u51 241 69 rfl))
  have e92 : h53 241 5 = h 241 5 := ((u53 241 5 rfl).trans (u51 241 5 rfl))
  have e93 : h53 1 1 = h 1 1 := ((u53 1 1 rfl).trans (u51 1 1 rfl))
  have e94 : h53 236 2 = h 236 2 := ((u53 236 2 rfl).trans (u51 236 2 rfl))
  have e95 : h53 1 2 = h 1 2 := ((u53 1 2 rfl).trans (u51 1 2 rfl))
  have e96 : h53 236 10 = h 236 10 := ((u53 236 10 rfl).trans (u51 236 10 rfl))
  have e97 : h53 1 3 = h 1 3 := ((u53 1 3 rfl).trans (u51 1 3 rfl))
  have e98 : h53 236 11 = h 236 11 := ((u53 236 11 rfl).trans (u51 236 11 rfl))
  have b99 := gi_b (lo := 0) (hi := 5) g 241 0 rfl
  have b100 := gi_b (lo := 0) (hi := 4) g 241 1 rfl
  have e101 : h53 0 12 = h 0 12 := ((u53 0 12 rfl).trans (u51 0 12 rfl))
  have e102 : h53 236 21 = h 236 21 := ((u53 236 21 rfl).trans (u51 236 21 rfl))
  exact k h53 b c ⟨g53, (show h53 1 1 = h53 236 2 by omega), (RS.i0 (f := h53 238) (by refine ⟨?_, ?_, ?_, ?_, ?_⟩ <;> omega)), (RS.i0 (f := h53 241) (by refine ⟨?_, ?_, ?_, ?_, ?_⟩ <;> omega)), y53_1, (BRh.keep br0 (fun i => ((u53 2 i (fo_nk rfl)).trans (u51 2 i (fo_nk rfl)))) (fun i => ((u53 237 i (fo_nk rfl)).trans (u51 237 i (fo_nk rfl)))) (by omega)), (show h53 1 2 = h53 236 10 by omega), (show h53 1 3 = h53 236 11 by omega), (SVx.keep sv0 (by omega) (fun i _ => ((u53 3 i (fo_nk rfl)).trans (u51 3 i (fo_nk rfl)))) (fun i _ => ((u53 5 i (fo_nk rfl)).trans (u51 5 i (fo_nk rfl)))) (fun i _ => ((u53 6 i (fo_nk rfl)).trans (u51 6 i (fo_nk rfl)))) (fun i _ => ((u53 8 i (fo_nk rfl)).trans (u51 8 i (fo_nk rfl)))) (fun i _ => ((u53 238 i (fo_lk (m := 67) (by omega) rfl)).trans (u51 238 i (fo_nk rfl))))), (show h53 0 12 = h53 236 21 by omega), (fun e => (SVx.keep (ss0 (by omega)) (by omega) (fun i _ => ((u53 210 i (fo_nk rfl)).trans (u51 210 i (fo_nk rfl)))) (fun i _ => ((u53 212 i (fo_nk rfl)).trans (u51 212 i (fo_nk rfl)))) (fun i _ => ((u53 213 i (fo_nk rfl)).trans (u51 213 i (fo_nk rfl)))) (fun i _ => ((u53 215 i (fo_nk rfl)).trans (u51 215 i (fo_nk rfl)))) (fun i _ => ((u53 241 i (fo_nk rfl)).trans (u51 241 i (fo_nk rfl)))))), y53_0⟩ (by omega) (by omega)
-- the law, case at 1114
set_option maxRecDepth 100000 in
set_option maxHeartbeats 100000000 in
theorem lc_1114 {L : Nat} {xs : Nat → Int32} {d b c : Nat} {h : hp} {cr : Nat → Nat → Option Nat} {Q : hp_Q} (hcr : CR cr) (hL : L ≤ 3072) (hr : 1 ≤ b ∧ 6 ≤ c) (I : LI h) (i : Int) (hi : 0 ≤ i ∧ i + 6 ≤ L) (k : ∀ (h2 : hp) (b2 c2 : Nat), LI h2 → b ≤ b2 + 1 → c ≤ c2 + 6 → wp (md_xa (L, xs)) (d + 107) 0 (1529, [(0, .ref 1000000), (1, .ref 0), (2, .ref 236), (3, .ref 259), (4, vi i)], [], hp_w h2 cr, b2, c2) Q) : wp (md_xa (L, xs)) (d + 107) 0 (1114, [(0, .ref 1000000), (1, .ref 0), (2, .ref 236), (3, .ref 259), (4, vi i)], [], hp_w h cr, b, c) Q := by
  obtain ⟨g, i11, r238, r241, gp0, br0, er2, er3, sv0, sf0, ss0, gs0⟩ := I
  have r238e := r238.e0
  have r241e := r241.e0
  obtain ⟨⟨se0, se1, se2, se3, se4, se5, se6, se7, se8, se9⟩, -⟩ := id sv0
  have b1 := gi_b (lo := 0) (hi := 5) g 3 0 rfl
  have b2 := gi_b (lo := 0) (hi := 5) g 238 0 rfl
  have b3 := gi_b (lo := 0) (hi := 4) g 3 1 rfl
  have b4 := gi_b (lo := 0) (hi := 4) g 238 1 rfl
  have b5 := gi_b (lo := 0) (hi := 12) g 3 2 rfl
  have b6 := gi_b (lo := 0) (hi := 12) g 238 2 rfl
  have b7 := gi_b (lo := -2147483648) (hi := 2147483647) g 3 3 rfl
  have b8 := gi_b (lo := 0) (hi := 999) g 238 3 rfl
  have b9 := gi_b (lo := -2147483648) (hi := 2147483647) g 3 4 rfl
  have b10 := gi_b (lo := 0) (hi := 999) g 238 4 rfl
  have b11 := gi_b (lo := -2147483648) (hi := 2147483647) g 3 5 rfl
  have b12 := gi_b (lo := 0) (hi := 9) g 238 5 rfl
  have b13 := gi_b (lo := -2147483648) (hi := 2147483647) g 3 6 rfl
  have b14 := gi_b (lo := 0) (hi := 999) g 238 6 rfl
  have b15 := gi_b (lo := -2147483648) (hi := 2147483647) g 3 7 rfl
  have b16 := gi_b (lo := 0) (hi := 3) g 238 7 rfl
  have b17 := gi_b (lo := -2147483648) (hi := 2147483647) g 3 8 rfl
  have b18 := gi_b (lo := 0) (hi := 999) g 238 8 rfl
  have b19 := gi_b (lo := -2147483648) (hi := 2147483647) g 3 9 rfl
  have b20 := gi_b (lo := 0) (hi := 999) g 238 9 rfl
  have b21 := gi_b (lo := 0) (hi := 1) g 0 12 rfl
  have b22 := gi_b (lo := 0) (hi := 1) g 236 21 rfl
  have bl_ := gi_b (lo := 0) (hi := 800) g 1 1 rfl
  have tb0 : BufC (h 2) (h 1 1) h := ⟨fun _ => rfl, rfl, by omega, by omega⟩
  have b23 := gi_b (lo := 0) (hi := 6) g 238 98 rfl
  have b24 := gi_b (lo := 0) (hi := 6) g 238 99 rfl
  have b25 := gi_b (lo := 0) (hi := 6) g 238 100 rfl
  have b26 := gi_b (lo := 0) (hi := 6) g 238 101 rfl
  have b27 := gi_b (lo := 0) (hi := 3) g 238 102 rfl
  have b28 := gi_b (lo := 0) (hi := 12) g 238 106 rfl
  have b29 := gi_b (lo := 0) (hi := 12) g 238 73 rfl
  have b30 := gi_b (lo := 0) (hi := 9999) g 238 119 rfl
  have b31 := gi_b (lo := 0) (hi := 9999) g 238 67 rfl
  have b32 := gi_b (lo := 0) (hi := 9) g 238 69 rfl
  have b33 := gi_b (lo := 0) (hi := 6) g 241 98 rfl
  have b34 := gi_b (lo := 0) (hi := 6) g 241 99 rfl
  have b35 := gi_b (lo := 0) (hi := 6) g 241 100 rfl
  have b36 := gi_b (lo := 0) (hi := 6) g 241 101 rfl
  have b37 := gi_b (lo := 0) (hi := 3) g 241 102 rfl
  have b38 := gi_b (lo := 0) (hi := 12) g 241 106 rfl
  have b39 := gi_b (lo := 0) (hi := 12) g 241 73 rfl
  have b40 := gi_b (lo := 0) (hi := 12) g 241 2 rfl
  have b41 := gi_b (lo := 0) (hi := 9999) g 241 119 rfl
  have b42 := gi_b (lo := 0) (hi := 9999) g 241 67 rfl
  have b43 := gi_b (lo := 0) (hi := 9) g 241 69 rfl
  have b44 := gi_b (lo := 0) (hi := 9) g 241 5 rfl
  have b45 := gi_b (lo := 0) (hi := 800) g 1 1 rfl
  have b46 := gi_b (lo := 0) (hi := 800) g 236 2 rfl
  have b47 := gi_b (lo := -2147483648) (hi := 2147483647) g 1 2 rfl
  have b48 := gi_b (lo := -2147483648) (hi := 2147483647) g 236 10 rfl
  have b49 := gi_b (lo := -2147483648) (hi := 2147483647) g 1 3 rfl
  have b50 := gi_b (lo := -2147483648) (hi := 2147483647) g 236 11 rfl
  refine wi_aload_n (i := 1) (x := 0) (nx := 1115) (r1 := 0) (r2 := 0) (r3 := 0) rfl rfl ?_
  refine wr_V (k0 := 0) (rest := []) (as := [.ref 0]) (nx := 1118) (r1 := 46) (r2 := 0) (r3 := 0) rfl rfl rfl (of_decide_eq_true rfl) rfl rfl (by decide) rfl rfl (of_decide_eq_true rfl) (of_decide_eq_true rfl) ?_
  refine ct_46_0 hcr  g    (fun h51 z52 g51 u51 (fz52 : -2147483648 ≤ z52 ∧ z52 ≤ 2147483647) => ?_)
  refine wk_i ?_
  refine wi_pop (nx := 1119) (r1 := 0) (r2 := 0) (r3 := 0) rfl rfl ?_
  refine wi_aload_n (i := 2) (x := 236) (nx := 1120) (r1 := 0) (r2 := 0) (r3 := 0) rfl rfl ?_
  refine wr_V (k0 := 236) (rest := []) (as := [.ref 236]) (nx := 1123) (r1 := 288) (r2 := 0) (r3 := 11) rfl rfl rfl (of_decide_eq_true rfl) rfl rfl (by decide) rfl rfl (of_decide_eq_true rfl) (of_decide_eq_true rfl) ?_
  have e54 : h51 238 98 = h 238 98 := (u51 238 98 rfl)
  have e55 : h51 238 99 = h 238 99 := (u51 238 99 rfl)
  have e56 : h51 238 100 = h 238 100 := (u51 238 100 rfl)
  have e57 : h51 238 101 = h 238 101 := (u51 238 101 rfl)
  have e58 : h51 238 102 = h 238 102 := (u51 238 102 rfl)
  have e59 : h51 238 106 = h 238 106 := (u51 238 106 rfl)
  have e60 : h51 238 73 = h 238 73 := (u51 238 73 rfl)
  have e61 : h51 238 2 = h 238 2 := (u51 238 2 rfl)
  have e62 : h51 238 119 = h 238 119 := (u51 238 119 rfl)
  have e63 : h51 238 67 = h 238 67 := (u51 238 67 rfl)
  have e64 : h51 238 69 = h 238 69 := (u51 238 69 rfl)
  have e65 : h51 238 5 = h 238 5 := (u51 238 5 rfl)
  have gs67 := GPS.fr u51 rfl gs0
  have gp68 := GPH.fr u51 rfl gp0
  refine ct_288_236 hcr  g51   (show (h51 238 98) + (h51 238 99) + (h51 238 100) + (h51 238 101) + (h51 238 102) + (h51 238 106) = (h51 238 73) by omega) (show (h51 238 73) ≤ (h51 238 2) by omega) (show (h51 238 119) ≤ (h51 238 67) by omega) (show (h51 238 69) ≤ (h51 238 5) by omega) (show (h51 238 2) ≤ 12 * (h51 238 5) by omega) gs67 gp68 (fun h53 z66 g53 u53 (fz66 : -1 ≤ z66 ∧ z66 ≤ 3) (p53_0 : (h53 238 98) + (h53 238 99) + (h53 238 100) + (h53 238 101) + (h53 238 102) + (h53 238 106) = (h53 238 73)) (p53_1 : (h53 238 73) ≤ (h53 238 2)) (p53_2 : (h53 238 119) ≤ (h53 238 67)) (p53_3 : (h53 238 69) ≤ (h53 238 5)) (p53_4 : (h53 238 2) ≤ 12 * (h53 238 5)) y53_0 y53_1 => ?_)
  have b69 := gi_b (lo := 0) (hi := 6) g53 238 98 rfl
  have b70 := gi_b (lo := 0) (hi := 6) g53 238 99 rfl
  have b71 := gi_b (lo := 0) (hi := 6) g53 238 100 rfl
  have b72 := gi_b (lo := 0) (hi := 6) g53 238 101 rfl
  have b73 := gi_b (lo := 0) (hi := 3) g53 238 102 rfl
  have b74 := gi_b (lo := 0) (hi := 12) g53 238 106 rfl
  have b75 := gi_b (lo := 0) (hi := 12) g53 238 73 rfl
  have e76 : h53 238 2 = h 238 2 := ((u53 238 2 rfl).trans (u51 238 2 rfl))
  have b77 := gi_b (lo := 0) (hi := 9999) g53 238 119 rfl
  have b78 := gi_b (lo := 0) (hi := 9999) g53 238 67 rfl
  have b79 := gi_b (lo := 0) (hi := 9) g53 238 69 rfl
  have e80 : h53 238 5 = h 238 5 := ((u53 238 5 rfl).trans (u51 238 5 rfl))
  refine wk_i ?_
  refine wi_pop (nx := 1124) (r1 := 0) (r2 := 0) (r3 := 0) rfl rfl ?_
  refine wi_goto (nx := 1127) (r1 := 1529) (r2 := 0) (r3 := 0) rfl ?_
  have e81 : h53 241 98 = h 241 98 := ((u53 241 98 rfl).trans (u51 241 98 rfl))
  have e82 : h53 241 99 = h 241 99 := ((u53 241 99 rfl).trans (u51 241 99 rfl))
  have e83 : h53 241 100 = h 241 100 := ((u53 241 100 rfl).trans (u51 241 100 rfl))
  have e84 : h53 241 101 = h 241 101 := ((u53 241 101 rfl).trans (u51 241 101 rfl))
  have e85 : h53 241 102 = h 241 102 := ((u53 241 102 rfl).trans (u51 241 102 rfl))
  have e86 : h53 241 106 = h 241 106 := ((u53 241 106 rfl).trans (u51 241 106 rfl))
  have e87 : h53 241 73 = h 241 73 := ((u53 241 73 rfl).trans (u51 241 73 rfl))
  have e88 : h53 241 2 = h 241 2 := ((u53 241 2 rfl).trans (u51 241 2 rfl))
  have e89 : h53 241 119 = h 241 119 := ((u53 241 119 rfl).trans (u51 241 119 rfl))
  have e90 : h53 241 67 = h 241 67 := ((u53 241 67 rfl).trans (u51 241 67 rfl))
  have e91 : h53 241 69 = h 241 69 := ((u53 241 69 rfl).trans (u51 241 69 rfl))
  have e92 : h53 241 5 = h 241 5 := ((u53 241 5 rfl).trans (u51 241 5 rfl))
  have e93 : h53 1 1 = h 1 1 := ((u53 1 1 rfl).trans (u51 1 1 rfl))
  have e94 : h53 236 2 = h 236 2 := ((u53 236 2 rfl).trans (u51 236 2 rfl))
  have e95 : h53 1 2 = h 1 2 := ((u53 1 2 rfl).trans (u51 1 2 rfl))
  have e96 : h53 236 10 = h 236 10 := ((u53 236 10 rfl).trans (u51 236 10 rfl))
  have e97 : h53 1 3 = h 1 3 := ((u53 1 3 rfl).trans (u51 1 3 rfl))
  have e98 : h53 236 11 = h 236 11 := ((u53 236 11 rfl).trans (u51 236 11 rfl))
  have b99 := gi_b (lo := 0) (hi := 5) g 241 0 rfl
  have b100 := gi_b (lo := 0) (hi := 4) g 241 1 rfl
  have e101 : h53 0 12 = h 0 12 := ((u53 0 12 rfl).trans (u51 0 12 rfl))
  have e102 : h53 236 21 = h 236 21 := ((u53 236 21 rfl).trans (u51 236 21 rfl))
  exact k h53 b c ⟨g53, (show h53 1 1 = h53 236 2 by omega), (RS.i0 (f := h53 238) (by refine ⟨?_, ?_, ?_, ?_, ?_⟩ <;> omega)), (RS.i0 (f := h53 241) (by refine ⟨?_, ?_, ?_, ?_, ?_⟩ <;> omega)), y53_1, (BRh.keep br0 (fun i => ((u53 2 i (fo_nk rfl)).trans (u51 2 i (fn_a (by decide) (fn_a (by decide) (fn_a (by decide) (fn_a (by decide) fn_0))))))) (fun i => ((u53 237 i (fo_nk rfl)).trans (u51 237 i (fn_a (by decide) (fn_a (by decide) (fn_a (by decide) (fn_a (by decide) fn_0))))))) (by omega)), (show h53 1 2 = h53 236 10 by omega), (show h53 1 3 = h53 236 11 by omega), (SVx.keep sv0 (by omega) (fun i _ => ((u53 3 i (fo_nk rfl)).trans (u51 3 i (fn_a (by decide) (fn_a (by decide) (fn_a (by decide) (fn_a (by decide) fn_0))))))) (fun i _ => ((u53 5 i (fo_nk rfl)).trans (u51 5 i (fn_a (by decide) (fn_a (by decide) (fn_a (by decide) (fn_a (by decide) fn_0))))))) (fun i _ => ((u53 6 i (fo_nk rfl)).trans (u51 6 i (fn_a (by decide) (fn_a (by decide) (fn_a (by decide) (fn_a (by decide) fn_0))))))) (fun i _ => ((u53 8 i (fo_nk rfl)).trans (u51 8 i (fn_a (by decide) (fn_a (by decide) (fn_a (by decide) (fn_a (by decide) fn_0))))))) (fun i _ => ((u53 238 i (fo_lk (m := 43) (by omega) rfl)).trans (u51 238 i (fn_a (by decide) (fn_a (by decide) (fn_a (by decide) (fn_a (by decide) fn_0)))))))), (show h53 0 12 = h53 236 21 by omega), (fun e => (SVx.keep (ss0 (by omega)) (by omega) (fun i _ => ((u53 210 i (fo_nk rfl)).trans (u51 210 i (fn_a (by decide) (fn_a (by decide) (fn_a (by decide) (fn_a (by decide) fn_0))))))) (fun i _ => ((u53 212 i (fo_nk rfl)).trans (u51 212 i (fn_a (by decide) (fn_a (by decide) (fn_a (by decide) (fn_a (by decide) fn_0))))))) (fun i _ => ((u53 213 i (fo_nk rfl)).trans (u51 213 i (fn_a (by decide) (fn_a (by decide) (fn_a (by decide) (fn_a (by decide) fn_0))))))) (fun i _ => ((u53 215 i (fo_nk rfl)).trans (u51 215 i (fn_a (by decide) (fn_a (by decide) (fn_a (by decide) (fn_a (by decide) fn_0))))))) (fun i _ => ((u53 241 i (fo_nk rfl)).trans (u51 241 i (fn_a (by decide) (fn_a (by decide) (fn_a (by decide) (fn_a (by decide) fn_0))))))))), y53_0⟩ (by omega) (by omega)
-- the law, case at 1127
set_option maxRecDepth 100000 in
set_option maxHeartbeats 100000000 in
theorem lc_1127 {L : Nat} {xs : Nat → Int32} {d b c : Nat} {h : hp} {cr : Nat → Nat → Option Nat} {Q : hp_Q} (hcr : CR cr) (hL : L ≤ 3072) (hr : 1 ≤ b ∧ 6 ≤ c) (I : LI h) (i : Int) (hi : 0 ≤ i ∧ i + 6 ≤ L) (k : ∀ (h2 : hp) (b2 c2 : Nat), LI h2 → b ≤ b2 + 1 → c ≤ c2 + 6 → wp (md_xa (L, xs)) (d + 107) 0 (1529, [(0, .ref 1000000), (1, .ref 0), (2, .ref 236), (3, .ref 259), (4, vi i)], [], hp_w h2 cr, b2, c2) Q) : wp (md_xa (L, xs)) (d + 107) 0 (1127, [(0, .ref 1000000), (1, .ref 0), (2, .ref 236), (3, .ref 259), (4, vi i)], [], hp_w h cr, b, c) Q := by
  obtain ⟨g, i11, r238, r241, gp0, br0, er2, er3, sv0, sf0, ss0, gs0⟩ := I
  have r238e := r238.e0
  have r241e := r241.e0
  obtain ⟨⟨se0, se1, se2, se3, se4, se5, se6, se7, se8, se9⟩, -⟩ := id sv0
  have b1 := gi_b (lo := 0) (hi := 5) g 3 0 rfl
  have b2 := gi_b (lo := 0) (hi := 5) g 238 0 rfl
  have b3 := gi_b (lo := 0) (hi := 4) g 3 1 rfl
  have b4 := gi_b (lo := 0) (hi := 4) g 238 1 rfl
  have b5 := gi_b (lo := 0) (hi := 12) g 3 2 rfl
  have b6 := gi_b (lo := 0) (hi := 12) g 238 2 rfl
  have b7 := gi_b (lo := -2147483648) (hi := 2147483647) g 3 3 rfl
  have b8 := gi_b (lo := 0) (hi := 999) g 238 3 rfl
  have b9 := gi_b (lo := -2147483648) (hi := 2147483647) g 3 4 rfl
  have b10 := gi_b (lo := 0) (hi := 999) g 238 4 rfl
  have b11 := gi_b (lo := -2147483648) (hi := 2147483647) g 3 5 rfl
  have b12 := gi_b (lo := 0) (hi := 9) g 238 5 rfl
  have b13 := gi_b (lo := -2147483648) (hi := 2147483647) g 3 6 rfl
  have b14 := gi_b (lo := 0) (hi := 999) g 238 6 rfl
  have b15 := gi_b (lo := -2147483648) (hi := 2147483647) g 3 7 rfl
  have b16 := gi_b (lo := 0) (hi := 3) g 238 7 rfl
  have b17 := gi_b (lo := -2147483648) (hi := 2147483647) g 3 8 rfl
  have b18 := gi_b (lo := 0) (hi := 999) g 238 8 rfl
  have b19 := gi_b (lo := -2147483648) (hi := 2147483647) g 3 9 rfl
  have b20 := gi_b (lo := 0) (hi := 999) g 238 9 rfl
  have b21 := gi_b (lo := 0) (hi := 1) g 0 12 rfl
  have b22 := gi_b (lo := 0) (hi := 1) g 236 21 rfl
  have bl_ := gi_b (lo := 0) (hi := 800) g 1 1 rfl
  have tb0 : BufC (h 2) (h 1 1) h := ⟨fun _ => rfl, rfl, by omega, by omega⟩
  have b23 := gi_b (lo := 0) (hi := 6) g 238 98 rfl
  have b24 := gi_b (lo := 0) (hi := 6) g 238 99 rfl
  have b25 := gi_b (lo := 0) (hi := 6) g 238 100 rfl
  have b26 := gi_b (lo := 0) (hi := 6) g 238 101 rfl
  have b27 := gi_b (lo := 0) (hi := 3) g 238 102 rfl
  have b28 := gi_b (lo := 0) (hi := 12) g 238 106 rfl
  have b29 := gi_b (lo := 0) (hi := 12) g 238 73 rfl
  have b30 := gi_b (lo := 0) (hi := 9999) g 238 119 rfl
  have b31 := gi_b (lo := 0) (hi := 9999) g 238 67 rfl
  have b32 := gi_b (lo := 0) (hi := 9) g 238 69 rfl
  have b33 := gi_b (lo := 0) (hi := 6) g 241 98 rfl
  have b34 := gi_b (lo := 0) (hi := 6) g 241 99 rfl
  have b35 := gi_b (lo := 0) (hi := 6) g 241 100 rfl
  have b36 := gi_b (lo := 0) (hi := 6) g 241 101 rfl
  have b37 := gi_b (lo := 0) (hi := 3) g 241 102 rfl
  have b38 := gi_b (lo := 0) (hi := 12) g 241 106 rfl
  have b39 := gi_b (lo := 0) (hi := 12) g 241 73 rfl
  have b40 := gi_b (lo := 0) (hi := 12) g 241 2 rfl
  have b41 := gi_b (lo := 0) (hi := 9999) g 241 119 rfl
  have b42 := gi_b (lo := 0) (hi := 9999) g 241 67 rfl
  have b43 := gi_b (lo := 0) (hi := 9) g 241 69 rfl
  have b44 := gi_b (lo := 0) (hi := 9) g 241 5 rfl
  have b45 := gi_b (lo := 0) (hi := 800) g 1 1 rfl
  have b46 := gi_b (lo := 0) (hi := 800) g 236 2 rfl
  have b47 := gi_b (lo := -2147483648) (hi := 2147483647) g 1 2 rfl
  have b48 := gi_b (lo := -2147483648) (hi := 2147483647) g 236 10 rfl
  have b49 := gi_b (lo := -2147483648) (hi := 2147483647) g 1 3 rfl
  have b50 := gi_b (lo := -2147483648) (hi := 2147483647) g 236 11 rfl
  refine wi_aload_n (i := 1) (x := 0) (nx := 1128) (r1 := 0) (r2 := 0) (r3 := 0) rfl rfl ?_
  refine wr_V (k0 := 0) (rest := []) (as := [.ref 0]) (nx := 1131) (r1 := 47) (r2 := 0) (r3 := 0) rfl rfl rfl (of_decide_eq_true rfl) rfl rfl (by decide) rfl rfl (of_decide_eq_true rfl) (of_decide_eq_true rfl) ?_
  refine ct_47_0 hcr  g    (fun h51 z52 g51 u51 (fz52 : -2147483648 ≤ z52 ∧ z52 ≤ 2147483647) => ?_)
  refine wk_i ?_
  refine wi_pop (nx := 1132) (r1 := 0) (r2 := 0) (r3 := 0) rfl rfl ?_
  refine wi_aload_n (i := 2) (x := 236) (nx := 1133) (r1 := 0) (r2 := 0) (r3 := 0) rfl rfl ?_
  refine wr_V (k0 := 236) (rest := []) (as := [.ref 236]) (nx := 1136) (r1 := 313) (r2 := 0) (r3 := 11) rfl rfl rfl (of_decide_eq_true rfl) rfl rfl (by decide) rfl rfl (of_decide_eq_true rfl) (of_decide_eq_true rfl) ?_
  have e54 : h51 238 98 = h 238 98 := (u51 238 98 rfl)
  have e55 : h51 238 99 = h 238 99 := (u51 238 99 rfl)
  have e56 : h51 238 100 = h 238 100 := (u51 238 100 rfl)
  have e57 : h51 238 101 = h 238 101 := (u51 238 101 rfl)
  have e58 : h51 238 102 = h 238 102 := (u51 238 102 rfl)
  have e59 : h51 238 106 = h 238 106 := (u51 238 106 rfl)
  have e60 : h51 238 73 = h 238 73 := (u51 238 73 rfl)
  have e61 : h51 238 2 = h 238 2 := (u51 238 2 rfl)
  have e62 : h51 238 119 = h 238 119 := (u51 238 119 rfl)
  have e63 : h51 238 67 = h 238 67 := (u51 238 67 rfl)
  have e64 : h51 238 69 = h 238 69 := (u51 238 69 rfl)
  have e65 : h51 238 5 = h 238 5 := (u51 238 5 rfl)
  have gs67 := GPS.fr u51 rfl gs0
  have gp68 := GPH.fr u51 rfl gp0
  refine ct_313_236 hcr  g51   (show (h51 238 98) + (h51 238 99) + (h51 238 100) + (h51 238 101) + (h51 238 102) + (h51 238 106) = (h51 238 73) by omega) (show (h51 238 73) ≤ (h51 238 2) by omega) (show (h51 238 119) ≤ (h51 238 67) by omega) (show (h51 238 69) ≤ (h51 238 5) by omega) (show (h51 238 2) ≤ 12 * (h51 238 5) by omega) gs67 gp68 (fun h53 z66 g53 u53 (fz66 : -1 ≤ z66 ∧ z66 ≤ 12) (p53_0 : (h53 238 98) + (h53 238 99) + (h53 238 100) + (h53 238 101) + (h53 238 102) + (h53 238 106) = (h53 238 73)) (p53_1 : (h53 238 73) ≤ (h53 238 2)) (p53_2 : (h53 238 119) ≤ (h53 238 67)) (p53_3 : (h53 238 69) ≤ (h53 238 5)) (p53_4 : (h53 238 2) ≤ 12 * (h53 238 5)) y53_0 y53_1 => ?_)
  have b69 := gi_b (lo := 0) (hi := 6) g53 238 98 rfl
  have b70 := gi_b (lo := 0) (hi := 6) g53 238 99 rfl
  have b71 := gi_b (lo := 0) (hi := 6) g53 238 100 rfl
  have b72 := gi_b (lo := 0) (hi := 6) g53 238 101 rfl
  have b73 := gi_b (lo := 0) (hi := 3) g53 238 102 rfl
  have b74 := gi_b (lo := 0) (hi := 12) g53 238 106 rfl
  have e75 : h53 238 73 = h 238 73 := ((u53 238 73 rfl).trans (u51 238 73 rfl))
  have e76 : h53 238 2 = h 238 2 := ((u53 238 2 rfl).trans (u51 238 2 rfl))
  have b77 := gi_b (lo := 0) (hi := 9999) g53 238 119 rfl
  have b78 := gi_b (lo := 0) (hi := 9999) g53 238 67 rfl
  have b79 := gi_b (lo := 0) (hi := 9) g53 238 69 rfl
  have e80 : h53 238 5 = h 238 5 := ((u53 238 5 rfl).trans (u51 238 5 rfl))
  refine wk_i ?_
  refine wi_pop (nx := 1137) (r1 := 0) (r2 := 0) (r3 := 0) rfl rfl ?_
  refine wi_goto (nx := 1140) (r1 := 1529) (r2 := 0) (r3 := 0) rfl ?_
  have e81 : h53 241 98 = h 241 98 := ((u53 241 98 rfl).trans (u51 241 98 rfl))
  have e82 : h53 241 99 = h 241 99 := ((u53 241 99 rfl).trans (u51 241 99 rfl))
  have e83 : h53 241 100 = h 241 100 := ((u53 241 100 rfl).trans (u51 241 100 rfl))
  have e84 : h53 241 101 = h 241 101 := ((u53 241 101 rfl).trans (u51 241 101 rfl))
  have e85 : h53 241 102 = h 241 102 := ((u53 241 102 rfl).trans (u51 241 102 rfl))
  have e86 : h53 241 106 = h 241 106 := ((u53 241 106 rfl).trans (u51 241 106 rfl))
  have e87 : h53 241 73 = h 241 73 := ((u53 241 73 rfl).trans (u51 241 73 rfl))
  have e88 : h53 241 2 = h 241 2 := ((u53 241 2 rfl).trans (u51 241 2 rfl))
  have e89 : h53 241 119 = h 241 119 := ((u53 241 119 rfl).trans (u51 241 119 rfl))
  have e90 : h53 241 67 = h 241 67 := ((u53 241 67 rfl).trans (u51 241 67 rfl))
  have e91 : h53 241 69 = h 241 69 := ((u53 241 69 rfl).trans (u51 241 69 rfl))
  have e92 : h53 241 5 = h 241 5 := ((u53 241 5 rfl).trans (u51 241 5 rfl))
  have e93 : h53 1 1 = h 1 1 := ((u53 1 1 rfl).trans (u51 1 1 rfl))
  have e94 : h53 236 2 = h 236 2 := ((u53 236 2 rfl).trans (u51 236 2 rfl))
  have e95 : h53 1 2 = h 1 2 := ((u53 1 2 rfl).trans (u51 1 2 rfl))
  have e96 : h53 236 10 = h 236 10 := ((u53 236 10 rfl).trans (u51 236 10 rfl))
  have e97 : h53 1 3 = h 1 3 := ((u53 1 3 rfl).trans (u51 1 3 rfl))
  have e98 : h53 236 11 = h 236 11 := ((u53 236 11 rfl).trans (u51 236 11 rfl))
  have b99 := gi_b (lo := 0) (hi := 5) g 241 0 rfl
  have b100 := gi_b (lo := 0) (hi := 4) g 241 1 rfl
  have e101 : h53 0 12 = h 0 12 := ((u53 0 12 rfl).trans (u51 0 12 rfl))
  have e102 : h53 236 21 = h 236 21 := ((u53 236 21 rfl).trans (u51 236 21 rfl))
  exact k h53 b c ⟨g53, (show h53 1 1 = h53 236 2 by omega), (RS.i0 (f := h53 238) (by refine ⟨?_, ?_, ?_, ?_, ?_⟩ <;> omega)), (RS.i0 (f := h53 241) (by refine ⟨?_, ?_, ?_, ?_, ?_⟩ <;> omega)), y53_1, (BRh.keep br0 (fun i => ((u53 2 i (fo_nk rfl)).trans (u51 2 i (fo_nk rfl)))) (fun i => ((u53 237 i (fo_nk rfl)).trans (u51 237 i (fo_nk rfl)))) (by omega)), (show h53 1 2 = h53 236 10 by omega), (show h53 1 3 = h53 236 11 by omega), (SVx.keep sv0 (by omega) (fun i _ => ((u53 3 i (fo_nk rfl)).trans (u51 3 i (fo_nk rfl)))) (fun i _ => ((u53 5 i (fo_nk rfl)).trans (u51 5 i (fo_nk rfl)))) (fun i _ => ((u53 6 i (fo_nk rfl)).trans (u51 6 i (fo_nk rfl)))) (fun i _ => ((u53 8 i (fo_nk rfl)).trans (u51 8 i (fo_nk rfl)))) (fun i _ => ((u53 238 i (fo_lk (m := 43) (by omega) rfl)).trans (u51 238 i (fo_nk rfl))))), (show h53 0 12 = h53 236 21 by omega), (fun e => (SVx.keep (ss0 (by omega)) (by omega) (fun i _ => ((u53 210 i (fo_nk rfl)).trans (u51 210 i (fo_nk rfl)))) (fun i _ => ((u53 212 i (fo_nk rfl)).trans (u51 212 i (fo_nk rfl)))) (fun i _ => ((u53 213 i (fo_nk rfl)).trans (u51 213 i (fo_nk rfl)))) (fun i _ => ((u53 215 i (fo_nk rfl)).trans (u51 215 i (fo_nk rfl)))) (fun i _ => ((u53 241 i (fo_nk rfl)).trans (u51 241 i (fo_nk rfl)))))), y53_0⟩ (by omega) (by omega)
-- the law, case at 1140
set_option maxRecDepth 100000 in
set_option maxHeartbeats 100000000 in
theorem lc_1140 {L : Nat} {xs : Nat → Int32} {d b c : Nat} {h : hp} {cr : Nat → Nat → Option Nat} {Q : hp_Q} (hcr : CR cr) (hL : L ≤ 3072) (hr : 1 ≤ b ∧ 6 ≤ c) (I : LI h) (i : Int) (hi : 0 ≤ i ∧ i + 6 ≤ L) (k : ∀ (h2 : hp) (b2 c2 : Nat), LI h2 → b ≤ b2 + 1 → c ≤ c2 + 6 → wp (md_xa (L, xs)) (d + 107) 0 (1529, [(0, .ref 1000000), (1, .ref 0), (2, .ref 236), (3, .ref 259), (4, vi i)], [], hp_w h2 cr, b2, c2) Q) : wp (md_xa (L, xs)) (d + 107) 0 (1140, [(0, .ref 1000000), (1, .ref 0), (2, .ref 236), (3, .ref 259), (4, vi i)], [], hp_w h cr, b, c) Q := by
  obtain ⟨g, i11, r238, r241, gp0, br0, er2, er3, sv0, sf0, ss0, gs0⟩ := I
  have r238e := r238.e0
  have r241e := r241.e0
  obtain ⟨⟨se0, se1, se2, se3, se4, se5, se6, se7, se8, se9⟩, -⟩ := id sv0
  have b1 := gi_b (lo := 0) (hi := 5) g 3 0 rfl
  have b2 := gi_b (lo := 0) (hi := 5) g 238 0 rfl
  have b3 := gi_b (lo := 0) (hi := 4) g 3 1 rfl
  have b4 := gi_b (lo := 0) (hi := 4) g 238 1 rfl
  have b5 := gi_b (lo := 0) (hi := 12) g 3 2 rfl
  have b6 := gi_b (lo := 0) (hi := 12) g 238 2 rfl
  have b7 := gi_b (lo := -2147483648) (hi := 2147483647) g 3 3 rfl
  have b8 := gi_b (lo := 0) (hi := 999) g 238 3 rfl
  have b9 := gi_b (lo := -2147483648) (hi := 2147483647) g 3 4 rfl
  have b10 := gi_b (lo := 0) (hi := 999) g 238 4 rfl
  have b11 := gi_b (lo := -2147483648) (hi := 2147483647) g 3 5 rfl
  have b12 := gi_b (lo := 0) (hi := 9) g 238 5 rfl
  have b13 := gi_b (lo := -2147483648) (hi := 2147483647) g 3 6 rfl
  have b14 := gi_b (lo := 0) (hi := 999) g 238 6 rfl
  have b15 := gi_b (lo := -2147483648) (hi := 2147483647) g 3 7 rfl
  have b16 := gi_b (lo := 0) (hi := 3) g 238 7 rfl
  have b17 := gi_b (lo := -2147483648) (hi := 2147483647) g 3 8 rfl
  have b18 := gi_b (lo := 0) (hi := 999) g 238 8 rfl
  have b19 := gi_b (lo := -2147483648) (hi := 2147483647) g 3 9 rfl
  have b20 := gi_b (lo := 0) (hi := 999) g 238 9 rfl
  have b21 := gi_b (lo := 0) (hi := 1) g 0 12 rfl
  have b22 := gi_b (lo := 0) (hi := 1) g 236 21 rfl
  have bl_ := gi_b (lo := 0) (hi := 800) g 1 1 rfl
  have tb0 : BufC (h 2) (h 1 1) h := ⟨fun _ => rfl, rfl, by omega, by omega⟩
  have b23 := gi_b (lo := 0) (hi := 6) g 238 98 rfl
  have b24 := gi_b (lo := 0) (hi := 6) g 238 99 rfl
  have b25 := gi_b (lo := 0) (hi := 6) g 238 100 rfl
  have b26 := gi_b (lo := 0) (hi := 6) g 238 101 rfl
  have b27 := gi_b (lo := 0) (hi := 3) g 238 102 rfl
  have b28 := gi_b (lo := 0) (hi := 12) g 238 106 rfl
  have b29 := gi_b (lo := 0) (hi := 12) g 238 73 rfl
  have b30 := gi_b (lo := 0) (hi := 9999) g 238 119 rfl
  have b31 := gi_b (lo := 0) (hi := 9999) g 238 67 rfl
  have b32 := gi_b (lo := 0) (hi := 9) g 238 69 rfl
  have b33 := gi_b (lo := 0) (hi := 6) g 241 98 rfl
  have b34 := gi_b (lo := 0) (hi := 6) g 241 99 rfl
  have b35 := gi_b (lo := 0) (hi := 6) g 241 100 rfl
  have b36 := gi_b (lo := 0) (hi := 6) g 241 101 rfl
  have b37 := gi_b (lo := 0) (hi := 3) g 241 102 rfl
  have b38 := gi_b (lo := 0) (hi := 12) g 241 106 rfl
  have b39 := gi_b (lo := 0) (hi := 12) g 241 73 rfl
  have b40 := gi_b (lo := 0) (hi := 12) g 241 2 rfl
  have b41 := gi_b (lo := 0) (hi := 9999) g 241 119 rfl
  have b42 := gi_b (lo := 0) (hi := 9999) g 241 67 rfl
  have b43 := gi_b (lo := 0) (hi := 9) g 241 69 rfl
  have b44 := gi_b (lo := 0) (hi := 9) g 241 5 rfl
  have b45 := gi_b (lo := 0) (hi := 800) g 1 1 rfl
  have b46 := gi_b (lo := 0) (hi := 800) g 236 2 rfl
  have b47 := gi_b (lo := -2147483648) (hi := 2147483647) g 1 2 rfl
  have b48 := gi_b (lo := -2147483648) (hi := 2147483647) g 236 10 rfl
  have b49 := gi_b (lo := -2147483648) (hi := 2147483647) g 1 3 rfl
  have b50 := gi_b (lo := -2147483648) (hi := 2147483647) g 236 11 rfl
  refine wi_aload_n (i := 1) (x := 0) (nx := 1141) (r1 := 0) (r2 := 0) (r3 := 0) rfl rfl ?_
  refine wr_V (k0 := 0) (rest := []) (as := [.ref 0]) (nx := 1144) (r1 := 48) (r2 := 0) (r3 := 0) rfl rfl rfl (of_decide_eq_true rfl) rfl rfl (by decide) rfl rfl (of_decide_eq_true rfl) (of_decide_eq_true rfl) ?_
  refine ct_48_0 hcr  g    (fun h51 z52 g51 u51 (fz52 : -2147483648 ≤ z52 ∧ z52 ≤ 2147483647) => ?_)
  refine wk_i ?_
  refine wi_pop (nx := 1145) (r1 := 0) (r2 := 0) (r3 := 0) rfl rfl ?_
  refine wi_aload_n (i := 2) (x := 236) (nx := 1146) (r1 := 0) (r2 := 0) (r3 := 0) rfl rfl ?_
  refine wr_V (k0 := 236) (rest := []) (as := [.ref 236]) (nx := 1149) (r1 := 332) (r2 := 0) (r3 := 11) rfl rfl rfl (of_decide_eq_true rfl) rfl rfl (by decide) rfl rfl (of_decide_eq_true rfl) (of_decide_eq_true rfl) ?_
  have e54 : h51 238 98 = h 238 98 := (u51 238 98 rfl)
  have e55 : h51 238 99 = h 238 99 := (u51 238 99 rfl)
  have e56 : h51 238 100 = h 238 100 := (u51 238 100 rfl)
  have e57 : h51 238 101 = h 238 101 := (u51 238 101 rfl)
  have e58 : h51 238 102 = h 238 102 := (u51 238 102 rfl)
  have e59 : h51 238 106 = h 238 106 := (u51 238 106 rfl)
  have e60 : h51 238 73 = h 238 73 := (u51 238 73 rfl)
  have e61 : h51 238 2 = h 238 2 := (u51 238 2 rfl)
  have e62 : h51 238 119 = h 238 119 := (u51 238 119 rfl)
  have e63 : h51 238 67 = h 238 67 := (u51 238 67 rfl)
  have e64 : h51 238 69 = h 238 69 := (u51 238 69 rfl)
  have e65 : h51 238 5 = h 238 5 := (u51 238 5 rfl)
  have gs67 := GPS.fr u51 rfl gs0
  have gp68 := GPH.fr u51 rfl gp0
  refine ct_332_236 hcr  g51   (show (h51 238 98) + (h51 238 99) + (h51 238 100) + (h51 238 101) + (h51 238 102) + (h51 238 106) = (h51 238 73) by omega) (show (h51 238 73) ≤ (h51 238 2) by omega) (show (h51 238 119) ≤ (h51 238 67) by omega) (show (h51 238 69) ≤ (h51 238 5) by omega) (show (h51 238 2) ≤ 12 * (h51 238 5) by omega) gs67 gp68 (fun h53 z66 g53 u53 (fz66 : -2147483648 ≤ z66 ∧ z66 ≤ 2147483647) (p53_0 : (h53 238 98) + (h53 238 99) + (h53 238 100) + (h53 238 101) + (h53 238 102) + (h53 238 106) = (h53 238 73)) (p53_1 : (h53 238 73) ≤ (h53 238 2)) (p53_2 : (h53 238 119) ≤ (h53 238 67)) (p53_3 : (h53 238 69) ≤ (h53 238 5)) (p53_4 : (h53 238 2) ≤ 12 * (h53 238 5)) y53_0 y53_1 => ?_)
  have e69 : h53 238 98 = h 238 98 := ((u53 238 98 rfl).trans (u51 238 98 rfl))
  have e70 : h53 238 99 = h 238 99 := ((u53 238 99 rfl).trans (u51 238 99 rfl))
  have e71 : h53 238 100 = h 238 100 := ((u53 238 100 rfl).trans (u51 238 100 rfl))
  have e72 : h53 238 101 = h 238 101 := ((u53 238 101 rfl).trans (u51 238 101 rfl))
  have e73 : h53 238 102 = h 238 102 := ((u53 238 102 rfl).trans (u51 238 102 rfl))
  have e74 : h53 238 106 = h 238 106 := ((u53 238 106 rfl).trans (u51 238 106 rfl))
  have e75 : h53 238 73 = h 238 73 := ((u53 238 73 rfl).trans (u51 238 73 rfl))
  have e76 : h53 238 2 = h 238 2 := ((u53 238 2 rfl).trans (u51 238 2 rfl))
  have e77 : h53 238 119 = h 238 119 := ((u53 238 119 rfl).trans (u51 238 119 rfl))
  have e78 : h53 238 67 = h 238 67 := ((u53 238 67 rfl).trans (u51 238 67 rfl))
  have e79 : h53 238 69 = h 238 69 := ((u53 238 69 rfl).trans (u51 238 69 rfl))
  have e80 : h53 238 5 = h 238 5 := ((u53 238 5 rfl).trans (u51 238 5 rfl))
  refine wk_i ?_
  refine wi_pop (nx := 1150) (r1 := 0) (r2 := 0) (r3 := 0) rfl rfl ?_
  refine wi_goto (nx := 1153) (r1 := 1529) (r2 := 0) (r3 := 0) rfl ?_
  have e81 : h53 241 98 = h 241 98 := ((u53 241 98 rfl).trans (u51 241 98 rfl))
  have e82 : h53 241 99 = h 241 99 := ((u53 241 99 rfl).trans (u51 241 99 rfl))
  have e83 : h53 241 100 = h 241 100 := ((u53 241 100 rfl).trans (u51 241 100 rfl))
  have e84 : h53 241 101 = h 241 101 := ((u53 241 101 rfl).trans (u51 241 101 rfl))
  have e85 : h53 241 102 = h 241 102 := ((u53 241 102 rfl).trans (u51 241 102 rfl))
  have e86 : h53 241 106 = h 241 106 := ((u53 241 106 rfl).trans (u51 241 106 rfl))
  have e87 : h53 241 73 = h 241 73 := ((u53 241 73 rfl).trans (u51 241 73 rfl))
  have e88 : h53 241 2 = h 241 2 := ((u53 241 2 rfl).trans (u51 241 2 rfl))
  have e89 : h53 241 119 = h 241 119 := ((u53 241 119 rfl).trans (u51 241 119 rfl))
  have e90 : h53 241 67 = h 241 67 := ((u53 241 67 rfl).trans (u51 241 67 rfl))
  have e91 : h53 241 69 = h 241 69 := ((u53 241 69 rfl).trans (u51 241 69 rfl))
  have e92 : h53 241 5 = h 241 5 := ((u53 241 5 rfl).trans (u51 241 5 rfl))
  have e93 : h53 1 1 = h 1 1 := ((u53 1 1 rfl).trans (u51 1 1 rfl))
  have e94 : h53 236 2 = h 236 2 := ((u53 236 2 rfl).trans (u51 236 2 rfl))
  have e95 : h53 1 2 = h 1 2 := ((u53 1 2 rfl).trans (u51 1 2 rfl))
  have e96 : h53 236 10 = h 236 10 := ((u53 236 10 rfl).trans (u51 236 10 rfl))
  have e97 : h53 1 3 = h 1 3 := ((u53 1 3 rfl).trans (u51 1 3 rfl))
  have e98 : h53 236 11 = h 236 11 := ((u53 236 11 rfl).trans (u51 236 11 rfl))
  have b99 := gi_b (lo := 0) (hi := 5) g 241 0 rfl
  have b100 := gi_b (lo := 0) (hi := 4) g 241 1 rfl
  have e101 : h53 0 12 = h 0 12 := ((u53 0 12 rfl).trans (u51 0 12 rfl))
  have e102 : h53 236 21 = h 236 21 := ((u53 236 21 rfl).trans (u51 236 21 rfl))
  exact k h53 b c ⟨g53, (show h53 1 1 = h53 236 2 by omega), (RS.i0 (f := h53 238) (by refine ⟨?_, ?_, ?_, ?_, ?_⟩ <;> omega)), (RS.i0 (f := h53 241) (by refine ⟨?_, ?_, ?_, ?_, ?_⟩ <;> omega)), y53_1, (BRh.keep br0 (fun i => ((u53 2 i (fo_nk rfl)).trans (u51 2 i (fo_nk rfl)))) (fun i => ((u53 237 i (fo_nk rfl)).trans (u51 237 i (fo_nk rfl)))) (by omega)), (show h53 1 2 = h53 236 10 by omega), (show h53 1 3 = h53 236 11 by omega), (SVx.keep sv0 (by omega) (fun i _ => ((u53 3 i (fo_nk rfl)).trans (u51 3 i (fo_nk rfl)))) (fun i _ => ((u53 5 i (fo_nk rfl)).trans (u51 5 i (fo_nk rfl)))) (fun i _ => ((u53 6 i (fo_nk rfl)).trans (u51 6 i (fo_nk rfl)))) (fun i _ => ((u53 8 i (fo_nk rfl)).trans (u51 8 i (fo_nk rfl)))) (fun i _ => ((u53 238 i (fo_lk (m := 31) (by omega) rfl)).trans (u51 238 i (fo_nk rfl))))), (show h53 0 12 = h53 236 21 by omega), (fun e => (SVx.keep (ss0 (by omega)) (by omega) (fun i _ => ((u53 210 i (fo_nk rfl)).trans (u51 210 i (fo_nk rfl)))) (fun i _ => ((u53 212 i (fo_nk rfl)).trans (u51 212 i (fo_nk rfl)))) (fun i _ => ((u53 213 i (fo_nk rfl)).trans (u51 213 i (fo_nk rfl)))) (fun i _ => ((u53 215 i (fo_nk rfl)).trans (u51 215 i (fo_nk rfl)))) (fun i _ => ((u53 241 i (fo_nk rfl)).trans (u51 241 i (fo_nk rfl)))))), y53_0⟩ (by omega) (by omega)
-- the law, case at 1153
set_option maxRecDepth 100000 in
set_option maxHeartbeats 100000000 in
theorem lc_1153 {L : Nat} {xs : Nat → Int32} {d b c : Nat} {h : hp} {cr : Nat → Nat → Option Nat} {Q : hp_Q} (hcr : CR cr) (hL : L ≤ 3072) (hr : 1 ≤ b ∧ 6 ≤ c) (I : LI h) (i : Int) (hi : 0 ≤ i ∧ i + 6 ≤ L) (k : ∀ (h2 : hp) (b2 c2 : Nat), LI h2 → b ≤ b2 + 1 → c ≤ c2 + 6 → wp (md_xa (L, xs)) (d + 107) 0 (1529, [(0, .ref 1000000), (1, .ref 0), (2, .ref 236), (3, .ref 259), (4, vi i)], [], hp_w h2 cr, b2, c2) Q) : wp (md_xa (L, xs)) (d + 107) 0 (1153, [(0, .ref 1000000), (1, .ref 0), (2, .ref 236), (3, .ref 259), (4, vi i)], [], hp_w h cr, b, c) Q := by
  obtain ⟨g, i11, r238, r241, gp0, br0, er2, er3, sv0, sf0, ss0, gs0⟩ := I
  have r238e := r238.e0
  have r241e := r241.e0
  obtain ⟨⟨se0, se1, se2, se3, se4, se5, se6, se7, se8, se9⟩, -⟩ := id sv0
  have b1 := gi_b (lo := 0) (hi := 5) g 3 0 rfl
  have b2 := gi_b (lo := 0) (hi := 5) g 238 0 rfl
  have b3 := gi_b (lo := 0) (hi := 4) g 3 1 rfl
  have b4 := gi_b (lo := 0) (hi := 4) g 238 1 rfl
  have b5 := gi_b (lo := 0) (hi := 12) g 3 2 rfl
  have b6 := gi_b (lo := 0) (hi := 12) g 238 2 rfl
  have b7 := gi_b (lo := -2147483648) (hi := 2147483647) g 3 3 rfl
  have b8 := gi_b (lo := 0) (hi := 999) g 238 3 rfl
  have b9 := gi_b (lo := -2147483648) (hi := 2147483647) g 3 4 rfl
  have b10 := gi_b (lo := 0) (hi := 999) g 238 4 rfl
  have b11 := gi_b (lo := -2147483648) (hi := 2147483647) g 3 5 rfl
  have b12 := gi_b (lo := 0) (hi := 9) g 238 5 rfl
  have b13 := gi_b (lo := -2147483648) (hi := 2147483647) g 3 6 rfl
  have b14 := gi_b (lo := 0) (hi := 999) g 238 6 rfl
  have b15 := gi_b (lo := -2147483648) (hi := 2147483647) g 3 7 rfl
  have b16 := gi_b (lo := 0) (hi := 3) g 238 7 rfl
  have b17 := gi_b (lo := -2147483648) (hi := 2147483647) g 3 8 rfl
  have b18 := gi_b (lo := 0) (hi := 999) g 238 8 rfl
  have b19 := gi_b (lo := -2147483648) (hi := 2147483647) g 3 9 rfl
  have b20 := gi_b (lo := 0) (hi := 999) g 238 9 rfl
  have b21 := gi_b (lo := 0) (hi := 1) g 0 12 rfl
  have b22 := gi_b (lo := 0) (hi := 1) g 236 21 rfl
  have bl_ := gi_b (lo := 0) (hi := 800) g 1 1 rfl
  have tb0 : BufC (h 2) (h 1 1) h := ⟨fun _ => rfl, rfl, by omega, by omega⟩
  have b23 := gi_b (lo := 0) (hi := 6) g 238 98 rfl
  have b24 := gi_b (lo := 0) (hi := 6) g 238 99 rfl
  have b25 := gi_b (lo := 0) (hi := 6) g 238 100 rfl
  have b26 := gi_b (lo := 0) (hi := 6) g 238 101 rfl
  have b27 := gi_b (lo := 0) (hi := 3) g 238 102 rfl
  have b28 := gi_b (lo := 0) (hi := 12) g 238 106 rfl
  have b29 := gi_b (lo := 0) (hi := 12) g 238 73 rfl
  have b30 := gi_b (lo := 0) (hi := 9999) g 238 119 rfl
  have b31 := gi_b (lo := 0) (hi := 9999) g 238 67 rfl
  have b32 := gi_b (lo := 0) (hi := 9) g 238 69 rfl
  have b33 := gi_b (lo := 0) (hi := 6) g 241 98 rfl
  have b34 := gi_b (lo := 0) (hi := 6) g 241 99 rfl
  have b35 := gi_b (lo := 0) (hi := 6) g 241 100 rfl
  have b36 := gi_b (lo := 0) (hi := 6) g 241 101 rfl
  have b37 := gi_b (lo := 0) (hi := 3) g 241 102 rfl
  have b38 := gi_b (lo := 0) (hi := 12) g 241 106 rfl
  have b39 := gi_b (lo := 0) (hi := 12) g 241 73 rfl
  have b40 := gi_b (lo := 0) (hi := 12) g 241 2 rfl
  have b41 := gi_b (lo := 0) (hi := 9999) g 241 119 rfl
  have b42 := gi_b (lo := 0) (hi := 9999) g 241 67 rfl
  have b43 := gi_b (lo := 0) (hi := 9) g 241 69 rfl
  have b44 := gi_b (lo := 0) (hi := 9) g 241 5 rfl
  have b45 := gi_b (lo := 0) (hi := 800) g 1 1 rfl
  have b46 := gi_b (lo := 0) (hi := 800) g 236 2 rfl
  have b47 := gi_b (lo := -2147483648) (hi := 2147483647) g 1 2 rfl
  have b48 := gi_b (lo := -2147483648) (hi := 2147483647) g 236 10 rfl
  have b49 := gi_b (lo := -2147483648) (hi := 2147483647) g 1 3 rfl
  have b50 := gi_b (lo := -2147483648) (hi := 2147483647) g 236 11 rfl
  refine wi_aload_n (i := 1) (x := 0) (nx := 1154) (r1 := 0) (r2 := 0) (r3 := 0) rfl rfl ?_
  refine wi_aload_n (i := 0) (x := 1000000) (nx := 1155) (r1 := 0) (r2 := 0) (r3 := 0) rfl rfl ?_
  refine wi_iload (i := 4) (e := i) (nx := 1157) (r1 := 0) (r2 := 0) (r3 := 0) rfl rfl ?_
  refine wi_iconst (n := 1) (nx := 1158) (r1 := 0) (r2 := 0) (r3 := 0) rfl ?_
  refine wr_add (nx := 1159) (r1 := 0) (r2 := 0) (r3 := 0) rfl (fun e51 (fe51 : e51 = i + 1) => ?_)
  obtain ⟨i52, ei52⟩ : ∃ q : Nat, e51 = (q : Int) := ⟨(e51).toNat, by omega⟩
  have s53 := sc_b (xs i52)
  refine wr_sc (a := e51) (f := i52) (nx := 1160) (r1 := 0) (r2 := 0) (r3 := 0) rfl (by omega) (by omega) hL ?_
  refine wi_aload_n (i := 3) (x := 259) (nx := 1161) (r1 := 0) (r2 := 0) (r3 := 0) rfl rfl ?_
  refine wi_S (rest := []) (as := [.ref 0, vi ((xs i52).toInt), .ref 259]) (nx := 1164) (r1 := 19) (r2 := 19) (r3 := 0) rfl rfl rfl (of_decide_eq_true rfl) rfl rfl (of_decide_eq_true rfl) (of_decide_eq_true rfl) ?_
  refine wi_aload_n (i := 2) (x := 259) (nx := 1) (r1 := 0) (r2 := 0) (r3 := 0) rfl rfl ?_
  refine wi_iconst (n := 0) (nx := 2) (r1 := 0) (r2 := 0) (r3 := 0) rfl ?_
  refine wi_aload_n (i := 0) (x := 0) (nx := 3) (r1 := 0) (r2 := 0) (r3 := 0) rfl rfl ?_
  refine wi_iload_n (i := 1) (e := (xs i52).toInt) (nx := 4) (r1 := 0) (r2 := 0) (r3 := 0) rfl rfl ?_
  refine wr_V (k0 := 0) (rest := [vi 0, .ref 259]) (as := [.ref 0, vi ((xs i52).toInt)]) (nx := 7) (r1 := 81) (r2 := 1) (r3 := 0) rfl rfl rfl (of_decide_eq_true rfl) rfl rfl (by decide) rfl rfl (of_decide_eq_true rfl) (of_decide_eq_true rfl) ?_
  refine ct_81_0 hcr hr  g ((xs i52).toInt) (by omega)  (fun h54 z55 g54 u54 (fz55 : -2147483648 ≤ z55 ∧ z55 ≤ 2147483647) => ?_) (fun h54 g54 u54 => ?_)
  ·
    refine wk_i ?_
    refine wi_i2l (nx := 8) (r1 := 0) (r2 := 0) (r3 := 0) rfl (by omega) ?_
    refine wr_ls (k0 := 259) (a := 0) (f := 0) (x := z55) (bl := -9223372036854775808) (bh := 9223372036854775807) (nx := 9) (r1 := 0) (r2 := 0) (r3 := 0) rfl (by decide) rfl (by omega) (by omega) (by decide) g54 rfl (by omega) (fun h56 g56 w56 u56 => ?_)
    refine wi_goto (nx := 12) (r1 := 15) (r2 := 0) (r3 := 0) rfl ?_
    refine wi_iconst (n := 0) (nx := 16) (r1 := 0) (r2 := 0) (r3 := 0) rfl ?_
    refine wi_ireturn (nx := 17) (r1 := 0) (r2 := 0) (r3 := 0) rfl rfl ?_
    refine wk_i ?_
    refine wi_istore (i := 5) (e := 0) (lo2 := [(5, vi 0), (0, .ref 1000000), (1, .ref 0), (2, .ref 236), (3, .ref 259), (4, vi i)]) (nx := 1166) (r1 := 0) (r2 := 0) (r3 := 0) rfl rfl ?_
    refine wi_aload_n (i := 2) (x := 236) (nx := 1167) (r1 := 0) (r2 := 0) (r3 := 0) rfl rfl ?_
    refine wi_aload_n (i := 0) (x := 1000000) (nx := 1168) (r1 := 0) (r2 := 0) (r3 := 0) rfl rfl ?_
    refine wi_iload (i := 4) (e := i) (nx := 1170) (r1 := 0) (r2 := 0) (r3 := 0) rfl rfl ?_
    refine wi_iconst (n := 1) (nx := 1171) (r1 := 0) (r2 := 0) (r3 := 0) rfl ?_
    refine wr_add (nx := 1172) (r1 := 0) (r2 := 0) (r3 := 0) rfl (fun e57 (fe57 : e57 = i + 1) => ?_)
    refine wr_sc (a := e57) (f := i52) (nx := 1173) (r1 := 0) (r2 := 0) (r3 := 0) rfl (by omega) (by omega) hL ?_
    refine wr_V (k0 := 236) (rest := []) (as := [.ref 236, vi ((xs i52).toInt)]) (nx := 1176) (r1 := 293) (r2 := 1) (r3 := 11) rfl rfl rfl (of_decide_eq_true rfl) rfl rfl (by decide) rfl rfl (of_decide_eq_true rfl) (of_decide_eq_true rfl) ?_
    have e59 : h56 238 98 = h 238 98 := ((u56 238 98 rfl).trans (u54 238 98 rfl))
    have e60 : h56 238 99 = h 238 99 := ((u56 238 99 rfl).trans (u54 238 99 rfl))
    have e61 : h56 238 100 = h 238 100 := ((u56 238 100 rfl).trans (u54 238 100 rfl))
    have e62 : h56 238 101 = h 238 101 := ((u56 238 101 rfl).trans (u54 238 101 rfl))
    have e63 : h56 238 102 = h 238 102 := ((u56 238 102 rfl).trans (u54 238 102 rfl))
    have e64 : h56 238 106 = h 238 106 := ((u56 238 106 rfl).trans (u54 238 106 rfl))
    have e65 : h56 238 73 = h 238 73 := ((u56 238 73 rfl).trans (u54 238 73 rfl))
    have e66 : h56 238 2 = h 238 2 := ((u56 238 2 rfl).trans (u54 238 2 rfl))
    have e67 : h56 238 119 = h 238 119 := ((u56 238 119 rfl).trans (u54 238 119 rfl))
    have e68 : h56 238 67 = h 238 67 := ((u56 238 67 rfl).trans (u54 238 67 rfl))
    have e69 : h56 238 69 = h 238 69 := ((u56 238 69 rfl).trans (u54 238 69 rfl))
    have e70 : h56 238 5 = h 238 5 := ((u56 238 5 rfl).trans (u54 238 5 rfl))
    refine ct_293_236 hcr  g56 ((xs i52).toInt) (by omega) (show (h56 238 98) + (h56 238 99) + (h56 238 100) + (h56 238 101) + (h56 238 102) + (h56 238 106) = (h56 238 73) by omega) (show (h56 238 73) ≤ (h56 238 2) by omega) (show (h56 238 119) ≤ (h56 238 67) by omega) (show (h56 238 69) ≤ (h56 238 5) by omega) (show (h56 238 2) ≤ 12 * (h56 238 5) by omega) (fun h58 z71 g58 u58 (fz71 : -2147483648 ≤ z71 ∧ z71 ≤ 2147483647) (p58_0 : (h58 238 98) + (h58 238 99) + (h58 238 100) + (h58 238 101) + (h58 238 102) + (h58 238 106) = (h58 238 73)) (p58_1 : (h58 238 73) ≤ (h58 238 2)) (p58_2 : (h58 238 119) ≤ (h58 238 67)) (p58_3 : (h58 238 69) ≤ (h58 238 5)) (p58_4 : (h58 238 2) ≤ 12 * (h58 238 5)) y58_0 => ?_)
    have b72 := gi_b (lo := 0) (hi := 6) g58 238 98 rfl
    have b73 := gi_b (lo := 0) (hi := 6) g58 238 99 rfl
    have b74 := gi_b (lo := 0) (hi := 6) g58 238 100 rfl
    have b75 := gi_b (lo := 0) (hi := 6) g58 238 101 rfl
    have b76 := gi_b (lo := 0) (hi := 3) g58 238 102 rfl
    have b77 := gi_b (lo := 0) (hi := 12) g58 238 106 rfl
    have b78 := gi_b (lo := 0) (hi := 12) g58 238 73 rfl
    have e79 : h58 238 2 = h 238 2 := ((y58_0 2 (by decide)).trans ((u56 238 2 rfl).trans (u54 238 2 rfl)))
    have b80 := gi_b (lo := 0) (hi := 9999) g58 238 119 rfl
    have b81 := gi_b (lo := 0) (hi := 9999) g58 238 67 rfl
    have b82 := gi_b (lo := 0) (hi := 9) g58 238 69 rfl
    have e83 : h58 238 5 = h 238 5 := ((y58_0 5 (by decide)).trans ((u56 238 5 rfl).trans (u54 238 5 rfl)))
    refine wk_i ?_
    refine wi_istore (i := 6) (e := z71) (lo2 := [(6, vi z71), (5, vi 0), (0, .ref 1000000), (1, .ref 0), (2, .ref 236), (3, .ref 259), (4, vi i)]) (nx := 1178) (r1 := 0) (r2 := 0) (r3 := 0) rfl rfl ?_
    refine wi_goto (nx := 1181) (r1 := 1529) (r2 := 0) (r3 := 0) rfl ?_
    refine wp.lo (lo := [(0, .ref 1000000), (1, .ref 0), (2, .ref 236), (3, .ref 259), (4, vi i)]) ⟨rfl, rfl, rfl, rfl, rfl, trivial⟩ rfl ?_
    have e84 : h58 241 98 = h 241 98 := ((u58 241 98 rfl).trans ((u56 241 98 rfl).trans (u54 241 98 rfl)))
    have e85 : h58 241 99 = h 241 99 := ((u58 241 99 rfl).trans ((u56 241 99 rfl).trans (u54 241 99 rfl)))
    have e86 : h58 241 100 = h 241 100 := ((u58 241 100 rfl).trans ((u56 241 100 rfl).trans (u54 241 100 rfl)))
    have e87 : h58 241 101 = h 241 101 := ((u58 241 101 rfl).trans ((u56 241 101 rfl).trans (u54 241 101 rfl)))
    have e88 : h58 241 102 = h 241 102 := ((u58 241 102 rfl).trans ((u56 241 102 rfl).trans (u54 241 102 rfl)))
    have e89 : h58 241 106 = h 241 106 := ((u58 241 106 rfl).trans ((u56 241 106 rfl).trans (u54 241 106 rfl)))
    have e90 : h58 241 73 = h 241 73 := ((u58 241 73 rfl).trans ((u56 241 73 rfl).trans (u54 241 73 rfl)))
    have e91 : h58 241 2 = h 241 2 := ((u58 241 2 rfl).trans ((u56 241 2 rfl).trans (u54 241 2 rfl)))
    have e92 : h58 241 119 = h 241 119 := ((u58 241 119 rfl).trans ((u56 241 119 rfl).trans (u54 241 119 rfl)))
    have e93 : h58 241 67 = h 241 67 := ((u58 241 67 rfl).trans ((u56 241 67 rfl).trans (u54 241 67 rfl)))
    have e94 : h58 241 69 = h 241 69 := ((u58 241 69 rfl).trans ((u56 241 69 rfl).trans (u54 241 69 rfl)))
    have e95 : h58 241 5 = h 241 5 := ((u58 241 5 rfl).trans ((u56 241 5 rfl).trans (u54 241 5 rfl)))
    have e96 : h58 1 1 = h 1 1 := ((u58 1 1 rfl).trans ((u56 1 1 rfl).trans (u54 1 1 rfl)))
    have e97 : h58 236 2 = h 236 2 := ((u58 236 2 rfl).trans ((u56 236 2 rfl).trans (u54 236 2 rfl)))
    have e98 : h58 1 2 = h 1 2 := ((u58 1 2 rfl).trans ((u56 1 2 rfl).trans (u54 1 2 rfl)))
    have e99 : h58 236 10 = h 236 10 := ((u58 236 10 rfl).trans ((u56 236 10 rfl).trans (u54 236 10 rfl)))
    have e100 : h58 1 3 = h 1 3 := ((u58 1 3 rfl).trans ((u56 1 3 rfl).trans (u54 1 3 rfl)))
    have e101 : h58 236 11 = h 236 11 := ((u58 236 11 rfl).trans ((u56 236 11 rfl).trans (u54 236 11 rfl)))
    have gp102 := GPH.fr u54 rfl gp0
    have gp103 := GPH.fr u56 rfl gp102
    have gp104 := GPH.fr u58 rfl gp103
    have b105 := gi_b (lo := 0) (hi := 5) g 241 0 rfl
    have b106 := gi_b (lo := 0) (hi := 4) g 241 1 rfl
    have gs107 := GPS.fr u54 rfl gs0
    have gs108 := GPS.fr u56 rfl gs107
    have gs109 := GPS.kept u58 rfl y58_0 gs108
    have e110 : h58 0 12 = h 0 12 := ((u58 0 12 rfl).trans ((u56 0 12 rfl).trans (u54 0 12 rfl)))
    have e111 : h58 236 21 = h 236 21 := ((u58 236 21 rfl).trans ((u56 236 21 rfl).trans (u54 236 21 rfl)))
    exact k h58 b c ⟨g58, (show h58 1 1 = h58 236 2 by omega), (RS.i0 (f := h58 238) (by refine ⟨?_, ?_, ?_, ?_, ?_⟩ <;> omega)), (RS.i0 (f := h58 241) (by refine ⟨?_, ?_, ?_, ?_, ?_⟩ <;> omega)), gp104, (BRh.keep br0 (fun i => ((u58 2 i (fn_a (by decide) (fn_a (by decide) (fn_a (by decide) (fn_a (by decide) fn_0))))).trans ((u56 2 i (fn_a (by omega) fn_0)).trans (u54 2 i (fn_a (by decide) fn_0))))) (fun i => ((u58 237 i (fn_a (by decide) (fn_a (by decide) (fn_a (by decide) (fn_a (by decide) fn_0))))).trans ((u56 237 i (fn_a (by omega) fn_0)).trans (u54 237 i (fn_a (by decide) fn_0))))) (by omega)), (show h58 1 2 = h58 236 10 by omega), (show h58 1 3 = h58 236 11 by omega), (SVx.keep sv0 (by omega) (fun i _ => ((u58 3 i (fn_a (by decide) (fn_a (by decide) (fn_a (by decide) (fn_a (by decide) fn_0))))).trans ((u56 3 i (fn_a (by omega) fn_0)).trans (u54 3 i (fn_a (by decide) fn_0))))) (fun i _ => ((u58 5 i (fn_a (by decide) (fn_a (by decide) (fn_a (by decide) (fn_a (by decide) fn_0))))).trans ((u56 5 i (fn_a (by omega) fn_0)).trans (u54 5 i (fn_a (by decide) fn_0))))) (fun i _ => ((u58 6 i (fn_a (by decide) (fn_a (by decide) (fn_a (by decide) (fn_a (by decide) fn_0))))).trans ((u56 6 i (fn_a (by omega) fn_0)).trans (u54 6 i (fn_a (by decide) fn_0))))) (fun i _ => ((u58 8 i (fn_a (by decide) (fn_a (by decide) (fn_a (by decide) (fn_a (by decide) fn_0))))).trans ((u56 8 i (fn_a (by omega) fn_0)).trans (u54 8 i (fn_a (by decide) fn_0))))) (fun i _ => ((y58_0 i (by omega)).trans ((u56 238 i (fn_a (by omega) fn_0)).trans (u54 238 i (fn_a (by decide) fn_0)))))), (show h58 0 12 = h58 236 21 by omega), (fun e => (SVx.keep (ss0 (by omega)) (by omega) (fun i _ => ((u58 210 i (fn_a (by decide) (fn_a (by decide) (fn_a (by decide) (fn_a (by decide) fn_0))))).trans ((u56 210 i (fn_a (by omega) fn_0)).trans (u54 210 i (fn_a (by decide) fn_0))))) (fun i _ => ((u58 212 i (fn_a (by decide) (fn_a (by decide) (fn_a (by decide) (fn_a (by decide) fn_0))))).trans ((u56 212 i (fn_a (by omega) fn_0)).trans (u54 212 i (fn_a (by decide) fn_0))))) (fun i _ => ((u58 213 i (fn_a (by decide) (fn_a (by decide) (fn_a (by decide) (fn_a (by decide) fn_0))))).trans ((u56 213 i (fn_a (by omega) fn_0)).trans (u54 213 i (fn_a (by decide) fn_0))))) (fun i _ => ((u58 215 i (fn_a (by decide) (fn_a (by decide) (fn_a (by decide) (fn_a (by decide) fn_0))))).trans ((u56 215 i (fn_a (by omega) fn_0)).trans (u54 215 i (fn_a (by decide) fn_0))))) (fun i _ => ((u58 241 i (fn_a (by decide) (fn_a (by decide) (fn_a (by decide) (fn_a (by decide) fn_0))))).trans ((u56 241 i (fn_a (by omega) fn_0)).trans (u54 241 i (fn_a (by decide) fn_0))))))), gs109⟩ (by omega) (by omega)
  ·
    refine wk_h 12 (by decide) rfl ?_
    refine wr_astx (i := 3) (lo2 := [(3, .retAddr 0), (0, .ref 0), (1, vi ((xs i52).toInt)), (2, .ref 259)]) (nx := 13) (r1 := 0) (r2 := 0) (r3 := 0) rfl rfl ?_
    refine wi_iconst (n := 1) (nx := 14) (r1 := 0) (r2 := 0) (r3 := 0) rfl ?_
    refine wi_ireturn (nx := 15) (r1 := 0) (r2 := 0) (r3 := 0) rfl rfl ?_
    refine wk_i ?_
    refine wi_istore (i := 5) (e := 1) (lo2 := [(5, vi 1), (0, .ref 1000000), (1, .ref 0), (2, .ref 236), (3, .ref 259), (4, vi i)]) (nx := 1166) (r1 := 0) (r2 := 0) (r3 := 0) rfl rfl ?_
    refine wi_aload_n (i := 2) (x := 236) (nx := 1167) (r1 := 0) (r2 := 0) (r3 := 0) rfl rfl ?_
    refine wi_aload_n (i := 0) (x := 1000000) (nx := 1168) (r1 := 0) (r2 := 0) (r3 := 0) rfl rfl ?_
    refine wi_iload (i := 4) (e := i) (nx := 1170) (r1 := 0) (r2 := 0) (r3 := 0) rfl rfl ?_
    refine wi_iconst (n := 1) (nx := 1171) (r1 := 0) (r2 := 0) (r3 := 0) rfl ?_
    refine wr_add (nx := 1172) (r1 := 0) (r2 := 0) (r3 := 0) rfl (fun e56 (fe56 : e56 = i + 1) => ?_)
    refine wr_sc (a := e56) (f := i52) (nx := 1173) (r1 := 0) (r2 := 0) (r3 := 0) rfl (by omega) (by omega) hL ?_
    refine wr_V (k0 := 236) (rest := []) (as := [.ref 236, vi ((xs i52).toInt)]) (nx := 1176) (r1 := 293) (r2 := 1) (r3 := 11) rfl rfl rfl (of_decide_eq_true rfl) rfl rfl (by decide) rfl rfl (of_decide_eq_true rfl) (of_decide_eq_true rfl) ?_
    have e58 : h54 238 98 = h 238 98 := (u54 238 98 rfl)
    have e59 : h54 238 99 = h 238 99 := (u54 238 99 rfl)
    have e60 : h54 238 100 = h 238 100 := (u54 238 100 rfl)
    have e61 : h54 238 101 = h 238 101 := (u54 238 101 rfl)
    have e62 : h54 238 102 = h 238 102 := (u54 238 102 rfl)
    have e63 : h54 238 106 = h 238 106 := (u54 238 106 rfl)
    have e64 : h54 238 73 = h 238 73 := (u54 238 73 rfl)
    have e65 : h54 238 2 = h 238 2 := (u54 238 2 rfl)
    have e66 : h54 238 119 = h 238 119 := (u54 238 119 rfl)
    have e67 : h54 238 67 = h 238 67 := (u54 238 67 rfl)
    have e68 : h54 238 69 = h 238 69 := (u54 238 69 rfl)
    have e69 : h54 238 5 = h 238 5 := (u54 238 5 rfl)
    refine ct_293_236 hcr  g54 ((xs i52).toInt) (by omega) (show (h54 238 98) + (h54 238 99) + (h54 238 100) + (h54 238 101) + (h54 238 102) + (h54 238 106) = (h54 238 73) by omega) (show (h54 238 73) ≤ (h54 238 2) by omega) (show (h54 238 119) ≤ (h54 238 67) by omega) (show (h54 238 69) ≤ (h54 238 5) by omega) (show (h54 238 2) ≤ 12 * (h54 238 5) by omega) (fun h57 z70 g57 u57 (fz70 : -2147483648 ≤ z70 ∧ z70 ≤ 2147483647) (p57_0 : (h57 238 98) + (h57 238 99) + (h57 238 100) + (h57 238 101) + (h57 238 102) + (h57 238 106) = (h57 238 73)) (p57_1 : (h57 238 73) ≤ (h57 238 2)) (p57_2 : (h57 238 119) ≤ (h57 238 67)) (p57_3 : (h57 238 69) ≤ (h57 238 5)) (p57_4 : (h57 238 2) ≤ 12 * (h57 238 5)) y57_0 => ?_)
    have b71 := gi_b (lo := 0) (hi := 6) g57 238 98 rfl
    have b72 := gi_b (lo := 0) (hi := 6) g57 238 99 rfl
    have b73 := gi_b (lo := 0) (hi := 6) g57 238 100 rfl
    have b74 := gi_b (lo := 0) (hi := 6) g57 238 101 rfl
    have b75 := gi_b (lo := 0) (hi := 3) g57 238 102 rfl
    have b76 := gi_b (lo := 0) (hi := 12) g57 238 106 rfl
    have b77 := gi_b (lo := 0) (hi := 12) g57 238 73 rfl
    have e78 : h57 238 2 = h 238 2 := ((y57_0 2 (by decide)).trans (u54 238 2 rfl))
    have b79 := gi_b (lo := 0) (hi := 9999) g57 238 119 rfl
    have b80 := gi_b (lo := 0) (hi := 9999) g57 238 67 rfl
    have b81 := gi_b (lo := 0) (hi := 9) g57 238 69 rfl
    have e82 : h57 238 5 = h 238 5 := ((y57_0 5 (by decide)).trans (u54 238 5 rfl))
    refine wk_i ?_
    refine wi_istore (i := 6) (e := z70) (lo2 := [(6, vi z70), (5, vi 1), (0, .ref 1000000), (1, .ref 0), (2, .ref 236), (3, .ref 259), (4, vi i)]) (nx := 1178) (r1 := 0) (r2 := 0) (r3 := 0) rfl rfl ?_
    refine wi_goto (nx := 1181) (r1 := 1529) (r2 := 0) (r3 := 0) rfl ?_
    refine wp.lo (lo := [(0, .ref 1000000), (1, .ref 0), (2, .ref 236), (3, .ref 259), (4, vi i)]) ⟨rfl, rfl, rfl, rfl, rfl, trivial⟩ rfl ?_
    have e83 : h57 241 98 = h 241 98 := ((u57 241 98 rfl).trans (u54 241 98 rfl))
    have e84 : h57 241 99 = h 241 99 := ((u57 241 99 rfl).trans (u54 241 99 rfl))
    have e85 : h57 241 100 = h 241 100 := ((u57 241 100 rfl).trans (u54 241 100 rfl))
    have e86 : h57 241 101 = h 241 101 := ((u57 241 101 rfl).trans (u54 241 101 rfl))
    have e87 : h57 241 102 = h 241 102 := ((u57 241 102 rfl).trans (u54 241 102 rfl))
    have e88 : h57 241 106 = h 241 106 := ((u57 241 106 rfl).trans (u54 241 106 rfl))
    have e89 : h57 241 73 = h 241 73 := ((u57 241 73 rfl).trans (u54 241 73 rfl))
    have e90 : h57 241 2 = h 241 2 := ((u57 241 2 rfl).trans (u54 241 2 rfl))
    have e91 : h57 241 119 = h 241 119 := ((u57 241 119 rfl).trans (u54 241 119 rfl))
    have e92 : h57 241 67 = h 241 67 := ((u57 241 67 rfl).trans (u54 241 67 rfl))
    have e93 : h57 241 69 = h 241 69 := ((u57 241 69 rfl).trans (u54 241 69 rfl))
    have e94 : h57 241 5 = h 241 5 := ((u57 241 5 rfl).trans (u54 241 5 rfl))
    have e95 : h57 1 1 = h 1 1 := ((u57 1 1 rfl).trans (u54 1 1 rfl))
    have e96 : h57 236 2 = h 236 2 := ((u57 236 2 rfl).trans (u54 236 2 rfl))
    have e97 : h57 1 2 = h 1 2 := ((u57 1 2 rfl).trans (u54 1 2 rfl))
    have e98 : h57 236 10 = h 236 10 := ((u57 236 10 rfl).trans (u54 236 10 rfl))
    have e99 : h57 1 3 = h 1 3 := ((u57 1 3 rfl).trans (u54 1 3 rfl))
    have e100 : h57 236 11 = h 236 11 := ((u57 236 11 rfl).trans (u54 236 11 rfl))
    have gp101 := GPH.fr u54 rfl gp0
    have gp102 := GPH.fr u57 rfl gp101
    have b103 := gi_b (lo := 0) (hi := 5) g 241 0 rfl
    have b104 := gi_b (lo := 0) (hi := 4) g 241 1 rfl
    have gs105 := GPS.fr u54 rfl gs0
    have gs106 := GPS.kept u57 rfl y57_0 gs105
    have e107 : h57 0 12 = h 0 12 := ((u57 0 12 rfl).trans (u54 0 12 rfl))
    have e108 : h57 236 21 = h 236 21 := ((u57 236 21 rfl).trans (u54 236 21 rfl))
    exact k h57 (b - 1) (c - 6) ⟨g57, (show h57 1 1 = h57 236 2 by omega), (RS.i0 (f := h57 238) (by refine ⟨?_, ?_, ?_, ?_, ?_⟩ <;> omega)), (RS.i0 (f := h57 241) (by refine ⟨?_, ?_, ?_, ?_, ?_⟩ <;> omega)), gp102, (BRh.keep br0 (fun i => ((u57 2 i (fn_a (by decide) (fn_a (by decide) (fn_a (by decide) (fn_a (by decide) fn_0))))).trans (u54 2 i (fn_a (by decide) fn_0)))) (fun i => ((u57 237 i (fn_a (by decide) (fn_a (by decide) (fn_a (by decide) (fn_a (by decide) fn_0))))).trans (u54 237 i (fn_a (by decide) fn_0)))) (by omega)), (show h57 1 2 = h57 236 10 by omega), (show h57 1 3 = h57 236 11 by omega), (SVx.keep sv0 (by omega) (fun i _ => ((u57 3 i (fn_a (by decide) (fn_a (by decide) (fn_a (by decide) (fn_a (by decide) fn_0))))).trans (u54 3 i (fn_a (by decide) fn_0)))) (fun i _ => ((u57 5 i (fn_a (by decide) (fn_a (by decide) (fn_a (by decide) (fn_a (by decide) fn_0))))).trans (u54 5 i (fn_a (by decide) fn_0)))) (fun i _ => ((u57 6 i (fn_a (by decide) (fn_a (by decide) (fn_a (by decide) (fn_a (by decide) fn_0))))).trans (u54 6 i (fn_a (by decide) fn_0)))) (fun i _ => ((u57 8 i (fn_a (by decide) (fn_a (by decide) (fn_a (by decide) (fn_a (by decide) fn_0))))).trans (u54 8 i (fn_a (by decide) fn_0)))) (fun i _ => ((y57_0 i (by omega)).trans (u54 238 i (fn_a (by decide) fn_0))))), (show h57 0 12 = h57 236 21 by omega), (fun e => (SVx.keep (ss0 (by omega)) (by omega) (fun i _ => ((u57 210 i (fn_a (by decide) (fn_a (by decide) (fn_a (by decide) (fn_a (by decide) fn_0))))).trans (u54 210 i (fn_a (by decide) fn_0)))) (fun i _ => ((u57 212 i (fn_a (by decide) (fn_a (by decide) (fn_a (by decide) (fn_a (by decide) fn_0))))).trans (u54 212 i (fn_a (by decide) fn_0)))) (fun i _ => ((u57 213 i (fn_a (by decide) (fn_a (by decide) (fn_a (by decide) (fn_a (by decide) fn_0))))).trans (u54 213 i (fn_a (by decide) fn_0)))) (fun i _ => ((u57 215 i (fn_a (by decide) (fn_a (by decide) (fn_a (by decide) (fn_a (by decide) fn_0))))).trans (u54 215 i (fn_a (by decide) fn_0)))) (fun i _ => ((u57 241 i (fn_a (by decide) (fn_a (by decide) (fn_a (by decide) (fn_a (by decide) fn_0))))).trans (u54 241 i (fn_a (by decide) fn_0)))))), gs106⟩ (by omega) (by omega)
-- the law, case at 1181
set_option maxRecDepth 100000 in
set_option maxHeartbeats 100000000 in
theorem lc_1181 {L : Nat} {xs : Nat → Int32} {d b c : Nat} {h : hp} {cr : Nat → Nat → Option Nat} {Q : hp_Q} (hcr : CR cr) (hL : L ≤ 3072) (hr : 1 ≤ b ∧ 6 ≤ c) (I : LI h) (i : Int) (hi : 0 ≤ i ∧ i + 6 ≤ L) (k : ∀ (h2 : hp) (b2 c2 : Nat), LI h2 → b ≤ b2 + 1 → c ≤ c2 + 6 → wp (md_xa (L, xs)) (d + 107) 0 (1529, [(0, .ref 1000000), (1, .ref 0), (2, .ref 236), (3, .ref 259), (4, vi i)], [], hp_w h2 cr, b2, c2) Q) : wp (md_xa (L, xs)) (d + 107) 0 (1181, [(0, .ref 1000000), (1, .ref 0), (2, .ref 236), (3, .ref 259), (4, vi i)], [], hp_w h cr, b, c) Q := by
  obtain ⟨g, i11, r238, r241, gp0, br0, er2, er3, sv0, sf0, ss0, gs0⟩ := I
  have r238e := r238.e0
  have r241e := r241.e0
  obtain ⟨⟨se0, se1, se2, se3, se4, se5, se6, se7, se8, se9⟩, -⟩ := id sv0
  have b1 := gi_b (lo := 0) (hi := 5) g 3 0 rfl
  have b2 := gi_b (lo := 0) (hi := 5) g 238 0 rfl
  have b3 := gi_b (lo := 0) (hi := 4) g 3 1 rfl
  have b4 := gi_b (lo := 0) (hi := 4) g 238 1 rfl
  have b5 := gi_b (lo := 0) (hi := 12) g 3 2 rfl
  have b6 := gi_b (lo := 0) (hi := 12) g 238 2 rfl
  have b7 := gi_b (lo := -2147483648) (hi := 2147483647) g 3 3 rfl
  have b8 := gi_b (lo := 0) (hi := 999) g 238 3 rfl
  have b9 := gi_b (lo := -2147483648) (hi := 2147483647) g 3 4 rfl
  have b10 := gi_b (lo := 0) (hi := 999) g 238 4 rfl
  have b11 := gi_b (lo := -2147483648) (hi := 2147483647) g 3 5 rfl
  have b12 := gi_b (lo := 0) (hi := 9) g 238 5 rfl
  have b13 := gi_b (lo := -2147483648) (hi := 2147483647) g 3 6 rfl
  have b14 := gi_b (lo := 0) (hi := 999) g 238 6 rfl
  have b15 := gi_b (lo := -2147483648) (hi := 2147483647) g 3 7 rfl
  have b16 := gi_b (lo := 0) (hi := 3) g 238 7 rfl
  have b17 := gi_b (lo := -2147483648) (hi := 2147483647) g 3 8 rfl
  have b18 := gi_b (lo := 0) (hi := 999) g 238 8 rfl
  have b19 := gi_b (lo := -2147483648) (hi := 2147483647) g 3 9 rfl
  have b20 := gi_b (lo := 0) (hi := 999) g 238 9 rfl
  have b21 := gi_b (lo := 0) (hi := 1) g 0 12 rfl
  have b22 := gi_b (lo := 0) (hi := 1) g 236 21 rfl
  have bl_ := gi_b (lo := 0) (hi := 800) g 1 1 rfl
  have tb0 : BufC (h 2) (h 1 1) h := ⟨fun _ => rfl, rfl, by omega, by omega⟩
  have b23 := gi_b (lo := 0) (hi := 6) g 238 98 rfl
  have b24 := gi_b (lo := 0) (hi := 6) g 238 99 rfl
  have b25 := gi_b (lo := 0) (hi := 6) g 238 100 rfl
  have b26 := gi_b (lo := 0) (hi := 6) g 238 101 rfl
  have b27 := gi_b (lo := 0) (hi := 3) g 238 102 rfl
  have b28 := gi_b (lo := 0) (hi := 12) g 238 106 rfl
  have b29 := gi_b (lo := 0) (hi := 12) g 238 73 rfl
  have b30 := gi_b (lo := 0) (hi := 9999) g 238 119 rfl
  have b31 := gi_b (lo := 0) (hi := 9999) g 238 67 rfl
  have b32 := gi_b (lo := 0) (hi := 9) g 238 69 rfl
  have b33 := gi_b (lo := 0) (hi := 6) g 241 98 rfl
  have b34 := gi_b (lo := 0) (hi := 6) g 241 99 rfl
  have b35 := gi_b (lo := 0) (hi := 6) g 241 100 rfl
  have b36 := gi_b (lo := 0) (hi := 6) g 241 101 rfl
  have b37 := gi_b (lo := 0) (hi := 3) g 241 102 rfl
  have b38 := gi_b (lo := 0) (hi := 12) g 241 106 rfl
  have b39 := gi_b (lo := 0) (hi := 12) g 241 73 rfl
  have b40 := gi_b (lo := 0) (hi := 12) g 241 2 rfl
  have b41 := gi_b (lo := 0) (hi := 9999) g 241 119 rfl
  have b42 := gi_b (lo := 0) (hi := 9999) g 241 67 rfl
  have b43 := gi_b (lo := 0) (hi := 9) g 241 69 rfl
  have b44 := gi_b (lo := 0) (hi := 9) g 241 5 rfl
  have b45 := gi_b (lo := 0) (hi := 800) g 1 1 rfl
  have b46 := gi_b (lo := 0) (hi := 800) g 236 2 rfl
  have b47 := gi_b (lo := -2147483648) (hi := 2147483647) g 1 2 rfl
  have b48 := gi_b (lo := -2147483648) (hi := 2147483647) g 236 10 rfl
  have b49 := gi_b (lo := -2147483648) (hi := 2147483647) g 1 3 rfl
  have b50 := gi_b (lo := -2147483648) (hi := 2147483647) g 236 11 rfl
  refine wi_aload_n (i := 1) (x := 0) (nx := 1182) (r1 := 0) (r2 := 0) (r3 := 0) rfl rfl ?_
  refine wi_aload_n (i := 0) (x := 1000000) (nx := 1183) (r1 := 0) (r2 := 0) (r3 := 0) rfl rfl ?_
  refine wi_iload (i := 4) (e := i) (nx := 1185) (r1 := 0) (r2 := 0) (r3 := 0) rfl rfl ?_
  refine wi_iconst (n := 1) (nx := 1186) (r1 := 0) (r2 := 0) (r3 := 0) rfl ?_
  refine wr_add (nx := 1187) (r1 := 0) (r2 := 0) (r3 := 0) rfl (fun e51 (fe51 : e51 = i + 1) => ?_)
  obtain ⟨i52, ei52⟩ : ∃ q : Nat, e51 = (q : Int) := ⟨(e51).toNat, by omega⟩
  have s53 := sc_b (xs i52)
  refine wr_sc (a := e51) (f := i52) (nx := 1188) (r1 := 0) (r2 := 0) (r3 := 0) rfl (by omega) (by omega) hL ?_
  refine wi_aload_n (i := 3) (x := 259) (nx := 1189) (r1 := 0) (r2 := 0) (r3 := 0) rfl rfl ?_
  refine wi_S (rest := []) (as := [.ref 0, vi ((xs i52).toInt), .ref 259]) (nx := 1192) (r1 := 20) (r2 := 19) (r3 := 0) rfl rfl rfl (of_decide_eq_true rfl) rfl rfl (of_decide_eq_true rfl) (of_decide_eq_true rfl) ?_
  refine wi_aload_n (i := 2) (x := 259) (nx := 1) (r1 := 0) (r2 := 0) (r3 := 0) rfl rfl ?_
  refine wi_iconst (n := 0) (nx := 2) (r1 := 0) (r2 := 0) (r3 := 0) rfl ?_
  refine wi_aload_n (i := 0) (x := 0) (nx := 3) (r1 := 0) (r2 := 0) (r3 := 0) rfl rfl ?_
  refine wi_iload_n (i := 1) (e := (xs i52).toInt) (nx := 4) (r1 := 0) (r2 := 0) (r3 := 0) rfl rfl ?_
  refine wr_V (k0 := 0) (rest := [vi 0, .ref 259]) (as := [.ref 0, vi ((xs i52).toInt)]) (nx := 7) (r1 := 84) (r2 := 1) (r3 := 0) rfl rfl rfl (of_decide_eq_true rfl) rfl rfl (by decide) rfl rfl (of_decide_eq_true rfl) (of_decide_eq_true rfl) ?_
  refine ct_84_0 hcr hr  g ((xs i52).toInt) (by omega)  (fun h54 z55 g54 u54 (fz55 : 0 ≤ z55 ∧ z55 ≤ 12) => ?_) (fun h54 g54 u54 => ?_)
  ·
    refine wk_i ?_
    refine wi_i2l (nx := 8) (r1 := 0) (r2 := 0) (r3 := 0) rfl (by omega) ?_
    refine wr_ls (k0 := 259) (a := 0) (f := 0) (x := z55) (bl := -9223372036854775808) (bh := 9223372036854775807) (nx := 9) (r1 := 0) (r2 := 0) (r3 := 0) rfl (by decide) rfl (by omega) (by omega) (by decide) g54 rfl (by omega) (fun h56 g56 w56 u56 => ?_)
    refine wi_goto (nx := 12) (r1 := 15) (r2 := 0) (r3 := 0) rfl ?_
    refine wi_iconst (n := 0) (nx := 16) (r1 := 0) (r2 := 0) (r3 := 0) rfl ?_
    refine wi_ireturn (nx := 17) (r1 := 0) (r2 := 0) (r3 := 0) rfl rfl ?_
    refine wk_i ?_
    refine wi_istore (i := 5) (e := 0) (lo2 := [(5, vi 0), (0, .ref 1000000), (1, .ref 0), (2, .ref 236), (3, .ref 259), (4, vi i)]) (nx := 1194) (r1 := 0) (r2 := 0) (r3 := 0) rfl rfl ?_
    refine wi_aload_n (i := 2) (x := 236) (nx := 1195) (r1 := 0) (r2 := 0) (r3 := 0) rfl rfl ?_
    refine wi_aload_n (i := 0) (x := 1000000) (nx := 1196) (r1 := 0) (r2 := 0) (r3 := 0) rfl rfl ?_
    refine wi_iload (i := 4) (e := i) (nx := 1198) (r1 := 0) (r2 := 0) (r3 := 0) rfl rfl ?_
    refine wi_iconst (n := 1) (nx := 1199) (r1 := 0) (r2 := 0) (r3 := 0) rfl ?_
    refine wr_add (nx := 1200) (r1 := 0) (r2 := 0) (r3 := 0) rfl (fun e57 (fe57 : e57 = i + 1) => ?_)
    refine wr_sc (a := e57) (f := i52) (nx := 1201) (r1 := 0) (r2 := 0) (r3 := 0) rfl (by omega) (by omega) hL ?_
    refine wr_V (k0 := 236) (rest := []) (as := [.ref 236, vi ((xs i52).toInt)]) (nx := 1204) (r1 := 295) (r2 := 1) (r3 := 11) rfl rfl rfl (of_decide_eq_true rfl) rfl rfl (by decide) rfl rfl (of_decide_eq_true rfl) (of_decide_eq_true rfl) ?_
    have e59 : h56 238 98 = h 238 98 := ((u56 238 98 rfl).trans (u54 238 98 rfl))
    have e60 : h56 238 99 = h 238 99 := ((u56 238 99 rfl).trans (u54 238 99 rfl))
    have e61 : h56 238 100 = h 238 100 := ((u56 238 100 rfl).trans (u54 238 100 rfl))
    have e62 : h56 238 101 = h 238 101 := ((u56 238 101 rfl).trans (u54 238 101 rfl))
    have e63 : h56 238 102 = h 238 102 := ((u56 238 102 rfl).trans (u54 238 102 rfl))
    have e64 : h56 238 106 = h 238 106 := ((u56 238 106 rfl).trans (u54 238 106 rfl))
    have e65 : h56 238 73 = h 238 73 := ((u56 238 73 rfl).trans (u54 238 73 rfl))
    have e66 : h56 238 2 = h 238 2 := ((u56 238 2 rfl).trans (u54 238 2 rfl))
    have e67 : h56 238 119 = h 238 119 := ((u56 238 119 rfl).trans (u54 238 119 rfl))
    have e68 : h56 238 67 = h 238 67 := ((u56 238 67 rfl).trans (u54 238 67 rfl))
    have e69 : h56 238 69 = h 238 69 := ((u56 238 69 rfl).trans (u54 238 69 rfl))
    have e70 : h56 238 5 = h 238 5 := ((u56 238 5 rfl).trans (u54 238 5 rfl))
    refine ct_295_236 hcr  g56 ((xs i52).toInt) (by omega) (show (h56 238 98) + (h56 238 99) + (h56 238 100) + (h56 238 101) + (h56 238 102) + (h56 238 106) = (h56 238 73) by omega) (show (h56 238 73) ≤ (h56 238 2) by omega) (show (h56 238 119) ≤ (h56 238 67) by omega) (show (h56 238 69) ≤ (h56 238 5) by omega) (show (h56 238 2) ≤ 12 * (h56 238 5) by omega) (fun h58 z71 g58 u58 (fz71 : 0 ≤ z71 ∧ z71 ≤ 12) (p58_0 : (h58 238 98) + (h58 238 99) + (h58 238 100) + (h58 238 101) + (h58 238 102) + (h58 238 106) = (h58 238 73)) (p58_1 : (h58 238 73) ≤ (h58 238 2)) (p58_2 : (h58 238 119) ≤ (h58 238 67)) (p58_3 : (h58 238 69) ≤ (h58 238 5)) (p58_4 : (h58 238 2) ≤ 12 * (h58 238 5)) y58_0 => ?_)
    have b72 := gi_b (lo := 0) (hi := 6) g58 238 98 rfl
    have b73 := gi_b (lo := 0) (hi := 6) g58 238 99 rfl
    have b74 := gi_b (lo := 0) (hi := 6) g58 238 100 rfl
    have b75 := gi_b (lo := 0) (hi := 6) g58 238 101 rfl
    have b76 := gi_b (lo := 0) (hi := 3) g58 238 102 rfl
    have b77 := gi_b (lo := 0) (hi := 12) g58 238 106 rfl
    have b78 := gi_b (lo := 0) (hi := 12) g58 238 73 rfl
    have e79 : h58 238 2 = h 238 2 := ((y58_0 2 (by decide)).trans ((u56 238 2 rfl).trans (u54 238 2 rfl)))
    have b80 := gi_b (lo := 0) (hi := 9999) g58 238 119 rfl
    have b81 := gi_b (lo := 0) (hi := 9999) g58 238 67 rfl
    have b82 := gi_b (lo := 0) (hi := 9) g58 238 69 rfl
    have e83 : h58 238 5 = h 238 5 := ((y58_0 5 (by decide)).trans ((u56 238 5 rfl).trans (u54 238 5 rfl)))
    refine wk_i ?_
    refine wi_istore (i := 6) (e := z71) (lo2 := [(6, vi z71), (5, vi 0), (0, .ref 1000000), (1, .ref 0), (2, .ref 236), (3, .ref 259), (4, vi i)]) (nx := 1206) (r1 := 0) (r2 := 0) (r3 := 0) rfl rfl ?_
    refine wi_goto (nx := 1209) (r1 := 1529) (r2 := 0) (r3 := 0) rfl ?_
    refine wp.lo (lo := [(0, .ref 1000000), (1, .ref 0), (2, .ref 236), (3, .ref 259), (4, vi i)]) ⟨rfl, rfl, rfl, rfl, rfl, trivial⟩ rfl ?_
    have e84 : h58 241 98 = h 241 98 := ((u58 241 98 rfl).trans ((u56 241 98 rfl).trans (u54 241 98 rfl)))
    have e85 : h58 241 99 = h 241 99 := ((u58 241 99 rfl).trans ((u56 241 99 rfl).trans (u54 241 99 rfl)))
    have e86 : h58 241 100 = h 241 100 := ((u58 241 100 rfl).trans ((u56 241 100 rfl).trans (u54 241 100 rfl)))
    have e87 : h58 241 101 = h 241 101 := ((u58 241 101 rfl).trans ((u56 241 101 rfl).trans (u54 241 101 rfl)))
    have e88 : h58 241 102 = h 241 102 := ((u58 241 102 rfl).trans ((u56 241 102 rfl).trans (u54 241 102 rfl)))
    have e89 : h58 241 106 = h 241 106 := ((u58 241 106 rfl).trans ((u56 241 106 rfl).trans (u54 241 106 rfl)))
    have e90 : h58 241 73 = h 241 73 := ((u58 241 73 rfl).trans ((u56 241 73 rfl).trans (u54 241 73 rfl)))
    have e91 : h58 241 2 = h 241 2 := ((u58 241 2 rfl).trans ((u56 241 2 rfl).trans (u54 241 2 rfl)))
    have e92 : h58 241 119 = h 241 119 := ((u58 241 119 rfl).trans ((u56 241 119 rfl).trans (u54 241 119 rfl)))
    have e93 : h58 241 67 = h 241 67 := ((u58 241 67 rfl).trans ((u56 241 67 rfl).trans (u54 241 67 rfl)))
    have e94 : h58 241 69 = h 241 69 := ((u58 241 69 rfl).trans ((u56 241 69 rfl).trans (u54 241 69 rfl)))
    have e95 : h58 241 5 = h 241 5 := ((u58 241 5 rfl).trans ((u56 241 5 rfl).trans (u54 241 5 rfl)))
    have e96 : h58 1 1 = h 1 1 := ((u58 1 1 rfl).trans ((u56 1 1 rfl).trans (u54 1 1 rfl)))
    have e97 : h58 236 2 = h 236 2 := ((u58 236 2 rfl).trans ((u56 236 2 rfl).trans (u54 236 2 rfl)))
    have e98 : h58 1 2 = h 1 2 := ((u58 1 2 rfl).trans ((u56 1 2 rfl).trans (u54 1 2 rfl)))
    have e99 : h58 236 10 = h 236 10 := ((u58 236 10 rfl).trans ((u56 236 10 rfl).trans (u54 236 10 rfl)))
    have e100 : h58 1 3 = h 1 3 := ((u58 1 3 rfl).trans ((u56 1 3 rfl).trans (u54 1 3 rfl)))
    have e101 : h58 236 11 = h 236 11 := ((u58 236 11 rfl).trans ((u56 236 11 rfl).trans (u54 236 11 rfl)))
    have gp102 := GPH.fr u54 rfl gp0
    have gp103 := GPH.fr u56 rfl gp102
    have gp104 := GPH.fr u58 rfl gp103
    have b105 := gi_b (lo := 0) (hi := 5) g 241 0 rfl
    have b106 := gi_b (lo := 0) (hi := 4) g 241 1 rfl
    have gs107 := GPS.fr u54 rfl gs0
    have gs108 := GPS.fr u56 rfl gs107
    have gs109 := GPS.kept u58 rfl y58_0 gs108
    have e110 : h58 0 12 = h 0 12 := ((u58 0 12 rfl).trans ((u56 0 12 rfl).trans (u54 0 12 rfl)))
    have e111 : h58 236 21 = h 236 21 := ((u58 236 21 rfl).trans ((u56 236 21 rfl).trans (u54 236 21 rfl)))
    exact k h58 b c ⟨g58, (show h58 1 1 = h58 236 2 by omega), (RS.i0 (f := h58 238) (by refine ⟨?_, ?_, ?_, ?_, ?_⟩ <;> omega)), (RS.i0 (f := h58 241) (by refine ⟨?_, ?_, ?_, ?_, ?_⟩ <;> omega)), gp104, (BRh.keep br0 (fun i => ((u58 2 i (fn_a (by decide) (fn_a (by decide) (fn_a (by decide) (fn_a (by decide) fn_0))))).trans ((u56 2 i (fn_a (by omega) fn_0)).trans (u54 2 i (fn_a (by decide) fn_0))))) (fun i => ((u58 237 i (fn_a (by decide) (fn_a (by decide) (fn_a (by decide) (fn_a (by decide) fn_0))))).trans ((u56 237 i (fn_a (by omega) fn_0)).trans (u54 237 i (fn_a (by decide) fn_0))))) (by omega)), (show h58 1 2 = h58 236 10 by omega), (show h58 1 3 = h58 236 11 by omega), (SVx.keep sv0 (by omega) (fun i _ => ((u58 3 i (fn_a (by decide) (fn_a (by decide) (fn_a (by decide) (fn_a (by decide) fn_0))))).trans ((u56 3 i (fn_a (by omega) fn_0)).trans (u54 3 i (fn_a (by decide) fn_0))))) (fun i _ => ((u58 5 i (fn_a (by decide) (fn_a (by decide) (fn_a (by decide) (fn_a (by decide) fn_0))))).trans ((u56 5 i (fn_a (by omega) fn_0)).trans (u54 5 i (fn_a (by decide) fn_0))))) (fun i _ => ((u58 6 i (fn_a (by decide) (fn_a (by decide) (fn_a (by decide) (fn_a (by decide) fn_0))))).trans ((u56 6 i (fn_a (by omega) fn_0)).trans (u54 6 i (fn_a (by decide) fn_0))))) (fun i _ => ((u58 8 i (fn_a (by decide) (fn_a (by decide) (fn_a (by decide) (fn_a (by decide) fn_0))))).trans ((u56 8 i (fn_a (by omega) fn_0)).trans (u54 8 i (fn_a (by decide) fn_0))))) (fun i _ => ((y58_0 i (by omega)).trans ((u56 238 i (fn_a (by omega) fn_0)).trans (u54 238 i (fn_a (by decide) fn_0)))))), (show h58 0 12 = h58 236 21 by omega), (fun e => (SVx.keep (ss0 (by omega)) (by omega) (fun i _ => ((u58 210 i (fn_a (by decide) (fn_a (by decide) (fn_a (by decide) (fn_a (by decide) fn_0))))).trans ((u56 210 i (fn_a (by omega) fn_0)).trans (u54 210 i (fn_a (by decide) fn_0))))) (fun i _ => ((u58 212 i (fn_a (by decide) (fn_a (by decide) (fn_a (by decide) (fn_a (by decide) fn_0))))).trans ((u56 212 i (fn_a (by omega) fn_0)).trans (u54 212 i (fn_a (by decide) fn_0))))) (fun i _ => ((u58 213 i (fn_a (by decide) (fn_a (by decide) (fn_a (by decide) (fn_a (by decide) fn_0))))).trans ((u56 213 i (fn_a (by omega) fn_0)).trans (u54 213 i (fn_a (by decide) fn_0))))) (fun i _ => ((u58 215 i (fn_a (by decide) (fn_a (by decide) (fn_a (by decide) (fn_a (by decide) fn_0))))).trans ((u56 215 i (fn_a (by omega) fn_0)).trans (u54 215 i (fn_a (by decide) fn_0))))) (fun i _ => ((u58 241 i (fn_a (by decide) (fn_a (by decide) (fn_a (by decide) (fn_a (by decide) fn_0))))).trans ((u56 241 i (fn_a (by omega) fn_0)).trans (u54 241 i (fn_a (by decide) fn_0))))))), gs109⟩ (by omega) (by omega)
  ·
    refine wk_h 12 (by decide) rfl ?_
    refine wr_astx (i := 3) (lo2 := [(3, .retAddr 0), (0, .ref 0), (1, vi ((xs i52).toInt)), (2, .ref 259)]) (nx := 13) (r1 := 0) (r2 := 0) (r3 := 0) rfl rfl ?_
    refine wi_iconst (n := 1) (nx := 14) (r1 := 0) (r2 := 0) (r3 := 0) rfl ?_
    refine wi_ireturn (nx := 15) (r1 := 0) (r2 := 0) (r3 := 0) rfl rfl ?_
    refine wk_i ?_
    refine wi_istore (i := 5) (e := 1) (lo2 := [(5, vi 1), (0, .ref 1000000), (1, .ref 0), (2, .ref 236), (3, .ref 259), (4, vi i)]) (nx := 1194) (r1 := 0) (r2 := 0) (r3 := 0) rfl rfl ?_
    refine wi_aload_n (i := 2) (x := 236) (nx := 1195) (r1 := 0) (r2 := 0) (r3 := 0) rfl rfl ?_
    refine wi_aload_n (i := 0) (x := 1000000) (nx := 1196) (r1 := 0) (r2 := 0) (r3 := 0) rfl rfl ?_
    refine wi_iload (i := 4) (e := i) (nx := 1198) (r1 := 0) (r2 := 0) (r3 := 0) rfl rfl ?_
    refine wi_iconst (n := 1) (nx := 1199) (r1 := 0) (r2 := 0) (r3 := 0) rfl ?_
    refine wr_add (nx := 1200) (r1 := 0) (r2 := 0) (r3 := 0) rfl (fun e56 (fe56 : e56 = i + 1) => ?_)
    refine wr_sc (a := e56) (f := i52) (nx := 1201) (r1 := 0) (r2 := 0) (r3 := 0) rfl (by omega) (by omega) hL ?_
    refine wr_V (k0 := 236) (rest := []) (as := [.ref 236, vi ((xs i52).toInt)]) (nx := 1204) (r1 := 295) (r2 := 1) (r3 := 11) rfl rfl rfl (of_decide_eq_true rfl) rfl rfl (by decide) rfl rfl (of_decide_eq_true rfl) (of_decide_eq_true rfl) ?_
    have e58 : h54 238 98 = h 238 98 := (u54 238 98 rfl)
    have e59 : h54 238 99 = h 238 99 := (u54 238 99 rfl)
    have e60 : h54 238 100 = h 238 100 := (u54 238 100 rfl)
    have e61 : h54 238 101 = h 238 101 := (u54 238 101 rfl)
    have e62 : h54 238 102 = h 238 102 := (u54 238 102 rfl)
    have e63 : h54 238 106 = h 238 106 := (u54 238 106 rfl)
    have e64 : h54 238 73 = h 238 73 := (u54 238 73 rfl)
    have e65 : h54 238 2 = h 238 2 := (u54 238 2 rfl)
    have e66 : h54 238 119 = h 238 119 := (u54 238 119 rfl)
    have e67 : h54 238 67 = h 238 67 := (u54 238 67 rfl)
    have e68 : h54 238 69 = h 238 69 := (u54 238 69 rfl)
    have e69 : h54 238 5 = h 238 5 := (u54 238 5 rfl)
    refine ct_295_236 hcr  g54 ((xs i52).toInt) (by omega) (show (h54 238 98) + (h54 238 99) + (h54 238 100) + (h54 238 101) + (h54 238 102) + (h54 238 106) = (h54 238 73) by omega) (show (h54 238 73) ≤ (h54 238 2) by omega) (show (h54 238 119) ≤ (h54 238 67) by omega) (show (h54 238 69) ≤ (h54 238 5) by omega) (show (h54 238 2) ≤ 12 * (h54 238 5) by omega) (fun h57 z70 g57 u57 (fz70 : 0 ≤ z70 ∧ z70 ≤ 12) (p57_0 : (h57 238 98) + (h57 238 99) + (h57 238 100) + (h57 238 101) + (h57 238 102) + (h57 238 106) = (h57 238 73)) (p57_1 : (h57 238 73) ≤ (h57 238 2)) (p57_2 : (h57 238 119) ≤ (h57 238 67)) (p57_3 : (h57 238 69) ≤ (h57 238 5)) (p57_4 : (h57 238 2) ≤ 12 * (h57 238 5)) y57_0 => ?_)
    have b71 := gi_b (lo := 0) (hi := 6) g57 238 98 rfl
    have b72 := gi_b (lo := 0) (hi := 6) g57 238 99 rfl
    have b73 := gi_b (lo := 0) (hi := 6) g57 238 100 rfl
    have b74 := gi_b (lo := 0) (hi := 6) g57 238 101 rfl
    have b75 := gi_b (lo := 0) (hi := 3) g57 238 102 rfl
    have b76 := gi_b (lo := 0) (hi := 12) g57 238 106 rfl
    have b77 := gi_b (lo := 0) (hi := 12) g57 238 73 rfl
    have e78 : h57 238 2 = h 238 2 := ((y57_0 2 (by decide)).trans (u54 238 2 rfl))
    have b79 := gi_b (lo := 0) (hi := 9999) g57 238 119 rfl
    have b80 := gi_b (lo := 0) (hi := 9999) g57 238 67 rfl
    have b81 := gi_b (lo := 0) (hi := 9) g57 238 69 rfl
    have e82 : h57 238 5 = h 238 5 := ((y57_0 5 (by decide)).trans (u54 238 5 rfl))
    refine wk_i ?_
    refine wi_istore (i := 6) (e := z70) (lo2 := [(6, vi z70), (5, vi 1), (0, .ref 1000000), (1, .ref 0), (2, .ref 236), (3, .ref 259), (4, vi i)]) (nx := 1206) (r1 := 0) (r2 := 0) (r3 := 0) rfl rfl ?_
    refine wi_goto (nx := 1209) (r1 := 1529) (r2 := 0) (r3 := 0) rfl ?_
    refine wp.lo (lo := [(0, .ref 1000000), (1, .ref 0), (2, .ref 236), (3, .ref 259), (4, vi i)]) ⟨rfl, rfl, rfl, rfl, rfl, trivial⟩ rfl ?_
    have e83 : h57 241 98 = h 241 98 := ((u57 241 98 rfl).trans (u54 241 98 rfl))
    have e84 : h57 241 99 = h 241 99 := ((u57 241 99 rfl).trans (u54 241 99 rfl))
    have e85 : h57 241 100 = h 241 100 := ((u57 241 100 rfl).trans (u54 241 100 rfl))
    have e86 : h57 241 101 = h 241 101 := ((u57 241 101 rfl).trans (u54 241 101 rfl))
    have e87 : h57 241 102 = h 241 102 := ((u57 241 102 rfl).trans (u54 241 102 rfl))
    have e88 : h57 241 106 = h 241 106 := ((u57 241 106 rfl).trans (u54 241 106 rfl))
    have e89 : h57 241 73 = h 241 73 := ((u57 241 73 rfl).trans (u54 241 73 rfl))
    have e90 : h57 241 2 = h 241 2 := ((u57 241 2 rfl).trans (u54 241 2 rfl))
    have e91 : h57 241 119 = h 241 119 := ((u57 241 119 rfl).trans (u54 241 119 rfl))
    have e92 : h57 241 67 = h 241 67 := ((u57 241 67 rfl).trans (u54 241 67 rfl))
    have e93 : h57 241 69 = h 241 69 := ((u57 241 69 rfl).trans (u54 241 69 rfl))
    have e94 : h57 241 5 = h 241 5 := ((u57 241 5 rfl).trans (u54 241 5 rfl))
    have e95 : h57 1 1 = h 1 1 := ((u57 1 1 rfl).trans (u54 1 1 rfl))
    have e96 : h57 236 2 = h 236 2 := ((u57 236 2 rfl).trans (u54 236 2 rfl))
    have e97 : h57 1 2 = h 1 2 := ((u57 1 2 rfl).trans (u54 1 2 rfl))
    have e98 : h57 236 10 = h 236 10 := ((u57 236 10 rfl).trans (u54 236 10 rfl))
    have e99 : h57 1 3 = h 1 3 := ((u57 1 3 rfl).trans (u54 1 3 rfl))
    have e100 : h57 236 11 = h 236 11 := ((u57 236 11 rfl).trans (u54 236 11 rfl))
    have gp101 := GPH.fr u54 rfl gp0
    have gp102 := GPH.fr u57 rfl gp101
    have b103 := gi_b (lo := 0) (hi := 5) g 241 0 rfl
    have b104 := gi_b (lo := 0) (hi := 4) g 241 1 rfl
    have gs105 := GPS.fr u54 rfl gs0
    have gs106 := GPS.kept u57 rfl y57_0 gs105
    have e107 : h57 0 12 = h 0 12 := ((u57 0 12 rfl).trans (u54 0 12 rfl))
    have e108 : h57 236 21 = h 236 21 := ((u57 236 21 rfl).trans (u54 236 21 rfl))
    exact k h57 (b - 1) (c - 6) ⟨g57, (show h57 1 1 = h57 236 2 by omega), (RS.i0 (f := h57 238) (by refine ⟨?_, ?_, ?_, ?_, ?_⟩ <;> omega)), (RS.i0 (f := h57 241) (by refine ⟨?_, ?_, ?_, ?_, ?_⟩ <;> omega)), gp102, (BRh.keep br0 (fun i => ((u57 2 i (fn_a (by decide) (fn_a (by decide) (fn_a (by decide) (fn_a (by decide) fn_0))))).trans (u54 2 i (fn_a (by decide) fn_0)))) (fun i => ((u57 237 i (fn_a (by decide) (fn_a (by decide) (fn_a (by decide) (fn_a (by decide) fn_0))))).trans (u54 237 i (fn_a (by decide) fn_0)))) (by omega)), (show h57 1 2 = h57 236 10 by omega), (show h57 1 3 = h57 236 11 by omega), (SVx.keep sv0 (by omega) (fun i _ => ((u57 3 i (fn_a (by decide) (fn_a (by decide) (fn_a (by decide) (fn_a (by decide) fn_0))))).trans (u54 3 i (fn_a (by decide) fn_0)))) (fun i _ => ((u57 5 i (fn_a (by decide) (fn_a (by decide) (fn_a (by decide) (fn_a (by decide) fn_0))))).trans (u54 5 i (fn_a (by decide) fn_0)))) (fun i _ => ((u57 6 i (fn_a (by decide) (fn_a (by decide) (fn_a (by decide) (fn_a (by decide) fn_0))))).trans (u54 6 i (fn_a (by decide) fn_0)))) (fun i _ => ((u57 8 i (fn_a (by decide) (fn_a (by decide) (fn_a (by decide) (fn_a (by decide) fn_0))))).trans (u54 8 i (fn_a (by decide) fn_0)))) (fun i _ => ((y57_0 i (by omega)).trans (u54 238 i (fn_a (by decide) fn_0))))), (show h57 0 12 = h57 236 21 by omega), (fun e => (SVx.keep (ss0 (by omega)) (by omega) (fun i _ => ((u57 210 i (fn_a (by decide) (fn_a (by decide) (fn_a (by decide) (fn_a (by decide) fn_0))))).trans (u54 210 i (fn_a (by decide) fn_0)))) (fun i _ => ((u57 212 i (fn_a (by decide) (fn_a (by decide) (fn_a (by decide) (fn_a (by decide) fn_0))))).trans (u54 212 i (fn_a (by decide) fn_0)))) (fun i _ => ((u57 213 i (fn_a (by decide) (fn_a (by decide) (fn_a (by decide) (fn_a (by decide) fn_0))))).trans (u54 213 i (fn_a (by decide) fn_0)))) (fun i _ => ((u57 215 i (fn_a (by decide) (fn_a (by decide) (fn_a (by decide) (fn_a (by decide) fn_0))))).trans (u54 215 i (fn_a (by decide) fn_0)))) (fun i _ => ((u57 241 i (fn_a (by decide) (fn_a (by decide) (fn_a (by decide) (fn_a (by decide) fn_0))))).trans (u54 241 i (fn_a (by decide) fn_0)))))), gs106⟩ (by omega) (by omega)
-- the law, case at 1209
set_option maxRecDepth 100000 in
set_option maxHeartbeats 100000000 in
theorem lc_1209 {L : Nat} {xs : Nat → Int32} {d b c : Nat} {h : hp} {cr : Nat → Nat → Option Nat} {Q : hp_Q} (hcr : CR cr) (hL : L ≤ 3072) (hr : 1 ≤ b ∧ 6 ≤ c) (I : LI h) (i : Int) (hi : 0 ≤ i ∧ i + 6 ≤ L) (k : ∀ (h2 : hp) (b2 c2 : Nat), LI h2 → b ≤ b2 + 1 → c ≤ c2 + 6 → wp (md_xa (L, xs)) (d + 107) 0 (1529, [(0, .ref 1000000), (1, .ref 0), (2, .ref 236), (3, .ref 259), (4, vi i)], [], hp_w h2 cr, b2, c2) Q) : wp (md_xa (L, xs)) (d + 107) 0 (1209, [(0, .ref 1000000), (1, .ref 0), (2, .ref 236), (3, .ref 259), (4, vi i)], [], hp_w h cr, b, c) Q := by
  obtain ⟨g, i11, r238, r241, gp0, br0, er2, er3, sv0, sf0, ss0, gs0⟩ := I
  have r238e := r238.e0
  have r241e := r241.e0
  obtain ⟨⟨se0, se1, se2, se3, se4, se5, se6, se7, se8, se9⟩, -⟩ := id sv0
  have b1 := gi_b (lo := 0) (hi := 5) g 3 0 rfl
  have b2 := gi_b (lo := 0) (hi := 5) g 238 0 rfl
  have b3 := gi_b (lo := 0) (hi := 4) g 3 1 rfl
  have b4 := gi_b (lo := 0) (hi := 4) g 238 1 rfl
  have b5 := gi_b (lo := 0) (hi := 12) g 3 2 rfl
  have b6 := gi_b (lo := 0) (hi := 12) g 238 2 rfl
  have b7 := gi_b (lo := -2147483648) (hi := 2147483647) g 3 3 rfl
  have b8 := gi_b (lo := 0) (hi := 999) g 238 3 rfl
  have b9 := gi_b (lo := -2147483648) (hi := 2147483647) g 3 4 rfl
  have b10 := gi_b (lo := 0) (hi := 999) g 238 4 rfl
  have b11 := gi_b (lo := -2147483648) (hi := 2147483647) g 3 5 rfl
  have b12 := gi_b (lo := 0) (hi := 9) g 238 5 rfl
  have b13 := gi_b (lo := -2147483648) (hi := 2147483647) g 3 6 rfl
  have b14 := gi_b (lo := 0) (hi := 999) g 238 6 rfl
  have b15 := gi_b (lo := -2147483648) (hi := 2147483647) g 3 7 rfl
  have b16 := gi_b (lo := 0) (hi := 3) g 238 7 rfl
  have b17 := gi_b (lo := -2147483648) (hi := 2147483647) g 3 8 rfl
  have b18 := gi_b (lo := 0) (hi := 999) g 238 8 rfl
  have b19 := gi_b (lo := -2147483648) (hi := 2147483647) g 3 9 rfl
  have b20 := gi_b (lo := 0) (hi := 999) g 238 9 rfl
  have b21 := gi_b (lo := 0) (hi := 1) g 0 12 rfl
  have b22 := gi_b (lo := 0) (hi := 1) g 236 21 rfl
  have bl_ := gi_b (lo := 0) (hi := 800) g 1 1 rfl
  have tb0 : BufC (h 2) (h 1 1) h := ⟨fun _ => rfl, rfl, by omega, by omega⟩
  have b23 := gi_b (lo := 0) (hi := 6) g 238 98 rfl
  have b24 := gi_b (lo := 0) (hi := 6) g 238 99 rfl
  have b25 := gi_b (lo := 0) (hi := 6) g 238 100 rfl
  have b26 := gi_b (lo := 0) (hi := 6) g 238 101 rfl
  have b27 := gi_b (lo := 0) (hi := 3) g 238 102 rfl
  have b28 := gi_b (lo := 0) (hi := 12) g 238 106 rfl
  have b29 := gi_b (lo := 0) (hi := 12) g 238 73 rfl
  have b30 := gi_b (lo := 0) (hi := 9999) g 238 119 rfl
  have b31 := gi_b (lo := 0) (hi := 9999) g 238 67 rfl
  have b32 := gi_b (lo := 0) (hi := 9) g 238 69 rfl
  have b33 := gi_b (lo := 0) (hi := 6) g 241 98 rfl
  have b34 := gi_b (lo := 0) (hi := 6) g 241 99 rfl
  have b35 := gi_b (lo := 0) (hi := 6) g 241 100 rfl
  have b36 := gi_b (lo := 0) (hi := 6) g 241 101 rfl
  have b37 := gi_b (lo := 0) (hi := 3) g 241 102 rfl
  have b38 := gi_b (lo := 0) (hi := 12) g 241 106 rfl
  have b39 := gi_b (lo := 0) (hi := 12) g 241 73 rfl
  have b40 := gi_b (lo := 0) (hi := 12) g 241 2 rfl
  have b41 := gi_b (lo := 0) (hi := 9999) g 241 119 rfl
  have b42 := gi_b (lo := 0) (hi := 9999) g 241 67 rfl
  have b43 := gi_b (lo := 0) (hi := 9) g 241 69 rfl
  have b44 := gi_b (lo := 0) (hi := 9) g 241 5 rfl
  have b45 := gi_b (lo := 0) (hi := 800) g 1 1 rfl
  have b46 := gi_b (lo := 0) (hi := 800) g 236 2 rfl
  have b47 := gi_b (lo := -2147483648) (hi := 2147483647) g 1 2 rfl
  have b48 := gi_b (lo := -2147483648) (hi := 2147483647) g 236 10 rfl
  have b49 := gi_b (lo := -2147483648) (hi := 2147483647) g 1 3 rfl
  have b50 := gi_b (lo := -2147483648) (hi := 2147483647) g 236 11 rfl
  refine wi_aload_n (i := 1) (x := 0) (nx := 1210) (r1 := 0) (r2 := 0) (r3 := 0) rfl rfl ?_
  refine wi_aload_n (i := 0) (x := 1000000) (nx := 1211) (r1 := 0) (r2 := 0) (r3 := 0) rfl rfl ?_
  refine wi_iload (i := 4) (e := i) (nx := 1213) (r1 := 0) (r2 := 0) (r3 := 0) rfl rfl ?_
  refine wi_iconst (n := 1) (nx := 1214) (r1 := 0) (r2 := 0) (r3 := 0) rfl ?_
  refine wr_add (nx := 1215) (r1 := 0) (r2 := 0) (r3 := 0) rfl (fun e51 (fe51 : e51 = i + 1) => ?_)
  obtain ⟨i52, ei52⟩ : ∃ q : Nat, e51 = (q : Int) := ⟨(e51).toNat, by omega⟩
  have s53 := sc_b (xs i52)
  refine wr_sc (a := e51) (f := i52) (nx := 1216) (r1 := 0) (r2 := 0) (r3 := 0) rfl (by omega) (by omega) hL ?_
  refine wi_aload_n (i := 3) (x := 259) (nx := 1217) (r1 := 0) (r2 := 0) (r3 := 0) rfl rfl ?_
  refine wi_S (rest := []) (as := [.ref 0, vi ((xs i52).toInt), .ref 259]) (nx := 1220) (r1 := 21) (r2 := 19) (r3 := 0) rfl rfl rfl (of_decide_eq_true rfl) rfl rfl (of_decide_eq_true rfl) (of_decide_eq_true rfl) ?_
  refine wi_aload_n (i := 2) (x := 259) (nx := 1) (r1 := 0) (r2 := 0) (r3 := 0) rfl rfl ?_
  refine wi_iconst (n := 0) (nx := 2) (r1 := 0) (r2 := 0) (r3 := 0) rfl ?_
  refine wi_aload_n (i := 0) (x := 0) (nx := 3) (r1 := 0) (r2 := 0) (r3 := 0) rfl rfl ?_
  refine wi_iload_n (i := 1) (e := (xs i52).toInt) (nx := 4) (r1 := 0) (r2 := 0) (r3 := 0) rfl rfl ?_
  refine wr_V (k0 := 0) (rest := [vi 0, .ref 259]) (as := [.ref 0, vi ((xs i52).toInt)]) (nx := 7) (r1 := 85) (r2 := 1) (r3 := 0) rfl rfl rfl (of_decide_eq_true rfl) rfl rfl (by decide) rfl rfl (of_decide_eq_true rfl) (of_decide_eq_true rfl) ?_
  refine ct_85_0 hcr hr  g ((xs i52).toInt) (by omega)  (fun h54 z55 g54 u54 (fz55 : -2147483648 ≤ z55 ∧ z55 ≤ 2147483647) => ?_) (fun h54 g54 u54 => ?_)
  ·
    refine wk_i ?_
    refine wi_i2l (nx := 8) (r1 := 0) (r2 := 0) (r3 := 0) rfl (by omega) ?_
    refine wr_ls (k0 := 259) (a := 0) (f := 0) (x := z55) (bl := -9223372036854775808) (bh := 9223372036854775807) (nx := 9) (r1 := 0) (r2 := 0) (r3 := 0) rfl (by decide) rfl (by omega) (by omega) (by decide) g54 rfl (by omega) (fun h56 g56 w56 u56 => ?_)
    refine wi_goto (nx := 12) (r1 := 15) (r2 := 0) (r3 := 0) rfl ?_
    refine wi_iconst (n := 0) (nx := 16) (r1 := 0) (r2 := 0) (r3 := 0) rfl ?_
    refine wi_ireturn (nx := 17) (r1 := 0) (r2 := 0) (r3 := 0) rfl rfl ?_
    refine wk_i ?_
    refine wi_istore (i := 5) (e := 0) (lo2 := [(5, vi 0), (0, .ref 1000000), (1, .ref 0), (2, .ref 236), (3, .ref 259), (4, vi i)]) (nx := 1222) (r1 := 0) (r2 := 0) (r3 := 0) rfl rfl ?_
    refine wi_aload_n (i := 2) (x := 236) (nx := 1223) (r1 := 0) (r2 := 0) (r3 := 0) rfl rfl ?_
    refine wi_aload_n (i := 0) (x := 1000000) (nx := 1224) (r1 := 0) (r2 := 0) (r3 := 0) rfl rfl ?_
    refine wi_iload (i := 4) (e := i) (nx := 1226) (r1 := 0) (r2 := 0) (r3 := 0) rfl rfl ?_
    refine wi_iconst (n := 1) (nx := 1227) (r1 := 0) (r2 := 0) (r3 := 0) rfl ?_
    refine wr_add (nx := 1228) (r1 := 0) (r2 := 0) (r3 := 0) rfl (fun e57 (fe57 : e57 = i + 1) => ?_)
    refine wr_sc (a := e57) (f := i52) (nx := 1229) (r1 := 0) (r2 := 0) (r3 := 0) rfl (by omega) (by omega) hL ?_
    refine wr_V (k0 := 236) (rest := []) (as := [.ref 236, vi ((xs i52).toInt)]) (nx := 1232) (r1 := 296) (r2 := 1) (r3 := 11) rfl rfl rfl (of_decide_eq_true rfl) rfl rfl (by decide) rfl rfl (of_decide_eq_true rfl) (of_decide_eq_true rfl) ?_
    have e59 : h56 238 98 = h 238 98 := ((u56 238 98 rfl).trans (u54 238 98 rfl))
    have e60 : h56 238 99 = h 238 99 := ((u56 238 99 rfl).trans (u54 238 99 rfl))
    have e61 : h56 238 100 = h 238 100 := ((u56 238 100 rfl).trans (u54 238 100 rfl))
    have e62 : h56 238 101 = h 238 101 := ((u56 238 101 rfl).trans (u54 238 101 rfl))
    have e63 : h56 238 102 = h 238 102 := ((u56 238 102 rfl).trans (u54 238 102 rfl))
    have e64 : h56 238 106 = h 238 106 := ((u56 238 106 rfl).trans (u54 238 106 rfl))
    have e65 : h56 238 73 = h 238 73 := ((u56 238 73 rfl).trans (u54 238 73 rfl))
    have e66 : h56 238 2 = h 238 2 := ((u56 238 2 rfl).trans (u54 238 2 rfl))
    have e67 : h56 238 119 = h 238 119 := ((u56 238 119 rfl).trans (u54 238 119 rfl))
    have e68 : h56 238 67 = h 238 67 := ((u56 238 67 rfl).trans (u54 238 67 rfl))
    have e69 : h56 238 69 = h 238 69 := ((u56 238 69 rfl).trans (u54 238 69 rfl))
    have e70 : h56 238 5 = h 238 5 := ((u56 238 5 rfl).trans (u54 238 5 rfl))
    refine ct_296_236 hcr  g56 ((xs i52).toInt) (by omega) (show (h56 238 98) + (h56 238 99) + (h56 238 100) + (h56 238 101) + (h56 238 102) + (h56 238 106) = (h56 238 73) by omega) (show (h56 238 73) ≤ (h56 238 2) by omega) (show (h56 238 119) ≤ (h56 238 67) by omega) (show (h56 238 69) ≤ (h56 238 5) by omega) (show (h56 238 2) ≤ 12 * (h56 238 5) by omega) (fun h58 z71 g58 u58 (fz71 : -1 ≤ z71 ∧ z71 ≤ 300) (p58_0 : (h58 238 98) + (h58 238 99) + (h58 238 100) + (h58 238 101) + (h58 238 102) + (h58 238 106) = (h58 238 73)) (p58_1 : (h58 238 73) ≤ (h58 238 2)) (p58_2 : (h58 238 119) ≤ (h58 238 67)) (p58_3 : (h58 238 69) ≤ (h58 238 5)) (p58_4 : (h58 238 2) ≤ 12 * (h58 238 5)) y58_0 => ?_)
    have b72 := gi_b (lo := 0) (hi := 6) g58 238 98 rfl
    have b73 := gi_b (lo := 0) (hi := 6) g58 238 99 rfl
    have b74 := gi_b (lo := 0) (hi := 6) g58 238 100 rfl
    have b75 := gi_b (lo := 0) (hi := 6) g58 238 101 rfl
    have b76 := gi_b (lo := 0) (hi := 3) g58 238 102 rfl
    have b77 := gi_b (lo := 0) (hi := 12) g58 238 106 rfl
    have b78 := gi_b (lo := 0) (hi := 12) g58 238 73 rfl
    have e79 : h58 238 2 = h 238 2 := ((y58_0 2 (by decide)).trans ((u56 238 2 rfl).trans (u54 238 2 rfl)))
    have b80 := gi_b (lo := 0) (hi := 9999) g58 238 119 rfl
    have b81 := gi_b (lo := 0) (hi := 9999) g58 238 67 rfl
    have b82 := gi_b (lo := 0) (hi := 9) g58 238 69 rfl
    have e83 : h58 238 5 = h 238 5 := ((y58_0 5 (by decide)).trans ((u56 238 5 rfl).trans (u54 238 5 rfl)))
    refine wk_i ?_
    refine wi_istore (i := 6) (e := z71) (lo2 := [(6, vi z71), (5, vi 0), (0, .ref 1000000), (1, .ref 0), (2, .ref 236), (3, .ref 259), (4, vi i)]) (nx := 1234) (r1 := 0) (r2 := 0) (r3 := 0) rfl rfl ?_
    refine wi_goto (nx := 1237) (r1 := 1529) (r2 := 0) (r3 := 0) rfl ?_
    refine wp.lo (lo := [(0, .ref 1000000), (1, .ref 0), (2, .ref 236), (3, .ref 259), (4, vi i)]) ⟨rfl, rfl, rfl, rfl, rfl, trivial⟩ rfl ?_
    have e84 : h58 241 98 = h 241 98 := ((u58 241 98 rfl).trans ((u56 241 98 rfl).trans (u54 241 98 rfl)))
    have e85 : h58 241 99 = h 241 99 := ((u58 241 99 rfl).trans ((u56 241 99 rfl).trans (u54 241 99 rfl)))
    have e86 : h58 241 100 = h 241 100 := ((u58 241 100 rfl).trans ((u56 241 100 rfl).trans (u54 241 100 rfl)))
    have e87 : h58 241 101 = h 241 101 := ((u58 241 101 rfl).trans ((u56 241 101 rfl).trans (u54 241 101 rfl)))
    have e88 : h58 241 102 = h 241 102 := ((u58 241 102 rfl).trans ((u56 241 102 rfl).trans (u54 241 102 rfl)))
    have e89 : h58 241 106 = h 241 106 := ((u58 241 106 rfl).trans ((u56 241 106 rfl).trans (u54 241 106 rfl)))
    have e90 : h58 241 73 = h 241 73 := ((u58 241 73 rfl).trans ((u56 241 73 rfl).trans (u54 241 73 rfl)))
    have e91 : h58 241 2 = h 241 2 := ((u58 241 2 rfl).trans ((u56 241 2 rfl).trans (u54 241 2 rfl)))
    have e92 : h58 241 119 = h 241 119 := ((u58 241 119 rfl).trans ((u56 241 119 rfl).trans (u54 241 119 rfl)))
    have e93 : h58 241 67 = h 241 67 := ((u58 241 67 rfl).trans ((u56 241 67 rfl).trans (u54 241 67 rfl)))
    have e94 : h58 241 69 = h 241 69 := ((u58 241 69 rfl).trans ((u56 241 69 rfl).trans (u54 241 69 rfl)))
    have e95 : h58 241 5 = h 241 5 := ((u58 241 5 rfl).trans ((u56 241 5 rfl).trans (u54 241 5 rfl)))
    have e96 : h58 1 1 = h 1 1 := ((u58 1 1 rfl).trans ((u56 1 1 rfl).trans (u54 1 1 rfl)))
    have e97 : h58 236 2 = h 236 2 := ((u58 236 2 rfl).trans ((u56 236 2 rfl).trans (u54 236 2 rfl)))
    have e98 : h58 1 2 = h 1 2 := ((u58 1 2 rfl).trans ((u56 1 2 rfl).trans (u54 1 2 rfl)))
    have e99 : h58 236 10 = h 236 10 := ((u58 236 10 rfl).trans ((u56 236 10 rfl).trans (u54 236 10 rfl)))
    have e100 : h58 1 3 = h 1 3 := ((u58 1 3 rfl).trans ((u56 1 3 rfl).trans (u54 1 3 rfl)))
    have e101 : h58 236 11 = h 236 11 := ((u58 236 11 rfl).trans ((u56 236 11 rfl).trans (u54 236 11 rfl)))
    have gp102 := GPH.fr u54 rfl gp0
    have gp103 := GPH.fr u56 rfl gp102
    have gp104 := GPH.fr u58 rfl gp103
    have b105 := gi_b (lo := 0) (hi := 5) g 241 0 rfl
    have b106 := gi_b (lo := 0) (hi := 4) g 241 1 rfl
    have gs107 := GPS.fr u54 rfl gs0
    have gs108 := GPS.fr u56 rfl gs107
    have gs109 := GPS.kept u58 rfl y58_0 gs108
    have e110 : h58 0 12 = h 0 12 := ((u58 0 12 rfl).trans ((u56 0 12 rfl).trans (u54 0 12 rfl)))
    have e111 : h58 236 21 = h 236 21 := ((u58 236 21 rfl).trans ((u56 236 21 rfl).trans (u54 236 21 rfl)))
    exact k h58 b c ⟨g58, (show h58 1 1 = h58 236 2 by omega), (RS.i0 (f := h58 238) (by refine ⟨?_, ?_, ?_, ?_, ?_⟩ <;> omega)), (RS.i0 (f := h58 241) (by refine ⟨?_, ?_, ?_, ?_, ?_⟩ <;> omega)), gp104, (BRh.keep br0 (fun i => ((u58 2 i (fn_a (by decide) (fn_a (by decide) (fn_a (by decide) (fn_a (by decide) fn_0))))).trans ((u56 2 i (fn_a (by omega) fn_0)).trans (u54 2 i (fn_a (by decide) fn_0))))) (fun i => ((u58 237 i (fn_a (by decide) (fn_a (by decide) (fn_a (by decide) (fn_a (by decide) fn_0))))).trans ((u56 237 i (fn_a (by omega) fn_0)).trans (u54 237 i (fn_a (by decide) fn_0))))) (by omega)), (show h58 1 2 = h58 236 10 by omega), (show h58 1 3 = h58 236 11 by omega), (SVx.keep sv0 (by omega) (fun i _ => ((u58 3 i (fn_a (by decide) (fn_a (by decide) (fn_a (by decide) (fn_a (by decide) fn_0))))).trans ((u56 3 i (fn_a (by omega) fn_0)).trans (u54 3 i (fn_a (by decide) fn_0))))) (fun i _ => ((u58 5 i (fn_a (by decide) (fn_a (by decide) (fn_a (by decide) (fn_a (by decide) fn_0))))).trans ((u56 5 i (fn_a (by omega) fn_0)).trans (u54 5 i (fn_a (by decide) fn_0))))) (fun i _ => ((u58 6 i (fn_a (by decide) (fn_a (by decide) (fn_a (by decide) (fn_a (by decide) fn_0))))).trans ((u56 6 i (fn_a (by omega) fn_0)).trans (u54 6 i (fn_a (by decide) fn_0))))) (fun i _ => ((u58 8 i (fn_a (by decide) (fn_a (by decide) (fn_a (by decide) (fn_a (by decide) fn_0))))).trans ((u56 8 i (fn_a (by omega) fn_0)).trans (u54 8 i (fn_a (by decide) fn_0))))) (fun i _ => ((y58_0 i (by omega)).trans ((u56 238 i (fn_a (by omega) fn_0)).trans (u54 238 i (fn_a (by decide) fn_0)))))), (show h58 0 12 = h58 236 21 by omega), (fun e => (SVx.keep (ss0 (by omega)) (by omega) (fun i _ => ((u58 210 i (fn_a (by decide) (fn_a (by decide) (fn_a (by decide) (fn_a (by decide) fn_0))))).trans ((u56 210 i (fn_a (by omega) fn_0)).trans (u54 210 i (fn_a (by decide) fn_0))))) (fun i _ => ((u58 212 i (fn_a (by decide) (fn_a (by decide) (fn_a (by decide) (fn_a (by decide) fn_0))))).trans ((u56 212 i (fn_a (by omega) fn_0)).trans (u54 212 i (fn_a (by decide) fn_0))))) (fun i _ => ((u58 213 i (fn_a (by decide) (fn_a (by decide) (fn_a (by decide) (fn_a (by decide) fn_0))))).trans ((u56 213 i (fn_a (by omega) fn_0)).trans (u54 213 i (fn_a (by decide) fn_0))))) (fun i _ => ((u58 215 i (fn_a (by decide) (fn_a (by decide) (fn_a (by decide) (fn_a (by decide) fn_0))))).trans ((u56 215 i (fn_a (by omega) fn_0)).trans (u54 215 i (fn_a (by decide) fn_0))))) (fun i _ => ((u58 241 i (fn_a (by decide) (fn_a (by decide) (fn_a (by decide) (fn_a (by decide) fn_0))))).trans ((u56 241 i (fn_a (by omega) fn_0)).trans (u54 241 i (fn_a (by decide) fn_0))))))), gs109⟩ (by omega) (by omega)
  ·
    refine wk_h 12 (by decide) rfl ?_
    refine wr_astx (i := 3) (lo2 := [(3, .retAddr 0), (0, .ref 0), (1, vi ((xs i52).toInt)), (2, .ref 259)]) (nx := 13) (r1 := 0) (r2 := 0) (r3 := 0) rfl rfl ?_
    refine wi_iconst (n := 1) (nx := 14) (r1 := 0) (r2 := 0) (r3 := 0) rfl ?_
    refine wi_ireturn (nx := 15) (r1 := 0) (r2 := 0) (r3 := 0) rfl rfl ?_
    refine wk_i ?_
    refine wi_istore (i := 5) (e := 1) (lo2 := [(5, vi 1), (0, .ref 1000000), (1, .ref 0), (2, .ref 236), (3, .ref 259), (4, vi i)]) (nx := 1222) (r1 := 0) (r2 := 0) (r3 := 0) rfl rfl ?_
    refine wi_aload_n (i := 2) (x := 236) (nx := 1223) (r1 := 0) (r2 := 0) (r3 := 0) rfl rfl ?_
    refine wi_aload_n (i := 0) (x := 1000000) (nx := 1224) (r1 := 0) (r2 := 0) (r3 := 0) rfl rfl ?_
    refine wi_iload (i := 4) (e := i) (nx := 1226) (r1 := 0) (r2 := 0) (r3 := 0) rfl rfl ?_
    refine wi_iconst (n := 1) (nx := 1227) (r1 := 0) (r2 := 0) (r3 := 0) rfl ?_
    refine wr_add (nx := 1228) (r1 := 0) (r2 := 0) (r3 := 0) rfl (fun e56 (fe56 : e56 = i + 1) => ?_)
    refine wr_sc (a := e56) (f := i52) (nx := 1229) (r1 := 0) (r2 := 0) (r3 := 0) rfl (by omega) (by omega) hL ?_
    refine wr_V (k0 := 236) (rest := []) (as := [.ref 236, vi ((xs i52).toInt)]) (nx := 1232) (r1 := 296) (r2 := 1) (r3 := 11) rfl rfl rfl (of_decide_eq_true rfl) rfl rfl (by decide) rfl rfl (of_decide_eq_true rfl) (of_decide_eq_true rfl) ?_
    have e58 : h54 238 98 = h 238 98 := (u54 238 98 rfl)
    have e59 : h54 238 99 = h 238 99 := (u54 238 99 rfl)
    have e60 : h54 238 100 = h 238 100 := (u54 238 100 rfl)
    have e61 : h54 238 101 = h 238 101 := (u54 238 101 rfl)
    have e62 : h54 238 102 = h 238 102 := (u54 238 102 rfl)
    have e63 : h54 238 106 = h 238 106 := (u54 238 106 rfl)
    have e64 : h54 238 73 = h 238 73 := (u54 238 73 rfl)
    have e65 : h54 238 2 = h 238 2 := (u54 238 2 rfl)
    have e66 : h54 238 119 = h 238 119 := (u54 238 119 rfl)
    have e67 : h54 238 67 = h 238 67 := (u54 238 67 rfl)
    have e68 : h54 238 69 = h 238 69 := (u54 238 69 rfl)
    have e69 : h54 238 5 = h 238 5 := (u54 238 5 rfl)
    refine ct_296_236 hcr  g54 ((xs i52).toInt) (by omega) (show (h54 238 98) + (h54 238 99) + (h54 238 100) + (h54 238 101) + (h54 238 102) + (h54 238 106) = (h54 238 73) by omega) (show (h54 238 73) ≤ (h54 238 2) by omega) (show (h54 238 119) ≤ (h54 238 67) by omega) (show (h54 238 69) ≤ (h54 238 5) by omega) (show (h54 238 2) ≤ 12 * (h54 238 5) by omega) (fun h57 z70 g57 u57 (fz70 : -1 ≤ z70 ∧ z70 ≤ 300) (p57_0 : (h57 238 98) + (h57 238 99) + (h57 238 100) + (h57 238 101) + (h57 238 102) + (h57 238 106) = (h57 238 73)) (p57_1 : (h57 238 73) ≤ (h57 238 2)) (p57_2 : (h57 238 119) ≤ (h57 238 67)) (p57_3 : (h57 238 69) ≤ (h57 238 5)) (p57_4 : (h57 238 2) ≤ 12 * (h57 238 5)) y57_0 => ?_)
    have b71 := gi_b (lo := 0) (hi := 6) g57 238 98 rfl
    have b72 := gi_b (lo := 0) (hi := 6) g57 238 99 rfl
    have b73 := gi_b (lo := 0) (hi := 6) g57 238 100 rfl
    have b74 := gi_b (lo := 0) (hi := 6) g57 238 101 rfl
    have b75 := gi_b (lo := 0) (hi := 3) g57 238 102 rfl
    have b76 := gi_b (lo := 0) (hi := 12) g57 238 106 rfl
    have b77 := gi_b (lo := 0) (hi := 12) g57 238 73 rfl
    have e78 : h57 238 2 = h 238 2 := ((y57_0 2 (by decide)).trans (u54 238 2 rfl))
    have b79 := gi_b (lo := 0) (hi := 9999) g57 238 119 rfl
    have b80 := gi_b (lo := 0) (hi := 9999) g57 238 67 rfl
    have b81 := gi_b (lo := 0) (hi := 9) g57 238 69 rfl
    have e82 : h57 238 5 = h 238 5 := ((y57_0 5 (by decide)).trans (u54 238 5 rfl))
    refine wk_i ?_
    refine wi_istore (i := 6) (e := z70) (lo2 := [(6, vi z70), (5, vi 1), (0, .ref 1000000), (1, .ref 0), (2, .ref 236), (3, .ref 259), (4, vi i)]) (nx := 1234) (r1 := 0) (r2 := 0) (r3 := 0) rfl rfl ?_
    refine wi_goto (nx := 1237) (r1 := 1529) (r2 := 0) (r3 := 0) rfl ?_
    refine wp.lo (lo := [(0, .ref 1000000), (1, .ref 0), (2, .ref 236), (3, .ref 259), (4, vi i)]) ⟨rfl, rfl, rfl, rfl, rfl, trivial⟩ rfl ?_
    have e83 : h57 241 98 = h 241 98 := ((u57 241 98 rfl).trans (u54 241 98 rfl))
    have e84 : h57 241 99 = h 241 99 := ((u57 241 99 rfl).trans (u54 241 99 rfl))
    have e85 : h57 241 100 = h 241 100 := ((u57 241 100 rfl).trans (u54 241 100 rfl))
    have e86 : h57 241 101 = h 241 101 := ((u57 241 101 rfl).trans (u54 241 101 rfl))
    have e87 : h57 241 102 = h 241 102 := ((u57 241 102 rfl).trans (u54 241 102 rfl))
    have e88 : h57 241 106 = h 241 106 := ((u57 241 106 rfl).trans (u54 241 106 rfl))
    have e89 : h57 241 73 = h 241 73 := ((u57 241 73 rfl).trans (u54 241 73 rfl))
    have e90 : h57 241 2 = h 241 2 := ((u57 241 2 rfl).trans (u54 241 2 rfl))
    have e91 : h57 241 119 = h 241 119 := ((u57 241 119 rfl).trans (u54 241 119 rfl))
    have e92 : h57 241 67 = h 241 67 := ((u57 241 67 rfl).trans (u54 241 67 rfl))
    have e93 : h57 241 69 = h 241 69 := ((u57 241 69 rfl).trans (u54 241 69 rfl))
    have e94 : h57 241 5 = h 241 5 := ((u57 241 5 rfl).trans (u54 241 5 rfl))
    have e95 : h57 1 1 = h 1 1 := ((u57 1 1 rfl).trans (u54 1 1 rfl))
    have e96 : h57 236 2 = h 236 2 := ((u57 236 2 rfl).trans (u54 236 2 rfl))
    have e97 : h57 1 2 = h 1 2 := ((u57 1 2 rfl).trans (u54 1 2 rfl))
    have e98 : h57 236 10 = h 236 10 := ((u57 236 10 rfl).trans (u54 236 10 rfl))
    have e99 : h57 1 3 = h 1 3 := ((u57 1 3 rfl).trans (u54 1 3 rfl))
    have e100 : h57 236 11 = h 236 11 := ((u57 236 11 rfl).trans (u54 236 11 rfl))
    have gp101 := GPH.fr u54 rfl gp0
    have gp102 := GPH.fr u57 rfl gp101
    have b103 := gi_b (lo := 0) (hi := 5) g 241 0 rfl
    have b104 := gi_b (lo := 0) (hi := 4) g 241 1 rfl
    have gs105 := GPS.fr u54 rfl gs0
    have gs106 := GPS.kept u57 rfl y57_0 gs105
    have e107 : h57 0 12 = h 0 12 := ((u57 0 12 rfl).trans (u54 0 12 rfl))
    have e108 : h57 236 21 = h 236 21 := ((u57 236 21 rfl).trans (u54 236 21 rfl))
    exact k h57 (b - 1) (c - 6) ⟨g57, (show h57 1 1 = h57 236 2 by omega), (RS.i0 (f := h57 238) (by refine ⟨?_, ?_, ?_, ?_, ?_⟩ <;> omega)), (RS.i0 (f := h57 241) (by refine ⟨?_, ?_, ?_, ?_, ?_⟩ <;> omega)), gp102, (BRh.keep br0 (fun i => ((u57 2 i (fn_a (by decide) (fn_a (by decide) (fn_a (by decide) (fn_a (by decide) fn_0))))).trans (u54 2 i (fn_a (by decide) fn_0)))) (fun i => ((u57 237 i (fn_a (by decide) (fn_a (by decide) (fn_a (by decide) (fn_a (by decide) fn_0))))).trans (u54 237 i (fn_a (by decide) fn_0)))) (by omega)), (show h57 1 2 = h57 236 10 by omega), (show h57 1 3 = h57 236 11 by omega), (SVx.keep sv0 (by omega) (fun i _ => ((u57 3 i (fn_a (by decide) (fn_a (by decide) (fn_a (by decide) (fn_a (by decide) fn_0))))).trans (u54 3 i (fn_a (by decide) fn_0)))) (fun i _ => ((u57 5 i (fn_a (by decide) (fn_a (by decide) (fn_a (by decide) (fn_a (by decide) fn_0))))).trans (u54 5 i (fn_a (by decide) fn_0)))) (fun i _ => ((u57 6 i (fn_a (by decide) (fn_a (by decide) (fn_a (by decide) (fn_a (by decide) fn_0))))).trans (u54 6 i (fn_a (by decide) fn_0)))) (fun i _ => ((u57 8 i (fn_a (by decide) (fn_a (by decide) (fn_a (by decide) (fn_a (by decide) fn_0))))).trans (u54 8 i (fn_a (by decide) fn_0)))) (fun i _ => ((y57_0 i (by omega)).trans (u54 238 i (fn_a (by decide) fn_0))))), (show h57 0 12 = h57 236 21 by omega), (fun e => (SVx.keep (ss0 (by omega)) (by omega) (fun i _ => ((u57 210 i (fn_a (by decide) (fn_a (by decide) (fn_a (by decide) (fn_a (by decide) fn_0))))).trans (u54 210 i (fn_a (by decide) fn_0)))) (fun i _ => ((u57 212 i (fn_a (by decide) (fn_a (by decide) (fn_a (by decide) (fn_a (by decide) fn_0))))).trans (u54 212 i (fn_a (by decide) fn_0)))) (fun i _ => ((u57 213 i (fn_a (by decide) (fn_a (by decide) (fn_a (by decide) (fn_a (by decide) fn_0))))).trans (u54 213 i (fn_a (by decide) fn_0)))) (fun i _ => ((u57 215 i (fn_a (by decide) (fn_a (by decide) (fn_a (by decide) (fn_a (by decide) fn_0))))).trans (u54 215 i (fn_a (by decide) fn_0)))) (fun i _ => ((u57 241 i (fn_a (by decide) (fn_a (by decide) (fn_a (by decide) (fn_a (by decide) fn_0))))).trans (u54 241 i (fn_a (by decide) fn_0)))))), gs106⟩ (by omega) (by omega)
-- the law, case at 1237
set_option maxRecDepth 100000 in
set_option maxHeartbeats 100000000 in
theorem lc_1237 {L : Nat} {xs : Nat → Int32} {d b c : Nat} {h : hp} {cr : Nat → Nat → Option Nat} {Q : hp_Q} (hcr : CR cr) (hL : L ≤ 3072) (hr : 1 ≤ b ∧ 6 ≤ c) (I : LI h) (i : Int) (hi : 0 ≤ i ∧ i + 6 ≤ L) (k : ∀ (h2 : hp) (b2 c2 : Nat), LI h2 → b ≤ b2 + 1 → c ≤ c2 + 6 → wp (md_xa (L, xs)) (d + 107) 0 (1529, [(0, .ref 1000000), (1, .ref 0), (2, .ref 236), (3, .ref 259), (4, vi i)], [], hp_w h2 cr, b2, c2) Q) : wp (md_xa (L, xs)) (d + 107) 0 (1237, [(0, .ref 1000000), (1, .ref 0), (2, .ref 236), (3, .ref 259), (4, vi i)], [], hp_w h cr, b, c) Q := by
  obtain ⟨g, i11, r238, r241, gp0, br0, er2, er3, sv0, sf0, ss0, gs0⟩ := I
  have r238e := r238.e0
  have r241e := r241.e0
  obtain ⟨⟨se0, se1, se2, se3, se4, se5, se6, se7, se8, se9⟩, -⟩ := id sv0
  have b1 := gi_b (lo := 0) (hi := 5) g 3 0 rfl
  have b2 := gi_b (lo := 0) (hi := 5) g 238 0 rfl
  have b3 := gi_b (lo := 0) (hi := 4) g 3 1 rfl
  have b4 := gi_b (lo := 0) (hi := 4) g 238 1 rfl
  have b5 := gi_b (lo := 0) (hi := 12) g 3 2 rfl
  have b6 := gi_b (lo := 0) (hi := 12) g 238 2 rfl
  have b7 := gi_b (lo := -2147483648) (hi := 2147483647) g 3 3 rfl
  have b8 := gi_b (lo := 0) (hi := 999) g 238 3 rfl
  have b9 := gi_b (lo := -2147483648) (hi := 2147483647) g 3 4 rfl
  have b10 := gi_b (lo := 0) (hi := 999) g 238 4 rfl
  have b11 := gi_b (lo := -2147483648) (hi := 2147483647) g 3 5 rfl
  have b12 := gi_b (lo := 0) (hi := 9) g 238 5 rfl
  have b13 := gi_b (lo := -2147483648) (hi := 2147483647) g 3 6 rfl
  have b14 := gi_b (lo := 0) (hi := 999) g 238 6 rfl
  have b15 := gi_b (lo := -2147483648) (hi := 2147483647) g 3 7 rfl
  have b16 := gi_b (lo := 0) (hi := 3) g 238 7 rfl
  have b17 := gi_b (lo := -2147483648) (hi := 2147483647) g 3 8 rfl
  have b18 := gi_b (lo := 0) (hi := 999) g 238 8 rfl
  have b19 := gi_b (lo := -2147483648) (hi := 2147483647) g 3 9 rfl
  have b20 := gi_b (lo := 0) (hi := 999) g 238 9 rfl
  have b21 := gi_b (lo := 0) (hi := 1) g 0 12 rfl
  have b22 := gi_b (lo := 0) (hi := 1) g 236 21 rfl
  have bl_ := gi_b (lo := 0) (hi := 800) g 1 1 rfl
  have tb0 : BufC (h 2) (h 1 1) h := ⟨fun _ => rfl, rfl, by omega, by omega⟩
  have b23 := gi_b (lo := 0) (hi := 6) g 238 98 rfl
  have b24 := gi_b (lo := 0) (hi := 6) g 238 99 rfl
  have b25 := gi_b (lo := 0) (hi := 6) g 238 100 rfl
  have b26 := gi_b (lo := 0) (hi := 6) g 238 101 rfl
  have b27 := gi_b (lo := 0) (hi := 3) g 238 102 rfl
  have b28 := gi_b (lo := 0) (hi := 12) g 238 106 rfl
  have b29 := gi_b (lo := 0) (hi := 12) g 238 73 rfl
  have b30 := gi_b (lo := 0) (hi := 9999) g 238 119 rfl
  have b31 := gi_b (lo := 0) (hi := 9999) g 238 67 rfl
  have b32 := gi_b (lo := 0) (hi := 9) g 238 69 rfl
  have b33 := gi_b (lo := 0) (hi := 6) g 241 98 rfl
  have b34 := gi_b (lo := 0) (hi := 6) g 241 99 rfl
  have b35 := gi_b (lo := 0) (hi := 6) g 241 100 rfl
  have b36 := gi_b (lo := 0) (hi := 6) g 241 101 rfl
  have b37 := gi_b (lo := 0) (hi := 3) g 241 102 rfl
  have b38 := gi_b (lo := 0) (hi := 12) g 241 106 rfl
  have b39 := gi_b (lo := 0) (hi := 12) g 241 73 rfl
  have b40 := gi_b (lo := 0) (hi := 12) g 241 2 rfl
  have b41 := gi_b (lo := 0) (hi := 9999) g 241 119 rfl
  have b42 := gi_b (lo := 0) (hi := 9999) g 241 67 rfl
  have b43 := gi_b (lo := 0) (hi := 9) g 241 69 rfl
  have b44 := gi_b (lo := 0) (hi := 9) g 241 5 rfl
  have b45 := gi_b (lo := 0) (hi := 800) g 1 1 rfl
  have b46 := gi_b (lo := 0) (hi := 800) g 236 2 rfl
  have b47 := gi_b (lo := -2147483648) (hi := 2147483647) g 1 2 rfl
  have b48 := gi_b (lo := -2147483648) (hi := 2147483647) g 236 10 rfl
  have b49 := gi_b (lo := -2147483648) (hi := 2147483647) g 1 3 rfl
  have b50 := gi_b (lo := -2147483648) (hi := 2147483647) g 236 11 rfl
  refine wi_aload_n (i := 1) (x := 0) (nx := 1238) (r1 := 0) (r2 := 0) (r3 := 0) rfl rfl ?_
  refine wi_aload_n (i := 0) (x := 1000000) (nx := 1239) (r1 := 0) (r2 := 0) (r3 := 0) rfl rfl ?_
  refine wi_iload (i := 4) (e := i) (nx := 1241) (r1 := 0) (r2 := 0) (r3 := 0) rfl rfl ?_
  refine wi_iconst (n := 1) (nx := 1242) (r1 := 0) (r2 := 0) (r3 := 0) rfl ?_
  refine wr_add (nx := 1243) (r1 := 0) (r2 := 0) (r3 := 0) rfl (fun e51 (fe51 : e51 = i + 1) => ?_)
  obtain ⟨i52, ei52⟩ : ∃ q : Nat, e51 = (q : Int) := ⟨(e51).toNat, by omega⟩
  have s53 := sc_b (xs i52)
  refine wr_sc (a := e51) (f := i52) (nx := 1244) (r1 := 0) (r2 := 0) (r3 := 0) rfl (by omega) (by omega) hL ?_
  refine wi_aload_n (i := 3) (x := 259) (nx := 1245) (r1 := 0) (r2 := 0) (r3 := 0) rfl rfl ?_
  refine wi_S (rest := []) (as := [.ref 0, vi ((xs i52).toInt), .ref 259]) (nx := 1248) (r1 := 22) (r2 := 19) (r3 := 0) rfl rfl rfl (of_decide_eq_true rfl) rfl rfl (of_decide_eq_true rfl) (of_decide_eq_true rfl) ?_
  refine wi_aload_n (i := 2) (x := 259) (nx := 1) (r1 := 0) (r2 := 0) (r3 := 0) rfl rfl ?_
  refine wi_iconst (n := 0) (nx := 2) (r1 := 0) (r2 := 0) (r3 := 0) rfl ?_
  refine wi_aload_n (i := 0) (x := 0) (nx := 3) (r1 := 0) (r2 := 0) (r3 := 0) rfl rfl ?_
  refine wi_iload_n (i := 1) (e := (xs i52).toInt) (nx := 4) (r1 := 0) (r2 := 0) (r3 := 0) rfl rfl ?_
  refine wr_V (k0 := 0) (rest := [vi 0, .ref 259]) (as := [.ref 0, vi ((xs i52).toInt)]) (nx := 7) (r1 := 86) (r2 := 1) (r3 := 0) rfl rfl rfl (of_decide_eq_true rfl) rfl rfl (by decide) rfl rfl (of_decide_eq_true rfl) (of_decide_eq_true rfl) ?_
  refine ct_86_0 hcr hr  g ((xs i52).toInt) (by omega)  (fun z55  (fz55 : -1 ≤ z55 ∧ z55 ≤ 3) => ?_) ?_
  ·
    refine wk_i ?_
    refine wi_i2l (nx := 8) (r1 := 0) (r2 := 0) (r3 := 0) rfl (by omega) ?_
    refine wr_ls (k0 := 259) (a := 0) (f := 0) (x := z55) (bl := -9223372036854775808) (bh := 9223372036854775807) (nx := 9) (r1 := 0) (r2 := 0) (r3 := 0) rfl (by decide) rfl (by omega) (by omega) (by decide) g rfl (by omega) (fun h56 g56 w56 u56 => ?_)
    refine wi_goto (nx := 12) (r1 := 15) (r2 := 0) (r3 := 0) rfl ?_
    refine wi_iconst (n := 0) (nx := 16) (r1 := 0) (r2 := 0) (r3 := 0) rfl ?_
    refine wi_ireturn (nx := 17) (r1 := 0) (r2 := 0) (r3 := 0) rfl rfl ?_
    refine wk_i ?_
    refine wi_istore (i := 5) (e := 0) (lo2 := [(5, vi 0), (0, .ref 1000000), (1, .ref 0), (2, .ref 236), (3, .ref 259), (4, vi i)]) (nx := 1250) (r1 := 0) (r2 := 0) (r3 := 0) rfl rfl ?_
    refine wi_aload_n (i := 2) (x := 236) (nx := 1251) (r1 := 0) (r2 := 0) (r3 := 0) rfl rfl ?_
    refine wi_aload_n (i := 0) (x := 1000000) (nx := 1252) (r1 := 0) (r2 := 0) (r3 := 0) rfl rfl ?_
    refine wi_iload (i := 4) (e := i) (nx := 1254) (r1 := 0) (r2 := 0) (r3 := 0) rfl rfl ?_
    refine wi_iconst (n := 1) (nx := 1255) (r1 := 0) (r2 := 0) (r3 := 0) rfl ?_
    refine wr_add (nx := 1256) (r1 := 0) (r2 := 0) (r3 := 0) rfl (fun e57 (fe57 : e57 = i + 1) => ?_)
    refine wr_sc (a := e57) (f := i52) (nx := 1257) (r1 := 0) (r2 := 0) (r3 := 0) rfl (by omega) (by omega) hL ?_
    refine wr_V (k0 := 236) (rest := []) (as := [.ref 236, vi ((xs i52).toInt)]) (nx := 1260) (r1 := 297) (r2 := 1) (r3 := 11) rfl rfl rfl (of_decide_eq_true rfl) rfl rfl (by decide) rfl rfl (of_decide_eq_true rfl) (of_decide_eq_true rfl) ?_
    refine ct_297_236 hcr  g56 ((xs i52).toInt) (by omega)  (fun h58 z59 g58 u58 (fz59 : -1 ≤ z59 ∧ z59 ≤ 3) => ?_)
    refine wk_i ?_
    refine wi_istore (i := 6) (e := z59) (lo2 := [(6, vi z59), (5, vi 0), (0, .ref 1000000), (1, .ref 0), (2, .ref 236), (3, .ref 259), (4, vi i)]) (nx := 1262) (r1 := 0) (r2 := 0) (r3 := 0) rfl rfl ?_
    refine wi_goto (nx := 1265) (r1 := 1529) (r2 := 0) (r3 := 0) rfl ?_
    refine wp.lo (lo := [(0, .ref 1000000), (1, .ref 0), (2, .ref 236), (3, .ref 259), (4, vi i)]) ⟨rfl, rfl, rfl, rfl, rfl, trivial⟩ rfl ?_
    have e60 : h58 238 98 = h 238 98 := ((u58 238 98 rfl).trans (u56 238 98 rfl))
    have e61 : h58 238 99 = h 238 99 := ((u58 238 99 rfl).trans (u56 238 99 rfl))
    have e62 : h58 238 100 = h 238 100 := ((u58 238 100 rfl).trans (u56 238 100 rfl))
    have e63 : h58 238 101 = h 238 101 := ((u58 238 101 rfl).trans (u56 238 101 rfl))
    have e64 : h58 238 102 = h 238 102 := ((u58 238 102 rfl).trans (u56 238 102 rfl))
    have e65 : h58 238 106 = h 238 106 := ((u58 238 106 rfl).trans (u56 238 106 rfl))
    have e66 : h58 238 73 = h 238 73 := ((u58 238 73 rfl).trans (u56 238 73 rfl))
    have e67 : h58 238 2 = h 238 2 := ((u58 238 2 rfl).trans (u56 238 2 rfl))
    have e68 : h58 238 119 = h 238 119 := ((u58 238 119 rfl).trans (u56 238 119 rfl))
    have e69 : h58 238 67 = h 238 67 := ((u58 238 67 rfl).trans (u56 238 67 rfl))
    have e70 : h58 238 69 = h 238 69 := ((u58 238 69 rfl).trans (u56 238 69 rfl))
    have e71 : h58 238 5 = h 238 5 := ((u58 238 5 rfl).trans (u56 238 5 rfl))
    have e72 : h58 241 98 = h 241 98 := ((u58 241 98 rfl).trans (u56 241 98 rfl))
    have e73 : h58 241 99 = h 241 99 := ((u58 241 99 rfl).trans (u56 241 99 rfl))
    have e74 : h58 241 100 = h 241 100 := ((u58 241 100 rfl).trans (u56 241 100 rfl))
    have e75 : h58 241 101 = h 241 101 := ((u58 241 101 rfl).trans (u56 241 101 rfl))
    have e76 : h58 241 102 = h 241 102 := ((u58 241 102 rfl).trans (u56 241 102 rfl))
    have e77 : h58 241 106 = h 241 106 := ((u58 241 106 rfl).trans (u56 241 106 rfl))
    have e78 : h58 241 73 = h 241 73 := ((u58 241 73 rfl).trans (u56 241 73 rfl))
    have e79 : h58 241 2 = h 241 2 := ((u58 241 2 rfl).trans (u56 241 2 rfl))
    have e80 : h58 241 119 = h 241 119 := ((u58 241 119 rfl).trans (u56 241 119 rfl))
    have e81 : h58 241 67 = h 241 67 := ((u58 241 67 rfl).trans (u56 241 67 rfl))
    have e82 : h58 241 69 = h 241 69 := ((u58 241 69 rfl).trans (u56 241 69 rfl))
    have e83 : h58 241 5 = h 241 5 := ((u58 241 5 rfl).trans (u56 241 5 rfl))
    have e84 : h58 1 1 = h 1 1 := ((u58 1 1 rfl).trans (u56 1 1 rfl))
    have e85 : h58 236 2 = h 236 2 := ((u58 236 2 rfl).trans (u56 236 2 rfl))
    have e86 : h58 1 2 = h 1 2 := ((u58 1 2 rfl).trans (u56 1 2 rfl))
    have e87 : h58 236 10 = h 236 10 := ((u58 236 10 rfl).trans (u56 236 10 rfl))
    have e88 : h58 1 3 = h 1 3 := ((u58 1 3 rfl).trans (u56 1 3 rfl))
    have e89 : h58 236 11 = h 236 11 := ((u58 236 11 rfl).trans (u56 236 11 rfl))
    have gp90 := GPH.fr u56 rfl gp0
    have gp91 := GPH.fr u58 rfl gp90
    have b92 := gi_b (lo := 0) (hi := 5) g 241 0 rfl
    have b93 := gi_b (lo := 0) (hi := 4) g 241 1 rfl
    have gs94 := GPS.fr u56 rfl gs0
    have gs95 := GPS.fr u58 rfl gs94
    have e96 : h58 0 12 = h 0 12 := ((u58 0 12 rfl).trans (u56 0 12 rfl))
    have e97 : h58 236 21 = h 236 21 := ((u58 236 21 rfl).trans (u56 236 21 rfl))
    exact k h58 b c ⟨g58, (show h58 1 1 = h58 236 2 by omega), (RS.i0 (f := h58 238) (by refine ⟨?_, ?_, ?_, ?_, ?_⟩ <;> omega)), (RS.i0 (f := h58 241) (by refine ⟨?_, ?_, ?_, ?_, ?_⟩ <;> omega)), gp91, (BRh.keep br0 (fun i => ((u58 2 i (fn_a (by decide) fn_0)).trans (u56 2 i (fn_a (by omega) fn_0)))) (fun i => ((u58 237 i (fn_a (by decide) fn_0)).trans (u56 237 i (fn_a (by omega) fn_0)))) (by omega)), (show h58 1 2 = h58 236 10 by omega), (show h58 1 3 = h58 236 11 by omega), (SVx.keep sv0 (by omega) (fun i _ => ((u58 3 i (fn_a (by decide) fn_0)).trans (u56 3 i (fn_a (by omega) fn_0)))) (fun i _ => ((u58 5 i (fn_a (by decide) fn_0)).trans (u56 5 i (fn_a (by omega) fn_0)))) (fun i _ => ((u58 6 i (fn_a (by decide) fn_0)).trans (u56 6 i (fn_a (by omega) fn_0)))) (fun i _ => ((u58 8 i (fn_a (by decide) fn_0)).trans (u56 8 i (fn_a (by omega) fn_0)))) (fun i _ => ((u58 238 i (fn_a (by decide) fn_0)).trans (u56 238 i (fn_a (by omega) fn_0))))), (show h58 0 12 = h58 236 21 by omega), (fun e => (SVx.keep (ss0 (by omega)) (by omega) (fun i _ => ((u58 210 i (fn_a (by decide) fn_0)).trans (u56 210 i (fn_a (by omega) fn_0)))) (fun i _ => ((u58 212 i (fn_a (by decide) fn_0)).trans (u56 212 i (fn_a (by omega) fn_0)))) (fun i _ => ((u58 213 i (fn_a (by decide) fn_0)).trans (u56 213 i (fn_a (by omega) fn_0)))) (fun i _ => ((u58 215 i (fn_a (by decide) fn_0)).trans (u56 215 i (fn_a (by omega) fn_0)))) (fun i _ => ((u58 241 i (fn_a (by decide) fn_0)).trans (u56 241 i (fn_a (by omega) fn_0)))))), gs95⟩ (by omega) (by omega)
  ·
    refine wk_h 12 (by decide) rfl ?_
    refine wr_astx (i := 3) (lo2 := [(3, .retAddr 0), (0, .ref 0), (1, vi ((xs i52).toInt)), (2, .ref 259)]) (nx := 13) (r1 := 0) (r2 := 0) (r3 := 0) rfl rfl ?_
    refine wi_iconst (n := 1) (nx := 14) (r1 := 0) (r2 := 0) (r3 := 0) rfl ?_
    refine wi_ireturn (nx := 15) (r1 := 0) (r2 := 0) (r3 := 0) rfl rfl ?_
    refine wk_i ?_
    refine wi_istore (i := 5) (e := 1) (lo2 := [(5, vi 1), (0, .ref 1000000), (1, .ref 0), (2, .ref 236), (3, .ref 259), (4, vi i)]) (nx := 1250) (r1 := 0) (r2 := 0) (r3 := 0) rfl rfl ?_
    refine wi_aload_n (i := 2) (x := 236) (nx := 1251) (r1 := 0) (r2 := 0) (r3 := 0) rfl rfl ?_
    refine wi_aload_n (i := 0) (x := 1000000) (nx := 1252) (r1 := 0) (r2 := 0) (r3 := 0) rfl rfl ?_
    refine wi_iload (i := 4) (e := i) (nx := 1254) (r1 := 0) (r2 := 0) (r3 := 0) rfl rfl ?_
    refine wi_iconst (n := 1) (nx := 1255) (r1 := 0) (r2 := 0) (r3 := 0) rfl ?_
    refine wr_add (nx := 1256) (r1 := 0) (r2 := 0) (r3 := 0) rfl (fun e56 (fe56 : e56 = i + 1) => ?_)
    refine wr_sc (a := e56) (f := i52) (nx := 1257) (r1 := 0) (r2 := 0) (r3 := 0) rfl (by omega) (by omega) hL ?_
    refine wr_V (k0 := 236) (rest := []) (as := [.ref 236, vi ((xs i52).toInt)]) (nx := 1260) (r1 := 297) (r2 := 1) (r3 := 11) rfl rfl rfl (of_decide_eq_true rfl) rfl rfl (by decide) rfl rfl (of_decide_eq_true rfl) (of_decide_eq_true rfl) ?_
    refine ct_297_236 hcr  g ((xs i52).toInt) (by omega)  (fun h57 z58 g57 u57 (fz58 : -1 ≤ z58 ∧ z58 ≤ 3) => ?_)
    refine wk_i ?_
    refine wi_istore (i := 6) (e := z58) (lo2 := [(6, vi z58), (5, vi 1), (0, .ref 1000000), (1, .ref 0), (2, .ref 236), (3, .ref 259), (4, vi i)]) (nx := 1262) (r1 := 0) (r2 := 0) (r3 := 0) rfl rfl ?_
    refine wi_goto (nx := 1265) (r1 := 1529) (r2 := 0) (r3 := 0) rfl ?_
    refine wp.lo (lo := [(0, .ref 1000000), (1, .ref 0), (2, .ref 236), (3, .ref 259), (4, vi i)]) ⟨rfl, rfl, rfl, rfl, rfl, trivial⟩ rfl ?_
    have e59 : h57 238 98 = h 238 98 := (u57 238 98 rfl)
    have e60 : h57 238 99 = h 238 99 := (u57 238 99 rfl)
    have e61 : h57 238 100 = h 238 100 := (u57 238 100 rfl)
    have e62 : h57 238 101 = h 238 101 := (u57 238 101 rfl)
    have e63 : h57 238 102 = h 238 102 := (u57 238 102 rfl)
    have e64 : h57 238 106 = h 238 106 := (u57 238 106 rfl)
    have e65 : h57 238 73 = h 238 73 := (u57 238 73 rfl)
    have e66 : h57 238 2 = h 238 2 := (u57 238 2 rfl)
    have e67 : h57 238 119 = h 238 119 := (u57 238 119 rfl)
    have e68 : h57 238 67 = h 238 67 := (u57 238 67 rfl)
    have e69 : h57 238 69 = h 238 69 := (u57 238 69 rfl)
    have e70 : h57 238 5 = h 238 5 := (u57 238 5 rfl)
    have e71 : h57 241 98 = h 241 98 := (u57 241 98 rfl)
    have e72 : h57 241 99 = h 241 99 := (u57 241 99 rfl)
    have e73 : h57 241 100 = h 241 100 := (u57 241 100 rfl)
    have e74 : h57 241 101 = h 241 101 := (u57 241 101 rfl)
    have e75 : h57 241 102 = h 241 102 := (u57 241 102 rfl)
    have e76 : h57 241 106 = h 241 106 := (u57 241 106 rfl)
    have e77 : h57 241 73 = h 241 73 := (u57 241 73 rfl)
    have e78 : h57 241 2 = h 241 2 := (u57 241 2 rfl)
    have e79 : h57 241 119 = h 241 119 := (u57 241 119 rfl)
    have e80 : h57 241 67 = h 241 67 := (u57 241 67 rfl)
    have e81 : h57 241 69 = h 241 69 := (u57 241 69 rfl)
    have e82 : h57 241 5 = h 241 5 := (u57 241 5 rfl)
    have e83 : h57 1 1 = h 1 1 := (u57 1 1 rfl)
    have e84 : h57 236 2 = h 236 2 := (u57 236 2 rfl)
    have e85 : h57 1 2 = h 1 2 := (u57 1 2 rfl)
    have e86 : h57 236 10 = h 236 10 := (u57 236 10 rfl)
    have e87 : h57 1 3 = h 1 3 := (u57 1 3 rfl)
    have e88 : h57 236 11 = h 236 11 := (u57 236 11 rfl)
    have gp89 := GPH.fr u57 rfl gp0
    have b90 := gi_b (lo := 0) (hi := 5) g 241 0 rfl
    have b91 := gi_b (lo := 0) (hi := 4) g 241 1 rfl
    have gs92 := GPS.fr u57 rfl gs0
    have e93 : h57 0 12 = h 0 12 := (u57 0 12 rfl)
    have e94 : h57 236 21 = h 236 21 := (u57 236 21 rfl)
    exact k h57 (b - 1) (c - 6) ⟨g57, (show h57 1 1 = h57 236 2 by omega), (RS.i0 (f := h57 238) (by refine ⟨?_, ?_, ?_, ?_, ?_⟩ <;> omega)), (RS.i0 (f := h57 241) (by refine ⟨?_, ?_, ?_, ?_, ?_⟩ <;> omega)), gp89, (BRh.keep br0 (fun i => (u57 2 i (fn_a (by decide) fn_0))) (fun i => (u57 237 i (fn_a (by decide) fn_0))) (by omega)), (show h57 1 2 = h57 236 10 by omega), (show h57 1 3 = h57 236 11 by omega), (SVx.keep sv0 (by omega) (fun i _ => (u57 3 i (fn_a (by decide) fn_0))) (fun i _ => (u57 5 i (fn_a (by decide) fn_0))) (fun i _ => (u57 6 i (fn_a (by decide) fn_0))) (fun i _ => (u57 8 i (fn_a (by decide) fn_0))) (fun i _ => (u57 238 i (fn_a (by decide) fn_0)))), (show h57 0 12 = h57 236 21 by omega), (fun e => (SVx.keep (ss0 (by omega)) (by omega) (fun i _ => (u57 210 i (fn_a (by decide) fn_0))) (fun i _ => (u57 212 i (fn_a (by decide) fn_0))) (fun i _ => (u57 213 i (fn_a (by decide) fn_0))) (fun i _ => (u57 215 i (fn_a (by decide) fn_0))) (fun i _ => (u57 241 i (fn_a (by decide) fn_0))))), gs92⟩ (by omega) (by omega)
-- the law, case at 1265
set_option maxRecDepth 100000 in
set_option maxHeartbeats 100000000 in
theorem lc_1265 {L : Nat} {xs : Nat → Int32} {d b c : Nat} {h : hp} {cr : Nat → Nat → Option Nat} {Q : hp_Q} (hcr : CR cr) (hL : L ≤ 3072) (hr : 1 ≤ b ∧ 6 ≤ c) (I : LI h) (i : Int) (hi : 0 ≤ i ∧ i + 6 ≤ L) (k : ∀ (h2 : hp) (b2 c2 : Nat), LI h2 → b ≤ b2 + 1 → c ≤ c2 + 6 → wp (md_xa (L, xs)) (d + 107) 0 (1529, [(0, .ref 1000000), (1, .ref 0), (2, .ref 236), (3, .ref 259), (4, vi i)], [], hp_w h2 cr, b2, c2) Q) : wp (md_xa (L, xs)) (d + 107) 0 (1265, [(0, .ref 1000000), (1, .ref 0), (2, .ref 236), (3, .ref 259), (4, vi i)], [], hp_w h cr, b, c) Q := by
  obtain ⟨g, i11, r238, r241, gp0, br0, er2, er3, sv0, sf0, ss0, gs0⟩ := I
  have r238e := r238.e0
  have r241e := r241.e0
  obtain ⟨⟨se0, se1, se2, se3, se4, se5, se6, se7, se8, se9⟩, -⟩ := id sv0
  have b1 := gi_b (lo := 0) (hi := 5) g 3 0 rfl
  have b2 := gi_b (lo := 0) (hi := 5) g 238 0 rfl
  have b3 := gi_b (lo := 0) (hi := 4) g 3 1 rfl
  have b4 := gi_b (lo := 0) (hi := 4) g 238 1 rfl
  have b5 := gi_b (lo := 0) (hi := 12) g 3 2 rfl
  have b6 := gi_b (lo := 0) (hi := 12) g 238 2 rfl
  have b7 := gi_b (lo := -2147483648) (hi := 2147483647) g 3 3 rfl
  have b8 := gi_b (lo := 0) (hi := 999) g 238 3 rfl
  have b9 := gi_b (lo := -2147483648) (hi := 2147483647) g 3 4 rfl
  have b10 := gi_b (lo := 0) (hi := 999) g 238 4 rfl
  have b11 := gi_b (lo := -2147483648) (hi := 2147483647) g 3 5 rfl
  have b12 := gi_b (lo := 0) (hi := 9) g 238 5 rfl
  have b13 := gi_b (lo := -2147483648) (hi := 2147483647) g 3 6 rfl
  have b14 := gi_b (lo := 0) (hi := 999) g 238 6 rfl
  have b15 := gi_b (lo := -2147483648) (hi := 2147483647) g 3 7 rfl
  have b16 := gi_b (lo := 0) (hi := 3) g 238 7 rfl
  have b17 := gi_b (lo := -2147483648) (hi := 2147483647) g 3 8 rfl
  have b18 := gi_b (lo := 0) (hi := 999) g 238 8 rfl
  have b19 := gi_b (lo := -2147483648) (hi := 2147483647) g 3 9 rfl
  have b20 := gi_b (lo := 0) (hi := 999) g 238 9 rfl
  have b21 := gi_b (lo := 0) (hi := 1) g 0 12 rfl
  have b22 := gi_b (lo := 0) (hi := 1) g 236 21 rfl
  have bl_ := gi_b (lo := 0) (hi := 800) g 1 1 rfl
  have tb0 : BufC (h 2) (h 1 1) h := ⟨fun _ => rfl, rfl, by omega, by omega⟩
  have b23 := gi_b (lo := 0) (hi := 6) g 238 98 rfl
  have b24 := gi_b (lo := 0) (hi := 6) g 238 99 rfl
  have b25 := gi_b (lo := 0) (hi := 6) g 238 100 rfl
  have b26 := gi_b (lo := 0) (hi := 6) g 238 101 rfl
  have b27 := gi_b (lo := 0) (hi := 3) g 238 102 rfl
  have b28 := gi_b (lo := 0) (hi := 12) g 238 106 rfl
  have b29 := gi_b (lo := 0) (hi := 12) g 238 73 rfl
  have b30 := gi_b (lo := 0) (hi := 9999) g 238 119 rfl
  have b31 := gi_b (lo := 0) (hi := 9999) g 238 67 rfl
  have b32 := gi_b (lo := 0) (hi := 9) g 238 69 rfl
  have b33 := gi_b (lo := 0) (hi := 6) g 241 98 rfl
  have b34 := gi_b (lo := 0) (hi := 6) g 241 99 rfl
  have b35 := gi_b (lo := 0) (hi := 6) g 241 100 rfl
  have b36 := gi_b (lo := 0) (hi := 6) g 241 101 rfl
  have b37 := gi_b (lo := 0) (hi := 3) g 241 102 rfl
  have b38 := gi_b (lo := 0) (hi := 12) g 241 106 rfl
  have b39 := gi_b (lo := 0) (hi := 12) g 241 73 rfl
  have b40 := gi_b (lo := 0) (hi := 12) g 241 2 rfl
  have b41 := gi_b (lo := 0) (hi := 9999) g 241 119 rfl
  have b42 := gi_b (lo := 0) (hi := 9999) g 241 67 rfl
  have b43 := gi_b (lo := 0) (hi := 9) g 241 69 rfl
  have b44 := gi_b (lo := 0) (hi := 9) g 241 5 rfl
  have b45 := gi_b (lo := 0) (hi := 800) g 1 1 rfl
  have b46 := gi_b (lo := 0) (hi := 800) g 236 2 rfl
  have b47 := gi_b (lo := -2147483648) (hi := 2147483647) g 1 2 rfl
  have b48 := gi_b (lo := -2147483648) (hi := 2147483647) g 236 10 rfl
  have b49 := gi_b (lo := -2147483648) (hi := 2147483647) g 1 3 rfl
  have b50 := gi_b (lo := -2147483648) (hi := 2147483647) g 236 11 rfl
  refine wi_aload_n (i := 1) (x := 0) (nx := 1266) (r1 := 0) (r2 := 0) (r3 := 0) rfl rfl ?_
  refine wr_V (k0 := 0) (rest := []) (as := [.ref 0]) (nx := 1269) (r1 := 49) (r2 := 0) (r3 := 0) rfl rfl rfl (of_decide_eq_true rfl) rfl rfl (by decide) rfl rfl (of_decide_eq_true rfl) (of_decide_eq_true rfl) ?_
  refine ct_49_0 hcr  g    (fun h51 z52 g51 u51 (fz52 : -2147483648 ≤ z52 ∧ z52 ≤ 2147483647) => ?_)
  refine wk_i ?_
  refine wi_pop (nx := 1270) (r1 := 0) (r2 := 0) (r3 := 0) rfl rfl ?_
  refine wi_aload_n (i := 2) (x := 236) (nx := 1271) (r1 := 0) (r2 := 0) (r3 := 0) rfl rfl ?_
  refine wr_V (k0 := 236) (rest := []) (as := [.ref 236]) (nx := 1274) (r1 := 298) (r2 := 0) (r3 := 11) rfl rfl rfl (of_decide_eq_true rfl) rfl rfl (by decide) rfl rfl (of_decide_eq_true rfl) (of_decide_eq_true rfl) ?_
  have e54 : h51 238 98 = h 238 98 := (u51 238 98 rfl)
  have e55 : h51 238 99 = h 238 99 := (u51 238 99 rfl)
  have e56 : h51 238 100 = h 238 100 := (u51 238 100 rfl)
  have e57 : h51 238 101 = h 238 101 := (u51 238 101 rfl)
  have e58 : h51 238 102 = h 238 102 := (u51 238 102 rfl)
  have e59 : h51 238 106 = h 238 106 := (u51 238 106 rfl)
  have e60 : h51 238 73 = h 238 73 := (u51 238 73 rfl)
  have e61 : h51 238 2 = h 238 2 := (u51 238 2 rfl)
  have e62 : h51 238 119 = h 238 119 := (u51 238 119 rfl)
  have e63 : h51 238 67 = h 238 67 := (u51 238 67 rfl)
  have e64 : h51 238 69 = h 238 69 := (u51 238 69 rfl)
  have e65 : h51 238 5 = h 238 5 := (u51 238 5 rfl)
  refine ct_298_236 hcr  g51   (show (h51 238 98) + (h51 238 99) + (h51 238 100) + (h51 238 101) + (h51 238 102) + (h51 238 106) = (h51 238 73) by omega) (show (h51 238 73) ≤ (h51 238 2) by omega) (show (h51 238 119) ≤ (h51 238 67) by omega) (show (h51 238 69) ≤ (h51 238 5) by omega) (show (h51 238 2) ≤ 12 * (h51 238 5) by omega) (fun h53 z66 g53 u53 (fz66 : -1 ≤ z66 ∧ z66 ≤ 9999) => ?_)
  refine wk_i ?_
  refine wi_pop (nx := 1275) (r1 := 0) (r2 := 0) (r3 := 0) rfl rfl ?_
  refine wi_goto (nx := 1278) (r1 := 1529) (r2 := 0) (r3 := 0) rfl ?_
  have e67 : h53 238 98 = h 238 98 := ((u53 238 98 rfl).trans (u51 238 98 rfl))
  have e68 : h53 238 99 = h 238 99 := ((u53 238 99 rfl).trans (u51 238 99 rfl))
  have e69 : h53 238 100 = h 238 100 := ((u53 238 100 rfl).trans (u51 238 100 rfl))
  have e70 : h53 238 101 = h 238 101 := ((u53 238 101 rfl).trans (u51 238 101 rfl))
  have e71 : h53 238 102 = h 238 102 := ((u53 238 102 rfl).trans (u51 238 102 rfl))
  have e72 : h53 238 106 = h 238 106 := ((u53 238 106 rfl).trans (u51 238 106 rfl))
  have e73 : h53 238 73 = h 238 73 := ((u53 238 73 rfl).trans (u51 238 73 rfl))
  have e74 : h53 238 2 = h 238 2 := ((u53 238 2 rfl).trans (u51 238 2 rfl))
  have e75 : h53 238 119 = h 238 119 := ((u53 238 119 rfl).trans (u51 238 119 rfl))
  have e76 : h53 238 67 = h 238 67 := ((u53 238 67 rfl).trans (u51 238 67 rfl))
  have e77 : h53 238 69 = h 238 69 := ((u53 238 69 rfl).trans (u51 238 69 rfl))
  have e78 : h53 238 5 = h 238 5 := ((u53 238 5 rfl).trans (u51 238 5 rfl))
  have e79 : h53 241 98 = h 241 98 := ((u53 241 98 rfl).trans (u51 241 98 rfl))
  have e80 : h53 241 99 = h 241 99 := ((u53 241 99 rfl).trans (u51 241 99 rfl))
  have e81 : h53 241 100 = h 241 100 := ((u53 241 100 rfl).trans (u51 241 100 rfl))
  have e82 : h53 241 101 = h 241 101 := ((u53 241 101 rfl).trans (u51 241 101 rfl))
  have e83 : h53 241 102 = h 241 102 := ((u53 241 102 rfl).trans (u51 241 102 rfl))
  have e84 : h53 241 106 = h 241 106 := ((u53 241 106 rfl).trans (u51 241 106 rfl))
  have e85 : h53 241 73 = h 241 73 := ((u53 241 73 rfl).trans (u51 241 73 rfl))
  have e86 : h53 241 2 = h 241 2 := ((u53 241 2 rfl).trans (u51 241 2 rfl))
  have e87 : h53 241 119 = h 241 119 := ((u53 241 119 rfl).trans (u51 241 119 rfl))
  have e88 : h53 241 67 = h 241 67 := ((u53 241 67 rfl).trans (u51 241 67 rfl))
  have e89 : h53 241 69 = h 241 69 := ((u53 241 69 rfl).trans (u51 241 69 rfl))
  have e90 : h53 241 5 = h 241 5 := ((u53 241 5 rfl).trans (u51 241 5 rfl))
  have e91 : h53 1 1 = h 1 1 := ((u53 1 1 rfl).trans (u51 1 1 rfl))
  have e92 : h53 236 2 = h 236 2 := ((u53 236 2 rfl).trans (u51 236 2 rfl))
  have e93 : h53 1 2 = h 1 2 := ((u53 1 2 rfl).trans (u51 1 2 rfl))
  have e94 : h53 236 10 = h 236 10 := ((u53 236 10 rfl).trans (u51 236 10 rfl))
  have e95 : h53 1 3 = h 1 3 := ((u53 1 3 rfl).trans (u51 1 3 rfl))
  have e96 : h53 236 11 = h 236 11 := ((u53 236 11 rfl).trans (u51 236 11 rfl))
  have gp97 := GPH.fr u51 rfl gp0
  have gp98 := GPH.fr u53 rfl gp97
  have b99 := gi_b (lo := 0) (hi := 5) g 241 0 rfl
  have b100 := gi_b (lo := 0) (hi := 4) g 241 1 rfl
  have gs101 := GPS.fr u51 rfl gs0
  have gs102 := GPS.fr u53 rfl gs101
  have e103 : h53 0 12 = h 0 12 := ((u53 0 12 rfl).trans (u51 0 12 rfl))
  have e104 : h53 236 21 = h 236 21 := ((u53 236 21 rfl).trans (u51 236 21 rfl))
  exact k h53 b c ⟨g53, (show h53 1 1 = h53 236 2 by omega), (RS.i0 (f := h53 238) (by refine ⟨?_, ?_, ?_, ?_, ?_⟩ <;> omega)), (RS.i0 (f := h53 241) (by refine ⟨?_, ?_, ?_, ?_, ?_⟩ <;> omega)), gp98, (BRh.keep br0 (fun i => ((u53 2 i (fo_nk rfl)).trans (u51 2 i (fo_nk rfl)))) (fun i => ((u53 237 i (fo_nk rfl)).trans (u51 237 i (fo_nk rfl)))) (by omega)), (show h53 1 2 = h53 236 10 by omega), (show h53 1 3 = h53 236 11 by omega), (SVx.keep sv0 (by omega) (fun i _ => ((u53 3 i (fo_nk rfl)).trans (u51 3 i (fo_nk rfl)))) (fun i _ => ((u53 5 i (fo_nk rfl)).trans (u51 5 i (fo_nk rfl)))) (fun i _ => ((u53 6 i (fo_nk rfl)).trans (u51 6 i (fo_nk rfl)))) (fun i _ => ((u53 8 i (fo_nk rfl)).trans (u51 8 i (fo_nk rfl)))) (fun i _ => ((u53 238 i (fo_nk rfl)).trans (u51 238 i (fo_nk rfl))))), (show h53 0 12 = h53 236 21 by omega), (fun e => (SVx.keep (ss0 (by omega)) (by omega) (fun i _ => ((u53 210 i (fo_nk rfl)).trans (u51 210 i (fo_nk rfl)))) (fun i _ => ((u53 212 i (fo_nk rfl)).trans (u51 212 i (fo_nk rfl)))) (fun i _ => ((u53 213 i (fo_nk rfl)).trans (u51 213 i (fo_nk rfl)))) (fun i _ => ((u53 215 i (fo_nk rfl)).trans (u51 215 i (fo_nk rfl)))) (fun i _ => ((u53 241 i (fo_nk rfl)).trans (u51 241 i (fo_nk rfl)))))), gs102⟩ (by omega) (by omega)
-- the law, case at 1278
set_option maxRecDepth 100000 in
set_option maxHeartbeats 100000000 in
theorem lc_1278 {L : Nat} {xs : Nat → Int32} {d b c : Nat} {h : hp} {cr : Nat → Nat → Option Nat} {Q : hp_Q} (hcr : CR cr) (hL : L ≤ 3072) (hr : 1 ≤ b ∧ 6 ≤ c) (I : LI h) (i : Int) (hi : 0 ≤ i ∧ i + 6 ≤ L) (k : ∀ (h2 : hp) (b2 c2 : Nat), LI h2 → b ≤ b2 + 1 → c ≤ c2 + 6 → wp (md_xa (L, xs)) (d + 107) 0 (1529, [(0, .ref 1000000), (1, .ref 0), (2, .ref 236), (3, .ref 259), (4, vi i)], [], hp_w h2 cr, b2, c2) Q) : wp (md_xa (L, xs)) (d + 107) 0 (1278, [(0, .ref 1000000), (1, .ref 0), (2, .ref 236), (3, .ref 259), (4, vi i)], [], hp_w h cr, b, c) Q := by
  obtain ⟨g, i11, r238, r241, gp0, br0, er2, er3, sv0, sf0, ss0, gs0⟩ := I
  have r238e := r238.e0
  have r241e := r241.e0
  obtain ⟨⟨se0, se1, se2, se3, se4, se5, se6, se7, se8, se9⟩, -⟩ := id sv0
  have b1 := gi_b (lo := 0) (hi := 5) g 3 0 rfl
  have b2 := gi_b (lo := 0) (hi := 5) g 238 0 rfl
  have b3 := gi_b (lo := 0) (hi := 4) g 3 1 rfl
  have b4 := gi_b (lo := 0) (hi := 4) g 238 1 rfl
  have b5 := gi_b (lo := 0) (hi := 12) g 3 2 rfl
  have b6 := gi_b (lo := 0) (hi := 12) g 238 2 rfl
  have b7 := gi_b (lo := -2147483648) (hi := 2147483647) g 3 3 rfl
  have b8 := gi_b (lo := 0) (hi := 999) g 238 3 rfl
  have b9 := gi_b (lo := -2147483648) (hi := 2147483647) g 3 4 rfl
  have b10 := gi_b (lo := 0) (hi := 999) g 238 4 rfl
  have b11 := gi_b (lo := -2147483648) (hi := 2147483647) g 3 5 rfl
  have b12 := gi_b (lo := 0) (hi := 9) g 238 5 rfl
  have b13 := gi_b (lo := -2147483648) (hi := 2147483647) g 3 6 rfl
  have b14 := gi_b (lo := 0) (hi := 999) g 238 6 rfl
  have b15 := gi_b (lo := -2147483648) (hi := 2147483647) g 3 7 rfl
  have b16 := gi_b (lo := 0) (hi := 3) g 238 7 rfl
  have b17 := gi_b (lo := -2147483648) (hi := 2147483647) g 3 8 rfl
  have b18 := gi_b (lo := 0) (hi := 999) g 238 8 rfl
  have b19 := gi_b (lo := -2147483648) (hi := 2147483647) g 3 9 rfl
  have b20 := gi_b (lo := 0) (hi := 999) g 238 9 rfl
  have b21 := gi_b (lo := 0) (hi := 1) g 0 12 rfl
  have b22 := gi_b (lo := 0) (hi := 1) g 236 21 rfl
  have bl_ := gi_b (lo := 0) (hi := 800) g 1 1 rfl
  have tb0 : BufC (h 2) (h 1 1) h := ⟨fun _ => rfl, rfl, by omega, by omega⟩
  have b23 := gi_b (lo := 0) (hi := 6) g 238 98 rfl
  have b24 := gi_b (lo := 0) (hi := 6) g 238 99 rfl
  have b25 := gi_b (lo := 0) (hi := 6) g 238 100 rfl
  have b26 := gi_b (lo := 0) (hi := 6) g 238 101 rfl
  have b27 := gi_b (lo := 0) (hi := 3) g 238 102 rfl
  have b28 := gi_b (lo := 0) (hi := 12) g 238 106 rfl
  have b29 := gi_b (lo := 0) (hi := 12) g 238 73 rfl
  have b30 := gi_b (lo := 0) (hi := 9999) g 238 119 rfl
  have b31 := gi_b (lo := 0) (hi := 9999) g 238 67 rfl
  have b32 := gi_b (lo := 0) (hi := 9) g 238 69 rfl
  have b33 := gi_b (lo := 0) (hi := 6) g 241 98 rfl
  have b34 := gi_b (lo := 0) (hi := 6) g 241 99 rfl
  have b35 := gi_b (lo := 0) (hi := 6) g 241 100 rfl
  have b36 := gi_b (lo := 0) (hi := 6) g 241 101 rfl
  have b37 := gi_b (lo := 0) (hi := 3) g 241 102 rfl
  have b38 := gi_b (lo := 0) (hi := 12) g 241 106 rfl
  have b39 := gi_b (lo := 0) (hi := 12) g 241 73 rfl
  have b40 := gi_b (lo := 0) (hi := 12) g 241 2 rfl
  have b41 := gi_b (lo := 0) (hi := 9999) g 241 119 rfl
  have b42 := gi_b (lo := 0) (hi := 9999) g 241 67 rfl
  have b43 := gi_b (lo := 0) (hi := 9) g 241 69 rfl
  have b44 := gi_b (lo := 0) (hi := 9) g 241 5 rfl
  have b45 := gi_b (lo := 0) (hi := 800) g 1 1 rfl
  have b46 := gi_b (lo := 0) (hi := 800) g 236 2 rfl
  have b47 := gi_b (lo := -2147483648) (hi := 2147483647) g 1 2 rfl
  have b48 := gi_b (lo := -2147483648) (hi := 2147483647) g 236 10 rfl
  have b49 := gi_b (lo := -2147483648) (hi := 2147483647) g 1 3 rfl
  have b50 := gi_b (lo := -2147483648) (hi := 2147483647) g 236 11 rfl
  refine wi_aload_n (i := 1) (x := 0) (nx := 1279) (r1 := 0) (r2 := 0) (r3 := 0) rfl rfl ?_
  refine wr_V (k0 := 0) (rest := []) (as := [.ref 0]) (nx := 1282) (r1 := 50) (r2 := 0) (r3 := 0) rfl rfl rfl (of_decide_eq_true rfl) rfl rfl (by decide) rfl rfl (of_decide_eq_true rfl) (of_decide_eq_true rfl) ?_
  refine ct_50_0 hcr  g    (fun h51 z52 g51 u51 (fz52 : -2147483648 ≤ z52 ∧ z52 ≤ 2147483647) => ?_)
  refine wk_i ?_
  refine wi_pop (nx := 1283) (r1 := 0) (r2 := 0) (r3 := 0) rfl rfl ?_
  refine wi_aload_n (i := 2) (x := 236) (nx := 1284) (r1 := 0) (r2 := 0) (r3 := 0) rfl rfl ?_
  refine wr_V (k0 := 236) (rest := []) (as := [.ref 236]) (nx := 1287) (r1 := 311) (r2 := 0) (r3 := 11) rfl rfl rfl (of_decide_eq_true rfl) rfl rfl (by decide) rfl rfl (of_decide_eq_true rfl) (of_decide_eq_true rfl) ?_
  have e54 : h51 238 98 = h 238 98 := (u51 238 98 rfl)
  have e55 : h51 238 99 = h 238 99 := (u51 238 99 rfl)
  have e56 : h51 238 100 = h 238 100 := (u51 238 100 rfl)
  have e57 : h51 238 101 = h 238 101 := (u51 238 101 rfl)
  have e58 : h51 238 102 = h 238 102 := (u51 238 102 rfl)
  have e59 : h51 238 106 = h 238 106 := (u51 238 106 rfl)
  have e60 : h51 238 73 = h 238 73 := (u51 238 73 rfl)
  have e61 : h51 238 2 = h 238 2 := (u51 238 2 rfl)
  have e62 : h51 238 119 = h 238 119 := (u51 238 119 rfl)
  have e63 : h51 238 67 = h 238 67 := (u51 238 67 rfl)
  have e64 : h51 238 69 = h 238 69 := (u51 238 69 rfl)
  have e65 : h51 238 5 = h 238 5 := (u51 238 5 rfl)
  refine ct_311_236 hcr  g51   (show (h51 238 98) + (h51 238 99) + (h51 238 100) + (h51 238 101) + (h51 238 102) + (h51 238 106) = (h51 238 73) by omega) (show (h51 238 73) ≤ (h51 238 2) by omega) (show (h51 238 119) ≤ (h51 238 67) by omega) (show (h51 238 69) ≤ (h51 238 5) by omega) (show (h51 238 2) ≤ 12 * (h51 238 5) by omega) (fun h53 z66 g53 u53 (fz66 : -1 ≤ z66 ∧ z66 ≤ 99) => ?_)
  refine wk_i ?_
  refine wi_pop (nx := 1288) (r1 := 0) (r2 := 0) (r3 := 0) rfl rfl ?_
  refine wi_goto (nx := 1291) (r1 := 1529) (r2 := 0) (r3 := 0) rfl ?_
  have e67 : h53 238 98 = h 238 98 := ((u53 238 98 rfl).trans (u51 238 98 rfl))
  have e68 : h53 238 99 = h 238 99 := ((u53 238 99 rfl).trans (u51 238 99 rfl))
  have e69 : h53 238 100 = h 238 100 := ((u53 238 100 rfl).trans (u51 238 100 rfl))
  have e70 : h53 238 101 = h 238 101 := ((u53 238 101 rfl).trans (u51 238 101 rfl))
  have e71 : h53 238 102 = h 238 102 := ((u53 238 102 rfl).trans (u51 238 102 rfl))
  have e72 : h53 238 106 = h 238 106 := ((u53 238 106 rfl).trans (u51 238 106 rfl))
  have e73 : h53 238 73 = h 238 73 := ((u53 238 73 rfl).trans (u51 238 73 rfl))
  have e74 : h53 238 2 = h 238 2 := ((u53 238 2 rfl).trans (u51 238 2 rfl))
  have e75 : h53 238 119 = h 238 119 := ((u53 238 119 rfl).trans (u51 238 119 rfl))
  have e76 : h53 238 67 = h 238 67 := ((u53 238 67 rfl).trans (u51 238 67 rfl))
  have e77 : h53 238 69 = h 238 69 := ((u53 238 69 rfl).trans (u51 238 69 rfl))
  have e78 : h53 238 5 = h 238 5 := ((u53 238 5 rfl).trans (u51 238 5 rfl))
  have e79 : h53 241 98 = h 241 98 := ((u53 241 98 rfl).trans (u51 241 98 rfl))
  have e80 : h53 241 99 = h 241 99 := ((u53 241 99 rfl).trans (u51 241 99 rfl))
  have e81 : h53 241 100 = h 241 100 := ((u53 241 100 rfl).trans (u51 241 100 rfl))
  have e82 : h53 241 101 = h 241 101 := ((u53 241 101 rfl).trans (u51 241 101 rfl))
  have e83 : h53 241 102 = h 241 102 := ((u53 241 102 rfl).trans (u51 241 102 rfl))
  have e84 : h53 241 106 = h 241 106 := ((u53 241 106 rfl).trans (u51 241 106 rfl))
  have e85 : h53 241 73 = h 241 73 := ((u53 241 73 rfl).trans (u51 241 73 rfl))
  have e86 : h53 241 2 = h 241 2 := ((u53 241 2 rfl).trans (u51 241 2 rfl))
  have e87 : h53 241 119 = h 241 119 := ((u53 241 119 rfl).trans (u51 241 119 rfl))
  have e88 : h53 241 67 = h 241 67 := ((u53 241 67 rfl).trans (u51 241 67 rfl))
  have e89 : h53 241 69 = h 241 69 := ((u53 241 69 rfl).trans (u51 241 69 rfl))
  have e90 : h53 241 5 = h 241 5 := ((u53 241 5 rfl).trans (u51 241 5 rfl))
  have e91 : h53 1 1 = h 1 1 := ((u53 1 1 rfl).trans (u51 1 1 rfl))
  have e92 : h53 236 2 = h 236 2 := ((u53 236 2 rfl).trans (u51 236 2 rfl))
  have e93 : h53 1 2 = h 1 2 := ((u53 1 2 rfl).trans (u51 1 2 rfl))
  have e94 : h53 236 10 = h 236 10 := ((u53 236 10 rfl).trans (u51 236 10 rfl))
  have e95 : h53 1 3 = h 1 3 := ((u53 1 3 rfl).trans (u51 1 3 rfl))
  have e96 : h53 236 11 = h 236 11 := ((u53 236 11 rfl).trans (u51 236 11 rfl))
  have gp97 := GPH.fr u51 rfl gp0
  have gp98 := GPH.fr u53 rfl gp97
  have b99 := gi_b (lo := 0) (hi := 5) g 241 0 rfl
  have b100 := gi_b (lo := 0) (hi := 4) g 241 1 rfl
  have gs101 := GPS.fr u51 rfl gs0
  have gs102 := GPS.fr u53 rfl gs101
  have e103 : h53 0 12 = h 0 12 := ((u53 0 12 rfl).trans (u51 0 12 rfl))
  have e104 : h53 236 21 = h 236 21 := ((u53 236 21 rfl).trans (u51 236 21 rfl))
  exact k h53 b c ⟨g53, (show h53 1 1 = h53 236 2 by omega), (RS.i0 (f := h53 238) (by refine ⟨?_, ?_, ?_, ?_, ?_⟩ <;> omega)), (RS.i0 (f := h53 241) (by refine ⟨?_, ?_, ?_, ?_, ?_⟩ <;> omega)), gp98, (BRh.keep br0 (fun i => ((u53 2 i (fo_nk rfl)).trans (u51 2 i (fo_nk rfl)))) (fun i => ((u53 237 i (fo_nk rfl)).trans (u51 237 i (fo_nk rfl)))) (by omega)), (show h53 1 2 = h53 236 10 by omega), (show h53 1 3 = h53 236 11 by omega), (SVx.keep sv0 (by omega) (fun i _ => ((u53 3 i (fo_nk rfl)).trans (u51 3 i (fo_nk rfl)))) (fun i _ => ((u53 5 i (fo_nk rfl)).trans (u51 5 i (fo_nk rfl)))) (fun i _ => ((u53 6 i (fo_nk rfl)).trans (u51 6 i (fo_nk rfl)))) (fun i _ => ((u53 8 i (fo_nk rfl)).trans (u51 8 i (fo_nk rfl)))) (fun i _ => ((u53 238 i (fo_nk rfl)).trans (u51 238 i (fo_nk rfl))))), (show h53 0 12 = h53 236 21 by omega), (fun e => (SVx.keep (ss0 (by omega)) (by omega) (fun i _ => ((u53 210 i (fo_nk rfl)).trans (u51 210 i (fo_nk rfl)))) (fun i _ => ((u53 212 i (fo_nk rfl)).trans (u51 212 i (fo_nk rfl)))) (fun i _ => ((u53 213 i (fo_nk rfl)).trans (u51 213 i (fo_nk rfl)))) (fun i _ => ((u53 215 i (fo_nk rfl)).trans (u51 215 i (fo_nk rfl)))) (fun i _ => ((u53 241 i (fo_nk rfl)).trans (u51 241 i (fo_nk rfl)))))), gs102⟩ (by omega) (by omega)
-- the law, case at 1291
set_option maxRecDepth 100000 in
set_option maxHeartbeats 100000000 in
theorem lc_1291 {L : Nat} {xs : Nat → Int32} {d b c : Nat} {h : hp} {cr : Nat → Nat → Option Nat} {Q : hp_Q} (hcr : CR cr) (hL : L ≤ 3072) (hr : 1 ≤ b ∧ 6 ≤ c) (I : LI h) (i : Int) (hi : 0 ≤ i ∧ i + 6 ≤ L) (k : ∀ (h2 : hp) (b2 c2 : Nat), LI h2 → b ≤ b2 + 1 → c ≤ c2 + 6 → wp (md_xa (L, xs)) (d + 107) 0 (1529, [(0, .ref 1000000), (1, .ref 0), (2, .ref 236), (3, .ref 259), (4, vi i)], [], hp_w h2 cr, b2, c2) Q) : wp (md_xa (L, xs)) (d + 107) 0 (1291, [(0, .ref 1000000), (1, .ref 0), (2, .ref 236), (3, .ref 259), (4, vi i)], [], hp_w h cr, b, c) Q := by
  obtain ⟨g, i11, r238, r241, gp0, br0, er2, er3, sv0, sf0, ss0, gs0⟩ := I
  have r238e := r238.e0
  have r241e := r241.e0
  obtain ⟨⟨se0, se1, se2, se3, se4, se5, se6, se7, se8, se9⟩, -⟩ := id sv0
  have b1 := gi_b (lo := 0) (hi := 5) g 3 0 rfl
  have b2 := gi_b (lo := 0) (hi := 5) g 238 0 rfl
  have b3 := gi_b (lo := 0) (hi := 4) g 3 1 rfl
  have b4 := gi_b (lo := 0) (hi := 4) g 238 1 rfl
  have b5 := gi_b (lo := 0) (hi := 12) g 3 2 rfl
  have b6 := gi_b (lo := 0) (hi := 12) g 238 2 rfl
  have b7 := gi_b (lo := -2147483648) (hi := 2147483647) g 3 3 rfl
  have b8 := gi_b (lo := 0) (hi := 999) g 238 3 rfl
  have b9 := gi_b (lo := -2147483648) (hi := 2147483647) g 3 4 rfl
  have b10 := gi_b (lo := 0) (hi := 999) g 238 4 rfl
  have b11 := gi_b (lo := -2147483648) (hi := 2147483647) g 3 5 rfl
  have b12 := gi_b (lo := 0) (hi := 9) g 238 5 rfl
  have b13 := gi_b (lo := -2147483648) (hi := 2147483647) g 3 6 rfl
  have b14 := gi_b (lo := 0) (hi := 999) g 238 6 rfl
  have b15 := gi_b (lo := -2147483648) (hi := 2147483647) g 3 7 rfl
  have b16 := gi_b (lo := 0) (hi := 3) g 238 7 rfl
  have b17 := gi_b (lo := -2147483648) (hi := 2147483647) g 3 8 rfl
  have b18 := gi_b (lo := 0) (hi := 999) g 238 8 rfl
  have b19 := gi_b (lo := -2147483648) (hi := 2147483647) g 3 9 rfl
  have b20 := gi_b (lo := 0) (hi := 999) g 238 9 rfl
  have b21 := gi_b (lo := 0) (hi := 1) g 0 12 rfl
  have b22 := gi_b (lo := 0) (hi := 1) g 236 21 rfl
  have bl_ := gi_b (lo := 0) (hi := 800) g 1 1 rfl
  have tb0 : BufC (h 2) (h 1 1) h := ⟨fun _ => rfl, rfl, by omega, by omega⟩
  have b23 := gi_b (lo := 0) (hi := 6) g 238 98 rfl
  have b24 := gi_b (lo := 0) (hi := 6) g 238 99 rfl
  have b25 := gi_b (lo := 0) (hi := 6) g 238 100 rfl
  have b26 := gi_b (lo := 0) (hi := 6) g 238 101 rfl
  have b27 := gi_b (lo := 0) (hi := 3) g 238 102 rfl
  have b28 := gi_b (lo := 0) (hi := 12) g 238 106 rfl
  have b29 := gi_b (lo := 0) (hi := 12) g 238 73 rfl
  have b30 := gi_b (lo := 0) (hi := 9999) g 238 119 rfl
  have b31 := gi_b (lo := 0) (hi := 9999) g 238 67 rfl
  have b32 := gi_b (lo := 0) (hi := 9) g 238 69 rfl
  have b33 := gi_b (lo := 0) (hi := 6) g 241 98 rfl
  have b34 := gi_b (lo := 0) (hi := 6) g 241 99 rfl
  have b35 := gi_b (lo := 0) (hi := 6) g 241 100 rfl
  have b36 := gi_b (lo := 0) (hi := 6) g 241 101 rfl
  have b37 := gi_b (lo := 0) (hi := 3) g 241 102 rfl
  have b38 := gi_b (lo := 0) (hi := 12) g 241 106 rfl
  have b39 := gi_b (lo := 0) (hi := 12) g 241 73 rfl
  have b40 := gi_b (lo := 0) (hi := 12) g 241 2 rfl
  have b41 := gi_b (lo := 0) (hi := 9999) g 241 119 rfl
  have b42 := gi_b (lo := 0) (hi := 9999) g 241 67 rfl
  have b43 := gi_b (lo := 0) (hi := 9) g 241 69 rfl
  have b44 := gi_b (lo := 0) (hi := 9) g 241 5 rfl
  have b45 := gi_b (lo := 0) (hi := 800) g 1 1 rfl
  have b46 := gi_b (lo := 0) (hi := 800) g 236 2 rfl
  have b47 := gi_b (lo := -2147483648) (hi := 2147483647) g 1 2 rfl
  have b48 := gi_b (lo := -2147483648) (hi := 2147483647) g 236 10 rfl
  have b49 := gi_b (lo := -2147483648) (hi := 2147483647) g 1 3 rfl
  have b50 := gi_b (lo := -2147483648) (hi := 2147483647) g 236 11 rfl
  refine wi_aload_n (i := 1) (x := 0) (nx := 1292) (r1 := 0) (r2 := 0) (r3 := 0) rfl rfl ?_
  refine wi_aload_n (i := 0) (x := 1000000) (nx := 1293) (r1 := 0) (r2 := 0) (r3 := 0) rfl rfl ?_
  refine wi_iload (i := 4) (e := i) (nx := 1295) (r1 := 0) (r2 := 0) (r3 := 0) rfl rfl ?_
  refine wi_iconst (n := 1) (nx := 1296) (r1 := 0) (r2 := 0) (r3 := 0) rfl ?_
  refine wr_add (nx := 1297) (r1 := 0) (r2 := 0) (r3 := 0) rfl (fun e51 (fe51 : e51 = i + 1) => ?_)
  obtain ⟨i52, ei52⟩ : ∃ q : Nat, e51 = (q : Int) := ⟨(e51).toNat, by omega⟩
  have s53 := sc_b (xs i52)
  refine wr_sc (a := e51) (f := i52) (nx := 1298) (r1 := 0) (r2 := 0) (r3 := 0) rfl (by omega) (by omega) hL ?_
  refine wr_V (k0 := 0) (rest := []) (as := [.ref 0, vi ((xs i52).toInt)]) (nx := 1301) (r1 := 51) (r2 := 1) (r3 := 0) rfl rfl rfl (of_decide_eq_true rfl) rfl rfl (by decide) rfl rfl (of_decide_eq_true rfl) (of_decide_eq_true rfl) ?_
  refine ct_51_0 hcr  g ((xs i52).toInt) (by omega)  (fun h54 z55 g54 u54 (fz55 : -2147483648 ≤ z55 ∧ z55 ≤ 2147483647) => ?_)
  refine wk_i ?_
  refine wi_pop (nx := 1302) (r1 := 0) (r2 := 0) (r3 := 0) rfl rfl ?_
  refine wi_aload_n (i := 2) (x := 236) (nx := 1303) (r1 := 0) (r2 := 0) (r3 := 0) rfl rfl ?_
  refine wi_aload_n (i := 0) (x := 1000000) (nx := 1304) (r1 := 0) (r2 := 0) (r3 := 0) rfl rfl ?_
  refine wi_iload (i := 4) (e := i) (nx := 1306) (r1 := 0) (r2 := 0) (r3 := 0) rfl rfl ?_
  refine wi_iconst (n := 1) (nx := 1307) (r1 := 0) (r2 := 0) (r3 := 0) rfl ?_
  refine wr_add (nx := 1308) (r1 := 0) (r2 := 0) (r3 := 0) rfl (fun e56 (fe56 : e56 = i + 1) => ?_)
  refine wr_sc (a := e56) (f := i52) (nx := 1309) (r1 := 0) (r2 := 0) (r3 := 0) rfl (by omega) (by omega) hL ?_
  refine wr_V (k0 := 236) (rest := []) (as := [.ref 236, vi ((xs i52).toInt)]) (nx := 1312) (r1 := 312) (r2 := 1) (r3 := 11) rfl rfl rfl (of_decide_eq_true rfl) rfl rfl (by decide) rfl rfl (of_decide_eq_true rfl) (of_decide_eq_true rfl) ?_
  have e58 : h54 238 98 = h 238 98 := (u54 238 98 rfl)
  have e59 : h54 238 99 = h 238 99 := (u54 238 99 rfl)
  have e60 : h54 238 100 = h 238 100 := (u54 238 100 rfl)
  have e61 : h54 238 101 = h 238 101 := (u54 238 101 rfl)
  have e62 : h54 238 102 = h 238 102 := (u54 238 102 rfl)
  have e63 : h54 238 106 = h 238 106 := (u54 238 106 rfl)
  have e64 : h54 238 73 = h 238 73 := (u54 238 73 rfl)
  have e65 : h54 238 2 = h 238 2 := (u54 238 2 rfl)
  have e66 : h54 238 119 = h 238 119 := (u54 238 119 rfl)
  have e67 : h54 238 67 = h 238 67 := (u54 238 67 rfl)
  have e68 : h54 238 69 = h 238 69 := (u54 238 69 rfl)
  have e69 : h54 238 5 = h 238 5 := (u54 238 5 rfl)
  refine ct_312_236 hcr  g54 ((xs i52).toInt) (by omega) (show (h54 238 98) + (h54 238 99) + (h54 238 100) + (h54 238 101) + (h54 238 102) + (h54 238 106) = (h54 238 73) by omega) (show (h54 238 73) ≤ (h54 238 2) by omega) (show (h54 238 119) ≤ (h54 238 67) by omega) (show (h54 238 69) ≤ (h54 238 5) by omega) (show (h54 238 2) ≤ 12 * (h54 238 5) by omega) (fun h57 z70 g57 u57 (fz70 : -1 ≤ z70 ∧ z70 ≤ 3) => ?_)
  refine wk_i ?_
  refine wi_pop (nx := 1313) (r1 := 0) (r2 := 0) (r3 := 0) rfl rfl ?_
  refine wi_goto (nx := 1316) (r1 := 1529) (r2 := 0) (r3 := 0) rfl ?_
  have e71 : h57 238 98 = h 238 98 := ((u57 238 98 rfl).trans (u54 238 98 rfl))
  have e72 : h57 238 99 = h 238 99 := ((u57 238 99 rfl).trans (u54 238 99 rfl))
  have e73 : h57 238 100 = h 238 100 := ((u57 238 100 rfl).trans (u54 238 100 rfl))
  have e74 : h57 238 101 = h 238 101 := ((u57 238 101 rfl).trans (u54 238 101 rfl))
  have e75 : h57 238 102 = h 238 102 := ((u57 238 102 rfl).trans (u54 238 102 rfl))
  have e76 : h57 238 106 = h 238 106 := ((u57 238 106 rfl).trans (u54 238 106 rfl))
  have e77 : h57 238 73 = h 238 73 := ((u57 238 73 rfl).trans (u54 238 73 rfl))
  have e78 : h57 238 2 = h 238 2 := ((u57 238 2 rfl).trans (u54 238 2 rfl))
  have e79 : h57 238 119 = h 238 119 := ((u57 238 119 rfl).trans (u54 238 119 rfl))
  have e80 : h57 238 67 = h 238 67 := ((u57 238 67 rfl).trans (u54 238 67 rfl))
  have e81 : h57 238 69 = h 238 69 := ((u57 238 69 rfl).trans (u54 238 69 rfl))
  have e82 : h57 238 5 = h 238 5 := ((u57 238 5 rfl).trans (u54 238 5 rfl))
  have e83 : h57 241 98 = h 241 98 := ((u57 241 98 rfl).trans (u54 241 98 rfl))
  have e84 : h57 241 99 = h 241 99 := ((u57 241 99 rfl).trans (u54 241 99 rfl))
  have e85 : h57 241 100 = h 241 100 := ((u57 241 100 rfl).trans (u54 241 100 rfl))
  have e86 : h57 241 101 = h 241 101 := ((u57 241 101 rfl).trans (u54 241 101 rfl))
  have e87 : h57 241 102 = h 241 102 := ((u57 241 102 rfl).trans (u54 241 102 rfl))
  have e88 : h57 241 106 = h 241 106 := ((u57 241 106 rfl).trans (u54 241 106 rfl))
  have e89 : h57 241 73 = h 241 73 := ((u57 241 73 rfl).trans (u54 241 73 rfl))
  have e90 : h57 241 2 = h 241 2 := ((u57 241 2 rfl).trans (u54 241 2 rfl))
  have e91 : h57 241 119 = h 241 119 := ((u57 241 119 rfl).trans (u54 241 119 rfl))
  have e92 : h57 241 67 = h 241 67 := ((u57 241 67 rfl).trans (u54 241 67 rfl))
  have e93 : h57 241 69 = h 241 69 := ((u57 241 69 rfl).trans (u54 241 69 rfl))
  have e94 : h57 241 5 = h 241 5 := ((u57 241 5 rfl).trans (u54 241 5 rfl))
  have e95 : h57 1 1 = h 1 1 := ((u57 1 1 rfl).trans (u54 1 1 rfl))
  have e96 : h57 236 2 = h 236 2 := ((u57 236 2 rfl).trans (u54 236 2 rfl))
  have e97 : h57 1 2 = h 1 2 := ((u57 1 2 rfl).trans (u54 1 2 rfl))
  have e98 : h57 236 10 = h 236 10 := ((u57 236 10 rfl).trans (u54 236 10 rfl))
  have e99 : h57 1 3 = h 1 3 := ((u57 1 3 rfl).trans (u54 1 3 rfl))
  have e100 : h57 236 11 = h 236 11 := ((u57 236 11 rfl).trans (u54 236 11 rfl))
  have gp101 := GPH.fr u54 rfl gp0
  have gp102 := GPH.fr u57 rfl gp101
  have b103 := gi_b (lo := 0) (hi := 5) g 241 0 rfl
  have b104 := gi_b (lo := 0) (hi := 4) g 241 1 rfl
  have gs105 := GPS.fr u54 rfl gs0
  have gs106 := GPS.fr u57 rfl gs105
  have e107 : h57 0 12 = h 0 12 := ((u57 0 12 rfl).trans (u54 0 12 rfl))
  have e108 : h57 236 21 = h 236 21 := ((u57 236 21 rfl).trans (u54 236 21 rfl))
  exact k h57 b c ⟨g57, (show h57 1 1 = h57 236 2 by omega), (RS.i0 (f := h57 238) (by refine ⟨?_, ?_, ?_, ?_, ?_⟩ <;> omega)), (RS.i0 (f := h57 241) (by refine ⟨?_, ?_, ?_, ?_, ?_⟩ <;> omega)), gp102, (BRh.keep br0 (fun i => ((u57 2 i (fo_nk rfl)).trans (u54 2 i (fo_nk rfl)))) (fun i => ((u57 237 i (fo_nk rfl)).trans (u54 237 i (fo_nk rfl)))) (by omega)), (show h57 1 2 = h57 236 10 by omega), (show h57 1 3 = h57 236 11 by omega), (SVx.keep sv0 (by omega) (fun i _ => ((u57 3 i (fo_nk rfl)).trans (u54 3 i (fo_nk rfl)))) (fun i _ => ((u57 5 i (fo_nk rfl)).trans (u54 5 i (fo_nk rfl)))) (fun i _ => ((u57 6 i (fo_nk rfl)).trans (u54 6 i (fo_nk rfl)))) (fun i _ => ((u57 8 i (fo_nk rfl)).trans (u54 8 i (fo_nk rfl)))) (fun i _ => ((u57 238 i (fo_nk rfl)).trans (u54 238 i (fo_nk rfl))))), (show h57 0 12 = h57 236 21 by omega), (fun e => (SVx.keep (ss0 (by omega)) (by omega) (fun i _ => ((u57 210 i (fo_nk rfl)).trans (u54 210 i (fo_nk rfl)))) (fun i _ => ((u57 212 i (fo_nk rfl)).trans (u54 212 i (fo_nk rfl)))) (fun i _ => ((u57 213 i (fo_nk rfl)).trans (u54 213 i (fo_nk rfl)))) (fun i _ => ((u57 215 i (fo_nk rfl)).trans (u54 215 i (fo_nk rfl)))) (fun i _ => ((u57 241 i (fo_nk rfl)).trans (u54 241 i (fo_nk rfl)))))), gs106⟩ (by omega) (by omega)
