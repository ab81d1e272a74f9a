-- the law, case at 288
set_option maxRecDepth 100000 in
set_option maxHeartbeats 100000000 in
theorem lc_288 {L : Nat} {xs : Nat → Int32} {d b c : Nat} {h : hp} {cr : Nat → Nat → Option Nat} {Q : hp_Q} (hcr : CR cr) (hL : L ≤ 3072) (hr : 1 ≤ b ∧ 6 ≤ c) (i : Int) (I : LIm i h) (hi : 0 ≤ i ∧ i + 6 ≤ L) (k : ∀ (h2 : hp) (b2 c2 : Nat), LIm (i + 6) h2 → b ≤ b2 + 1 → c ≤ c2 + 6 → wp (md_xa (L, xs)) (d + 107) 0 (1501, [(0, .ref 1000000), (1, .ref 0), (2, .ref 236), (3, .ref 259), (4, vi i)], [], hp_w h2 cr, b2, c2) Q) : wp (md_xa (L, xs)) (d + 107) 0 (288, [(0, .ref 1000000), (1, .ref 0), (2, .ref 236), (3, .ref 259), (4, vi i)], [], hp_w h cr, b, c) Q := by
  obtain ⟨⟨g, i11, r238, r241, gp0, br0, er2, er3, sv0, sf0, ss0, gs0, mi0, ml1, ml2, gq0, mr0, sm0⟩, ie0⟩ := I
  have r238e := r238.e0
  have r241e := r241.e0
  obtain ⟨⟨se0, se1, se2, se3, se4, se5, se6, se7, se8, se9⟩, -⟩ := id sv0
  have b1 := gi_b (lo := 0) (hi := 5) g 3 0 rfl
  have b2 := gi_b (lo := 0) (hi := 5) g 238 0 rfl
  have b3 := gi_b (lo := 0) (hi := 4) g 3 1 rfl
  have b4 := gi_b (lo := 0) (hi := 4) g 238 1 rfl
  have b5 := gi_b (lo := 0) (hi := 12) g 3 2 rfl
  have b6 := gi_b (lo := 0) (hi := 12) g 238 2 rfl
  have b7 := gi_b (lo := -2147483648) (hi := 2147483647) g 3 3 rfl
  have b8 := gi_b (lo := 0) (hi := 999) g 238 3 rfl
  have b9 := gi_b (lo := -2147483648) (hi := 2147483647) g 3 4 rfl
  have b10 := gi_b (lo := 0) (hi := 999) g 238 4 rfl
  have b11 := gi_b (lo := -2147483648) (hi := 2147483647) g 3 5 rfl
  have b12 := gi_b (lo := 0) (hi := 9) g 238 5 rfl
  have b13 := gi_b (lo := -2147483648) (hi := 2147483647) g 3 6 rfl
  have b14 := gi_b (lo := 0) (hi := 999) g 238 6 rfl
  have b15 := gi_b (lo := -2147483648) (hi := 2147483647) g 3 7 rfl
  have b16 := gi_b (lo := 0) (hi := 3) g 238 7 rfl
  have b17 := gi_b (lo := -2147483648) (hi := 2147483647) g 3 8 rfl
  have b18 := gi_b (lo := 0) (hi := 999) g 238 8 rfl
  have b19 := gi_b (lo := -2147483648) (hi := 2147483647) g 3 9 rfl
  have b20 := gi_b (lo := 0) (hi := 999) g 238 9 rfl
  have b21 := gi_b (lo := -2147483648) (hi := 2147483647) g 63 5 rfl
  have b22 := gi_b (lo := 0) (hi := 12) g 18 7 rfl
  have b23 := gi_b (lo := 0) (hi := 12) g 66 1 rfl
  have b24 := gi_b (lo := 0) (hi := 1) g 0 12 rfl
  have b25 := gi_b (lo := 0) (hi := 1) g 236 21 rfl
  have bl_ := gi_b (lo := 0) (hi := 800) g 1 1 rfl
  have tb0 : BufC (h 2) (h 1 1) h := ⟨fun _ => rfl, rfl, by omega, by omega⟩
  have b26 := gi_b (lo := 0) (hi := 6) g 238 98 rfl
  have b27 := gi_b (lo := 0) (hi := 6) g 238 99 rfl
  have b28 := gi_b (lo := 0) (hi := 6) g 238 100 rfl
  have b29 := gi_b (lo := 0) (hi := 6) g 238 101 rfl
  have b30 := gi_b (lo := 0) (hi := 3) g 238 102 rfl
  have b31 := gi_b (lo := 0) (hi := 12) g 238 106 rfl
  have b32 := gi_b (lo := 0) (hi := 12) g 238 73 rfl
  have b33 := gi_b (lo := 0) (hi := 9999) g 238 119 rfl
  have b34 := gi_b (lo := 0) (hi := 9999) g 238 67 rfl
  have b35 := gi_b (lo := 0) (hi := 9) g 238 69 rfl
  have b36 := gi_b (lo := 0) (hi := 6) g 241 98 rfl
  have b37 := gi_b (lo := 0) (hi := 6) g 241 99 rfl
  have b38 := gi_b (lo := 0) (hi := 6) g 241 100 rfl
  have b39 := gi_b (lo := 0) (hi := 6) g 241 101 rfl
  have b40 := gi_b (lo := 0) (hi := 3) g 241 102 rfl
  have b41 := gi_b (lo := 0) (hi := 12) g 241 106 rfl
  have b42 := gi_b (lo := 0) (hi := 12) g 241 73 rfl
  have b43 := gi_b (lo := 0) (hi := 12) g 241 2 rfl
  have b44 := gi_b (lo := 0) (hi := 9999) g 241 119 rfl
  have b45 := gi_b (lo := 0) (hi := 9999) g 241 67 rfl
  have b46 := gi_b (lo := 0) (hi := 9) g 241 69 rfl
  have b47 := gi_b (lo := 0) (hi := 9) g 241 5 rfl
  have b48 := gi_b (lo := 0) (hi := 800) g 1 1 rfl
  have b49 := gi_b (lo := 0) (hi := 800) g 236 2 rfl
  have b50 := gi_b (lo := -2147483648) (hi := 2147483647) g 1 2 rfl
  have b51 := gi_b (lo := -2147483648) (hi := 2147483647) g 236 10 rfl
  have b52 := gi_b (lo := -2147483648) (hi := 2147483647) g 1 3 rfl
  have b53 := gi_b (lo := -2147483648) (hi := 2147483647) g 236 11 rfl
  refine wi_aload_n (i := 1) (x := 0) (nx := 289) (r1 := 0) (r2 := 0) (r3 := 0) rfl rfl ?_
  refine wi_aload_n (i := 0) (x := 1000000) (nx := 290) (r1 := 0) (r2 := 0) (r3 := 0) rfl rfl ?_
  refine wi_iload (i := 4) (e := i) (nx := 292) (r1 := 0) (r2 := 0) (r3 := 0) rfl rfl ?_
  refine wi_iconst (n := 1) (nx := 293) (r1 := 0) (r2 := 0) (r3 := 0) rfl ?_
  refine wr_add (nx := 294) (r1 := 0) (r2 := 0) (r3 := 0) rfl (fun e54 (fe54 : e54 = i + 1) => ?_)
  obtain ⟨i55, ei55⟩ : ∃ q : Nat, e54 = (q : Int) := ⟨(e54).toNat, by omega⟩
  have s56 := sc_b (xs i55)
  refine wr_sc (a := e54) (f := i55) (nx := 295) (r1 := 0) (r2 := 0) (r3 := 0) rfl (by omega) (by omega) hL ?_
  refine wi_aload_n (i := 0) (x := 1000000) (nx := 296) (r1 := 0) (r2 := 0) (r3 := 0) rfl rfl ?_
  refine wi_iload (i := 4) (e := i) (nx := 298) (r1 := 0) (r2 := 0) (r3 := 0) rfl rfl ?_
  refine wi_iconst (n := 2) (nx := 299) (r1 := 0) (r2 := 0) (r3 := 0) rfl ?_
  refine wr_add (nx := 300) (r1 := 0) (r2 := 0) (r3 := 0) rfl (fun e57 (fe57 : e57 = i + 2) => ?_)
  obtain ⟨i58, ei58⟩ : ∃ q : Nat, e57 = (q : Int) := ⟨(e57).toNat, by omega⟩
  have s59 := sc_b (xs i58)
  refine wr_sc (a := e57) (f := i58) (nx := 301) (r1 := 0) (r2 := 0) (r3 := 0) rfl (by omega) (by omega) hL ?_
  refine wi_aload_n (i := 0) (x := 1000000) (nx := 302) (r1 := 0) (r2 := 0) (r3 := 0) rfl rfl ?_
  refine wi_iload (i := 4) (e := i) (nx := 304) (r1 := 0) (r2 := 0) (r3 := 0) rfl rfl ?_
  refine wi_iconst (n := 3) (nx := 305) (r1 := 0) (r2 := 0) (r3 := 0) rfl ?_
  refine wr_add (nx := 306) (r1 := 0) (r2 := 0) (r3 := 0) rfl (fun e60 (fe60 : e60 = i + 3) => ?_)
  obtain ⟨i61, ei61⟩ : ∃ q : Nat, e60 = (q : Int) := ⟨(e60).toNat, by omega⟩
  have s62 := sc_b (xs i61)
  refine wr_sc (a := e60) (f := i61) (nx := 307) (r1 := 0) (r2 := 0) (r3 := 0) rfl (by omega) (by omega) hL ?_
  refine wi_aload_n (i := 0) (x := 1000000) (nx := 308) (r1 := 0) (r2 := 0) (r3 := 0) rfl rfl ?_
  refine wi_iload (i := 4) (e := i) (nx := 310) (r1 := 0) (r2 := 0) (r3 := 0) rfl rfl ?_
  refine wi_iconst (n := 4) (nx := 311) (r1 := 0) (r2 := 0) (r3 := 0) rfl ?_
  refine wr_add (nx := 312) (r1 := 0) (r2 := 0) (r3 := 0) rfl (fun e63 (fe63 : e63 = i + 4) => ?_)
  obtain ⟨i64, ei64⟩ : ∃ q : Nat, e63 = (q : Int) := ⟨(e63).toNat, by omega⟩
  have s65 := sc_b (xs i64)
  refine wr_sc (a := e63) (f := i64) (nx := 313) (r1 := 0) (r2 := 0) (r3 := 0) rfl (by omega) (by omega) hL ?_
  refine wi_aload_n (i := 0) (x := 1000000) (nx := 314) (r1 := 0) (r2 := 0) (r3 := 0) rfl rfl ?_
  refine wi_iload (i := 4) (e := i) (nx := 316) (r1 := 0) (r2 := 0) (r3 := 0) rfl rfl ?_
  refine wi_iconst (n := 5) (nx := 317) (r1 := 0) (r2 := 0) (r3 := 0) rfl ?_
  refine wr_add (nx := 318) (r1 := 0) (r2 := 0) (r3 := 0) rfl (fun e66 (fe66 : e66 = i + 5) => ?_)
  obtain ⟨i67, ei67⟩ : ∃ q : Nat, e66 = (q : Int) := ⟨(e66).toNat, by omega⟩
  have s68 := sc_b (xs i67)
  refine wr_sc (a := e66) (f := i67) (nx := 319) (r1 := 0) (r2 := 0) (r3 := 0) rfl (by omega) (by omega) hL ?_
  refine wi_aload_n (i := 3) (x := 259) (nx := 320) (r1 := 0) (r2 := 0) (r3 := 0) rfl rfl ?_
  refine wi_S (rest := []) (as := [.ref 0, vi ((xs i55).toInt), vi ((xs i58).toInt), vi ((xs i61).toInt), vi ((xs i64).toInt), vi ((xs i67).toInt), .ref 259]) (nx := 323) (r1 := 1) (r2 := 23) (r3 := 0) rfl rfl rfl (of_decide_eq_true rfl) rfl rfl (of_decide_eq_true rfl) (of_decide_eq_true rfl) ?_
  refine wi_aload (i := 6) (x := 259) (nx := 2) (r1 := 0) (r2 := 0) (r3 := 0) rfl rfl ?_
  refine wi_iconst (n := 0) (nx := 3) (r1 := 0) (r2 := 0) (r3 := 0) rfl ?_
  refine wi_aload_n (i := 0) (x := 0) (nx := 4) (r1 := 0) (r2 := 0) (r3 := 0) rfl rfl ?_
  refine wi_iload_n (i := 1) (e := (xs i55).toInt) (nx := 5) (r1 := 0) (r2 := 0) (r3 := 0) rfl rfl ?_
  refine wi_iload_n (i := 2) (e := (xs i58).toInt) (nx := 6) (r1 := 0) (r2 := 0) (r3 := 0) rfl rfl ?_
  refine wi_iload_n (i := 3) (e := (xs i61).toInt) (nx := 7) (r1 := 0) (r2 := 0) (r3 := 0) rfl rfl ?_
  refine wi_iload (i := 4) (e := (xs i64).toInt) (nx := 9) (r1 := 0) (r2 := 0) (r3 := 0) rfl rfl ?_
  refine wi_iload (i := 5) (e := (xs i67).toInt) (nx := 11) (r1 := 0) (r2 := 0) (r3 := 0) rfl rfl ?_
  refine wr_V (k0 := 0) (rest := [vi 0, .ref 259]) (as := [.ref 0, vi ((xs i55).toInt), vi ((xs i58).toInt), vi ((xs i61).toInt), vi ((xs i64).toInt), vi ((xs i67).toInt)]) (nx := 14) (r1 := 61) (r2 := 5) (r3 := 0) rfl rfl rfl (of_decide_eq_true rfl) rfl rfl (by decide) rfl rfl (of_decide_eq_true rfl) (of_decide_eq_true rfl) ?_
  refine ct_61_0 hcr hr  g ((xs i55).toInt) ((xs i58).toInt) ((xs i61).toInt) ((xs i64).toInt) ((xs i67).toInt) (by omega) (by omega) (by omega) (by omega) (by omega)  (fun h69 z70 g69 u69 (fz70 : 20 ≤ z70 ∧ z70 ≤ 800) (p69_0 : (h 1 1) ≤ 780) (p69_1 : (h69 1 1) = (h 1 1) + 20) (p69_2 : z70 = (h 1 1) + 20) y69_0 => ?_) (fun h69 g69 u69 (pe69_0 : 781 ≤ (h 1 1)) (pe69_1 : (h69 1 1) = (h 1 1)) ye69_0 => ?_)
  ·
    have b71 := gi_b (lo := 0) (hi := 800) g69 1 1 rfl
    refine wk_i ?_
    refine wi_i2l (nx := 15) (r1 := 0) (r2 := 0) (r3 := 0) rfl (by omega) ?_
    refine wr_ls (k0 := 259) (a := 0) (f := 0) (x := z70) (bl := -9223372036854775808) (bh := 9223372036854775807) (nx := 16) (r1 := 0) (r2 := 0) (r3 := 0) rfl (by decide) rfl (by omega) (by omega) (by decide) g69 rfl (by omega) (fun h72 g72 w72 u72 => ?_)
    refine wi_goto (nx := 19) (r1 := 23) (r2 := 0) (r3 := 0) rfl ?_
    refine wi_iconst (n := 0) (nx := 24) (r1 := 0) (r2 := 0) (r3 := 0) rfl ?_
    refine wi_ireturn (nx := 25) (r1 := 0) (r2 := 0) (r3 := 0) rfl rfl ?_
    refine wk_i ?_
    refine wi_istore (i := 5) (e := 0) (lo2 := [(5, vi 0), (0, .ref 1000000), (1, .ref 0), (2, .ref 236), (3, .ref 259), (4, vi i)]) (nx := 325) (r1 := 0) (r2 := 0) (r3 := 0) rfl rfl ?_
    refine wi_aload_n (i := 2) (x := 236) (nx := 326) (r1 := 0) (r2 := 0) (r3 := 0) rfl rfl ?_
    refine wi_aload_n (i := 0) (x := 1000000) (nx := 327) (r1 := 0) (r2 := 0) (r3 := 0) rfl rfl ?_
    refine wi_iload (i := 4) (e := i) (nx := 329) (r1 := 0) (r2 := 0) (r3 := 0) rfl rfl ?_
    refine wi_iconst (n := 1) (nx := 330) (r1 := 0) (r2 := 0) (r3 := 0) rfl ?_
    refine wr_add (nx := 331) (r1 := 0) (r2 := 0) (r3 := 0) rfl (fun e73 (fe73 : e73 = i + 1) => ?_)
    refine wr_sc (a := e73) (f := i55) (nx := 332) (r1 := 0) (r2 := 0) (r3 := 0) rfl (by omega) (by omega) hL ?_
    refine wi_aload_n (i := 0) (x := 1000000) (nx := 333) (r1 := 0) (r2 := 0) (r3 := 0) rfl rfl ?_
    refine wi_iload (i := 4) (e := i) (nx := 335) (r1 := 0) (r2 := 0) (r3 := 0) rfl rfl ?_
    refine wi_iconst (n := 2) (nx := 336) (r1 := 0) (r2 := 0) (r3 := 0) rfl ?_
    refine wr_add (nx := 337) (r1 := 0) (r2 := 0) (r3 := 0) rfl (fun e74 (fe74 : e74 = i + 2) => ?_)
    refine wr_sc (a := e74) (f := i58) (nx := 338) (r1 := 0) (r2 := 0) (r3 := 0) rfl (by omega) (by omega) hL ?_
    refine wi_aload_n (i := 0) (x := 1000000) (nx := 339) (r1 := 0) (r2 := 0) (r3 := 0) rfl rfl ?_
    refine wi_iload (i := 4) (e := i) (nx := 341) (r1 := 0) (r2 := 0) (r3 := 0) rfl rfl ?_
    refine wi_iconst (n := 3) (nx := 342) (r1 := 0) (r2 := 0) (r3 := 0) rfl ?_
    refine wr_add (nx := 343) (r1 := 0) (r2 := 0) (r3 := 0) rfl (fun e75 (fe75 : e75 = i + 3) => ?_)
    refine wr_sc (a := e75) (f := i61) (nx := 344) (r1 := 0) (r2 := 0) (r3 := 0) rfl (by omega) (by omega) hL ?_
    refine wi_aload_n (i := 0) (x := 1000000) (nx := 345) (r1 := 0) (r2 := 0) (r3 := 0) rfl rfl ?_
    refine wi_iload (i := 4) (e := i) (nx := 347) (r1 := 0) (r2 := 0) (r3 := 0) rfl rfl ?_
    refine wi_iconst (n := 4) (nx := 348) (r1 := 0) (r2 := 0) (r3 := 0) rfl ?_
    refine wr_add (nx := 349) (r1 := 0) (r2 := 0) (r3 := 0) rfl (fun e76 (fe76 : e76 = i + 4) => ?_)
    refine wr_sc (a := e76) (f := i64) (nx := 350) (r1 := 0) (r2 := 0) (r3 := 0) rfl (by omega) (by omega) hL ?_
    refine wi_aload_n (i := 0) (x := 1000000) (nx := 351) (r1 := 0) (r2 := 0) (r3 := 0) rfl rfl ?_
    refine wi_iload (i := 4) (e := i) (nx := 353) (r1 := 0) (r2 := 0) (r3 := 0) rfl rfl ?_
    refine wi_iconst (n := 5) (nx := 354) (r1 := 0) (r2 := 0) (r3 := 0) rfl ?_
    refine wr_add (nx := 355) (r1 := 0) (r2 := 0) (r3 := 0) rfl (fun e77 (fe77 : e77 = i + 5) => ?_)
    refine wr_sc (a := e77) (f := i67) (nx := 356) (r1 := 0) (r2 := 0) (r3 := 0) rfl (by omega) (by omega) hL ?_
    refine wr_V (k0 := 236) (rest := []) (as := [.ref 236, vi ((xs i55).toInt), vi ((xs i58).toInt), vi ((xs i61).toInt), vi ((xs i64).toInt), vi ((xs i67).toInt)]) (nx := 359) (r1 := 204) (r2 := 5) (r3 := 11) rfl rfl rfl (of_decide_eq_true rfl) rfl rfl (by decide) rfl rfl (of_decide_eq_true rfl) (of_decide_eq_true rfl) ?_
    refine ct_204_236 hcr  g72 ((xs i55).toInt) ((xs i58).toInt) ((xs i61).toInt) ((xs i64).toInt) ((xs i67).toInt) (by omega) (by omega) (by omega) (by omega) (by omega)  (fun h78 z79 g78 u78 (fz79 : 0 ≤ z79 ∧ z79 ≤ 800) (p78_0 : ((h72 236 2) ≤ 780 ∧ (h78 236 0) = 0 ∧ (h78 236 2) = (h72 236 2) + 20 ∧ z79 = (h72 236 2) + 20) ∨ (781 ≤ (h72 236 2) ∧ (h78 236 0) = 1 ∧ (h78 236 2) = (h72 236 2))) y78_0 y78_1 => ?_)
    have e80 : h72 236 2 = h 236 2 := ((u72 236 2 rfl).trans (u69 236 2 rfl))
    have b81 := gi_b (lo := 0) (hi := 2) g78 236 0 rfl
    have b82 := gi_b (lo := 0) (hi := 800) g78 236 2 rfl
    refine wk_i ?_
    rcases p78_0 with p78_0 | p78_0
    ·
      refine wi_istore (i := 6) (e := z79) (lo2 := [(6, vi z79), (5, vi 0), (0, .ref 1000000), (1, .ref 0), (2, .ref 236), (3, .ref 259), (4, vi i)]) (nx := 361) (r1 := 0) (r2 := 0) (r3 := 0) rfl rfl ?_
      refine wi_goto (nx := 364) (r1 := 1501) (r2 := 0) (r3 := 0) rfl ?_
      refine wp.lo (lo := [(0, .ref 1000000), (1, .ref 0), (2, .ref 236), (3, .ref 259), (4, vi i)]) ⟨rfl, rfl, rfl, rfl, rfl, trivial⟩ rfl ?_
      have e83 : h78 238 98 = h 238 98 := ((u78 238 98 rfl).trans ((u72 238 98 rfl).trans (u69 238 98 rfl)))
      have e84 : h78 238 99 = h 238 99 := ((u78 238 99 rfl).trans ((u72 238 99 rfl).trans (u69 238 99 rfl)))
      have e85 : h78 238 100 = h 238 100 := ((u78 238 100 rfl).trans ((u72 238 100 rfl).trans (u69 238 100 rfl)))
      have e86 : h78 238 101 = h 238 101 := ((u78 238 101 rfl).trans ((u72 238 101 rfl).trans (u69 238 101 rfl)))
      have e87 : h78 238 102 = h 238 102 := ((u78 238 102 rfl).trans ((u72 238 102 rfl).trans (u69 238 102 rfl)))
      have e88 : h78 238 106 = h 238 106 := ((u78 238 106 rfl).trans ((u72 238 106 rfl).trans (u69 238 106 rfl)))
      have e89 : h78 238 73 = h 238 73 := ((u78 238 73 rfl).trans ((u72 238 73 rfl).trans (u69 238 73 rfl)))
      have e90 : h78 238 2 = h 238 2 := ((u78 238 2 rfl).trans ((u72 238 2 rfl).trans (u69 238 2 rfl)))
      have e91 : h78 238 119 = h 238 119 := ((u78 238 119 rfl).trans ((u72 238 119 rfl).trans (u69 238 119 rfl)))
      have e92 : h78 238 67 = h 238 67 := ((u78 238 67 rfl).trans ((u72 238 67 rfl).trans (u69 238 67 rfl)))
      have e93 : h78 238 69 = h 238 69 := ((u78 238 69 rfl).trans ((u72 238 69 rfl).trans (u69 238 69 rfl)))
      have e94 : h78 238 5 = h 238 5 := ((u78 238 5 rfl).trans ((u72 238 5 rfl).trans (u69 238 5 rfl)))
      have e95 : h78 241 98 = h 241 98 := ((u78 241 98 rfl).trans ((u72 241 98 rfl).trans (u69 241 98 rfl)))
      have e96 : h78 241 99 = h 241 99 := ((u78 241 99 rfl).trans ((u72 241 99 rfl).trans (u69 241 99 rfl)))
      have e97 : h78 241 100 = h 241 100 := ((u78 241 100 rfl).trans ((u72 241 100 rfl).trans (u69 241 100 rfl)))
      have e98 : h78 241 101 = h 241 101 := ((u78 241 101 rfl).trans ((u72 241 101 rfl).trans (u69 241 101 rfl)))
      have e99 : h78 241 102 = h 241 102 := ((u78 241 102 rfl).trans ((u72 241 102 rfl).trans (u69 241 102 rfl)))
      have e100 : h78 241 106 = h 241 106 := ((u78 241 106 rfl).trans ((u72 241 106 rfl).trans (u69 241 106 rfl)))
      have e101 : h78 241 73 = h 241 73 := ((u78 241 73 rfl).trans ((u72 241 73 rfl).trans (u69 241 73 rfl)))
      have e102 : h78 241 2 = h 241 2 := ((u78 241 2 rfl).trans ((u72 241 2 rfl).trans (u69 241 2 rfl)))
      have e103 : h78 241 119 = h 241 119 := ((u78 241 119 rfl).trans ((u72 241 119 rfl).trans (u69 241 119 rfl)))
      have e104 : h78 241 67 = h 241 67 := ((u78 241 67 rfl).trans ((u72 241 67 rfl).trans (u69 241 67 rfl)))
      have e105 : h78 241 69 = h 241 69 := ((u78 241 69 rfl).trans ((u72 241 69 rfl).trans (u69 241 69 rfl)))
      have e106 : h78 241 5 = h 241 5 := ((u78 241 5 rfl).trans ((u72 241 5 rfl).trans (u69 241 5 rfl)))
      have e107 : h78 1 1 = h69 1 1 := ((u78 1 1 rfl).trans (u72 1 1 rfl))
      have e108 : h78 1 2 = h 1 2 := ((u78 1 2 rfl).trans ((u72 1 2 rfl).trans (u69 1 2 rfl)))
      have e109 : h78 236 10 = h 236 10 := ((u78 236 10 rfl).trans ((u72 236 10 rfl).trans (u69 236 10 rfl)))
      have e110 : h78 1 3 = h 1 3 := ((u78 1 3 rfl).trans ((u72 1 3 rfl).trans (u69 1 3 rfl)))
      have e111 : h78 236 11 = h 236 11 := ((u78 236 11 rfl).trans ((u72 236 11 rfl).trans (u69 236 11 rfl)))
      have gp112 := GPH.fr u69 rfl gp0
      have gp113 := GPH.fr u72 rfl gp112
      have gp114 := GPH.fr u78 rfl gp113
      have b115 := gi_b (lo := 0) (hi := 5) g 241 0 rfl
      have b116 := gi_b (lo := 0) (hi := 4) g 241 1 rfl
      have gs117 := GPS.fr u69 rfl gs0
      have gs118 := GPS.fr u72 rfl gs117
      have gs119 := GPS.fr u78 rfl gs118
      have e120 : h78 0 12 = h 0 12 := ((u78 0 12 rfl).trans ((u72 0 12 rfl).trans (u69 0 12 rfl)))
      have e121 : h78 236 21 = h 236 21 := ((u78 236 21 rfl).trans ((u72 236 21 rfl).trans (u69 236 21 rfl)))
      have e122 : h78 63 5 = h 63 5 := ((u78 63 5 rfl).trans ((u72 63 5 rfl).trans (u69 63 5 rfl)))
      have e123 : h78 18 16 = h 18 16 := ((u78 18 16 rfl).trans ((u72 18 16 rfl).trans (u69 18 16 rfl)))
      have e124 : h78 18 7 = h 18 7 := ((u78 18 7 rfl).trans ((u72 18 7 rfl).trans (u69 18 7 rfl)))
      have e125 : h78 3 2 = h 3 2 := ((u78 3 2 rfl).trans ((u72 3 2 rfl).trans (u69 3 2 rfl)))
      have e126 : h78 66 1 = h 66 1 := ((u78 66 1 rfl).trans ((u72 66 1 rfl).trans (u69 66 1 rfl)))
      have b127 := gi_b (lo := 0) (hi := 6) g 73 1 rfl
      have e128 : h78 73 1 = h 73 1 := ((u78 73 1 rfl).trans ((u72 73 1 rfl).trans (u69 73 1 rfl)))
      have b129 := gi_b (lo := 0) (hi := 6) g 73 2 rfl
      have e130 : h78 73 2 = h 73 2 := ((u78 73 2 rfl).trans ((u72 73 2 rfl).trans (u69 73 2 rfl)))
      have b131 := gi_b (lo := 0) (hi := 6) g 236 22 rfl
      have e132 : h78 236 22 = h 236 22 := ((u78 236 22 rfl).trans ((u72 236 22 rfl).trans (u69 236 22 rfl)))
      have b133 := gi_b (lo := 0) (hi := 12) g 210 2 rfl
      have e134 : h78 210 2 = h 210 2 := ((u78 210 2 rfl).trans ((u72 210 2 rfl).trans (u69 210 2 rfl)))
      have q137 : h78 8 = h 8 := funext (fun i => ((u78 8 i (fo_no_ok (by decide) i)).trans ((u72 8 i rfl).trans (u69 8 i (fo_no_ok (by decide) i)))))
      have q138 : h78 7 = h 7 := funext (fun i => ((u78 7 i (fo_no_ok (by decide) i)).trans ((u72 7 i rfl).trans (u69 7 i (fo_no_ok (by decide) i)))))
      have q139 : h78 19 = h 19 := funext (fun i => ((u78 19 i (fo_no_ok (by decide) i)).trans ((u72 19 i rfl).trans (u69 19 i (fo_no_ok (by decide) i)))))
      have q140 : h78 67 = h 67 := funext (fun i => ((u78 67 i (fo_no_ok (by decide) i)).trans ((u72 67 i rfl).trans (u69 67 i (fo_no_ok (by decide) i)))))
      have ml136 : MCL h78 := MCL.mv mi0.1 q137 q138 q139 q140 (by omega) (by omega) (by omega) (by omega)
      have q142 : h78 69 = h 69 := funext (fun i => ((u78 69 i (fo_no_ok (by decide) i)).trans ((u72 69 i rfl).trans (u69 69 i (fo_no_ok (by decide) i)))))
      have q143 : h78 70 = h 70 := funext (fun i => ((u78 70 i (fo_no_ok (by decide) i)).trans ((u72 70 i rfl).trans (u69 70 i (fo_no_ok (by decide) i)))))
      have nb141 : NBc (h78 69) (h78 70) := by rw [q142, q143]; exact mi0.2.2
      have q144 : h78 8 = h 8 := funext (fun i => ((u78 8 i (fo_no_ok (by decide) i)).trans ((u72 8 i rfl).trans (u69 8 i (fo_no_ok (by decide) i)))))
      have q145 : h78 7 = h 7 := funext (fun i => ((u78 7 i (fo_no_ok (by decide) i)).trans ((u72 7 i rfl).trans (u69 7 i (fo_no_ok (by decide) i)))))
      have mi135 : MCI h78 := ⟨ml136, HIv.mv mi0.2.1 q144 q145 (by omega) (by omega) (sv_seven (P := fun x => ∀ i, h78 (76 + 19 * x) i = h (76 + 19 * x) i) (fun i => ((u78 76 i (fn_a (by decide) (fn_a (by decide) (fn_a (by decide) fn_0)))).trans ((u72 76 i (fn_a (by omega) fn_0)).trans (u69 76 i (fn_a (by decide) (fn_a (by decide) fn_0)))))) (fun i => ((u78 95 i (fn_a (by decide) (fn_a (by decide) (fn_a (by decide) fn_0)))).trans ((u72 95 i (fn_a (by omega) fn_0)).trans (u69 95 i (fn_a (by decide) (fn_a (by decide) fn_0)))))) (fun i => ((u78 114 i (fn_a (by decide) (fn_a (by decide) (fn_a (by decide) fn_0)))).trans ((u72 114 i (fn_a (by omega) fn_0)).trans (u69 114 i (fn_a (by decide) (fn_a (by decide) fn_0)))))) (fun i => ((u78 133 i (fn_a (by decide) (fn_a (by decide) (fn_a (by decide) fn_0)))).trans ((u72 133 i (fn_a (by omega) fn_0)).trans (u69 133 i (fn_a (by decide) (fn_a (by decide) fn_0)))))) (fun i => ((u78 152 i (fn_a (by decide) (fn_a (by decide) (fn_a (by decide) fn_0)))).trans ((u72 152 i (fn_a (by omega) fn_0)).trans (u69 152 i (fn_a (by decide) (fn_a (by decide) fn_0)))))) (fun i => ((u78 171 i (fn_a (by decide) (fn_a (by decide) (fn_a (by decide) fn_0)))).trans ((u72 171 i (fn_a (by omega) fn_0)).trans (u69 171 i (fn_a (by decide) (fn_a (by decide) fn_0)))))) (fun i => ((u78 190 i (fn_a (by decide) (fn_a (by decide) (fn_a (by decide) fn_0)))).trans ((u72 190 i (fn_a (by omega) fn_0)).trans (u69 190 i (fn_a (by decide) (fn_a (by decide) fn_0))))))) (by omega) (by omega), nb141⟩
      have gq146 := GQS.fr u69 rfl gq0
      have gq147 := GQS.fr u72 rfl gq146
      have gq148 := GQS.fr u78 rfl gq147
      have q149 : h78 8 = h 8 := funext (fun i => ((u78 8 i (fo_no_ok (by decide) i)).trans ((u72 8 i rfl).trans (u69 8 i (fo_no_ok (by decide) i)))))
      have q150 : h78 7 = h 7 := funext (fun i => ((u78 7 i (fo_no_ok (by decide) i)).trans ((u72 7 i rfl).trans (u69 7 i (fo_no_ok (by decide) i)))))
      have q151 : h78 215 = h 215 := funext (fun i => ((u78 215 i (fo_no_ok (by decide) i)).trans ((u72 215 i rfl).trans (u69 215 i (fo_no_ok (by decide) i)))))
      have q152 : h78 218 = h 218 := funext (fun i => ((u78 218 i (fo_no_ok (by decide) i)).trans ((u72 218 i rfl).trans (u69 218 i (fo_no_ok (by decide) i)))))
      have q153 : h78 214 = h 214 := funext (fun i => ((u78 214 i (fo_no_ok (by decide) i)).trans ((u72 214 i rfl).trans (u69 214 i (fo_no_ok (by decide) i)))))
      have q154 : h78 241 = h 241 := funext (fun i => ((u78 241 i (fo_no_ok (by decide) i)).trans ((u72 241 i rfl).trans (u69 241 i (fo_no_ok (by decide) i)))))
      exact k h78 b c ⟨⟨g78, (show h78 1 1 = h78 236 2 by omega), (RS.i0 (f := h78 238) (by refine ⟨?_, ?_, ?_, ?_, ?_⟩ <;> omega)), (RS.i0 (f := h78 241) (by refine ⟨?_, ?_, ?_, ?_, ?_⟩ <;> omega)), gp114, (by
              have fa := y69_0 (by omega)
              have fb := y78_0 (by omega)
              rw [show h72 237 = h 237 from funext (fun i => ((u72 237 i (fn_a (by omega) fn_0)).trans (u69 237 i (fn_a (by decide) (fn_a (by decide) fn_0))))), show (h72 236 2).toNat = (h 1 1).toNat by omega] at fb
              unfold BRh
              rw [show h78 2 = h69 2 from funext (fun i => ((u78 2 i (fn_a (by decide) (fn_a (by decide) (fn_a (by decide) fn_0)))).trans (u72 2 i (fn_a (by omega) fn_0)))), show h78 237 = h78 237 from funext (fun i => rfl), show (h78 1 1).toNat = (h 1 1).toNat + 20 by omega]
              exact BRn.feed br0 fa fb), (show h78 1 2 = h78 236 10 by omega), (show h78 1 3 = h78 236 11 by omega), (SVx.keep sv0 (by omega) (fun i _ => ((u78 3 i (fn_a (by decide) (fn_a (by decide) (fn_a (by decide) fn_0)))).trans ((u72 3 i (fn_a (by omega) fn_0)).trans (u69 3 i (fn_a (by decide) (fn_a (by decide) fn_0)))))) (fun i _ => ((u78 5 i (fn_a (by decide) (fn_a (by decide) (fn_a (by decide) fn_0)))).trans ((u72 5 i (fn_a (by omega) fn_0)).trans (u69 5 i (fn_a (by decide) (fn_a (by decide) fn_0)))))) (fun i _ => ((u78 6 i (fn_a (by decide) (fn_a (by decide) (fn_a (by decide) fn_0)))).trans ((u72 6 i (fn_a (by omega) fn_0)).trans (u69 6 i (fn_a (by decide) (fn_a (by decide) fn_0)))))) (fun i _ => ((u78 8 i (fn_a (by decide) (fn_a (by decide) (fn_a (by decide) fn_0)))).trans ((u72 8 i (fn_a (by omega) fn_0)).trans (u69 8 i (fn_a (by decide) (fn_a (by decide) fn_0)))))) (fun i _ => ((u78 238 i (fn_a (by decide) (fn_a (by decide) (fn_a (by decide) fn_0)))).trans ((u72 238 i (fn_a (by omega) fn_0)).trans (u69 238 i (fn_a (by decide) (fn_a (by decide) fn_0))))))), (show h78 0 12 = h78 236 21 by omega), (fun e => (SVx.keep (ss0 (by omega)) (by omega) (fun i _ => ((u78 210 i (fn_a (by decide) (fn_a (by decide) (fn_a (by decide) fn_0)))).trans ((u72 210 i (fn_a (by omega) fn_0)).trans (u69 210 i (fn_a (by decide) (fn_a (by decide) fn_0)))))) (fun i _ => ((u78 212 i (fn_a (by decide) (fn_a (by decide) (fn_a (by decide) fn_0)))).trans ((u72 212 i (fn_a (by omega) fn_0)).trans (u69 212 i (fn_a (by decide) (fn_a (by decide) fn_0)))))) (fun i _ => ((u78 213 i (fn_a (by decide) (fn_a (by decide) (fn_a (by decide) fn_0)))).trans ((u72 213 i (fn_a (by omega) fn_0)).trans (u69 213 i (fn_a (by decide) (fn_a (by decide) fn_0)))))) (fun i _ => ((u78 215 i (fn_a (by decide) (fn_a (by decide) (fn_a (by decide) fn_0)))).trans ((u72 215 i (fn_a (by omega) fn_0)).trans (u69 215 i (fn_a (by decide) (fn_a (by decide) fn_0)))))) (fun i _ => ((u78 241 i (fn_a (by decide) (fn_a (by decide) (fn_a (by decide) fn_0)))).trans ((u72 241 i (fn_a (by omega) fn_0)).trans (u69 241 i (fn_a (by decide) (fn_a (by decide) fn_0)))))))), gs119, mi135, (show h78 63 5 ≤ h78 18 16 by omega), (show (h78 63 5) < (h78 18 16) ∨ ((h78 18 7) ≤ (h78 3 2) ∧ (h78 66 1) = (h78 3 2) - (h78 18 7)) ∨ ((h78 3 2) < (h78 18 7) ∧ (h78 66 1) = 0) by omega), gq148, (MR.mv mr0 (MSN.then (MSN.refl) (fun i _ => ((u78 238 i (fn_a (by decide) (fn_a (by decide) (fn_a (by decide) fn_0)))).trans ((u72 238 i (fn_a (by omega) fn_0)).trans (u69 238 i (fn_a (by decide) (fn_a (by decide) fn_0))))))) (by omega) q149 q150 (by omega)), (fun e => SM.mv (sm0 (by omega)) q151 q152 q153 (by omega) q154)⟩, (by omega)⟩ (by omega) (by omega)
    ·
      exfalso; omega
  ·
    have b71 := gi_b (lo := 0) (hi := 800) g69 1 1 rfl
    refine wk_h 19 (by decide) rfl ?_
    refine wr_asty (i := 7) (lo2 := [(7, .retAddr 0), (0, .ref 0), (1, vi ((xs i55).toInt)), (2, vi ((xs i58).toInt)), (3, vi ((xs i61).toInt)), (4, vi ((xs i64).toInt)), (5, vi ((xs i67).toInt)), (6, .ref 259)]) (nx := 21) (r1 := 0) (r2 := 0) (r3 := 0) rfl rfl ?_
    refine wi_iconst (n := 1) (nx := 22) (r1 := 0) (r2 := 0) (r3 := 0) rfl ?_
    refine wi_ireturn (nx := 23) (r1 := 0) (r2 := 0) (r3 := 0) rfl rfl ?_
    refine wk_i ?_
    refine wi_istore (i := 5) (e := 1) (lo2 := [(5, vi 1), (0, .ref 1000000), (1, .ref 0), (2, .ref 236), (3, .ref 259), (4, vi i)]) (nx := 325) (r1 := 0) (r2 := 0) (r3 := 0) rfl rfl ?_
    refine wi_aload_n (i := 2) (x := 236) (nx := 326) (r1 := 0) (r2 := 0) (r3 := 0) rfl rfl ?_
    refine wi_aload_n (i := 0) (x := 1000000) (nx := 327) (r1 := 0) (r2 := 0) (r3 := 0) rfl rfl ?_
    refine wi_iload (i := 4) (e := i) (nx := 329) (r1 := 0) (r2 := 0) (r3 := 0) rfl rfl ?_
    refine wi_iconst (n := 1) (nx := 330) (r1 := 0) (r2 := 0) (r3 := 0) rfl ?_
    refine wr_add (nx := 331) (r1 := 0) (r2 := 0) (r3 := 0) rfl (fun e72 (fe72 : e72 = i + 1) => ?_)
    refine wr_sc (a := e72) (f := i55) (nx := 332) (r1 := 0) (r2 := 0) (r3 := 0) rfl (by omega) (by omega) hL ?_
    refine wi_aload_n (i := 0) (x := 1000000) (nx := 333) (r1 := 0) (r2 := 0) (r3 := 0) rfl rfl ?_
    refine wi_iload (i := 4) (e := i) (nx := 335) (r1 := 0) (r2 := 0) (r3 := 0) rfl rfl ?_
    refine wi_iconst (n := 2) (nx := 336) (r1 := 0) (r2 := 0) (r3 := 0) rfl ?_
    refine wr_add (nx := 337) (r1 := 0) (r2 := 0) (r3 := 0) rfl (fun e73 (fe73 : e73 = i + 2) => ?_)
    refine wr_sc (a := e73) (f := i58) (nx := 338) (r1 := 0) (r2 := 0) (r3 := 0) rfl (by omega) (by omega) hL ?_
    refine wi_aload_n (i := 0) (x := 1000000) (nx := 339) (r1 := 0) (r2 := 0) (r3 := 0) rfl rfl ?_
    refine wi_iload (i := 4) (e := i) (nx := 341) (r1 := 0) (r2 := 0) (r3 := 0) rfl rfl ?_
    refine wi_iconst (n := 3) (nx := 342) (r1 := 0) (r2 := 0) (r3 := 0) rfl ?_
    refine wr_add (nx := 343) (r1 := 0) (r2 := 0) (r3 := 0) rfl (fun e74 (fe74 : e74 = i + 3) => ?_)
    refine wr_sc (a := e74) (f := i61) (nx := 344) (r1 := 0) (r2 := 0) (r3 := 0) rfl (by omega) (by omega) hL ?_
    refine wi_aload_n (i := 0) (x := 1000000) (nx := 345) (r1 := 0) (r2 := 0) (r3 := 0) rfl rfl ?_
    refine wi_iload (i := 4) (e := i) (nx := 347) (r1 := 0) (r2 := 0) (r3 := 0) rfl rfl ?_
    refine wi_iconst (n := 4) (nx := 348) (r1 := 0) (r2 := 0) (r3 := 0) rfl ?_
    refine wr_add (nx := 349) (r1 := 0) (r2 := 0) (r3 := 0) rfl (fun e75 (fe75 : e75 = i + 4) => ?_)
    refine wr_sc (a := e75) (f := i64) (nx := 350) (r1 := 0) (r2 := 0) (r3 := 0) rfl (by omega) (by omega) hL ?_
    refine wi_aload_n (i := 0) (x := 1000000) (nx := 351) (r1 := 0) (r2 := 0) (r3 := 0) rfl rfl ?_
    refine wi_iload (i := 4) (e := i) (nx := 353) (r1 := 0) (r2 := 0) (r3 := 0) rfl rfl ?_
    refine wi_iconst (n := 5) (nx := 354) (r1 := 0) (r2 := 0) (r3 := 0) rfl ?_
    refine wr_add (nx := 355) (r1 := 0) (r2 := 0) (r3 := 0) rfl (fun e76 (fe76 : e76 = i + 5) => ?_)
    refine wr_sc (a := e76) (f := i67) (nx := 356) (r1 := 0) (r2 := 0) (r3 := 0) rfl (by omega) (by omega) hL ?_
    refine wr_V (k0 := 236) (rest := []) (as := [.ref 236, vi ((xs i55).toInt), vi ((xs i58).toInt), vi ((xs i61).toInt), vi ((xs i64).toInt), vi ((xs i67).toInt)]) (nx := 359) (r1 := 204) (r2 := 5) (r3 := 11) rfl rfl rfl (of_decide_eq_true rfl) rfl rfl (by decide) rfl rfl (of_decide_eq_true rfl) (of_decide_eq_true rfl) ?_
    refine ct_204_236 hcr  g69 ((xs i55).toInt) ((xs i58).toInt) ((xs i61).toInt) ((xs i64).toInt) ((xs i67).toInt) (by omega) (by omega) (by omega) (by omega) (by omega)  (fun h77 z78 g77 u77 (fz78 : 0 ≤ z78 ∧ z78 ≤ 800) (p77_0 : ((h69 236 2) ≤ 780 ∧ (h77 236 0) = 0 ∧ (h77 236 2) = (h69 236 2) + 20 ∧ z78 = (h69 236 2) + 20) ∨ (781 ≤ (h69 236 2) ∧ (h77 236 0) = 1 ∧ (h77 236 2) = (h69 236 2))) y77_0 y77_1 => ?_)
    have e79 : h69 236 2 = h 236 2 := (u69 236 2 rfl)
    have b80 := gi_b (lo := 0) (hi := 2) g77 236 0 rfl
    have b81 := gi_b (lo := 0) (hi := 800) g77 236 2 rfl
    refine wk_i ?_
    rcases p77_0 with p77_0 | p77_0
    ·
      exfalso; omega
    ·
      refine wi_istore (i := 6) (e := z78) (lo2 := [(6, vi z78), (5, vi 1), (0, .ref 1000000), (1, .ref 0), (2, .ref 236), (3, .ref 259), (4, vi i)]) (nx := 361) (r1 := 0) (r2 := 0) (r3 := 0) rfl rfl ?_
      refine wi_goto (nx := 364) (r1 := 1501) (r2 := 0) (r3 := 0) rfl ?_
      refine wp.lo (lo := [(0, .ref 1000000), (1, .ref 0), (2, .ref 236), (3, .ref 259), (4, vi i)]) ⟨rfl, rfl, rfl, rfl, rfl, trivial⟩ rfl ?_
      have e82 : h77 238 98 = h 238 98 := ((u77 238 98 rfl).trans (u69 238 98 rfl))
      have e83 : h77 238 99 = h 238 99 := ((u77 238 99 rfl).trans (u69 238 99 rfl))
      have e84 : h77 238 100 = h 238 100 := ((u77 238 100 rfl).trans (u69 238 100 rfl))
      have e85 : h77 238 101 = h 238 101 := ((u77 238 101 rfl).trans (u69 238 101 rfl))
      have e86 : h77 238 102 = h 238 102 := ((u77 238 102 rfl).trans (u69 238 102 rfl))
      have e87 : h77 238 106 = h 238 106 := ((u77 238 106 rfl).trans (u69 238 106 rfl))
      have e88 : h77 238 73 = h 238 73 := ((u77 238 73 rfl).trans (u69 238 73 rfl))
      have e89 : h77 238 2 = h 238 2 := ((u77 238 2 rfl).trans (u69 238 2 rfl))
      have e90 : h77 238 119 = h 238 119 := ((u77 238 119 rfl).trans (u69 238 119 rfl))
      have e91 : h77 238 67 = h 238 67 := ((u77 238 67 rfl).trans (u69 238 67 rfl))
      have e92 : h77 238 69 = h 238 69 := ((u77 238 69 rfl).trans (u69 238 69 rfl))
      have e93 : h77 238 5 = h 238 5 := ((u77 238 5 rfl).trans (u69 238 5 rfl))
      have e94 : h77 241 98 = h 241 98 := ((u77 241 98 rfl).trans (u69 241 98 rfl))
      have e95 : h77 241 99 = h 241 99 := ((u77 241 99 rfl).trans (u69 241 99 rfl))
      have e96 : h77 241 100 = h 241 100 := ((u77 241 100 rfl).trans (u69 241 100 rfl))
      have e97 : h77 241 101 = h 241 101 := ((u77 241 101 rfl).trans (u69 241 101 rfl))
      have e98 : h77 241 102 = h 241 102 := ((u77 241 102 rfl).trans (u69 241 102 rfl))
      have e99 : h77 241 106 = h 241 106 := ((u77 241 106 rfl).trans (u69 241 106 rfl))
      have e100 : h77 241 73 = h 241 73 := ((u77 241 73 rfl).trans (u69 241 73 rfl))
      have e101 : h77 241 2 = h 241 2 := ((u77 241 2 rfl).trans (u69 241 2 rfl))
      have e102 : h77 241 119 = h 241 119 := ((u77 241 119 rfl).trans (u69 241 119 rfl))
      have e103 : h77 241 67 = h 241 67 := ((u77 241 67 rfl).trans (u69 241 67 rfl))
      have e104 : h77 241 69 = h 241 69 := ((u77 241 69 rfl).trans (u69 241 69 rfl))
      have e105 : h77 241 5 = h 241 5 := ((u77 241 5 rfl).trans (u69 241 5 rfl))
      have e106 : h77 1 1 = h69 1 1 := (u77 1 1 rfl)
      have e107 : h77 1 2 = h 1 2 := ((u77 1 2 rfl).trans (u69 1 2 rfl))
      have e108 : h77 236 10 = h 236 10 := ((u77 236 10 rfl).trans (u69 236 10 rfl))
      have e109 : h77 1 3 = h 1 3 := ((u77 1 3 rfl).trans (u69 1 3 rfl))
      have e110 : h77 236 11 = h 236 11 := ((u77 236 11 rfl).trans (u69 236 11 rfl))
      have gp111 := GPH.fr u69 rfl gp0
      have gp112 := GPH.fr u77 rfl gp111
      have b113 := gi_b (lo := 0) (hi := 5) g 241 0 rfl
      have b114 := gi_b (lo := 0) (hi := 4) g 241 1 rfl
      have gs115 := GPS.fr u69 rfl gs0
      have gs116 := GPS.fr u77 rfl gs115
      have e117 : h77 0 12 = h 0 12 := ((u77 0 12 rfl).trans (u69 0 12 rfl))
      have e118 : h77 236 21 = h 236 21 := ((u77 236 21 rfl).trans (u69 236 21 rfl))
      have e119 : h77 63 5 = h 63 5 := ((u77 63 5 rfl).trans (u69 63 5 rfl))
      have e120 : h77 18 16 = h 18 16 := ((u77 18 16 rfl).trans (u69 18 16 rfl))
      have e121 : h77 18 7 = h 18 7 := ((u77 18 7 rfl).trans (u69 18 7 rfl))
      have e122 : h77 3 2 = h 3 2 := ((u77 3 2 rfl).trans (u69 3 2 rfl))
      have e123 : h77 66 1 = h 66 1 := ((u77 66 1 rfl).trans (u69 66 1 rfl))
      have b124 := gi_b (lo := 0) (hi := 6) g 73 1 rfl
      have e125 : h77 73 1 = h 73 1 := ((u77 73 1 rfl).trans (u69 73 1 rfl))
      have b126 := gi_b (lo := 0) (hi := 6) g 73 2 rfl
      have e127 : h77 73 2 = h 73 2 := ((u77 73 2 rfl).trans (u69 73 2 rfl))
      have b128 := gi_b (lo := 0) (hi := 6) g 236 22 rfl
      have e129 : h77 236 22 = h 236 22 := ((u77 236 22 rfl).trans (u69 236 22 rfl))
      have b130 := gi_b (lo := 0) (hi := 12) g 210 2 rfl
      have e131 : h77 210 2 = h 210 2 := ((u77 210 2 rfl).trans (u69 210 2 rfl))
      have q134 : h77 8 = h 8 := funext (fun i => ((u77 8 i (fo_no_ok (by decide) i)).trans (u69 8 i (fo_no_ok (by decide) i))))
      have q135 : h77 7 = h 7 := funext (fun i => ((u77 7 i (fo_no_ok (by decide) i)).trans (u69 7 i (fo_no_ok (by decide) i))))
      have q136 : h77 19 = h 19 := funext (fun i => ((u77 19 i (fo_no_ok (by decide) i)).trans (u69 19 i (fo_no_ok (by decide) i))))
      have q137 : h77 67 = h 67 := funext (fun i => ((u77 67 i (fo_no_ok (by decide) i)).trans (u69 67 i (fo_no_ok (by decide) i))))
      have ml133 : MCL h77 := MCL.mv mi0.1 q134 q135 q136 q137 (by omega) (by omega) (by omega) (by omega)
      have q139 : h77 69 = h 69 := funext (fun i => ((u77 69 i (fo_no_ok (by decide) i)).trans (u69 69 i (fo_no_ok (by decide) i))))
      have q140 : h77 70 = h 70 := funext (fun i => ((u77 70 i (fo_no_ok (by decide) i)).trans (u69 70 i (fo_no_ok (by decide) i))))
      have nb138 : NBc (h77 69) (h77 70) := by rw [q139, q140]; exact mi0.2.2
      have q141 : h77 8 = h 8 := funext (fun i => ((u77 8 i (fo_no_ok (by decide) i)).trans (u69 8 i (fo_no_ok (by decide) i))))
      have q142 : h77 7 = h 7 := funext (fun i => ((u77 7 i (fo_no_ok (by decide) i)).trans (u69 7 i (fo_no_ok (by decide) i))))
      have mi132 : MCI h77 := ⟨ml133, HIv.mv mi0.2.1 q141 q142 (by omega) (by omega) (sv_seven (P := fun x => ∀ i, h77 (76 + 19 * x) i = h (76 + 19 * x) i) (fun i => ((u77 76 i (fn_a (by decide) (fn_a (by decide) (fn_a (by decide) fn_0)))).trans (u69 76 i (fn_a (by decide) (fn_a (by decide) fn_0))))) (fun i => ((u77 95 i (fn_a (by decide) (fn_a (by decide) (fn_a (by decide) fn_0)))).trans (u69 95 i (fn_a (by decide) (fn_a (by decide) fn_0))))) (fun i => ((u77 114 i (fn_a (by decide) (fn_a (by decide) (fn_a (by decide) fn_0)))).trans (u69 114 i (fn_a (by decide) (fn_a (by decide) fn_0))))) (fun i => ((u77 133 i (fn_a (by decide) (fn_a (by decide) (fn_a (by decide) fn_0)))).trans (u69 133 i (fn_a (by decide) (fn_a (by decide) fn_0))))) (fun i => ((u77 152 i (fn_a (by decide) (fn_a (by decide) (fn_a (by decide) fn_0)))).trans (u69 152 i (fn_a (by decide) (fn_a (by decide) fn_0))))) (fun i => ((u77 171 i (fn_a (by decide) (fn_a (by decide) (fn_a (by decide) fn_0)))).trans (u69 171 i (fn_a (by decide) (fn_a (by decide) fn_0))))) (fun i => ((u77 190 i (fn_a (by decide) (fn_a (by decide) (fn_a (by decide) fn_0)))).trans (u69 190 i (fn_a (by decide) (fn_a (by decide) fn_0)))))) (by omega) (by omega), nb138⟩
      have gq143 := GQS.fr u69 rfl gq0
      have gq144 := GQS.fr u77 rfl gq143
      have q145 : h77 8 = h 8 := funext (fun i => ((u77 8 i (fo_no_ok (by decide) i)).trans (u69 8 i (fo_no_ok (by decide) i))))
      have q146 : h77 7 = h 7 := funext (fun i => ((u77 7 i (fo_no_ok (by decide) i)).trans (u69 7 i (fo_no_ok (by decide) i))))
      have q147 : h77 215 = h 215 := funext (fun i => ((u77 215 i (fo_no_ok (by decide) i)).trans (u69 215 i (fo_no_ok (by decide) i))))
      have q148 : h77 218 = h 218 := funext (fun i => ((u77 218 i (fo_no_ok (by decide) i)).trans (u69 218 i (fo_no_ok (by decide) i))))
      have q149 : h77 214 = h 214 := funext (fun i => ((u77 214 i (fo_no_ok (by decide) i)).trans (u69 214 i (fo_no_ok (by decide) i))))
      have q150 : h77 241 = h 241 := funext (fun i => ((u77 241 i (fo_no_ok (by decide) i)).trans (u69 241 i (fo_no_ok (by decide) i))))
      exact k h77 (b - 1) (c - 6) ⟨⟨g77, (show h77 1 1 = h77 236 2 by omega), (RS.i0 (f := h77 238) (by refine ⟨?_, ?_, ?_, ?_, ?_⟩ <;> omega)), (RS.i0 (f := h77 241) (by refine ⟨?_, ?_, ?_, ?_, ?_⟩ <;> omega)), gp112, (BRh.keep br0 (fun i => (u77 2 i (fn_a (by decide) (fn_a (by decide) (fn_a (by decide) fn_0)))).trans ((ye69_0 i).trans rfl)) (fun i => rfl.trans ((y77_1 (by omega) i).trans (u69 237 i (fn_a (by decide) (fn_a (by decide) fn_0))))) (by omega)), (show h77 1 2 = h77 236 10 by omega), (show h77 1 3 = h77 236 11 by omega), (SVx.keep sv0 (by omega) (fun i _ => ((u77 3 i (fn_a (by decide) (fn_a (by decide) (fn_a (by decide) fn_0)))).trans (u69 3 i (fn_a (by decide) (fn_a (by decide) fn_0))))) (fun i _ => ((u77 5 i (fn_a (by decide) (fn_a (by decide) (fn_a (by decide) fn_0)))).trans (u69 5 i (fn_a (by decide) (fn_a (by decide) fn_0))))) (fun i _ => ((u77 6 i (fn_a (by decide) (fn_a (by decide) (fn_a (by decide) fn_0)))).trans (u69 6 i (fn_a (by decide) (fn_a (by decide) fn_0))))) (fun i _ => ((u77 8 i (fn_a (by decide) (fn_a (by decide) (fn_a (by decide) fn_0)))).trans (u69 8 i (fn_a (by decide) (fn_a (by decide) fn_0))))) (fun i _ => ((u77 238 i (fn_a (by decide) (fn_a (by decide) (fn_a (by decide) fn_0)))).trans (u69 238 i (fn_a (by decide) (fn_a (by decide) fn_0)))))), (show h77 0 12 = h77 236 21 by omega), (fun e => (SVx.keep (ss0 (by omega)) (by omega) (fun i _ => ((u77 210 i (fn_a (by decide) (fn_a (by decide) (fn_a (by decide) fn_0)))).trans (u69 210 i (fn_a (by decide) (fn_a (by decide) fn_0))))) (fun i _ => ((u77 212 i (fn_a (by decide) (fn_a (by decide) (fn_a (by decide) fn_0)))).trans (u69 212 i (fn_a (by decide) (fn_a (by decide) fn_0))))) (fun i _ => ((u77 213 i (fn_a (by decide) (fn_a (by decide) (fn_a (by decide) fn_0)))).trans (u69 213 i (fn_a (by decide) (fn_a (by decide) fn_0))))) (fun i _ => ((u77 215 i (fn_a (by decide) (fn_a (by decide) (fn_a (by decide) fn_0)))).trans (u69 215 i (fn_a (by decide) (fn_a (by decide) fn_0))))) (fun i _ => ((u77 241 i (fn_a (by decide) (fn_a (by decide) (fn_a (by decide) fn_0)))).trans (u69 241 i (fn_a (by decide) (fn_a (by decide) fn_0))))))), gs116, mi132, (show h77 63 5 ≤ h77 18 16 by omega), (show (h77 63 5) < (h77 18 16) ∨ ((h77 18 7) ≤ (h77 3 2) ∧ (h77 66 1) = (h77 3 2) - (h77 18 7)) ∨ ((h77 3 2) < (h77 18 7) ∧ (h77 66 1) = 0) by omega), gq144, (MR.mv mr0 (MSN.then (MSN.refl) (fun i _ => ((u77 238 i (fn_a (by decide) (fn_a (by decide) (fn_a (by decide) fn_0)))).trans (u69 238 i (fn_a (by decide) (fn_a (by decide) fn_0)))))) (by omega) q145 q146 (by omega)), (fun e => SM.mv (sm0 (by omega)) q147 q148 q149 (by omega) q150)⟩, (by omega)⟩ (by omega) (by omega)
-- the law, case at 364
set_option maxRecDepth 100000 in
set_option maxHeartbeats 100000000 in
theorem lc_364 {L : Nat} {xs : Nat → Int32} {d b c : Nat} {h : hp} {cr : Nat → Nat → Option Nat} {Q : hp_Q} (hcr : CR cr) (hL : L ≤ 3072) (hr : 1 ≤ b ∧ 6 ≤ c) (i : Int) (I : LIm i h) (hi : 0 ≤ i ∧ i + 6 ≤ L) (k : ∀ (h2 : hp) (b2 c2 : Nat), LIm (i + 6) h2 → b ≤ b2 + 1 → c ≤ c2 + 6 → wp (md_xa (L, xs)) (d + 107) 0 (1501, [(0, .ref 1000000), (1, .ref 0), (2, .ref 236), (3, .ref 259), (4, vi i)], [], hp_w h2 cr, b2, c2) Q) : wp (md_xa (L, xs)) (d + 107) 0 (364, [(0, .ref 1000000), (1, .ref 0), (2, .ref 236), (3, .ref 259), (4, vi i)], [], hp_w h cr, b, c) Q := by
  obtain ⟨⟨g, i11, r238, r241, gp0, br0, er2, er3, sv0, sf0, ss0, gs0, mi0, ml1, ml2, gq0, mr0, sm0⟩, ie0⟩ := I
  have r238e := r238.e0
  have r241e := r241.e0
  obtain ⟨⟨se0, se1, se2, se3, se4, se5, se6, se7, se8, se9⟩, -⟩ := id sv0
  have b1 := gi_b (lo := 0) (hi := 5) g 3 0 rfl
  have b2 := gi_b (lo := 0) (hi := 5) g 238 0 rfl
  have b3 := gi_b (lo := 0) (hi := 4) g 3 1 rfl
  have b4 := gi_b (lo := 0) (hi := 4) g 238 1 rfl
  have b5 := gi_b (lo := 0) (hi := 12) g 3 2 rfl
  have b6 := gi_b (lo := 0) (hi := 12) g 238 2 rfl
  have b7 := gi_b (lo := -2147483648) (hi := 2147483647) g 3 3 rfl
  have b8 := gi_b (lo := 0) (hi := 999) g 238 3 rfl
  have b9 := gi_b (lo := -2147483648) (hi := 2147483647) g 3 4 rfl
  have b10 := gi_b (lo := 0) (hi := 999) g 238 4 rfl
  have b11 := gi_b (lo := -2147483648) (hi := 2147483647) g 3 5 rfl
  have b12 := gi_b (lo := 0) (hi := 9) g 238 5 rfl
  have b13 := gi_b (lo := -2147483648) (hi := 2147483647) g 3 6 rfl
  have b14 := gi_b (lo := 0) (hi := 999) g 238 6 rfl
  have b15 := gi_b (lo := -2147483648) (hi := 2147483647) g 3 7 rfl
  have b16 := gi_b (lo := 0) (hi := 3) g 238 7 rfl
  have b17 := gi_b (lo := -2147483648) (hi := 2147483647) g 3 8 rfl
  have b18 := gi_b (lo := 0) (hi := 999) g 238 8 rfl
  have b19 := gi_b (lo := -2147483648) (hi := 2147483647) g 3 9 rfl
  have b20 := gi_b (lo := 0) (hi := 999) g 238 9 rfl
  have b21 := gi_b (lo := -2147483648) (hi := 2147483647) g 63 5 rfl
  have b22 := gi_b (lo := 0) (hi := 12) g 18 7 rfl
  have b23 := gi_b (lo := 0) (hi := 12) g 66 1 rfl
  have b24 := gi_b (lo := 0) (hi := 1) g 0 12 rfl
  have b25 := gi_b (lo := 0) (hi := 1) g 236 21 rfl
  have bl_ := gi_b (lo := 0) (hi := 800) g 1 1 rfl
  have tb0 : BufC (h 2) (h 1 1) h := ⟨fun _ => rfl, rfl, by omega, by omega⟩
  have b26 := gi_b (lo := 0) (hi := 6) g 238 98 rfl
  have b27 := gi_b (lo := 0) (hi := 6) g 238 99 rfl
  have b28 := gi_b (lo := 0) (hi := 6) g 238 100 rfl
  have b29 := gi_b (lo := 0) (hi := 6) g 238 101 rfl
  have b30 := gi_b (lo := 0) (hi := 3) g 238 102 rfl
  have b31 := gi_b (lo := 0) (hi := 12) g 238 106 rfl
  have b32 := gi_b (lo := 0) (hi := 12) g 238 73 rfl
  have b33 := gi_b (lo := 0) (hi := 9999) g 238 119 rfl
  have b34 := gi_b (lo := 0) (hi := 9999) g 238 67 rfl
  have b35 := gi_b (lo := 0) (hi := 9) g 238 69 rfl
  have b36 := gi_b (lo := 0) (hi := 6) g 241 98 rfl
  have b37 := gi_b (lo := 0) (hi := 6) g 241 99 rfl
  have b38 := gi_b (lo := 0) (hi := 6) g 241 100 rfl
  have b39 := gi_b (lo := 0) (hi := 6) g 241 101 rfl
  have b40 := gi_b (lo := 0) (hi := 3) g 241 102 rfl
  have b41 := gi_b (lo := 0) (hi := 12) g 241 106 rfl
  have b42 := gi_b (lo := 0) (hi := 12) g 241 73 rfl
  have b43 := gi_b (lo := 0) (hi := 12) g 241 2 rfl
  have b44 := gi_b (lo := 0) (hi := 9999) g 241 119 rfl
  have b45 := gi_b (lo := 0) (hi := 9999) g 241 67 rfl
  have b46 := gi_b (lo := 0) (hi := 9) g 241 69 rfl
  have b47 := gi_b (lo := 0) (hi := 9) g 241 5 rfl
  have b48 := gi_b (lo := 0) (hi := 800) g 1 1 rfl
  have b49 := gi_b (lo := 0) (hi := 800) g 236 2 rfl
  have b50 := gi_b (lo := -2147483648) (hi := 2147483647) g 1 2 rfl
  have b51 := gi_b (lo := -2147483648) (hi := 2147483647) g 236 10 rfl
  have b52 := gi_b (lo := -2147483648) (hi := 2147483647) g 1 3 rfl
  have b53 := gi_b (lo := -2147483648) (hi := 2147483647) g 236 11 rfl
  refine wi_aload_n (i := 1) (x := 0) (nx := 365) (r1 := 0) (r2 := 0) (r3 := 0) rfl rfl ?_
  refine wi_aload_n (i := 0) (x := 1000000) (nx := 366) (r1 := 0) (r2 := 0) (r3 := 0) rfl rfl ?_
  refine wi_iload (i := 4) (e := i) (nx := 368) (r1 := 0) (r2 := 0) (r3 := 0) rfl rfl ?_
  refine wi_iconst (n := 1) (nx := 369) (r1 := 0) (r2 := 0) (r3 := 0) rfl ?_
  refine wr_add (nx := 370) (r1 := 0) (r2 := 0) (r3 := 0) rfl (fun e54 (fe54 : e54 = i + 1) => ?_)
  obtain ⟨i55, ei55⟩ : ∃ q : Nat, e54 = (q : Int) := ⟨(e54).toNat, by omega⟩
  have s56 := sc_b (xs i55)
  refine wr_sc (a := e54) (f := i55) (nx := 371) (r1 := 0) (r2 := 0) (r3 := 0) rfl (by omega) (by omega) hL ?_
  refine wi_aload_n (i := 3) (x := 259) (nx := 372) (r1 := 0) (r2 := 0) (r3 := 0) rfl rfl ?_
  refine wi_S (rest := []) (as := [.ref 0, vi ((xs i55).toInt), .ref 259]) (nx := 375) (r1 := 2) (r2 := 19) (r3 := 0) rfl rfl rfl (of_decide_eq_true rfl) rfl rfl (of_decide_eq_true rfl) (of_decide_eq_true rfl) ?_
  refine wi_aload_n (i := 2) (x := 259) (nx := 1) (r1 := 0) (r2 := 0) (r3 := 0) rfl rfl ?_
  refine wi_iconst (n := 0) (nx := 2) (r1 := 0) (r2 := 0) (r3 := 0) rfl ?_
  refine wi_aload_n (i := 0) (x := 0) (nx := 3) (r1 := 0) (r2 := 0) (r3 := 0) rfl rfl ?_
  refine wi_iload_n (i := 1) (e := (xs i55).toInt) (nx := 4) (r1 := 0) (r2 := 0) (r3 := 0) rfl rfl ?_
  refine wr_V (k0 := 0) (rest := [vi 0, .ref 259]) (as := [.ref 0, vi ((xs i55).toInt)]) (nx := 7) (r1 := 62) (r2 := 1) (r3 := 0) rfl rfl rfl (of_decide_eq_true rfl) rfl rfl (by decide) rfl rfl (of_decide_eq_true rfl) (of_decide_eq_true rfl) ?_
  refine ct_62_0 hcr hr  g ((xs i55).toInt) (by omega)  (fun h57 z58 g57 u57 (fz58 : 0 ≤ z58 ∧ z58 ≤ 800) (p57_0 : 0 ≤ ((xs i55).toInt) ∧ ((xs i55).toInt) ≤ (h 1 1)) (p57_1 : (h57 1 1) = ((xs i55).toInt)) (p57_2 : z58 = ((xs i55).toInt)) => ?_) (fun h57 g57 u57 (pe57_0 : ((xs i55).toInt) < 0 ∨ (h 1 1) < ((xs i55).toInt)) (pe57_1 : (h57 1 1) = (h 1 1)) => ?_)
  ·
    have b59 := gi_b (lo := 0) (hi := 800) g57 1 1 rfl
    refine wk_i ?_
    refine wi_i2l (nx := 8) (r1 := 0) (r2 := 0) (r3 := 0) rfl (by omega) ?_
    refine wr_ls (k0 := 259) (a := 0) (f := 0) (x := z58) (bl := -9223372036854775808) (bh := 9223372036854775807) (nx := 9) (r1 := 0) (r2 := 0) (r3 := 0) rfl (by decide) rfl (by omega) (by omega) (by decide) g57 rfl (by omega) (fun h60 g60 w60 u60 => ?_)
    refine wi_goto (nx := 12) (r1 := 15) (r2 := 0) (r3 := 0) rfl ?_
    refine wi_iconst (n := 0) (nx := 16) (r1 := 0) (r2 := 0) (r3 := 0) rfl ?_
    refine wi_ireturn (nx := 17) (r1 := 0) (r2 := 0) (r3 := 0) rfl rfl ?_
    refine wk_i ?_
    refine wi_istore (i := 5) (e := 0) (lo2 := [(5, vi 0), (0, .ref 1000000), (1, .ref 0), (2, .ref 236), (3, .ref 259), (4, vi i)]) (nx := 377) (r1 := 0) (r2 := 0) (r3 := 0) rfl rfl ?_
    refine wi_aload_n (i := 2) (x := 236) (nx := 378) (r1 := 0) (r2 := 0) (r3 := 0) rfl rfl ?_
    refine wi_aload_n (i := 0) (x := 1000000) (nx := 379) (r1 := 0) (r2 := 0) (r3 := 0) rfl rfl ?_
    refine wi_iload (i := 4) (e := i) (nx := 381) (r1 := 0) (r2 := 0) (r3 := 0) rfl rfl ?_
    refine wi_iconst (n := 1) (nx := 382) (r1 := 0) (r2 := 0) (r3 := 0) rfl ?_
    refine wr_add (nx := 383) (r1 := 0) (r2 := 0) (r3 := 0) rfl (fun e61 (fe61 : e61 = i + 1) => ?_)
    refine wr_sc (a := e61) (f := i55) (nx := 384) (r1 := 0) (r2 := 0) (r3 := 0) rfl (by omega) (by omega) hL ?_
    refine wr_V (k0 := 236) (rest := []) (as := [.ref 236, vi ((xs i55).toInt)]) (nx := 387) (r1 := 208) (r2 := 1) (r3 := 11) rfl rfl rfl (of_decide_eq_true rfl) rfl rfl (by decide) rfl rfl (of_decide_eq_true rfl) (of_decide_eq_true rfl) ?_
    refine ct_208_236 hcr  g60 ((xs i55).toInt) (by omega)  (fun h62 z63 g62 u62 (fz63 : 0 ≤ z63 ∧ z63 ≤ 800) (p62_0 : (0 ≤ ((xs i55).toInt) ∧ ((xs i55).toInt) ≤ (h60 236 2) ∧ (h62 236 0) = 0 ∧ (h62 236 2) = ((xs i55).toInt) ∧ z63 = ((xs i55).toInt)) ∨ ((((xs i55).toInt) < 0 ∨ (h60 236 2) < ((xs i55).toInt)) ∧ (h62 236 0) = 1 ∧ (h62 236 2) = (h60 236 2))) => ?_)
    have e64 : h60 236 2 = h 236 2 := ((u60 236 2 rfl).trans (u57 236 2 rfl))
    have b65 := gi_b (lo := 0) (hi := 2) g62 236 0 rfl
    have b66 := gi_b (lo := 0) (hi := 800) g62 236 2 rfl
    refine wk_i ?_
    rcases p62_0 with p62_0 | p62_0
    ·
      refine wi_istore (i := 6) (e := z63) (lo2 := [(6, vi z63), (5, vi 0), (0, .ref 1000000), (1, .ref 0), (2, .ref 236), (3, .ref 259), (4, vi i)]) (nx := 389) (r1 := 0) (r2 := 0) (r3 := 0) rfl rfl ?_
      refine wi_goto (nx := 392) (r1 := 1501) (r2 := 0) (r3 := 0) rfl ?_
      refine wp.lo (lo := [(0, .ref 1000000), (1, .ref 0), (2, .ref 236), (3, .ref 259), (4, vi i)]) ⟨rfl, rfl, rfl, rfl, rfl, trivial⟩ rfl ?_
      have e67 : h62 238 98 = h 238 98 := ((u62 238 98 rfl).trans ((u60 238 98 rfl).trans (u57 238 98 rfl)))
      have e68 : h62 238 99 = h 238 99 := ((u62 238 99 rfl).trans ((u60 238 99 rfl).trans (u57 238 99 rfl)))
      have e69 : h62 238 100 = h 238 100 := ((u62 238 100 rfl).trans ((u60 238 100 rfl).trans (u57 238 100 rfl)))
      have e70 : h62 238 101 = h 238 101 := ((u62 238 101 rfl).trans ((u60 238 101 rfl).trans (u57 238 101 rfl)))
      have e71 : h62 238 102 = h 238 102 := ((u62 238 102 rfl).trans ((u60 238 102 rfl).trans (u57 238 102 rfl)))
      have e72 : h62 238 106 = h 238 106 := ((u62 238 106 rfl).trans ((u60 238 106 rfl).trans (u57 238 106 rfl)))
      have e73 : h62 238 73 = h 238 73 := ((u62 238 73 rfl).trans ((u60 238 73 rfl).trans (u57 238 73 rfl)))
      have e74 : h62 238 2 = h 238 2 := ((u62 238 2 rfl).trans ((u60 238 2 rfl).trans (u57 238 2 rfl)))
      have e75 : h62 238 119 = h 238 119 := ((u62 238 119 rfl).trans ((u60 238 119 rfl).trans (u57 238 119 rfl)))
      have e76 : h62 238 67 = h 238 67 := ((u62 238 67 rfl).trans ((u60 238 67 rfl).trans (u57 238 67 rfl)))
      have e77 : h62 238 69 = h 238 69 := ((u62 238 69 rfl).trans ((u60 238 69 rfl).trans (u57 238 69 rfl)))
      have e78 : h62 238 5 = h 238 5 := ((u62 238 5 rfl).trans ((u60 238 5 rfl).trans (u57 238 5 rfl)))
      have e79 : h62 241 98 = h 241 98 := ((u62 241 98 rfl).trans ((u60 241 98 rfl).trans (u57 241 98 rfl)))
      have e80 : h62 241 99 = h 241 99 := ((u62 241 99 rfl).trans ((u60 241 99 rfl).trans (u57 241 99 rfl)))
      have e81 : h62 241 100 = h 241 100 := ((u62 241 100 rfl).trans ((u60 241 100 rfl).trans (u57 241 100 rfl)))
      have e82 : h62 241 101 = h 241 101 := ((u62 241 101 rfl).trans ((u60 241 101 rfl).trans (u57 241 101 rfl)))
      have e83 : h62 241 102 = h 241 102 := ((u62 241 102 rfl).trans ((u60 241 102 rfl).trans (u57 241 102 rfl)))
      have e84 : h62 241 106 = h 241 106 := ((u62 241 106 rfl).trans ((u60 241 106 rfl).trans (u57 241 106 rfl)))
      have e85 : h62 241 73 = h 241 73 := ((u62 241 73 rfl).trans ((u60 241 73 rfl).trans (u57 241 73 rfl)))
      have e86 : h62 241 2 = h 241 2 := ((u62 241 2 rfl).trans ((u60 241 2 rfl).trans (u57 241 2 rfl)))
      have e87 : h62 241 119 = h 241 119 := ((u62 241 119 rfl).trans ((u60 241 119 rfl).trans (u57 241 119 rfl)))
      have e88 : h62 241 67 = h 241 67 := ((u62 241 67 rfl).trans ((u60 241 67 rfl).trans (u57 241 67 rfl)))
      have e89 : h62 241 69 = h 241 69 := ((u62 241 69 rfl).trans ((u60 241 69 rfl).trans (u57 241 69 rfl)))
      have e90 : h62 241 5 = h 241 5 := ((u62 241 5 rfl).trans ((u60 241 5 rfl).trans (u57 241 5 rfl)))
      have e91 : h62 1 1 = h57 1 1 := ((u62 1 1 rfl).trans (u60 1 1 rfl))
      have e92 : h62 1 2 = h 1 2 := ((u62 1 2 rfl).trans ((u60 1 2 rfl).trans (u57 1 2 rfl)))
      have e93 : h62 236 10 = h 236 10 := ((u62 236 10 rfl).trans ((u60 236 10 rfl).trans (u57 236 10 rfl)))
      have e94 : h62 1 3 = h 1 3 := ((u62 1 3 rfl).trans ((u60 1 3 rfl).trans (u57 1 3 rfl)))
      have e95 : h62 236 11 = h 236 11 := ((u62 236 11 rfl).trans ((u60 236 11 rfl).trans (u57 236 11 rfl)))
      have gp96 := GPH.fr u57 rfl gp0
      have gp97 := GPH.fr u60 rfl gp96
      have gp98 := GPH.fr u62 rfl gp97
      have b99 := gi_b (lo := 0) (hi := 5) g 241 0 rfl
      have b100 := gi_b (lo := 0) (hi := 4) g 241 1 rfl
      have gs101 := GPS.fr u57 rfl gs0
      have gs102 := GPS.fr u60 rfl gs101
      have gs103 := GPS.fr u62 rfl gs102
      have e104 : h62 0 12 = h 0 12 := ((u62 0 12 rfl).trans ((u60 0 12 rfl).trans (u57 0 12 rfl)))
      have e105 : h62 236 21 = h 236 21 := ((u62 236 21 rfl).trans ((u60 236 21 rfl).trans (u57 236 21 rfl)))
      have e106 : h62 63 5 = h 63 5 := ((u62 63 5 rfl).trans ((u60 63 5 rfl).trans (u57 63 5 rfl)))
      have e107 : h62 18 16 = h 18 16 := ((u62 18 16 rfl).trans ((u60 18 16 rfl).trans (u57 18 16 rfl)))
      have e108 : h62 18 7 = h 18 7 := ((u62 18 7 rfl).trans ((u60 18 7 rfl).trans (u57 18 7 rfl)))
      have e109 : h62 3 2 = h 3 2 := ((u62 3 2 rfl).trans ((u60 3 2 rfl).trans (u57 3 2 rfl)))
      have e110 : h62 66 1 = h 66 1 := ((u62 66 1 rfl).trans ((u60 66 1 rfl).trans (u57 66 1 rfl)))
      have b111 := gi_b (lo := 0) (hi := 6) g 73 1 rfl
      have e112 : h62 73 1 = h 73 1 := ((u62 73 1 rfl).trans ((u60 73 1 rfl).trans (u57 73 1 rfl)))
      have b113 := gi_b (lo := 0) (hi := 6) g 73 2 rfl
      have e114 : h62 73 2 = h 73 2 := ((u62 73 2 rfl).trans ((u60 73 2 rfl).trans (u57 73 2 rfl)))
      have b115 := gi_b (lo := 0) (hi := 6) g 236 22 rfl
      have e116 : h62 236 22 = h 236 22 := ((u62 236 22 rfl).trans ((u60 236 22 rfl).trans (u57 236 22 rfl)))
      have b117 := gi_b (lo := 0) (hi := 12) g 210 2 rfl
      have e118 : h62 210 2 = h 210 2 := ((u62 210 2 rfl).trans ((u60 210 2 rfl).trans (u57 210 2 rfl)))
      have q121 : h62 8 = h 8 := funext (fun i => ((u62 8 i (fo_no_ok (by decide) i)).trans ((u60 8 i rfl).trans (u57 8 i (fo_no_ok (by decide) i)))))
      have q122 : h62 7 = h 7 := funext (fun i => ((u62 7 i (fo_no_ok (by decide) i)).trans ((u60 7 i rfl).trans (u57 7 i (fo_no_ok (by decide) i)))))
      have q123 : h62 19 = h 19 := funext (fun i => ((u62 19 i (fo_no_ok (by decide) i)).trans ((u60 19 i rfl).trans (u57 19 i (fo_no_ok (by decide) i)))))
      have q124 : h62 67 = h 67 := funext (fun i => ((u62 67 i (fo_no_ok (by decide) i)).trans ((u60 67 i rfl).trans (u57 67 i (fo_no_ok (by decide) i)))))
      have ml120 : MCL h62 := MCL.mv mi0.1 q121 q122 q123 q124 (by omega) (by omega) (by omega) (by omega)
      have q126 : h62 69 = h 69 := funext (fun i => ((u62 69 i (fo_no_ok (by decide) i)).trans ((u60 69 i rfl).trans (u57 69 i (fo_no_ok (by decide) i)))))
      have q127 : h62 70 = h 70 := funext (fun i => ((u62 70 i (fo_no_ok (by decide) i)).trans ((u60 70 i rfl).trans (u57 70 i (fo_no_ok (by decide) i)))))
      have nb125 : NBc (h62 69) (h62 70) := by rw [q126, q127]; exact mi0.2.2
      have q128 : h62 8 = h 8 := funext (fun i => ((u62 8 i (fo_no_ok (by decide) i)).trans ((u60 8 i rfl).trans (u57 8 i (fo_no_ok (by decide) i)))))
      have q129 : h62 7 = h 7 := funext (fun i => ((u62 7 i (fo_no_ok (by decide) i)).trans ((u60 7 i rfl).trans (u57 7 i (fo_no_ok (by decide) i)))))
      have mi119 : MCI h62 := ⟨ml120, HIv.mv mi0.2.1 q128 q129 (by omega) (by omega) (sv_seven (P := fun x => ∀ i, h62 (76 + 19 * x) i = h (76 + 19 * x) i) (fun i => ((u62 76 i (fn_a (by decide) (fn_a (by decide) fn_0))).trans ((u60 76 i (fn_a (by omega) fn_0)).trans (u57 76 i (fn_a (by decide) fn_0))))) (fun i => ((u62 95 i (fn_a (by decide) (fn_a (by decide) fn_0))).trans ((u60 95 i (fn_a (by omega) fn_0)).trans (u57 95 i (fn_a (by decide) fn_0))))) (fun i => ((u62 114 i (fn_a (by decide) (fn_a (by decide) fn_0))).trans ((u60 114 i (fn_a (by omega) fn_0)).trans (u57 114 i (fn_a (by decide) fn_0))))) (fun i => ((u62 133 i (fn_a (by decide) (fn_a (by decide) fn_0))).trans ((u60 133 i (fn_a (by omega) fn_0)).trans (u57 133 i (fn_a (by decide) fn_0))))) (fun i => ((u62 152 i (fn_a (by decide) (fn_a (by decide) fn_0))).trans ((u60 152 i (fn_a (by omega) fn_0)).trans (u57 152 i (fn_a (by decide) fn_0))))) (fun i => ((u62 171 i (fn_a (by decide) (fn_a (by decide) fn_0))).trans ((u60 171 i (fn_a (by omega) fn_0)).trans (u57 171 i (fn_a (by decide) fn_0))))) (fun i => ((u62 190 i (fn_a (by decide) (fn_a (by decide) fn_0))).trans ((u60 190 i (fn_a (by omega) fn_0)).trans (u57 190 i (fn_a (by decide) fn_0)))))) (by omega) (by omega), nb125⟩
      have gq130 := GQS.fr u57 rfl gq0
      have gq131 := GQS.fr u60 rfl gq130
      have gq132 := GQS.fr u62 rfl gq131
      have q133 : h62 8 = h 8 := funext (fun i => ((u62 8 i (fo_no_ok (by decide) i)).trans ((u60 8 i rfl).trans (u57 8 i (fo_no_ok (by decide) i)))))
      have q134 : h62 7 = h 7 := funext (fun i => ((u62 7 i (fo_no_ok (by decide) i)).trans ((u60 7 i rfl).trans (u57 7 i (fo_no_ok (by decide) i)))))
      have q135 : h62 215 = h 215 := funext (fun i => ((u62 215 i (fo_no_ok (by decide) i)).trans ((u60 215 i rfl).trans (u57 215 i (fo_no_ok (by decide) i)))))
      have q136 : h62 218 = h 218 := funext (fun i => ((u62 218 i (fo_no_ok (by decide) i)).trans ((u60 218 i rfl).trans (u57 218 i (fo_no_ok (by decide) i)))))
      have q137 : h62 214 = h 214 := funext (fun i => ((u62 214 i (fo_no_ok (by decide) i)).trans ((u60 214 i rfl).trans (u57 214 i (fo_no_ok (by decide) i)))))
      have q138 : h62 241 = h 241 := funext (fun i => ((u62 241 i (fo_no_ok (by decide) i)).trans ((u60 241 i rfl).trans (u57 241 i (fo_no_ok (by decide) i)))))
      exact k h62 b c ⟨⟨g62, (show h62 1 1 = h62 236 2 by omega), (RS.i0 (f := h62 238) (by refine ⟨?_, ?_, ?_, ?_, ?_⟩ <;> omega)), (RS.i0 (f := h62 241) (by refine ⟨?_, ?_, ?_, ?_, ?_⟩ <;> omega)), gp98, (BRh.keep br0 (fun i => ((u62 2 i (fn_a (by decide) (fn_a (by decide) fn_0))).trans ((u60 2 i (fn_a (by omega) fn_0)).trans (u57 2 i (fn_a (by decide) fn_0))))) (fun i => ((u62 237 i (fn_a (by decide) (fn_a (by decide) fn_0))).trans ((u60 237 i (fn_a (by omega) fn_0)).trans (u57 237 i (fn_a (by decide) fn_0))))) (by omega)), (show h62 1 2 = h62 236 10 by omega), (show h62 1 3 = h62 236 11 by omega), (SVx.keep sv0 (by omega) (fun i _ => ((u62 3 i (fn_a (by decide) (fn_a (by decide) fn_0))).trans ((u60 3 i (fn_a (by omega) fn_0)).trans (u57 3 i (fn_a (by decide) fn_0))))) (fun i _ => ((u62 5 i (fn_a (by decide) (fn_a (by decide) fn_0))).trans ((u60 5 i (fn_a (by omega) fn_0)).trans (u57 5 i (fn_a (by decide) fn_0))))) (fun i _ => ((u62 6 i (fn_a (by decide) (fn_a (by decide) fn_0))).trans ((u60 6 i (fn_a (by omega) fn_0)).trans (u57 6 i (fn_a (by decide) fn_0))))) (fun i _ => ((u62 8 i (fn_a (by decide) (fn_a (by decide) fn_0))).trans ((u60 8 i (fn_a (by omega) fn_0)).trans (u57 8 i (fn_a (by decide) fn_0))))) (fun i _ => ((u62 238 i (fn_a (by decide) (fn_a (by decide) fn_0))).trans ((u60 238 i (fn_a (by omega) fn_0)).trans (u57 238 i (fn_a (by decide) fn_0)))))), (show h62 0 12 = h62 236 21 by omega), (fun e => (SVx.keep (ss0 (by omega)) (by omega) (fun i _ => ((u62 210 i (fn_a (by decide) (fn_a (by decide) fn_0))).trans ((u60 210 i (fn_a (by omega) fn_0)).trans (u57 210 i (fn_a (by decide) fn_0))))) (fun i _ => ((u62 212 i (fn_a (by decide) (fn_a (by decide) fn_0))).trans ((u60 212 i (fn_a (by omega) fn_0)).trans (u57 212 i (fn_a (by decide) fn_0))))) (fun i _ => ((u62 213 i (fn_a (by decide) (fn_a (by decide) fn_0))).trans ((u60 213 i (fn_a (by omega) fn_0)).trans (u57 213 i (fn_a (by decide) fn_0))))) (fun i _ => ((u62 215 i (fn_a (by decide) (fn_a (by decide) fn_0))).trans ((u60 215 i (fn_a (by omega) fn_0)).trans (u57 215 i (fn_a (by decide) fn_0))))) (fun i _ => ((u62 241 i (fn_a (by decide) (fn_a (by decide) fn_0))).trans ((u60 241 i (fn_a (by omega) fn_0)).trans (u57 241 i (fn_a (by decide) fn_0))))))), gs103, mi119, (show h62 63 5 ≤ h62 18 16 by omega), (show (h62 63 5) < (h62 18 16) ∨ ((h62 18 7) ≤ (h62 3 2) ∧ (h62 66 1) = (h62 3 2) - (h62 18 7)) ∨ ((h62 3 2) < (h62 18 7) ∧ (h62 66 1) = 0) by omega), gq132, (MR.mv mr0 (MSN.then (MSN.refl) (fun i _ => ((u62 238 i (fn_a (by decide) (fn_a (by decide) fn_0))).trans ((u60 238 i (fn_a (by omega) fn_0)).trans (u57 238 i (fn_a (by decide) fn_0)))))) (by omega) q133 q134 (by omega)), (fun e => SM.mv (sm0 (by omega)) q135 q136 q137 (by omega) q138)⟩, (by omega)⟩ (by omega) (by omega)
    ·
      exfalso; omega
  ·
    have b59 := gi_b (lo := 0) (hi := 800) g57 1 1 rfl
    refine wk_h 12 (by decide) rfl ?_
    refine wr_astx (i := 3) (lo2 := [(3, .retAddr 0), (0, .ref 0), (1, vi ((xs i55).toInt)), (2, .ref 259)]) (nx := 13) (r1 := 0) (r2 := 0) (r3 := 0) rfl rfl ?_
    refine wi_iconst (n := 1) (nx := 14) (r1 := 0) (r2 := 0) (r3 := 0) rfl ?_
    refine wi_ireturn (nx := 15) (r1 := 0) (r2 := 0) (r3 := 0) rfl rfl ?_
    refine wk_i ?_
    refine wi_istore (i := 5) (e := 1) (lo2 := [(5, vi 1), (0, .ref 1000000), (1, .ref 0), (2, .ref 236), (3, .ref 259), (4, vi i)]) (nx := 377) (r1 := 0) (r2 := 0) (r3 := 0) rfl rfl ?_
    refine wi_aload_n (i := 2) (x := 236) (nx := 378) (r1 := 0) (r2 := 0) (r3 := 0) rfl rfl ?_
    refine wi_aload_n (i := 0) (x := 1000000) (nx := 379) (r1 := 0) (r2 := 0) (r3 := 0) rfl rfl ?_
    refine wi_iload (i := 4) (e := i) (nx := 381) (r1 := 0) (r2 := 0) (r3 := 0) rfl rfl ?_
    refine wi_iconst (n := 1) (nx := 382) (r1 := 0) (r2 := 0) (r3 := 0) rfl ?_
    refine wr_add (nx := 383) (r1 := 0) (r2 := 0) (r3 := 0) rfl (fun e60 (fe60 : e60 = i + 1) => ?_)
    refine wr_sc (a := e60) (f := i55) (nx := 384) (r1 := 0) (r2 := 0) (r3 := 0) rfl (by omega) (by omega) hL ?_
    refine wr_V (k0 := 236) (rest := []) (as := [.ref 236, vi ((xs i55).toInt)]) (nx := 387) (r1 := 208) (r2 := 1) (r3 := 11) rfl rfl rfl (of_decide_eq_true rfl) rfl rfl (by decide) rfl rfl (of_decide_eq_true rfl) (of_decide_eq_true rfl) ?_
    refine ct_208_236 hcr  g57 ((xs i55).toInt) (by omega)  (fun h61 z62 g61 u61 (fz62 : 0 ≤ z62 ∧ z62 ≤ 800) (p61_0 : (0 ≤ ((xs i55).toInt) ∧ ((xs i55).toInt) ≤ (h57 236 2) ∧ (h61 236 0) = 0 ∧ (h61 236 2) = ((xs i55).toInt) ∧ z62 = ((xs i55).toInt)) ∨ ((((xs i55).toInt) < 0 ∨ (h57 236 2) < ((xs i55).toInt)) ∧ (h61 236 0) = 1 ∧ (h61 236 2) = (h57 236 2))) => ?_)
    have e63 : h57 236 2 = h 236 2 := (u57 236 2 rfl)
    have b64 := gi_b (lo := 0) (hi := 2) g61 236 0 rfl
    have b65 := gi_b (lo := 0) (hi := 800) g61 236 2 rfl
    refine wk_i ?_
    rcases p61_0 with p61_0 | p61_0
    ·
      exfalso; omega
    ·
      refine wi_istore (i := 6) (e := z62) (lo2 := [(6, vi z62), (5, vi 1), (0, .ref 1000000), (1, .ref 0), (2, .ref 236), (3, .ref 259), (4, vi i)]) (nx := 389) (r1 := 0) (r2 := 0) (r3 := 0) rfl rfl ?_
      refine wi_goto (nx := 392) (r1 := 1501) (r2 := 0) (r3 := 0) rfl ?_
      refine wp.lo (lo := [(0, .ref 1000000), (1, .ref 0), (2, .ref 236), (3, .ref 259), (4, vi i)]) ⟨rfl, rfl, rfl, rfl, rfl, trivial⟩ rfl ?_
      have e66 : h61 238 98 = h 238 98 := ((u61 238 98 rfl).trans (u57 238 98 rfl))
      have e67 : h61 238 99 = h 238 99 := ((u61 238 99 rfl).trans (u57 238 99 rfl))
      have e68 : h61 238 100 = h 238 100 := ((u61 238 100 rfl).trans (u57 238 100 rfl))
      have e69 : h61 238 101 = h 238 101 := ((u61 238 101 rfl).trans (u57 238 101 rfl))
      have e70 : h61 238 102 = h 238 102 := ((u61 238 102 rfl).trans (u57 238 102 rfl))
      have e71 : h61 238 106 = h 238 106 := ((u61 238 106 rfl).trans (u57 238 106 rfl))
      have e72 : h61 238 73 = h 238 73 := ((u61 238 73 rfl).trans (u57 238 73 rfl))
      have e73 : h61 238 2 = h 238 2 := ((u61 238 2 rfl).trans (u57 238 2 rfl))
      have e74 : h61 238 119 = h 238 119 := ((u61 238 119 rfl).trans (u57 238 119 rfl))
      have e75 : h61 238 67 = h 238 67 := ((u61 238 67 rfl).trans (u57 238 67 rfl))
      have e76 : h61 238 69 = h 238 69 := ((u61 238 69 rfl).trans (u57 238 69 rfl))
      have e77 : h61 238 5 = h 238 5 := ((u61 238 5 rfl).trans (u57 238 5 rfl))
      have e78 : h61 241 98 = h 241 98 := ((u61 241 98 rfl).trans (u57 241 98 rfl))
      have e79 : h61 241 99 = h 241 99 := ((u61 241 99 rfl).trans (u57 241 99 rfl))
      have e80 : h61 241 100 = h 241 100 := ((u61 241 100 rfl).trans (u57 241 100 rfl))
      have e81 : h61 241 101 = h 241 101 := ((u61 241 101 rfl).trans (u57 241 101 rfl))
      have e82 : h61 241 102 = h 241 102 := ((u61 241 102 rfl).trans (u57 241 102 rfl))
      have e83 : h61 241 106 = h 241 106 := ((u61 241 106 rfl).trans (u57 241 106 rfl))
      have e84 : h61 241 73 = h 241 73 := ((u61 241 73 rfl).trans (u57 241 73 rfl))
      have e85 : h61 241 2 = h 241 2 := ((u61 241 2 rfl).trans (u57 241 2 rfl))
      have e86 : h61 241 119 = h 241 119 := ((u61 241 119 rfl).trans (u57 241 119 rfl))
      have e87 : h61 241 67 = h 241 67 := ((u61 241 67 rfl).trans (u57 241 67 rfl))
      have e88 : h61 241 69 = h 241 69 := ((u61 241 69 rfl).trans (u57 241 69 rfl))
      have e89 : h61 241 5 = h 241 5 := ((u61 241 5 rfl).trans (u57 241 5 rfl))
      have e90 : h61 1 1 = h57 1 1 := (u61 1 1 rfl)
      have e91 : h61 1 2 = h 1 2 := ((u61 1 2 rfl).trans (u57 1 2 rfl))
      have e92 : h61 236 10 = h 236 10 := ((u61 236 10 rfl).trans (u57 236 10 rfl))
      have e93 : h61 1 3 = h 1 3 := ((u61 1 3 rfl).trans (u57 1 3 rfl))
      have e94 : h61 236 11 = h 236 11 := ((u61 236 11 rfl).trans (u57 236 11 rfl))
      have gp95 := GPH.fr u57 rfl gp0
      have gp96 := GPH.fr u61 rfl gp95
      have b97 := gi_b (lo := 0) (hi := 5) g 241 0 rfl
      have b98 := gi_b (lo := 0) (hi := 4) g 241 1 rfl
      have gs99 := GPS.fr u57 rfl gs0
      have gs100 := GPS.fr u61 rfl gs99
      have e101 : h61 0 12 = h 0 12 := ((u61 0 12 rfl).trans (u57 0 12 rfl))
      have e102 : h61 236 21 = h 236 21 := ((u61 236 21 rfl).trans (u57 236 21 rfl))
      have e103 : h61 63 5 = h 63 5 := ((u61 63 5 rfl).trans (u57 63 5 rfl))
      have e104 : h61 18 16 = h 18 16 := ((u61 18 16 rfl).trans (u57 18 16 rfl))
      have e105 : h61 18 7 = h 18 7 := ((u61 18 7 rfl).trans (u57 18 7 rfl))
      have e106 : h61 3 2 = h 3 2 := ((u61 3 2 rfl).trans (u57 3 2 rfl))
      have e107 : h61 66 1 = h 66 1 := ((u61 66 1 rfl).trans (u57 66 1 rfl))
      have b108 := gi_b (lo := 0) (hi := 6) g 73 1 rfl
      have e109 : h61 73 1 = h 73 1 := ((u61 73 1 rfl).trans (u57 73 1 rfl))
      have b110 := gi_b (lo := 0) (hi := 6) g 73 2 rfl
      have e111 : h61 73 2 = h 73 2 := ((u61 73 2 rfl).trans (u57 73 2 rfl))
      have b112 := gi_b (lo := 0) (hi := 6) g 236 22 rfl
      have e113 : h61 236 22 = h 236 22 := ((u61 236 22 rfl).trans (u57 236 22 rfl))
      have b114 := gi_b (lo := 0) (hi := 12) g 210 2 rfl
      have e115 : h61 210 2 = h 210 2 := ((u61 210 2 rfl).trans (u57 210 2 rfl))
      have q118 : h61 8 = h 8 := funext (fun i => ((u61 8 i (fo_no_ok (by decide) i)).trans (u57 8 i (fo_no_ok (by decide) i))))
      have q119 : h61 7 = h 7 := funext (fun i => ((u61 7 i (fo_no_ok (by decide) i)).trans (u57 7 i (fo_no_ok (by decide) i))))
      have q120 : h61 19 = h 19 := funext (fun i => ((u61 19 i (fo_no_ok (by decide) i)).trans (u57 19 i (fo_no_ok (by decide) i))))
      have q121 : h61 67 = h 67 := funext (fun i => ((u61 67 i (fo_no_ok (by decide) i)).trans (u57 67 i (fo_no_ok (by decide) i))))
      have ml117 : MCL h61 := MCL.mv mi0.1 q118 q119 q120 q121 (by omega) (by omega) (by omega) (by omega)
      have q123 : h61 69 = h 69 := funext (fun i => ((u61 69 i (fo_no_ok (by decide) i)).trans (u57 69 i (fo_no_ok (by decide) i))))
      have q124 : h61 70 = h 70 := funext (fun i => ((u61 70 i (fo_no_ok (by decide) i)).trans (u57 70 i (fo_no_ok (by decide) i))))
      have nb122 : NBc (h61 69) (h61 70) := by rw [q123, q124]; exact mi0.2.2
      have q125 : h61 8 = h 8 := funext (fun i => ((u61 8 i (fo_no_ok (by decide) i)).trans (u57 8 i (fo_no_ok (by decide) i))))
      have q126 : h61 7 = h 7 := funext (fun i => ((u61 7 i (fo_no_ok (by decide) i)).trans (u57 7 i (fo_no_ok (by decide) i))))
      have mi116 : MCI h61 := ⟨ml117, HIv.mv mi0.2.1 q125 q126 (by omega) (by omega) (sv_seven (P := fun x => ∀ i, h61 (76 + 19 * x) i = h (76 + 19 * x) i) (fun i => ((u61 76 i (fn_a (by decide) (fn_a (by decide) fn_0))).trans (u57 76 i (fn_a (by decide) fn_0)))) (fun i => ((u61 95 i (fn_a (by decide) (fn_a (by decide) fn_0))).trans (u57 95 i (fn_a (by decide) fn_0)))) (fun i => ((u61 114 i (fn_a (by decide) (fn_a (by decide) fn_0))).trans (u57 114 i (fn_a (by decide) fn_0)))) (fun i => ((u61 133 i (fn_a (by decide) (fn_a (by decide) fn_0))).trans (u57 133 i (fn_a (by decide) fn_0)))) (fun i => ((u61 152 i (fn_a (by decide) (fn_a (by decide) fn_0))).trans (u57 152 i (fn_a (by decide) fn_0)))) (fun i => ((u61 171 i (fn_a (by decide) (fn_a (by decide) fn_0))).trans (u57 171 i (fn_a (by decide) fn_0)))) (fun i => ((u61 190 i (fn_a (by decide) (fn_a (by decide) fn_0))).trans (u57 190 i (fn_a (by decide) fn_0))))) (by omega) (by omega), nb122⟩
      have gq127 := GQS.fr u57 rfl gq0
      have gq128 := GQS.fr u61 rfl gq127
      have q129 : h61 8 = h 8 := funext (fun i => ((u61 8 i (fo_no_ok (by decide) i)).trans (u57 8 i (fo_no_ok (by decide) i))))
      have q130 : h61 7 = h 7 := funext (fun i => ((u61 7 i (fo_no_ok (by decide) i)).trans (u57 7 i (fo_no_ok (by decide) i))))
      have q131 : h61 215 = h 215 := funext (fun i => ((u61 215 i (fo_no_ok (by decide) i)).trans (u57 215 i (fo_no_ok (by decide) i))))
      have q132 : h61 218 = h 218 := funext (fun i => ((u61 218 i (fo_no_ok (by decide) i)).trans (u57 218 i (fo_no_ok (by decide) i))))
      have q133 : h61 214 = h 214 := funext (fun i => ((u61 214 i (fo_no_ok (by decide) i)).trans (u57 214 i (fo_no_ok (by decide) i))))
      have q134 : h61 241 = h 241 := funext (fun i => ((u61 241 i (fo_no_ok (by decide) i)).trans (u57 241 i (fo_no_ok (by decide) i))))
      exact k h61 (b - 1) (c - 6) ⟨⟨g61, (show h61 1 1 = h61 236 2 by omega), (RS.i0 (f := h61 238) (by refine ⟨?_, ?_, ?_, ?_, ?_⟩ <;> omega)), (RS.i0 (f := h61 241) (by refine ⟨?_, ?_, ?_, ?_, ?_⟩ <;> omega)), gp96, (BRh.keep br0 (fun i => ((u61 2 i (fn_a (by decide) (fn_a (by decide) fn_0))).trans (u57 2 i (fn_a (by decide) fn_0)))) (fun i => ((u61 237 i (fn_a (by decide) (fn_a (by decide) fn_0))).trans (u57 237 i (fn_a (by decide) fn_0)))) (by omega)), (show h61 1 2 = h61 236 10 by omega), (show h61 1 3 = h61 236 11 by omega), (SVx.keep sv0 (by omega) (fun i _ => ((u61 3 i (fn_a (by decide) (fn_a (by decide) fn_0))).trans (u57 3 i (fn_a (by decide) fn_0)))) (fun i _ => ((u61 5 i (fn_a (by decide) (fn_a (by decide) fn_0))).trans (u57 5 i (fn_a (by decide) fn_0)))) (fun i _ => ((u61 6 i (fn_a (by decide) (fn_a (by decide) fn_0))).trans (u57 6 i (fn_a (by decide) fn_0)))) (fun i _ => ((u61 8 i (fn_a (by decide) (fn_a (by decide) fn_0))).trans (u57 8 i (fn_a (by decide) fn_0)))) (fun i _ => ((u61 238 i (fn_a (by decide) (fn_a (by decide) fn_0))).trans (u57 238 i (fn_a (by decide) fn_0))))), (show h61 0 12 = h61 236 21 by omega), (fun e => (SVx.keep (ss0 (by omega)) (by omega) (fun i _ => ((u61 210 i (fn_a (by decide) (fn_a (by decide) fn_0))).trans (u57 210 i (fn_a (by decide) fn_0)))) (fun i _ => ((u61 212 i (fn_a (by decide) (fn_a (by decide) fn_0))).trans (u57 212 i (fn_a (by decide) fn_0)))) (fun i _ => ((u61 213 i (fn_a (by decide) (fn_a (by decide) fn_0))).trans (u57 213 i (fn_a (by decide) fn_0)))) (fun i _ => ((u61 215 i (fn_a (by decide) (fn_a (by decide) fn_0))).trans (u57 215 i (fn_a (by decide) fn_0)))) (fun i _ => ((u61 241 i (fn_a (by decide) (fn_a (by decide) fn_0))).trans (u57 241 i (fn_a (by decide) fn_0)))))), gs100, mi116, (show h61 63 5 ≤ h61 18 16 by omega), (show (h61 63 5) < (h61 18 16) ∨ ((h61 18 7) ≤ (h61 3 2) ∧ (h61 66 1) = (h61 3 2) - (h61 18 7)) ∨ ((h61 3 2) < (h61 18 7) ∧ (h61 66 1) = 0) by omega), gq128, (MR.mv mr0 (MSN.then (MSN.refl) (fun i _ => ((u61 238 i (fn_a (by decide) (fn_a (by decide) fn_0))).trans (u57 238 i (fn_a (by decide) fn_0))))) (by omega) q129 q130 (by omega)), (fun e => SM.mv (sm0 (by omega)) q131 q132 q133 (by omega) q134)⟩, (by omega)⟩ (by omega) (by omega)
-- the law, case at 392
set_option maxRecDepth 100000 in
set_option maxHeartbeats 100000000 in
theorem lc_392 {L : Nat} {xs : Nat → Int32} {d b c : Nat} {h : hp} {cr : Nat → Nat → Option Nat} {Q : hp_Q} (hcr : CR cr) (hL : L ≤ 3072) (hr : 1 ≤ b ∧ 6 ≤ c) (i : Int) (I : LIm i h) (hi : 0 ≤ i ∧ i + 6 ≤ L) (k : ∀ (h2 : hp) (b2 c2 : Nat), LIm (i + 6) h2 → b ≤ b2 + 1 → c ≤ c2 + 6 → wp (md_xa (L, xs)) (d + 107) 0 (1501, [(0, .ref 1000000), (1, .ref 0), (2, .ref 236), (3, .ref 259), (4, vi i)], [], hp_w h2 cr, b2, c2) Q) : wp (md_xa (L, xs)) (d + 107) 0 (392, [(0, .ref 1000000), (1, .ref 0), (2, .ref 236), (3, .ref 259), (4, vi i)], [], hp_w h cr, b, c) Q := by
  obtain ⟨⟨g, i11, r238, r241, gp0, br0, er2, er3, sv0, sf0, ss0, gs0, mi0, ml1, ml2, gq0, mr0, sm0⟩, ie0⟩ := I
  have r238e := r238.e0
  have r241e := r241.e0
  obtain ⟨⟨se0, se1, se2, se3, se4, se5, se6, se7, se8, se9⟩, -⟩ := id sv0
  have b1 := gi_b (lo := 0) (hi := 5) g 3 0 rfl
  have b2 := gi_b (lo := 0) (hi := 5) g 238 0 rfl
  have b3 := gi_b (lo := 0) (hi := 4) g 3 1 rfl
  have b4 := gi_b (lo := 0) (hi := 4) g 238 1 rfl
  have b5 := gi_b (lo := 0) (hi := 12) g 3 2 rfl
  have b6 := gi_b (lo := 0) (hi := 12) g 238 2 rfl
  have b7 := gi_b (lo := -2147483648) (hi := 2147483647) g 3 3 rfl
  have b8 := gi_b (lo := 0) (hi := 999) g 238 3 rfl
  have b9 := gi_b (lo := -2147483648) (hi := 2147483647) g 3 4 rfl
  have b10 := gi_b (lo := 0) (hi := 999) g 238 4 rfl
  have b11 := gi_b (lo := -2147483648) (hi := 2147483647) g 3 5 rfl
  have b12 := gi_b (lo := 0) (hi := 9) g 238 5 rfl
  have b13 := gi_b (lo := -2147483648) (hi := 2147483647) g 3 6 rfl
  have b14 := gi_b (lo := 0) (hi := 999) g 238 6 rfl
  have b15 := gi_b (lo := -2147483648) (hi := 2147483647) g 3 7 rfl
  have b16 := gi_b (lo := 0) (hi := 3) g 238 7 rfl
  have b17 := gi_b (lo := -2147483648) (hi := 2147483647) g 3 8 rfl
  have b18 := gi_b (lo := 0) (hi := 999) g 238 8 rfl
  have b19 := gi_b (lo := -2147483648) (hi := 2147483647) g 3 9 rfl
  have b20 := gi_b (lo := 0) (hi := 999) g 238 9 rfl
  have b21 := gi_b (lo := -2147483648) (hi := 2147483647) g 63 5 rfl
  have b22 := gi_b (lo := 0) (hi := 12) g 18 7 rfl
  have b23 := gi_b (lo := 0) (hi := 12) g 66 1 rfl
  have b24 := gi_b (lo := 0) (hi := 1) g 0 12 rfl
  have b25 := gi_b (lo := 0) (hi := 1) g 236 21 rfl
  have bl_ := gi_b (lo := 0) (hi := 800) g 1 1 rfl
  have tb0 : BufC (h 2) (h 1 1) h := ⟨fun _ => rfl, rfl, by omega, by omega⟩
  have b26 := gi_b (lo := 0) (hi := 6) g 238 98 rfl
  have b27 := gi_b (lo := 0) (hi := 6) g 238 99 rfl
  have b28 := gi_b (lo := 0) (hi := 6) g 238 100 rfl
  have b29 := gi_b (lo := 0) (hi := 6) g 238 101 rfl
  have b30 := gi_b (lo := 0) (hi := 3) g 238 102 rfl
  have b31 := gi_b (lo := 0) (hi := 12) g 238 106 rfl
  have b32 := gi_b (lo := 0) (hi := 12) g 238 73 rfl
  have b33 := gi_b (lo := 0) (hi := 9999) g 238 119 rfl
  have b34 := gi_b (lo := 0) (hi := 9999) g 238 67 rfl
  have b35 := gi_b (lo := 0) (hi := 9) g 238 69 rfl
  have b36 := gi_b (lo := 0) (hi := 6) g 241 98 rfl
  have b37 := gi_b (lo := 0) (hi := 6) g 241 99 rfl
  have b38 := gi_b (lo := 0) (hi := 6) g 241 100 rfl
  have b39 := gi_b (lo := 0) (hi := 6) g 241 101 rfl
  have b40 := gi_b (lo := 0) (hi := 3) g 241 102 rfl
  have b41 := gi_b (lo := 0) (hi := 12) g 241 106 rfl
  have b42 := gi_b (lo := 0) (hi := 12) g 241 73 rfl
  have b43 := gi_b (lo := 0) (hi := 12) g 241 2 rfl
  have b44 := gi_b (lo := 0) (hi := 9999) g 241 119 rfl
  have b45 := gi_b (lo := 0) (hi := 9999) g 241 67 rfl
  have b46 := gi_b (lo := 0) (hi := 9) g 241 69 rfl
  have b47 := gi_b (lo := 0) (hi := 9) g 241 5 rfl
  have b48 := gi_b (lo := 0) (hi := 800) g 1 1 rfl
  have b49 := gi_b (lo := 0) (hi := 800) g 236 2 rfl
  have b50 := gi_b (lo := -2147483648) (hi := 2147483647) g 1 2 rfl
  have b51 := gi_b (lo := -2147483648) (hi := 2147483647) g 236 10 rfl
  have b52 := gi_b (lo := -2147483648) (hi := 2147483647) g 1 3 rfl
  have b53 := gi_b (lo := -2147483648) (hi := 2147483647) g 236 11 rfl
  refine wi_aload_n (i := 1) (x := 0) (nx := 393) (r1 := 0) (r2 := 0) (r3 := 0) rfl rfl ?_
  refine wi_aload_n (i := 3) (x := 259) (nx := 394) (r1 := 0) (r2 := 0) (r3 := 0) rfl rfl ?_
  refine wi_S (rest := []) (as := [.ref 0, .ref 259]) (nx := 397) (r1 := 3) (r2 := 18) (r3 := 0) rfl rfl rfl (of_decide_eq_true rfl) rfl rfl (of_decide_eq_true rfl) (of_decide_eq_true rfl) ?_
  refine wi_aload_n (i := 1) (x := 259) (nx := 1) (r1 := 0) (r2 := 0) (r3 := 0) rfl rfl ?_
  refine wi_iconst (n := 0) (nx := 2) (r1 := 0) (r2 := 0) (r3 := 0) rfl ?_
  refine wi_aload_n (i := 0) (x := 0) (nx := 3) (r1 := 0) (r2 := 0) (r3 := 0) rfl rfl ?_
  refine wr_V (k0 := 0) (rest := [vi 0, .ref 259]) (as := [.ref 0]) (nx := 6) (r1 := 63) (r2 := 0) (r3 := 0) rfl rfl rfl (of_decide_eq_true rfl) rfl rfl (by decide) rfl rfl (of_decide_eq_true rfl) (of_decide_eq_true rfl) ?_
  refine ct_63_0 hcr hr  g   (show (h 63 5) ≤ (h 18 16) by omega) (show (h 63 5) < (h 18 16) ∨ ((h 18 7) ≤ (h 3 2) ∧ (h 66 1) = (h 3 2) - (h 18 7)) ∨ ((h 3 2) < (h 18 7) ∧ (h 66 1) = 0) by omega) (show (h 18 16) ≤ 1900000000 by omega) tb0 (fun h54 z55 g54 u54 (fz55 : 0 ≤ z55 ∧ z55 ≤ 800) (p54_0 : (h54 1 1) = 0) (p54_1 : tk_ok (h 2) (h 1 1) = 1) (p54_2 : z55 = tk_ct (h 2) (h 1 1)) (p54_3 : (h54 1 2) = tk_ec (h 2) (h 1 1)) (p54_4 : (h54 1 3) = tk_ep (h 2) (h 1 1)) (p54_5 : (h54 73 2) = 0) (p54_6 : (h54 18 16) = (h 18 16) + 1) (p54_7 : (h54 63 5) = (h 63 5)) y54_0 y54_1 y54_2 => ?_) (fun h54 g54 u54 (pe54_0 : (h54 1 1) = 0) (pe54_1 : tk_ok (h 2) (h 1 1) = 0) (pe54_2 : (h54 1 2) = tk_ec (h 2) (h 1 1)) (pe54_3 : (h54 1 3) = tk_ep (h 2) (h 1 1)) (pe54_4 : (h54 18 16) = (h 18 16)) (pe54_5 : (h54 18 7) = (h 18 7)) (pe54_6 : (h54 3 2) = (h 3 2)) ye54_0 ye54_1 => ?_)
  ·
    have b56 := gi_b (lo := 0) (hi := 800) g54 1 1 rfl
    have b57 := gi_b (lo := -2147483648) (hi := 2147483647) g54 1 2 rfl
    have b58 := gi_b (lo := -2147483648) (hi := 2147483647) g54 1 3 rfl
    have b59 := gi_b (lo := 0) (hi := 6) g54 73 2 rfl
    have b60 := gi_b (lo := -2147483648) (hi := 2147483647) g54 18 16 rfl
    have e61 : h54 63 5 = h 63 5 := (u54 63 5 rfl)
    refine wk_i ?_
    refine wi_i2l (nx := 7) (r1 := 0) (r2 := 0) (r3 := 0) rfl (by omega) ?_
    refine wr_ls (k0 := 259) (a := 0) (f := 0) (x := z55) (bl := -9223372036854775808) (bh := 9223372036854775807) (nx := 8) (r1 := 0) (r2 := 0) (r3 := 0) rfl (by decide) rfl (by omega) (by omega) (by decide) g54 rfl (by omega) (fun h62 g62 w62 u62 => ?_)
    refine wi_goto (nx := 11) (r1 := 14) (r2 := 0) (r3 := 0) rfl ?_
    refine wi_iconst (n := 0) (nx := 15) (r1 := 0) (r2 := 0) (r3 := 0) rfl ?_
    refine wi_ireturn (nx := 16) (r1 := 0) (r2 := 0) (r3 := 0) rfl rfl ?_
    refine wk_i ?_
    refine wi_istore (i := 5) (e := 0) (lo2 := [(5, vi 0), (0, .ref 1000000), (1, .ref 0), (2, .ref 236), (3, .ref 259), (4, vi i)]) (nx := 399) (r1 := 0) (r2 := 0) (r3 := 0) rfl rfl ?_
    refine wi_aload_n (i := 2) (x := 236) (nx := 400) (r1 := 0) (r2 := 0) (r3 := 0) rfl rfl ?_
    refine wr_V (k0 := 236) (rest := []) (as := [.ref 236]) (nx := 403) (r1 := 212) (r2 := 0) (r3 := 11) rfl rfl rfl (of_decide_eq_true rfl) rfl rfl (by decide) rfl rfl (of_decide_eq_true rfl) (of_decide_eq_true rfl) ?_
    have e64 : h62 238 98 = h 238 98 := ((u62 238 98 rfl).trans (u54 238 98 rfl))
    have e65 : h62 238 99 = h 238 99 := ((u62 238 99 rfl).trans (u54 238 99 rfl))
    have e66 : h62 238 100 = h 238 100 := ((u62 238 100 rfl).trans (u54 238 100 rfl))
    have e67 : h62 238 101 = h 238 101 := ((u62 238 101 rfl).trans (u54 238 101 rfl))
    have e68 : h62 238 102 = h 238 102 := ((u62 238 102 rfl).trans (u54 238 102 rfl))
    have e69 : h62 238 106 = h 238 106 := ((u62 238 106 rfl).trans (u54 238 106 rfl))
    have e70 : h62 238 73 = h 238 73 := ((u62 238 73 rfl).trans (u54 238 73 rfl))
    have e71 : h62 238 2 = h 238 2 := ((u62 238 2 rfl).trans (u54 238 2 rfl))
    have e72 : h62 238 119 = h 238 119 := ((u62 238 119 rfl).trans (u54 238 119 rfl))
    have e73 : h62 238 67 = h 238 67 := ((u62 238 67 rfl).trans (u54 238 67 rfl))
    have e74 : h62 238 69 = h 238 69 := ((u62 238 69 rfl).trans (u54 238 69 rfl))
    have e75 : h62 238 5 = h 238 5 := ((u62 238 5 rfl).trans (u54 238 5 rfl))
    have e77 : h62 236 2 = h 236 2 := ((u62 236 2 rfl).trans (u54 236 2 rfl))
    have rb78 : RB0 (h 2) (h 1 1) h62 := RB0.of br0 (by omega) (fun i => ((u62 237 i (fn_a (by omega) fn_0)).trans (u54 237 i (fo_nk rfl)))) (show h62 236 2 = h 1 1 by omega)
    refine ct_212_236 hcr  g62   (show (h62 238 98) + (h62 238 99) + (h62 238 100) + (h62 238 101) + (h62 238 102) + (h62 238 106) = (h62 238 73) by omega) (show (h62 238 73) ≤ (h62 238 2) by omega) (show (h62 238 119) ≤ (h62 238 67) by omega) (show (h62 238 69) ≤ (h62 238 5) by omega) (show (h62 238 2) ≤ 12 * (h62 238 5) by omega) rb78 (fun h63 z76 g63 u63 (fz76 : 0 ≤ z76 ∧ z76 ≤ 801) (p63_0 : (tk_ok (h 2) (h 1 1) = 1 ∧ (h63 236 0) = 0 ∧ z76 = tk_ct (h 2) (h 1 1) ∧ (h63 236 22) = 0) ∨ (tk_ok (h 2) (h 1 1) = 0 ∧ (h63 236 0) = 1 ∧ (h63 236 22) = (h62 236 22))) (p63_1 : (h63 238 98) + (h63 238 99) + (h63 238 100) + (h63 238 101) + (h63 238 102) + (h63 238 106) = (h63 238 73)) (p63_2 : (h63 238 73) ≤ (h63 238 2)) (p63_3 : (h63 238 119) ≤ (h63 238 67)) (p63_4 : (h63 238 69) ≤ (h63 238 5)) (p63_5 : (h63 238 2) ≤ 12 * (h63 238 5)) (p63_6 : (h63 236 2) = 0) (p63_7 : (h63 236 10) = tk_ec (h 2) (h 1 1)) (p63_8 : (h63 236 11) = tk_ep (h 2) (h 1 1)) y63_0 y63_1 y63_2 y63_3 => ?_)
    have b79 := gi_b (lo := 0) (hi := 6) g 236 22 rfl
    have e80 : h62 236 22 = h 236 22 := ((u62 236 22 rfl).trans (u54 236 22 rfl))
    have b81 := gi_b (lo := 0) (hi := 2) g63 236 0 rfl
    have b82 := gi_b (lo := 0) (hi := 6) g63 236 22 rfl
    have b83 := gi_b (lo := 0) (hi := 6) g63 238 98 rfl
    have b84 := gi_b (lo := 0) (hi := 6) g63 238 99 rfl
    have b85 := gi_b (lo := 0) (hi := 6) g63 238 100 rfl
    have b86 := gi_b (lo := 0) (hi := 6) g63 238 101 rfl
    have b87 := gi_b (lo := 0) (hi := 3) g63 238 102 rfl
    have b88 := gi_b (lo := 0) (hi := 12) g63 238 106 rfl
    have b89 := gi_b (lo := 0) (hi := 12) g63 238 73 rfl
    have b90 := gi_b (lo := 0) (hi := 12) g63 238 2 rfl
    have b91 := gi_b (lo := 0) (hi := 9999) g63 238 119 rfl
    have b92 := gi_b (lo := 0) (hi := 9999) g63 238 67 rfl
    have b93 := gi_b (lo := 0) (hi := 9) g63 238 69 rfl
    have b94 := gi_b (lo := 0) (hi := 9) g63 238 5 rfl
    have b95 := gi_b (lo := 0) (hi := 800) g63 236 2 rfl
    have b96 := gi_b (lo := -2147483648) (hi := 2147483647) g63 236 10 rfl
    have b97 := gi_b (lo := -2147483648) (hi := 2147483647) g63 236 11 rfl
    refine wk_i ?_
    rcases p63_0 with p63_0 | p63_0
    ·
      refine wi_istore (i := 6) (e := z76) (lo2 := [(6, vi z76), (5, vi 0), (0, .ref 1000000), (1, .ref 0), (2, .ref 236), (3, .ref 259), (4, vi i)]) (nx := 405) (r1 := 0) (r2 := 0) (r3 := 0) rfl rfl ?_
      refine wi_goto (nx := 408) (r1 := 1501) (r2 := 0) (r3 := 0) rfl ?_
      refine wp.lo (lo := [(0, .ref 1000000), (1, .ref 0), (2, .ref 236), (3, .ref 259), (4, vi i)]) ⟨rfl, rfl, rfl, rfl, rfl, trivial⟩ rfl ?_
      have e98 : h63 241 98 = h 241 98 := ((u63 241 98 rfl).trans ((u62 241 98 rfl).trans (u54 241 98 rfl)))
      have e99 : h63 241 99 = h 241 99 := ((u63 241 99 rfl).trans ((u62 241 99 rfl).trans (u54 241 99 rfl)))
      have e100 : h63 241 100 = h 241 100 := ((u63 241 100 rfl).trans ((u62 241 100 rfl).trans (u54 241 100 rfl)))
      have e101 : h63 241 101 = h 241 101 := ((u63 241 101 rfl).trans ((u62 241 101 rfl).trans (u54 241 101 rfl)))
      have e102 : h63 241 102 = h 241 102 := ((u63 241 102 rfl).trans ((u62 241 102 rfl).trans (u54 241 102 rfl)))
      have e103 : h63 241 106 = h 241 106 := ((u63 241 106 rfl).trans ((u62 241 106 rfl).trans (u54 241 106 rfl)))
      have e104 : h63 241 73 = h 241 73 := ((u63 241 73 rfl).trans ((u62 241 73 rfl).trans (u54 241 73 rfl)))
      have e105 : h63 241 2 = h 241 2 := ((u63 241 2 rfl).trans ((u62 241 2 rfl).trans (u54 241 2 rfl)))
      have e106 : h63 241 119 = h 241 119 := ((u63 241 119 rfl).trans ((u62 241 119 rfl).trans (u54 241 119 rfl)))
      have e107 : h63 241 67 = h 241 67 := ((u63 241 67 rfl).trans ((u62 241 67 rfl).trans (u54 241 67 rfl)))
      have e108 : h63 241 69 = h 241 69 := ((u63 241 69 rfl).trans ((u62 241 69 rfl).trans (u54 241 69 rfl)))
      have e109 : h63 241 5 = h 241 5 := ((u63 241 5 rfl).trans ((u62 241 5 rfl).trans (u54 241 5 rfl)))
      have e110 : h63 1 1 = h54 1 1 := ((u63 1 1 rfl).trans (u62 1 1 rfl))
      have e111 : h63 1 2 = h54 1 2 := ((u63 1 2 rfl).trans (u62 1 2 rfl))
      have e112 : h63 1 3 = h54 1 3 := ((u63 1 3 rfl).trans (u62 1 3 rfl))
      have gp113 := GPH.fr u54 rfl gp0
      have gp114 := GPH.fr u62 rfl gp113
      have gp115 := GPH.fr u63 rfl gp114
      have b116 := gi_b (lo := 0) (hi := 5) g 241 0 rfl
      have b117 := gi_b (lo := 0) (hi := 4) g 241 1 rfl
      have sv118 := SVx.of y54_2 (y63_0 (by omega))
      have b119 := gi_b (lo := 0) (hi := 5) g63 238 0 rfl
      have b120 := gi_b (lo := 0) (hi := 4) g63 238 1 rfl
      have e121 : h63 0 12 = h 0 12 := ((u63 0 12 rfl).trans ((u62 0 12 rfl).trans (u54 0 12 rfl)))
      have e122 : h63 236 21 = h 236 21 := ((u63 236 21 rfl).trans ((u62 236 21 rfl).trans (u54 236 21 rfl)))
      have e123 : h63 63 5 = h 63 5 := ((u63 63 5 rfl).trans ((u62 63 5 rfl).trans (u54 63 5 rfl)))
      have e124 : h63 18 16 = h54 18 16 := ((u63 18 16 rfl).trans (u62 18 16 rfl))
      have b125 := gi_b (lo := 0) (hi := 12) g54 18 7 rfl
      have e126 : h63 18 7 = h54 18 7 := ((u63 18 7 rfl).trans (u62 18 7 rfl))
      have b127 := gi_b (lo := 0) (hi := 12) g54 3 2 rfl
      have e128 : h63 3 2 = h54 3 2 := ((u63 3 2 rfl).trans (u62 3 2 rfl))
      have e129 : h63 66 1 = h 66 1 := ((u63 66 1 rfl).trans ((u62 66 1 rfl).trans (u54 66 1 rfl)))
      have b130 := gi_b (lo := 0) (hi := 6) g 73 1 rfl
      have e131 : h63 73 1 = h 73 1 := ((u63 73 1 rfl).trans ((u62 73 1 rfl).trans (u54 73 1 rfl)))
      have e132 : h63 73 2 = h54 73 2 := ((u63 73 2 rfl).trans (u62 73 2 rfl))
      have b133 := gi_b (lo := 0) (hi := 6) g 73 2 rfl
      have b134 := gi_b (lo := 0) (hi := 12) g 210 2 rfl
      have e135 : h63 210 2 = h 210 2 := ((u63 210 2 rfl).trans ((u62 210 2 rfl).trans (u54 210 2 rfl)))
      have q136 : h63 8 = h54 8 := funext (fun i => ((u63 8 i (fo_no_ok (by decide) i)).trans (u62 8 i rfl)))
      have q137 : h63 7 = h54 7 := funext (fun i => ((u63 7 i (fo_no_ok (by decide) i)).trans (u62 7 i rfl)))
      have q138 : h63 19 = h54 19 := funext (fun i => ((u63 19 i (fo_no_ok (by decide) i)).trans (u62 19 i rfl)))
      have q139 : h63 238 = h63 238 := funext (fun i => rfl)
      have e140 : h54 238 2 = h 238 2 := (u54 238 2 rfl)
      have q142 : h63 3 = h54 3 := funext (fun i => ((u63 3 i (fo_no_ok (by decide) i)).trans (u62 3 i rfl)))
      have q143 : h63 5 = h54 5 := funext (fun i => ((u63 5 i (fo_no_ok (by decide) i)).trans (u62 5 i rfl)))
      have q144 : h63 6 = h54 6 := funext (fun i => ((u63 6 i (fo_no_ok (by decide) i)).trans (u62 6 i rfl)))
      have mk141 := MR.read (h2 := h63) (s := tk_ss (h 2) (h 1 1)) g63 (by rw [q142, q143, q144, q136]; exact y54_0) (by rw [q139]; exact y63_0 (by omega)) (by rw [q137]; exact y54_2) (by rw [q139]; exact y63_2 (by omega))
      have q145 : h63 69 = h 69 := funext (fun i => ((u63 69 i (fo_no_ok (by decide) i)).trans ((u62 69 i rfl).trans (u54 69 i (fo_no_ok (by decide) i)))))
      have q146 : h63 70 = h 70 := funext (fun i => ((u63 70 i (fo_no_ok (by decide) i)).trans ((u62 70 i rfl).trans (u54 70 i (fo_no_ok (by decide) i)))))
      have q147 : h63 215 = h 215 := funext (fun i => ((u63 215 i (fo_no_ok (by decide) i)).trans ((u62 215 i rfl).trans (u54 215 i (fo_no_ok (by decide) i)))))
      have q148 : h63 218 = h 218 := funext (fun i => ((u63 218 i (fo_no_ok (by decide) i)).trans ((u62 218 i rfl).trans (u54 218 i (fo_no_ok (by decide) i)))))
      have q149 : h63 214 = h 214 := funext (fun i => ((u63 214 i (fo_no_ok (by decide) i)).trans ((u62 214 i rfl).trans (u54 214 i (fo_no_ok (by decide) i)))))
      have q150 : h63 241 = h 241 := funext (fun i => ((u63 241 i (fo_no_ok (by decide) i)).trans ((u62 241 i rfl).trans (u54 241 i (fo_no_ok (by decide) i)))))
      exact k h63 b c ⟨⟨g63, (show h63 1 1 = h63 236 2 by omega), (RS.i0 (f := h63 238) (by refine ⟨?_, ?_, ?_, ?_, ?_⟩ <;> omega)), (RS.i0 (f := h63 241) (by refine ⟨?_, ?_, ?_, ?_, ?_⟩ <;> omega)), gp115, (BRh.keep br0 (fun i => ((u63 2 i (fo_nk rfl)).trans ((u62 2 i (fn_a (by omega) fn_0)).trans (u54 2 i (fo_nk rfl))))) (fun i => ((u63 237 i (fo_nk rfl)).trans ((u62 237 i (fn_a (by omega) fn_0)).trans (u54 237 i (fo_nk rfl))))) (by omega)), (show h63 1 2 = h63 236 10 by omega), (show h63 1 3 = h63 236 11 by omega), (SVx.keep sv118 (by omega) (fun i _ => ((u63 3 i (fo_nk rfl)).trans (u62 3 i (fn_a (by omega) fn_0)))) (fun i _ => ((u63 5 i (fo_nk rfl)).trans (u62 5 i (fn_a (by omega) fn_0)))) (fun i _ => ((u63 6 i (fo_nk rfl)).trans (u62 6 i (fn_a (by omega) fn_0)))) (fun i _ => ((u63 8 i (fo_nk rfl)).trans (u62 8 i (fn_a (by omega) fn_0)))) (fun i _ => rfl)), (show h63 0 12 = h63 236 21 by omega), (fun e => (SVx.keep (ss0 (by omega)) (by omega) (fun i _ => ((u63 210 i (fo_nk rfl)).trans ((u62 210 i (fn_a (by omega) fn_0)).trans (u54 210 i (fo_nk rfl))))) (fun i _ => ((u63 212 i (fo_nk rfl)).trans ((u62 212 i (fn_a (by omega) fn_0)).trans (u54 212 i (fo_nk rfl))))) (fun i _ => ((u63 213 i (fo_nk rfl)).trans ((u62 213 i (fn_a (by omega) fn_0)).trans (u54 213 i (fo_nk rfl))))) (fun i _ => ((u63 215 i (fo_nk rfl)).trans ((u62 215 i (fn_a (by omega) fn_0)).trans (u54 215 i (fo_nk rfl))))) (fun i _ => ((u63 241 i (fo_nk rfl)).trans ((u62 241 i (fn_a (by omega) fn_0)).trans (u54 241 i (fo_nk rfl))))))), (GPS.zero (by omega)), ⟨⟨(MSL.mv y54_1 (L2 := 18) q136 q137 (by omega) (by omega) (fun i _ => congrFun q138 i)), mk141.1, fun e => absurd e (by omega)⟩, HIv.zero (by omega), (by rw [q145, q146]; exact mi0.2.2)⟩, (show h63 63 5 ≤ h63 18 16 by omega), (show (h63 63 5) < (h63 18 16) ∨ ((h63 18 7) ≤ (h63 3 2) ∧ (h63 66 1) = (h63 3 2) - (h63 18 7)) ∨ ((h63 3 2) < (h63 18 7) ∧ (h63 66 1) = 0) by omega), (GQS.zero (by omega) (by omega)), mk141.2, (fun e => SM.mv (sm0 (by omega)) q147 q148 q149 (by omega) q150)⟩, (by omega)⟩ (by omega) (by omega)
    ·
      exfalso; omega
  ·
    have b56 := gi_b (lo := 0) (hi := 800) g54 1 1 rfl
    have b57 := gi_b (lo := -2147483648) (hi := 2147483647) g54 1 2 rfl
    have b58 := gi_b (lo := -2147483648) (hi := 2147483647) g54 1 3 rfl
    have b59 := gi_b (lo := -2147483648) (hi := 2147483647) g54 18 16 rfl
    have b60 := gi_b (lo := 0) (hi := 12) g54 18 7 rfl
    have b61 := gi_b (lo := 0) (hi := 12) g54 3 2 rfl
    refine wk_h 11 (by decide) rfl ?_
    refine wr_astx (i := 2) (lo2 := [(2, .retAddr 0), (0, .ref 0), (1, .ref 259)]) (nx := 12) (r1 := 0) (r2 := 0) (r3 := 0) rfl rfl ?_
    refine wi_iconst (n := 1) (nx := 13) (r1 := 0) (r2 := 0) (r3 := 0) rfl ?_
    refine wi_ireturn (nx := 14) (r1 := 0) (r2 := 0) (r3 := 0) rfl rfl ?_
    refine wk_i ?_
    refine wi_istore (i := 5) (e := 1) (lo2 := [(5, vi 1), (0, .ref 1000000), (1, .ref 0), (2, .ref 236), (3, .ref 259), (4, vi i)]) (nx := 399) (r1 := 0) (r2 := 0) (r3 := 0) rfl rfl ?_
    refine wi_aload_n (i := 2) (x := 236) (nx := 400) (r1 := 0) (r2 := 0) (r3 := 0) rfl rfl ?_
    refine wr_V (k0 := 236) (rest := []) (as := [.ref 236]) (nx := 403) (r1 := 212) (r2 := 0) (r3 := 11) rfl rfl rfl (of_decide_eq_true rfl) rfl rfl (by decide) rfl rfl (of_decide_eq_true rfl) (of_decide_eq_true rfl) ?_
    have e63 : h54 238 98 = h 238 98 := (u54 238 98 rfl)
    have e64 : h54 238 99 = h 238 99 := (u54 238 99 rfl)
    have e65 : h54 238 100 = h 238 100 := (u54 238 100 rfl)
    have e66 : h54 238 101 = h 238 101 := (u54 238 101 rfl)
    have e67 : h54 238 102 = h 238 102 := (u54 238 102 rfl)
    have e68 : h54 238 106 = h 238 106 := (u54 238 106 rfl)
    have e69 : h54 238 73 = h 238 73 := (u54 238 73 rfl)
    have e70 : h54 238 2 = h 238 2 := (u54 238 2 rfl)
    have e71 : h54 238 119 = h 238 119 := (u54 238 119 rfl)
    have e72 : h54 238 67 = h 238 67 := (u54 238 67 rfl)
    have e73 : h54 238 69 = h 238 69 := (u54 238 69 rfl)
    have e74 : h54 238 5 = h 238 5 := (u54 238 5 rfl)
    have e76 : h54 236 2 = h 236 2 := (u54 236 2 rfl)
    have rb77 : RB0 (h 2) (h 1 1) h54 := RB0.of br0 (by omega) (fun i => (u54 237 i (fo_nk rfl))) (show h54 236 2 = h 1 1 by omega)
    refine ct_212_236 hcr  g54   (show (h54 238 98) + (h54 238 99) + (h54 238 100) + (h54 238 101) + (h54 238 102) + (h54 238 106) = (h54 238 73) by omega) (show (h54 238 73) ≤ (h54 238 2) by omega) (show (h54 238 119) ≤ (h54 238 67) by omega) (show (h54 238 69) ≤ (h54 238 5) by omega) (show (h54 238 2) ≤ 12 * (h54 238 5) by omega) rb77 (fun h62 z75 g62 u62 (fz75 : 0 ≤ z75 ∧ z75 ≤ 801) (p62_0 : (tk_ok (h 2) (h 1 1) = 1 ∧ (h62 236 0) = 0 ∧ z75 = tk_ct (h 2) (h 1 1) ∧ (h62 236 22) = 0) ∨ (tk_ok (h 2) (h 1 1) = 0 ∧ (h62 236 0) = 1 ∧ (h62 236 22) = (h54 236 22))) (p62_1 : (h62 238 98) + (h62 238 99) + (h62 238 100) + (h62 238 101) + (h62 238 102) + (h62 238 106) = (h62 238 73)) (p62_2 : (h62 238 73) ≤ (h62 238 2)) (p62_3 : (h62 238 119) ≤ (h62 238 67)) (p62_4 : (h62 238 69) ≤ (h62 238 5)) (p62_5 : (h62 238 2) ≤ 12 * (h62 238 5)) (p62_6 : (h62 236 2) = 0) (p62_7 : (h62 236 10) = tk_ec (h 2) (h 1 1)) (p62_8 : (h62 236 11) = tk_ep (h 2) (h 1 1)) y62_0 y62_1 y62_2 y62_3 => ?_)
    have b78 := gi_b (lo := 0) (hi := 6) g 236 22 rfl
    have e79 : h54 236 22 = h 236 22 := (u54 236 22 rfl)
    have b80 := gi_b (lo := 0) (hi := 2) g62 236 0 rfl
    have b81 := gi_b (lo := 0) (hi := 6) g62 236 22 rfl
    have b82 := gi_b (lo := 0) (hi := 6) g62 238 98 rfl
    have b83 := gi_b (lo := 0) (hi := 6) g62 238 99 rfl
    have b84 := gi_b (lo := 0) (hi := 6) g62 238 100 rfl
    have b85 := gi_b (lo := 0) (hi := 6) g62 238 101 rfl
    have b86 := gi_b (lo := 0) (hi := 3) g62 238 102 rfl
    have b87 := gi_b (lo := 0) (hi := 12) g62 238 106 rfl
    have b88 := gi_b (lo := 0) (hi := 12) g62 238 73 rfl
    have b89 := gi_b (lo := 0) (hi := 12) g62 238 2 rfl
    have b90 := gi_b (lo := 0) (hi := 9999) g62 238 119 rfl
    have b91 := gi_b (lo := 0) (hi := 9999) g62 238 67 rfl
    have b92 := gi_b (lo := 0) (hi := 9) g62 238 69 rfl
    have b93 := gi_b (lo := 0) (hi := 9) g62 238 5 rfl
    have b94 := gi_b (lo := 0) (hi := 800) g62 236 2 rfl
    have b95 := gi_b (lo := -2147483648) (hi := 2147483647) g62 236 10 rfl
    have b96 := gi_b (lo := -2147483648) (hi := 2147483647) g62 236 11 rfl
    refine wk_i ?_
    rcases p62_0 with p62_0 | p62_0
    ·
      exfalso; omega
    ·
      refine wi_istore (i := 6) (e := z75) (lo2 := [(6, vi z75), (5, vi 1), (0, .ref 1000000), (1, .ref 0), (2, .ref 236), (3, .ref 259), (4, vi i)]) (nx := 405) (r1 := 0) (r2 := 0) (r3 := 0) rfl rfl ?_
      refine wi_goto (nx := 408) (r1 := 1501) (r2 := 0) (r3 := 0) rfl ?_
      refine wp.lo (lo := [(0, .ref 1000000), (1, .ref 0), (2, .ref 236), (3, .ref 259), (4, vi i)]) ⟨rfl, rfl, rfl, rfl, rfl, trivial⟩ rfl ?_
      have e97 : h62 241 98 = h 241 98 := ((u62 241 98 rfl).trans (u54 241 98 rfl))
      have e98 : h62 241 99 = h 241 99 := ((u62 241 99 rfl).trans (u54 241 99 rfl))
      have e99 : h62 241 100 = h 241 100 := ((u62 241 100 rfl).trans (u54 241 100 rfl))
      have e100 : h62 241 101 = h 241 101 := ((u62 241 101 rfl).trans (u54 241 101 rfl))
      have e101 : h62 241 102 = h 241 102 := ((u62 241 102 rfl).trans (u54 241 102 rfl))
      have e102 : h62 241 106 = h 241 106 := ((u62 241 106 rfl).trans (u54 241 106 rfl))
      have e103 : h62 241 73 = h 241 73 := ((u62 241 73 rfl).trans (u54 241 73 rfl))
      have e104 : h62 241 2 = h 241 2 := ((u62 241 2 rfl).trans (u54 241 2 rfl))
      have e105 : h62 241 119 = h 241 119 := ((u62 241 119 rfl).trans (u54 241 119 rfl))
      have e106 : h62 241 67 = h 241 67 := ((u62 241 67 rfl).trans (u54 241 67 rfl))
      have e107 : h62 241 69 = h 241 69 := ((u62 241 69 rfl).trans (u54 241 69 rfl))
      have e108 : h62 241 5 = h 241 5 := ((u62 241 5 rfl).trans (u54 241 5 rfl))
      have e109 : h62 1 1 = h54 1 1 := (u62 1 1 rfl)
      have e110 : h62 1 2 = h54 1 2 := (u62 1 2 rfl)
      have e111 : h62 1 3 = h54 1 3 := (u62 1 3 rfl)
      have gp112 := GPH.fr u54 rfl gp0
      have gp113 := GPH.fr u62 rfl gp112
      have b114 := gi_b (lo := 0) (hi := 5) g 241 0 rfl
      have b115 := gi_b (lo := 0) (hi := 4) g 241 1 rfl
      have e116 : h62 0 12 = h 0 12 := ((u62 0 12 rfl).trans (u54 0 12 rfl))
      have e117 : h62 236 21 = h 236 21 := ((u62 236 21 rfl).trans (u54 236 21 rfl))
      have e118 : h62 63 5 = h 63 5 := ((u62 63 5 rfl).trans (u54 63 5 rfl))
      have e119 : h62 18 16 = h54 18 16 := (u62 18 16 rfl)
      have e120 : h62 18 7 = h54 18 7 := (u62 18 7 rfl)
      have e121 : h62 3 2 = h54 3 2 := (u62 3 2 rfl)
      have e122 : h62 66 1 = h 66 1 := ((u62 66 1 rfl).trans (u54 66 1 rfl))
      have b123 := gi_b (lo := 0) (hi := 6) g 73 1 rfl
      have e124 : h62 73 1 = h 73 1 := ((u62 73 1 rfl).trans (u54 73 1 rfl))
      have b125 := gi_b (lo := 0) (hi := 6) g54 73 2 rfl
      have e126 : h62 73 2 = h54 73 2 := (u62 73 2 rfl)
      have b127 := gi_b (lo := 0) (hi := 6) g 73 2 rfl
      have b128 := gi_b (lo := 0) (hi := 12) g 210 2 rfl
      have e129 : h62 210 2 = h 210 2 := ((u62 210 2 rfl).trans (u54 210 2 rfl))
      have e131 : h54 63 5 = h 63 5 := (u54 63 5 rfl)
      have e132 : h54 66 1 = h 66 1 := (u54 66 1 rfl)
      have q134 : h62 8 = h54 8 := funext (fun i => (u62 8 i (fo_no_ok (by decide) i)))
      have q135 : h62 7 = h54 7 := funext (fun i => (u62 7 i (fo_no_ok (by decide) i)))
      have q136 : h62 19 = h54 19 := funext (fun i => (u62 19 i (fo_no_ok (by decide) i)))
      have q137 : h62 67 = h54 67 := funext (fun i => (u62 67 i (fo_no_ok (by decide) i)))
      have ml133 : MCL h62 := MCL.mv (ye54_1 mi0).1 q134 q135 q136 q137 (by omega) (by omega) (by omega) (by omega)
      have q139 : h62 69 = h54 69 := funext (fun i => (u62 69 i (fo_no_ok (by decide) i)))
      have q140 : h62 70 = h54 70 := funext (fun i => (u62 70 i (fo_no_ok (by decide) i)))
      have nb138 : NBc (h62 69) (h62 70) := by rw [q139, q140]; exact (ye54_1 mi0).2.2
      have q141 : h62 8 = h54 8 := funext (fun i => (u62 8 i (fo_no_ok (by decide) i)))
      have q142 : h62 7 = h54 7 := funext (fun i => (u62 7 i (fo_no_ok (by decide) i)))
      have e143 : h54 73 1 = h 73 1 := (u54 73 1 rfl)
      have mi130 : MCI h62 := ⟨ml133, HIv.mv (ye54_1 mi0).2.1 q141 q142 (by omega) (by omega) (sv_seven (P := fun x => ∀ i, h62 (76 + 19 * x) i = h54 (76 + 19 * x) i) (fun i => (u62 76 i (fo_nk rfl))) (fun i => (u62 95 i (fo_nk rfl))) (fun i => (u62 114 i (fo_nk rfl))) (fun i => (u62 133 i (fo_nk rfl))) (fun i => (u62 152 i (fo_nk rfl))) (fun i => (u62 171 i (fo_nk rfl))) (fun i => (u62 190 i (fo_nk rfl)))) (by omega) (by omega), nb138⟩
      have q144 : h62 8 = h 8 := funext (fun i => ((u62 8 i (fo_no_ok (by decide) i)).trans (u54 8 i (fo_no_ok (by decide) i))))
      have q145 : h62 7 = h 7 := funext (fun i => ((u62 7 i (fo_no_ok (by decide) i)).trans (u54 7 i (fo_no_ok (by decide) i))))
      have q146 : h62 215 = h 215 := funext (fun i => ((u62 215 i (fo_no_ok (by decide) i)).trans (u54 215 i (fo_no_ok (by decide) i))))
      have q147 : h62 218 = h 218 := funext (fun i => ((u62 218 i (fo_no_ok (by decide) i)).trans (u54 218 i (fo_no_ok (by decide) i))))
      have q148 : h62 214 = h 214 := funext (fun i => ((u62 214 i (fo_no_ok (by decide) i)).trans (u54 214 i (fo_no_ok (by decide) i))))
      have q149 : h62 241 = h 241 := funext (fun i => ((u62 241 i (fo_no_ok (by decide) i)).trans (u54 241 i (fo_no_ok (by decide) i))))
      exact k h62 (b - 1) (c - 6) ⟨⟨g62, (show h62 1 1 = h62 236 2 by omega), (RS.i0 (f := h62 238) (by refine ⟨?_, ?_, ?_, ?_, ?_⟩ <;> omega)), (RS.i0 (f := h62 241) (by refine ⟨?_, ?_, ?_, ?_, ?_⟩ <;> omega)), gp113, (BRh.keep br0 (fun i => ((u62 2 i (fo_nk rfl)).trans (u54 2 i (fo_nk rfl)))) (fun i => ((u62 237 i (fo_nk rfl)).trans (u54 237 i (fo_nk rfl)))) (by omega)), (show h62 1 2 = h62 236 10 by omega), (show h62 1 3 = h62 236 11 by omega), (SVx.keep sv0 (by omega) (fun i _ => ((u62 3 i (fo_nk rfl)).trans (ye54_1.1 i))) (fun i _ => ((u62 5 i (fo_nk rfl)).trans (ye54_1.2.1 i))) (fun i _ => ((u62 6 i (fo_nk rfl)).trans (ye54_1.2.2.1 i))) (fun i _ => ((u62 8 i (fo_nk rfl)).trans (ye54_1.2.2.2 i))) (fun i hi => ((y62_1 (by omega) i hi).trans (u54 238 i (fo_nk rfl))))), (show h62 0 12 = h62 236 21 by omega), (fun e => (SVx.keep (ss0 (by omega)) (by omega) (fun i _ => ((u62 210 i (fo_nk rfl)).trans (u54 210 i (fo_nk rfl)))) (fun i _ => ((u62 212 i (fo_nk rfl)).trans (u54 212 i (fo_nk rfl)))) (fun i _ => ((u62 213 i (fo_nk rfl)).trans (u54 213 i (fo_nk rfl)))) (fun i _ => ((u62 215 i (fo_nk rfl)).trans (u54 215 i (fo_nk rfl)))) (fun i _ => ((u62 241 i (fo_nk rfl)).trans (u54 241 i (fo_nk rfl)))))), (GPS.back gs0 (by omega) (fun i hi => ((y62_1 (by omega) i hi).trans (u54 238 i (fo_nk rfl)))) (fun i => ((u62 242 i (fo_nk rfl)).trans (u54 242 i (fo_nk rfl))))), mi130, (show h62 63 5 ≤ h62 18 16 by omega), (show (h62 63 5) < (h62 18 16) ∨ ((h62 18 7) ≤ (h62 3 2) ∧ (h62 66 1) = (h62 3 2) - (h62 18 7)) ∨ ((h62 3 2) < (h62 18 7) ∧ (h62 66 1) = 0) by omega), (GQS.back gq0 (by omega) (MSN.same (fun i hi => ((y62_3 (by omega) i hi).trans (u54 238 i (fo_nk rfl))))) (fun i => ((u62 242 i (fo_nk rfl)).trans (u54 242 i (fo_nk rfl))))), (MR.mv mr0 (MSN.same (fun i hi => ((y62_3 (by omega) i hi).trans (u54 238 i (fo_nk rfl))))) (by omega) q144 q145 (by omega)), (fun e => SM.mv (sm0 (by omega)) q146 q147 q148 (by omega) q149)⟩, (by omega)⟩ (by omega) (by omega)
-- the law, case at 408
set_option maxRecDepth 100000 in
set_option maxHeartbeats 100000000 in
theorem lc_408 {L : Nat} {xs : Nat → Int32} {d b c : Nat} {h : hp} {cr : Nat → Nat → Option Nat} {Q : hp_Q} (hcr : CR cr) (hL : L ≤ 3072) (hr : 1 ≤ b ∧ 6 ≤ c) (i : Int) (I : LIm i h) (hi : 0 ≤ i ∧ i + 6 ≤ L) (k : ∀ (h2 : hp) (b2 c2 : Nat), LIm (i + 6) h2 → b ≤ b2 + 1 → c ≤ c2 + 6 → wp (md_xa (L, xs)) (d + 107) 0 (1501, [(0, .ref 1000000), (1, .ref 0), (2, .ref 236), (3, .ref 259), (4, vi i)], [], hp_w h2 cr, b2, c2) Q) : wp (md_xa (L, xs)) (d + 107) 0 (408, [(0, .ref 1000000), (1, .ref 0), (2, .ref 236), (3, .ref 259), (4, vi i)], [], hp_w h cr, b, c) Q := by
  obtain ⟨⟨g, i11, r238, r241, gp0, br0, er2, er3, sv0, sf0, ss0, gs0, mi0, ml1, ml2, gq0, mr0, sm0⟩, ie0⟩ := I
  have r238e := r238.e0
  have r241e := r241.e0
  obtain ⟨⟨se0, se1, se2, se3, se4, se5, se6, se7, se8, se9⟩, -⟩ := id sv0
  have b1 := gi_b (lo := 0) (hi := 5) g 3 0 rfl
  have b2 := gi_b (lo := 0) (hi := 5) g 238 0 rfl
  have b3 := gi_b (lo := 0) (hi := 4) g 3 1 rfl
  have b4 := gi_b (lo := 0) (hi := 4) g 238 1 rfl
  have b5 := gi_b (lo := 0) (hi := 12) g 3 2 rfl
  have b6 := gi_b (lo := 0) (hi := 12) g 238 2 rfl
  have b7 := gi_b (lo := -2147483648) (hi := 2147483647) g 3 3 rfl
  have b8 := gi_b (lo := 0) (hi := 999) g 238 3 rfl
  have b9 := gi_b (lo := -2147483648) (hi := 2147483647) g 3 4 rfl
  have b10 := gi_b (lo := 0) (hi := 999) g 238 4 rfl
  have b11 := gi_b (lo := -2147483648) (hi := 2147483647) g 3 5 rfl
  have b12 := gi_b (lo := 0) (hi := 9) g 238 5 rfl
  have b13 := gi_b (lo := -2147483648) (hi := 2147483647) g 3 6 rfl
  have b14 := gi_b (lo := 0) (hi := 999) g 238 6 rfl
  have b15 := gi_b (lo := -2147483648) (hi := 2147483647) g 3 7 rfl
  have b16 := gi_b (lo := 0) (hi := 3) g 238 7 rfl
  have b17 := gi_b (lo := -2147483648) (hi := 2147483647) g 3 8 rfl
  have b18 := gi_b (lo := 0) (hi := 999) g 238 8 rfl
  have b19 := gi_b (lo := -2147483648) (hi := 2147483647) g 3 9 rfl
  have b20 := gi_b (lo := 0) (hi := 999) g 238 9 rfl
  have b21 := gi_b (lo := -2147483648) (hi := 2147483647) g 63 5 rfl
  have b22 := gi_b (lo := 0) (hi := 12) g 18 7 rfl
  have b23 := gi_b (lo := 0) (hi := 12) g 66 1 rfl
  have b24 := gi_b (lo := 0) (hi := 1) g 0 12 rfl
  have b25 := gi_b (lo := 0) (hi := 1) g 236 21 rfl
  have bl_ := gi_b (lo := 0) (hi := 800) g 1 1 rfl
  have tb0 : BufC (h 2) (h 1 1) h := ⟨fun _ => rfl, rfl, by omega, by omega⟩
  have b26 := gi_b (lo := 0) (hi := 6) g 238 98 rfl
  have b27 := gi_b (lo := 0) (hi := 6) g 238 99 rfl
  have b28 := gi_b (lo := 0) (hi := 6) g 238 100 rfl
  have b29 := gi_b (lo := 0) (hi := 6) g 238 101 rfl
  have b30 := gi_b (lo := 0) (hi := 3) g 238 102 rfl
  have b31 := gi_b (lo := 0) (hi := 12) g 238 106 rfl
  have b32 := gi_b (lo := 0) (hi := 12) g 238 73 rfl
  have b33 := gi_b (lo := 0) (hi := 9999) g 238 119 rfl
  have b34 := gi_b (lo := 0) (hi := 9999) g 238 67 rfl
  have b35 := gi_b (lo := 0) (hi := 9) g 238 69 rfl
  have b36 := gi_b (lo := 0) (hi := 6) g 241 98 rfl
  have b37 := gi_b (lo := 0) (hi := 6) g 241 99 rfl
  have b38 := gi_b (lo := 0) (hi := 6) g 241 100 rfl
  have b39 := gi_b (lo := 0) (hi := 6) g 241 101 rfl
  have b40 := gi_b (lo := 0) (hi := 3) g 241 102 rfl
  have b41 := gi_b (lo := 0) (hi := 12) g 241 106 rfl
  have b42 := gi_b (lo := 0) (hi := 12) g 241 73 rfl
  have b43 := gi_b (lo := 0) (hi := 12) g 241 2 rfl
  have b44 := gi_b (lo := 0) (hi := 9999) g 241 119 rfl
  have b45 := gi_b (lo := 0) (hi := 9999) g 241 67 rfl
  have b46 := gi_b (lo := 0) (hi := 9) g 241 69 rfl
  have b47 := gi_b (lo := 0) (hi := 9) g 241 5 rfl
  have b48 := gi_b (lo := 0) (hi := 800) g 1 1 rfl
  have b49 := gi_b (lo := 0) (hi := 800) g 236 2 rfl
  have b50 := gi_b (lo := -2147483648) (hi := 2147483647) g 1 2 rfl
  have b51 := gi_b (lo := -2147483648) (hi := 2147483647) g 236 10 rfl
  have b52 := gi_b (lo := -2147483648) (hi := 2147483647) g 1 3 rfl
  have b53 := gi_b (lo := -2147483648) (hi := 2147483647) g 236 11 rfl
  refine wi_aload_n (i := 1) (x := 0) (nx := 409) (r1 := 0) (r2 := 0) (r3 := 0) rfl rfl ?_
  refine wi_aload_n (i := 3) (x := 259) (nx := 410) (r1 := 0) (r2 := 0) (r3 := 0) rfl rfl ?_
  refine wi_S (rest := []) (as := [.ref 0, .ref 259]) (nx := 413) (r1 := 4) (r2 := 18) (r3 := 0) rfl rfl rfl (of_decide_eq_true rfl) rfl rfl (of_decide_eq_true rfl) (of_decide_eq_true rfl) ?_
  refine wi_aload_n (i := 1) (x := 259) (nx := 1) (r1 := 0) (r2 := 0) (r3 := 0) rfl rfl ?_
  refine wi_iconst (n := 0) (nx := 2) (r1 := 0) (r2 := 0) (r3 := 0) rfl ?_
  refine wi_aload_n (i := 0) (x := 0) (nx := 3) (r1 := 0) (r2 := 0) (r3 := 0) rfl rfl ?_
  refine wr_V (k0 := 0) (rest := [vi 0, .ref 259]) (as := [.ref 0]) (nx := 6) (r1 := 64) (r2 := 0) (r3 := 0) rfl rfl rfl (of_decide_eq_true rfl) rfl rfl (by decide) rfl rfl (of_decide_eq_true rfl) (of_decide_eq_true rfl) ?_
  refine ct_64_0 hcr hr  g   (show (h 63 5) ≤ (h 18 16) by omega) (show (h 63 5) < (h 18 16) ∨ ((h 18 7) ≤ (h 3 2) ∧ (h 66 1) = (h 3 2) - (h 18 7)) ∨ ((h 3 2) < (h 18 7) ∧ (h 66 1) = 0) by omega) (show 0 ≤ (h 3 9) by omega) (show (h 18 16) ≤ 1900000000 by omega) tb0 mi0 (fun h54 z55 g54 u54 (fz55 : 0 ≤ z55 ∧ z55 ≤ 100) (p54_0 : (h54 1 1) = 0) (p54_1 : (h54 1 2) = sc_ec (h 2) (h 1 1)) (p54_2 : (h54 1 3) = sc_ep (h 2) (h 1 1)) (p54_3 : (h54 63 5) ≤ (h54 18 16)) (p54_4 : (h54 63 5) < (h54 18 16) ∨ ((h54 18 7) ≤ (h54 3 2) ∧ (h54 66 1) = (h54 3 2) - (h54 18 7)) ∨ ((h54 3 2) < (h54 18 7) ∧ (h54 66 1) = 0)) (p54_5 : (h 18 16) ≤ (h54 18 16) ∧ (h54 18 16) ≤ (h 18 16) + 50000) y54_0 => ?_) (fun h54 g54 u54 (pe54_0 : (h54 1 1) = 0) (pe54_1 : (h54 1 2) = sc_ec (h 2) (h 1 1)) (pe54_2 : (h54 1 3) = sc_ep (h 2) (h 1 1)) (pe54_3 : (h54 63 5) ≤ (h54 18 16)) (pe54_4 : (h54 63 5) < (h54 18 16) ∨ ((h54 18 7) ≤ (h54 3 2) ∧ (h54 66 1) = (h54 3 2) - (h54 18 7)) ∨ ((h54 3 2) < (h54 18 7) ∧ (h54 66 1) = 0)) (pe54_5 : (h54 18 16) = (h 18 16)) ye54_0 => ?_)
  ·
    have b56 := gi_b (lo := 0) (hi := 800) g54 1 1 rfl
    have b57 := gi_b (lo := -2147483648) (hi := 2147483647) g54 1 2 rfl
    have b58 := gi_b (lo := -2147483648) (hi := 2147483647) g54 1 3 rfl
    have b59 := gi_b (lo := -2147483648) (hi := 2147483647) g54 63 5 rfl
    have b60 := gi_b (lo := -2147483648) (hi := 2147483647) g54 18 16 rfl
    have b61 := gi_b (lo := 0) (hi := 12) g54 18 7 rfl
    have e62 : h54 3 2 = h 3 2 := (u54 3 2 rfl)
    have b63 := gi_b (lo := 0) (hi := 12) g54 66 1 rfl
    refine wk_i ?_
    refine wi_i2l (nx := 7) (r1 := 0) (r2 := 0) (r3 := 0) rfl (by omega) ?_
    refine wr_ls (k0 := 259) (a := 0) (f := 0) (x := z55) (bl := -9223372036854775808) (bh := 9223372036854775807) (nx := 8) (r1 := 0) (r2 := 0) (r3 := 0) rfl (by decide) rfl (by omega) (by omega) (by decide) g54 rfl (by omega) (fun h64 g64 w64 u64 => ?_)
    refine wi_goto (nx := 11) (r1 := 14) (r2 := 0) (r3 := 0) rfl ?_
    refine wi_iconst (n := 0) (nx := 15) (r1 := 0) (r2 := 0) (r3 := 0) rfl ?_
    refine wi_ireturn (nx := 16) (r1 := 0) (r2 := 0) (r3 := 0) rfl rfl ?_
    refine wk_i ?_
    refine wi_istore (i := 5) (e := 0) (lo2 := [(5, vi 0), (0, .ref 1000000), (1, .ref 0), (2, .ref 236), (3, .ref 259), (4, vi i)]) (nx := 415) (r1 := 0) (r2 := 0) (r3 := 0) rfl rfl ?_
    refine wi_aload_n (i := 2) (x := 236) (nx := 416) (r1 := 0) (r2 := 0) (r3 := 0) rfl rfl ?_
    refine wr_V (k0 := 236) (rest := []) (as := [.ref 236]) (nx := 419) (r1 := 333) (r2 := 0) (r3 := 11) rfl rfl rfl (of_decide_eq_true rfl) rfl rfl (by decide) rfl rfl (of_decide_eq_true rfl) (of_decide_eq_true rfl) ?_
    have e66 : h64 238 98 = h 238 98 := ((u64 238 98 rfl).trans (u54 238 98 rfl))
    have e67 : h64 238 99 = h 238 99 := ((u64 238 99 rfl).trans (u54 238 99 rfl))
    have e68 : h64 238 100 = h 238 100 := ((u64 238 100 rfl).trans (u54 238 100 rfl))
    have e69 : h64 238 101 = h 238 101 := ((u64 238 101 rfl).trans (u54 238 101 rfl))
    have e70 : h64 238 102 = h 238 102 := ((u64 238 102 rfl).trans (u54 238 102 rfl))
    have e71 : h64 238 106 = h 238 106 := ((u64 238 106 rfl).trans (u54 238 106 rfl))
    have e72 : h64 238 73 = h 238 73 := ((u64 238 73 rfl).trans (u54 238 73 rfl))
    have e73 : h64 238 2 = h 238 2 := ((u64 238 2 rfl).trans (u54 238 2 rfl))
    have e74 : h64 238 119 = h 238 119 := ((u64 238 119 rfl).trans (u54 238 119 rfl))
    have e75 : h64 238 67 = h 238 67 := ((u64 238 67 rfl).trans (u54 238 67 rfl))
    have e76 : h64 238 69 = h 238 69 := ((u64 238 69 rfl).trans (u54 238 69 rfl))
    have e77 : h64 238 5 = h 238 5 := ((u64 238 5 rfl).trans (u54 238 5 rfl))
    have e79 : h64 236 2 = h 236 2 := ((u64 236 2 rfl).trans (u54 236 2 rfl))
    have rb80 : RB0 (h 2) (h 1 1) h64 := RB0.of br0 (by omega) (fun i => ((u64 237 i (fn_a (by omega) fn_0)).trans (u54 237 i (fo_nk rfl)))) (show h64 236 2 = h 1 1 by omega)
    have gs81 := GPS.fr u54 rfl gs0
    have gs82 := GPS.fr u64 rfl gs81
    have gq83 := GQS.fr u54 rfl gq0
    have gq84 := GQS.fr u64 rfl gq83
    have gp85 := GPH.fr u54 rfl gp0
    have gp86 := GPH.fr u64 rfl gp85
    refine ct_333_236 hcr  g64   (show (h64 238 98) + (h64 238 99) + (h64 238 100) + (h64 238 101) + (h64 238 102) + (h64 238 106) = (h64 238 73) by omega) (show (h64 238 73) ≤ (h64 238 2) by omega) (show (h64 238 119) ≤ (h64 238 67) by omega) (show (h64 238 69) ≤ (h64 238 5) by omega) (show (h64 238 2) ≤ 12 * (h64 238 5) by omega) rb80 gs82 gq84 gp86 (fun h65 z78 g65 u65 (fz78 : 0 ≤ z78 ∧ z78 ≤ 100) (p65_0 : (h65 238 98) + (h65 238 99) + (h65 238 100) + (h65 238 101) + (h65 238 102) + (h65 238 106) = (h65 238 73)) (p65_1 : (h65 238 73) ≤ (h65 238 2)) (p65_2 : (h65 238 119) ≤ (h65 238 67)) (p65_3 : (h65 238 69) ≤ (h65 238 5)) (p65_4 : (h65 238 2) ≤ 12 * (h65 238 5)) (p65_5 : (h65 236 2) = 0) (p65_6 : (h65 236 10) = sc_ec (h 2) (h 1 1)) (p65_7 : (h65 236 11) = sc_ep (h 2) (h 1 1)) y65_0 y65_1 y65_2 y65_3 => ?_)
    have b87 := gi_b (lo := 0) (hi := 6) g65 238 98 rfl
    have b88 := gi_b (lo := 0) (hi := 6) g65 238 99 rfl
    have b89 := gi_b (lo := 0) (hi := 6) g65 238 100 rfl
    have b90 := gi_b (lo := 0) (hi := 6) g65 238 101 rfl
    have b91 := gi_b (lo := 0) (hi := 3) g65 238 102 rfl
    have b92 := gi_b (lo := 0) (hi := 12) g65 238 106 rfl
    have b93 := gi_b (lo := 0) (hi := 12) g65 238 73 rfl
    have e94 : h65 238 2 = h 238 2 := ((u65 238 2 rfl).trans ((u64 238 2 rfl).trans (u54 238 2 rfl)))
    have b95 := gi_b (lo := 0) (hi := 9999) g65 238 119 rfl
    have b96 := gi_b (lo := 0) (hi := 9999) g65 238 67 rfl
    have b97 := gi_b (lo := 0) (hi := 9) g65 238 69 rfl
    have e98 : h65 238 5 = h 238 5 := ((u65 238 5 rfl).trans ((u64 238 5 rfl).trans (u54 238 5 rfl)))
    have b99 := gi_b (lo := 0) (hi := 800) g65 236 2 rfl
    have b100 := gi_b (lo := -2147483648) (hi := 2147483647) g65 236 10 rfl
    have b101 := gi_b (lo := -2147483648) (hi := 2147483647) g65 236 11 rfl
    refine wk_i ?_
    refine wi_istore (i := 6) (e := z78) (lo2 := [(6, vi z78), (5, vi 0), (0, .ref 1000000), (1, .ref 0), (2, .ref 236), (3, .ref 259), (4, vi i)]) (nx := 421) (r1 := 0) (r2 := 0) (r3 := 0) rfl rfl ?_
    refine wi_goto (nx := 424) (r1 := 1501) (r2 := 0) (r3 := 0) rfl ?_
    refine wp.lo (lo := [(0, .ref 1000000), (1, .ref 0), (2, .ref 236), (3, .ref 259), (4, vi i)]) ⟨rfl, rfl, rfl, rfl, rfl, trivial⟩ rfl ?_
    have e102 : h65 241 98 = h 241 98 := ((u65 241 98 rfl).trans ((u64 241 98 rfl).trans (u54 241 98 rfl)))
    have e103 : h65 241 99 = h 241 99 := ((u65 241 99 rfl).trans ((u64 241 99 rfl).trans (u54 241 99 rfl)))
    have e104 : h65 241 100 = h 241 100 := ((u65 241 100 rfl).trans ((u64 241 100 rfl).trans (u54 241 100 rfl)))
    have e105 : h65 241 101 = h 241 101 := ((u65 241 101 rfl).trans ((u64 241 101 rfl).trans (u54 241 101 rfl)))
    have e106 : h65 241 102 = h 241 102 := ((u65 241 102 rfl).trans ((u64 241 102 rfl).trans (u54 241 102 rfl)))
    have e107 : h65 241 106 = h 241 106 := ((u65 241 106 rfl).trans ((u64 241 106 rfl).trans (u54 241 106 rfl)))
    have e108 : h65 241 73 = h 241 73 := ((u65 241 73 rfl).trans ((u64 241 73 rfl).trans (u54 241 73 rfl)))
    have e109 : h65 241 2 = h 241 2 := ((u65 241 2 rfl).trans ((u64 241 2 rfl).trans (u54 241 2 rfl)))
    have e110 : h65 241 119 = h 241 119 := ((u65 241 119 rfl).trans ((u64 241 119 rfl).trans (u54 241 119 rfl)))
    have e111 : h65 241 67 = h 241 67 := ((u65 241 67 rfl).trans ((u64 241 67 rfl).trans (u54 241 67 rfl)))
    have e112 : h65 241 69 = h 241 69 := ((u65 241 69 rfl).trans ((u64 241 69 rfl).trans (u54 241 69 rfl)))
    have e113 : h65 241 5 = h 241 5 := ((u65 241 5 rfl).trans ((u64 241 5 rfl).trans (u54 241 5 rfl)))
    have e114 : h65 1 1 = h54 1 1 := ((u65 1 1 rfl).trans (u64 1 1 rfl))
    have e115 : h65 1 2 = h54 1 2 := ((u65 1 2 rfl).trans (u64 1 2 rfl))
    have e116 : h65 1 3 = h54 1 3 := ((u65 1 3 rfl).trans (u64 1 3 rfl))
    have b117 := gi_b (lo := 0) (hi := 5) g 241 0 rfl
    have b118 := gi_b (lo := 0) (hi := 4) g 241 1 rfl
    have e119 : h65 0 12 = h 0 12 := ((u65 0 12 rfl).trans ((u64 0 12 rfl).trans (u54 0 12 rfl)))
    have e120 : h65 236 21 = h 236 21 := ((u65 236 21 rfl).trans ((u64 236 21 rfl).trans (u54 236 21 rfl)))
    have e121 : h65 63 5 = h54 63 5 := ((u65 63 5 rfl).trans (u64 63 5 rfl))
    have e122 : h65 18 16 = h54 18 16 := ((u65 18 16 rfl).trans (u64 18 16 rfl))
    have e123 : h65 18 7 = h54 18 7 := ((u65 18 7 rfl).trans (u64 18 7 rfl))
    have e124 : h65 3 2 = h 3 2 := ((u65 3 2 rfl).trans ((u64 3 2 rfl).trans (u54 3 2 rfl)))
    have e125 : h65 66 1 = h54 66 1 := ((u65 66 1 rfl).trans (u64 66 1 rfl))
    have b126 := gi_b (lo := 0) (hi := 6) g54 73 1 rfl
    have e127 : h65 73 1 = h54 73 1 := ((u65 73 1 rfl).trans (u64 73 1 rfl))
    have b128 := gi_b (lo := 0) (hi := 6) g 73 1 rfl
    have b129 := gi_b (lo := 0) (hi := 6) g54 73 2 rfl
    have e130 : h65 73 2 = h54 73 2 := ((u65 73 2 rfl).trans (u64 73 2 rfl))
    have b131 := gi_b (lo := 0) (hi := 6) g 73 2 rfl
    have b132 := gi_b (lo := 0) (hi := 6) g65 236 22 rfl
    have b133 := gi_b (lo := 0) (hi := 6) g 236 22 rfl
    have b134 := gi_b (lo := 0) (hi := 12) g 210 2 rfl
    have e135 : h65 210 2 = h 210 2 := ((u65 210 2 rfl).trans ((u64 210 2 rfl).trans (u54 210 2 rfl)))
    have q138 : h65 8 = h54 8 := funext (fun i => ((u65 8 i (fo_no_ok (by decide) i)).trans (u64 8 i rfl)))
    have q139 : h65 7 = h54 7 := funext (fun i => ((u65 7 i (fo_no_ok (by decide) i)).trans (u64 7 i rfl)))
    have q140 : h65 19 = h54 19 := funext (fun i => ((u65 19 i (fo_no_ok (by decide) i)).trans (u64 19 i rfl)))
    have q141 : h65 67 = h54 67 := funext (fun i => ((u65 67 i (fo_no_ok (by decide) i)).trans (u64 67 i rfl)))
    have ml137 : MCL h65 := MCL.mv y54_0.1 q138 q139 q140 q141 (by omega) (by omega) (by omega) (by omega)
    have q143 : h65 69 = h54 69 := funext (fun i => ((u65 69 i (fo_no_ok (by decide) i)).trans (u64 69 i rfl)))
    have q144 : h65 70 = h54 70 := funext (fun i => ((u65 70 i (fo_no_ok (by decide) i)).trans (u64 70 i rfl)))
    have nb142 : NBc (h65 69) (h65 70) := by rw [q143, q144]; exact y54_0.2.2
    have q145 : h65 8 = h54 8 := funext (fun i => ((u65 8 i (fo_no_ok (by decide) i)).trans (u64 8 i rfl)))
    have q146 : h65 7 = h54 7 := funext (fun i => ((u65 7 i (fo_no_ok (by decide) i)).trans (u64 7 i rfl)))
    have mi136 : MCI h65 := ⟨ml137, HIv.mv y54_0.2.1 q145 q146 (by omega) (by omega) (sv_seven (P := fun x => ∀ i, h65 (76 + 19 * x) i = h54 (76 + 19 * x) i) (fun i => ((u65 76 i (fo_nk rfl)).trans (u64 76 i (fn_a (by omega) fn_0)))) (fun i => ((u65 95 i (fo_nk rfl)).trans (u64 95 i (fn_a (by omega) fn_0)))) (fun i => ((u65 114 i (fo_nk rfl)).trans (u64 114 i (fn_a (by omega) fn_0)))) (fun i => ((u65 133 i (fo_nk rfl)).trans (u64 133 i (fn_a (by omega) fn_0)))) (fun i => ((u65 152 i (fo_nk rfl)).trans (u64 152 i (fn_a (by omega) fn_0)))) (fun i => ((u65 171 i (fo_nk rfl)).trans (u64 171 i (fn_a (by omega) fn_0)))) (fun i => ((u65 190 i (fo_nk rfl)).trans (u64 190 i (fn_a (by omega) fn_0))))) (by omega) (by omega), nb142⟩
    have q147 : h65 8 = h 8 := funext (fun i => ((u65 8 i (fo_no_ok (by decide) i)).trans ((u64 8 i rfl).trans (u54 8 i (fo_no_ok (by decide) i)))))
    have q148 : h65 7 = h 7 := funext (fun i => ((u65 7 i (fo_no_ok (by decide) i)).trans ((u64 7 i rfl).trans (u54 7 i (fo_no_ok (by decide) i)))))
    have q149 : h65 215 = h 215 := funext (fun i => ((u65 215 i (fo_no_ok (by decide) i)).trans ((u64 215 i rfl).trans (u54 215 i (fo_no_ok (by decide) i)))))
    have q150 : h65 218 = h 218 := funext (fun i => ((u65 218 i (fo_no_ok (by decide) i)).trans ((u64 218 i rfl).trans (u54 218 i (fo_no_ok (by decide) i)))))
    have q151 : h65 214 = h 214 := funext (fun i => ((u65 214 i (fo_no_ok (by decide) i)).trans ((u64 214 i rfl).trans (u54 214 i (fo_no_ok (by decide) i)))))
    have q152 : h65 241 = h 241 := funext (fun i => ((u65 241 i (fo_no_ok (by decide) i)).trans ((u64 241 i rfl).trans (u54 241 i (fo_no_ok (by decide) i)))))
    exact k h65 b c ⟨⟨g65, (show h65 1 1 = h65 236 2 by omega), (RS.i0 (f := h65 238) (by refine ⟨?_, ?_, ?_, ?_, ?_⟩ <;> omega)), (RS.i0 (f := h65 241) (by refine ⟨?_, ?_, ?_, ?_, ?_⟩ <;> omega)), y65_3, (BRh.keep br0 (fun i => ((u65 2 i (fo_nk rfl)).trans ((u64 2 i (fn_a (by omega) fn_0)).trans (u54 2 i (fo_nk rfl))))) (fun i => ((u65 237 i (fo_nk rfl)).trans ((u64 237 i (fn_a (by omega) fn_0)).trans (u54 237 i (fo_nk rfl))))) (by omega)), (show h65 1 2 = h65 236 10 by omega), (show h65 1 3 = h65 236 11 by omega), (SVx.keep sv0 (by omega) (fun i _ => ((u65 3 i (fo_nk rfl)).trans ((u64 3 i (fn_a (by omega) fn_0)).trans (u54 3 i (fo_nk rfl))))) (fun i _ => ((u65 5 i (fo_nk rfl)).trans ((u64 5 i (fn_a (by omega) fn_0)).trans (u54 5 i (fo_nk rfl))))) (fun i _ => ((u65 6 i (fo_nk rfl)).trans ((u64 6 i (fn_a (by omega) fn_0)).trans (u54 6 i (fo_nk rfl))))) (fun i _ => ((u65 8 i (fo_nk rfl)).trans ((u64 8 i (fn_a (by omega) fn_0)).trans (u54 8 i (fo_nk rfl))))) (fun i _ => ((u65 238 i (fo_lk (m := 31) (by omega) rfl)).trans ((u64 238 i (fn_a (by omega) fn_0)).trans (u54 238 i (fo_nk rfl)))))), (show h65 0 12 = h65 236 21 by omega), (fun e => (SVx.keep (ss0 (by omega)) (by omega) (fun i _ => ((u65 210 i (fo_nk rfl)).trans ((u64 210 i (fn_a (by omega) fn_0)).trans (u54 210 i (fo_nk rfl))))) (fun i _ => ((u65 212 i (fo_nk rfl)).trans ((u64 212 i (fn_a (by omega) fn_0)).trans (u54 212 i (fo_nk rfl))))) (fun i _ => ((u65 213 i (fo_nk rfl)).trans ((u64 213 i (fn_a (by omega) fn_0)).trans (u54 213 i (fo_nk rfl))))) (fun i _ => ((u65 215 i (fo_nk rfl)).trans ((u64 215 i (fn_a (by omega) fn_0)).trans (u54 215 i (fo_nk rfl))))) (fun i _ => ((u65 241 i (fo_nk rfl)).trans ((u64 241 i (fn_a (by omega) fn_0)).trans (u54 241 i (fo_nk rfl))))))), y65_0, mi136, (show h65 63 5 ≤ h65 18 16 by omega), (show (h65 63 5) < (h65 18 16) ∨ ((h65 18 7) ≤ (h65 3 2) ∧ (h65 66 1) = (h65 3 2) - (h65 18 7)) ∨ ((h65 3 2) < (h65 18 7) ∧ (h65 66 1) = 0) by omega), y65_1, (MR.mv mr0 (MSN.trans (MSN.then (MSN.refl) (fun i _ => ((u64 238 i (fn_a (by omega) fn_0)).trans (u54 238 i (fo_nk rfl))))) y65_2) (by omega) q147 q148 (by omega)), (fun e => SM.mv (sm0 (by omega)) q149 q150 q151 (by omega) q152)⟩, (by omega)⟩ (by omega) (by omega)
  ·
    have b56 := gi_b (lo := 0) (hi := 800) g54 1 1 rfl
    have b57 := gi_b (lo := -2147483648) (hi := 2147483647) g54 1 2 rfl
    have b58 := gi_b (lo := -2147483648) (hi := 2147483647) g54 1 3 rfl
    have b59 := gi_b (lo := -2147483648) (hi := 2147483647) g54 63 5 rfl
    have b60 := gi_b (lo := -2147483648) (hi := 2147483647) g54 18 16 rfl
    have b61 := gi_b (lo := 0) (hi := 12) g54 18 7 rfl
    have e62 : h54 3 2 = h 3 2 := (u54 3 2 rfl)
    have b63 := gi_b (lo := 0) (hi := 12) g54 66 1 rfl
    refine wk_h 11 (by decide) rfl ?_
    refine wr_astx (i := 2) (lo2 := [(2, .retAddr 0), (0, .ref 0), (1, .ref 259)]) (nx := 12) (r1 := 0) (r2 := 0) (r3 := 0) rfl rfl ?_
    refine wi_iconst (n := 1) (nx := 13) (r1 := 0) (r2 := 0) (r3 := 0) rfl ?_
    refine wi_ireturn (nx := 14) (r1 := 0) (r2 := 0) (r3 := 0) rfl rfl ?_
    refine wk_i ?_
    refine wi_istore (i := 5) (e := 1) (lo2 := [(5, vi 1), (0, .ref 1000000), (1, .ref 0), (2, .ref 236), (3, .ref 259), (4, vi i)]) (nx := 415) (r1 := 0) (r2 := 0) (r3 := 0) rfl rfl ?_
    refine wi_aload_n (i := 2) (x := 236) (nx := 416) (r1 := 0) (r2 := 0) (r3 := 0) rfl rfl ?_
    refine wr_V (k0 := 236) (rest := []) (as := [.ref 236]) (nx := 419) (r1 := 333) (r2 := 0) (r3 := 11) rfl rfl rfl (of_decide_eq_true rfl) rfl rfl (by decide) rfl rfl (of_decide_eq_true rfl) (of_decide_eq_true rfl) ?_
    have e65 : h54 238 98 = h 238 98 := (u54 238 98 rfl)
    have e66 : h54 238 99 = h 238 99 := (u54 238 99 rfl)
    have e67 : h54 238 100 = h 238 100 := (u54 238 100 rfl)
    have e68 : h54 238 101 = h 238 101 := (u54 238 101 rfl)
    have e69 : h54 238 102 = h 238 102 := (u54 238 102 rfl)
    have e70 : h54 238 106 = h 238 106 := (u54 238 106 rfl)
    have e71 : h54 238 73 = h 238 73 := (u54 238 73 rfl)
    have e72 : h54 238 2 = h 238 2 := (u54 238 2 rfl)
    have e73 : h54 238 119 = h 238 119 := (u54 238 119 rfl)
    have e74 : h54 238 67 = h 238 67 := (u54 238 67 rfl)
    have e75 : h54 238 69 = h 238 69 := (u54 238 69 rfl)
    have e76 : h54 238 5 = h 238 5 := (u54 238 5 rfl)
    have e78 : h54 236 2 = h 236 2 := (u54 236 2 rfl)
    have rb79 : RB0 (h 2) (h 1 1) h54 := RB0.of br0 (by omega) (fun i => (u54 237 i (fo_nk rfl))) (show h54 236 2 = h 1 1 by omega)
    have gs80 := GPS.fr u54 rfl gs0
    have gq81 := GQS.fr u54 rfl gq0
    have gp82 := GPH.fr u54 rfl gp0
    refine ct_333_236 hcr  g54   (show (h54 238 98) + (h54 238 99) + (h54 238 100) + (h54 238 101) + (h54 238 102) + (h54 238 106) = (h54 238 73) by omega) (show (h54 238 73) ≤ (h54 238 2) by omega) (show (h54 238 119) ≤ (h54 238 67) by omega) (show (h54 238 69) ≤ (h54 238 5) by omega) (show (h54 238 2) ≤ 12 * (h54 238 5) by omega) rb79 gs80 gq81 gp82 (fun h64 z77 g64 u64 (fz77 : 0 ≤ z77 ∧ z77 ≤ 100) (p64_0 : (h64 238 98) + (h64 238 99) + (h64 238 100) + (h64 238 101) + (h64 238 102) + (h64 238 106) = (h64 238 73)) (p64_1 : (h64 238 73) ≤ (h64 238 2)) (p64_2 : (h64 238 119) ≤ (h64 238 67)) (p64_3 : (h64 238 69) ≤ (h64 238 5)) (p64_4 : (h64 238 2) ≤ 12 * (h64 238 5)) (p64_5 : (h64 236 2) = 0) (p64_6 : (h64 236 10) = sc_ec (h 2) (h 1 1)) (p64_7 : (h64 236 11) = sc_ep (h 2) (h 1 1)) y64_0 y64_1 y64_2 y64_3 => ?_)
    have b83 := gi_b (lo := 0) (hi := 6) g64 238 98 rfl
    have b84 := gi_b (lo := 0) (hi := 6) g64 238 99 rfl
    have b85 := gi_b (lo := 0) (hi := 6) g64 238 100 rfl
    have b86 := gi_b (lo := 0) (hi := 6) g64 238 101 rfl
    have b87 := gi_b (lo := 0) (hi := 3) g64 238 102 rfl
    have b88 := gi_b (lo := 0) (hi := 12) g64 238 106 rfl
    have b89 := gi_b (lo := 0) (hi := 12) g64 238 73 rfl
    have e90 : h64 238 2 = h 238 2 := ((u64 238 2 rfl).trans (u54 238 2 rfl))
    have b91 := gi_b (lo := 0) (hi := 9999) g64 238 119 rfl
    have b92 := gi_b (lo := 0) (hi := 9999) g64 238 67 rfl
    have b93 := gi_b (lo := 0) (hi := 9) g64 238 69 rfl
    have e94 : h64 238 5 = h 238 5 := ((u64 238 5 rfl).trans (u54 238 5 rfl))
    have b95 := gi_b (lo := 0) (hi := 800) g64 236 2 rfl
    have b96 := gi_b (lo := -2147483648) (hi := 2147483647) g64 236 10 rfl
    have b97 := gi_b (lo := -2147483648) (hi := 2147483647) g64 236 11 rfl
    refine wk_i ?_
    refine wi_istore (i := 6) (e := z77) (lo2 := [(6, vi z77), (5, vi 1), (0, .ref 1000000), (1, .ref 0), (2, .ref 236), (3, .ref 259), (4, vi i)]) (nx := 421) (r1 := 0) (r2 := 0) (r3 := 0) rfl rfl ?_
    refine wi_goto (nx := 424) (r1 := 1501) (r2 := 0) (r3 := 0) rfl ?_
    refine wp.lo (lo := [(0, .ref 1000000), (1, .ref 0), (2, .ref 236), (3, .ref 259), (4, vi i)]) ⟨rfl, rfl, rfl, rfl, rfl, trivial⟩ rfl ?_
    have e98 : h64 241 98 = h 241 98 := ((u64 241 98 rfl).trans (u54 241 98 rfl))
    have e99 : h64 241 99 = h 241 99 := ((u64 241 99 rfl).trans (u54 241 99 rfl))
    have e100 : h64 241 100 = h 241 100 := ((u64 241 100 rfl).trans (u54 241 100 rfl))
    have e101 : h64 241 101 = h 241 101 := ((u64 241 101 rfl).trans (u54 241 101 rfl))
    have e102 : h64 241 102 = h 241 102 := ((u64 241 102 rfl).trans (u54 241 102 rfl))
    have e103 : h64 241 106 = h 241 106 := ((u64 241 106 rfl).trans (u54 241 106 rfl))
    have e104 : h64 241 73 = h 241 73 := ((u64 241 73 rfl).trans (u54 241 73 rfl))
    have e105 : h64 241 2 = h 241 2 := ((u64 241 2 rfl).trans (u54 241 2 rfl))
    have e106 : h64 241 119 = h 241 119 := ((u64 241 119 rfl).trans (u54 241 119 rfl))
    have e107 : h64 241 67 = h 241 67 := ((u64 241 67 rfl).trans (u54 241 67 rfl))
    have e108 : h64 241 69 = h 241 69 := ((u64 241 69 rfl).trans (u54 241 69 rfl))
    have e109 : h64 241 5 = h 241 5 := ((u64 241 5 rfl).trans (u54 241 5 rfl))
    have e110 : h64 1 1 = h54 1 1 := (u64 1 1 rfl)
    have e111 : h64 1 2 = h54 1 2 := (u64 1 2 rfl)
    have e112 : h64 1 3 = h54 1 3 := (u64 1 3 rfl)
    have b113 := gi_b (lo := 0) (hi := 5) g 241 0 rfl
    have b114 := gi_b (lo := 0) (hi := 4) g 241 1 rfl
    have e115 : h64 0 12 = h 0 12 := ((u64 0 12 rfl).trans (u54 0 12 rfl))
    have e116 : h64 236 21 = h 236 21 := ((u64 236 21 rfl).trans (u54 236 21 rfl))
    have e117 : h64 63 5 = h54 63 5 := (u64 63 5 rfl)
    have e118 : h64 18 16 = h54 18 16 := (u64 18 16 rfl)
    have e119 : h64 18 7 = h54 18 7 := (u64 18 7 rfl)
    have e120 : h64 3 2 = h 3 2 := ((u64 3 2 rfl).trans (u54 3 2 rfl))
    have e121 : h64 66 1 = h54 66 1 := (u64 66 1 rfl)
    have b122 := gi_b (lo := 0) (hi := 6) g54 73 1 rfl
    have e123 : h64 73 1 = h54 73 1 := (u64 73 1 rfl)
    have b124 := gi_b (lo := 0) (hi := 6) g 73 1 rfl
    have b125 := gi_b (lo := 0) (hi := 6) g54 73 2 rfl
    have e126 : h64 73 2 = h54 73 2 := (u64 73 2 rfl)
    have b127 := gi_b (lo := 0) (hi := 6) g 73 2 rfl
    have b128 := gi_b (lo := 0) (hi := 6) g64 236 22 rfl
    have b129 := gi_b (lo := 0) (hi := 6) g 236 22 rfl
    have b130 := gi_b (lo := 0) (hi := 12) g 210 2 rfl
    have e131 : h64 210 2 = h 210 2 := ((u64 210 2 rfl).trans (u54 210 2 rfl))
    have q134 : h64 8 = h54 8 := funext (fun i => (u64 8 i (fo_no_ok (by decide) i)))
    have q135 : h64 7 = h54 7 := funext (fun i => (u64 7 i (fo_no_ok (by decide) i)))
    have q136 : h64 19 = h54 19 := funext (fun i => (u64 19 i (fo_no_ok (by decide) i)))
    have q137 : h64 67 = h54 67 := funext (fun i => (u64 67 i (fo_no_ok (by decide) i)))
    have ml133 : MCL h64 := MCL.mv ye54_0.1 q134 q135 q136 q137 (by omega) (by omega) (by omega) (by omega)
    have q139 : h64 69 = h54 69 := funext (fun i => (u64 69 i (fo_no_ok (by decide) i)))
    have q140 : h64 70 = h54 70 := funext (fun i => (u64 70 i (fo_no_ok (by decide) i)))
    have nb138 : NBc (h64 69) (h64 70) := by rw [q139, q140]; exact ye54_0.2.2
    have q141 : h64 8 = h54 8 := funext (fun i => (u64 8 i (fo_no_ok (by decide) i)))
    have q142 : h64 7 = h54 7 := funext (fun i => (u64 7 i (fo_no_ok (by decide) i)))
    have mi132 : MCI h64 := ⟨ml133, HIv.mv ye54_0.2.1 q141 q142 (by omega) (by omega) (sv_seven (P := fun x => ∀ i, h64 (76 + 19 * x) i = h54 (76 + 19 * x) i) (fun i => (u64 76 i (fo_nk rfl))) (fun i => (u64 95 i (fo_nk rfl))) (fun i => (u64 114 i (fo_nk rfl))) (fun i => (u64 133 i (fo_nk rfl))) (fun i => (u64 152 i (fo_nk rfl))) (fun i => (u64 171 i (fo_nk rfl))) (fun i => (u64 190 i (fo_nk rfl)))) (by omega) (by omega), nb138⟩
    have q143 : h64 8 = h 8 := funext (fun i => ((u64 8 i (fo_no_ok (by decide) i)).trans (u54 8 i (fo_no_ok (by decide) i))))
    have q144 : h64 7 = h 7 := funext (fun i => ((u64 7 i (fo_no_ok (by decide) i)).trans (u54 7 i (fo_no_ok (by decide) i))))
    have q145 : h64 215 = h 215 := funext (fun i => ((u64 215 i (fo_no_ok (by decide) i)).trans (u54 215 i (fo_no_ok (by decide) i))))
    have q146 : h64 218 = h 218 := funext (fun i => ((u64 218 i (fo_no_ok (by decide) i)).trans (u54 218 i (fo_no_ok (by decide) i))))
    have q147 : h64 214 = h 214 := funext (fun i => ((u64 214 i (fo_no_ok (by decide) i)).trans (u54 214 i (fo_no_ok (by decide) i))))
    have q148 : h64 241 = h 241 := funext (fun i => ((u64 241 i (fo_no_ok (by decide) i)).trans (u54 241 i (fo_no_ok (by decide) i))))
    exact k h64 (b - 1) (c - 6) ⟨⟨g64, (show h64 1 1 = h64 236 2 by omega), (RS.i0 (f := h64 238) (by refine ⟨?_, ?_, ?_, ?_, ?_⟩ <;> omega)), (RS.i0 (f := h64 241) (by refine ⟨?_, ?_, ?_, ?_, ?_⟩ <;> omega)), y64_3, (BRh.keep br0 (fun i => ((u64 2 i (fo_nk rfl)).trans (u54 2 i (fo_nk rfl)))) (fun i => ((u64 237 i (fo_nk rfl)).trans (u54 237 i (fo_nk rfl)))) (by omega)), (show h64 1 2 = h64 236 10 by omega), (show h64 1 3 = h64 236 11 by omega), (SVx.keep sv0 (by omega) (fun i _ => ((u64 3 i (fo_nk rfl)).trans (u54 3 i (fo_nk rfl)))) (fun i _ => ((u64 5 i (fo_nk rfl)).trans (u54 5 i (fo_nk rfl)))) (fun i _ => ((u64 6 i (fo_nk rfl)).trans (u54 6 i (fo_nk rfl)))) (fun i _ => ((u64 8 i (fo_nk rfl)).trans (u54 8 i (fo_nk rfl)))) (fun i _ => ((u64 238 i (fo_lk (m := 31) (by omega) rfl)).trans (u54 238 i (fo_nk rfl))))), (show h64 0 12 = h64 236 21 by omega), (fun e => (SVx.keep (ss0 (by omega)) (by omega) (fun i _ => ((u64 210 i (fo_nk rfl)).trans (u54 210 i (fo_nk rfl)))) (fun i _ => ((u64 212 i (fo_nk rfl)).trans (u54 212 i (fo_nk rfl)))) (fun i _ => ((u64 213 i (fo_nk rfl)).trans (u54 213 i (fo_nk rfl)))) (fun i _ => ((u64 215 i (fo_nk rfl)).trans (u54 215 i (fo_nk rfl)))) (fun i _ => ((u64 241 i (fo_nk rfl)).trans (u54 241 i (fo_nk rfl)))))), y64_0, mi132, (show h64 63 5 ≤ h64 18 16 by omega), (show (h64 63 5) < (h64 18 16) ∨ ((h64 18 7) ≤ (h64 3 2) ∧ (h64 66 1) = (h64 3 2) - (h64 18 7)) ∨ ((h64 3 2) < (h64 18 7) ∧ (h64 66 1) = 0) by omega), y64_1, (MR.mv mr0 (MSN.trans (MSN.then (MSN.refl) (fun i _ => (u54 238 i (fo_nk rfl)))) y64_2) (by omega) q143 q144 (by omega)), (fun e => SM.mv (sm0 (by omega)) q145 q146 q147 (by omega) q148)⟩, (by omega)⟩ (by omega) (by omega)
-- the law, case at 424
set_option maxRecDepth 100000 in
set_option maxHeartbeats 100000000 in
theorem lc_424 {L : Nat} {xs : Nat → Int32} {d b c : Nat} {h : hp} {cr : Nat → Nat → Option Nat} {Q : hp_Q} (hcr : CR cr) (hL : L ≤ 3072) (hr : 1 ≤ b ∧ 6 ≤ c) (i : Int) (I : LIm i h) (hi : 0 ≤ i ∧ i + 6 ≤ L) (k : ∀ (h2 : hp) (b2 c2 : Nat), LIm (i + 6) h2 → b ≤ b2 + 1 → c ≤ c2 + 6 → wp (md_xa (L, xs)) (d + 107) 0 (1501, [(0, .ref 1000000), (1, .ref 0), (2, .ref 236), (3, .ref 259), (4, vi i)], [], hp_w h2 cr, b2, c2) Q) : wp (md_xa (L, xs)) (d + 107) 0 (424, [(0, .ref 1000000), (1, .ref 0), (2, .ref 236), (3, .ref 259), (4, vi i)], [], hp_w h cr, b, c) Q := by
  obtain ⟨⟨g, i11, r238, r241, gp0, br0, er2, er3, sv0, sf0, ss0, gs0, mi0, ml1, ml2, gq0, mr0, sm0⟩, ie0⟩ := I
  have r238e := r238.e0
  have r241e := r241.e0
  obtain ⟨⟨se0, se1, se2, se3, se4, se5, se6, se7, se8, se9⟩, -⟩ := id sv0
  have b1 := gi_b (lo := 0) (hi := 5) g 3 0 rfl
  have b2 := gi_b (lo := 0) (hi := 5) g 238 0 rfl
  have b3 := gi_b (lo := 0) (hi := 4) g 3 1 rfl
  have b4 := gi_b (lo := 0) (hi := 4) g 238 1 rfl
  have b5 := gi_b (lo := 0) (hi := 12) g 3 2 rfl
  have b6 := gi_b (lo := 0) (hi := 12) g 238 2 rfl
  have b7 := gi_b (lo := -2147483648) (hi := 2147483647) g 3 3 rfl
  have b8 := gi_b (lo := 0) (hi := 999) g 238 3 rfl
  have b9 := gi_b (lo := -2147483648) (hi := 2147483647) g 3 4 rfl
  have b10 := gi_b (lo := 0) (hi := 999) g 238 4 rfl
  have b11 := gi_b (lo := -2147483648) (hi := 2147483647) g 3 5 rfl
  have b12 := gi_b (lo := 0) (hi := 9) g 238 5 rfl
  have b13 := gi_b (lo := -2147483648) (hi := 2147483647) g 3 6 rfl
  have b14 := gi_b (lo := 0) (hi := 999) g 238 6 rfl
  have b15 := gi_b (lo := -2147483648) (hi := 2147483647) g 3 7 rfl
  have b16 := gi_b (lo := 0) (hi := 3) g 238 7 rfl
  have b17 := gi_b (lo := -2147483648) (hi := 2147483647) g 3 8 rfl
  have b18 := gi_b (lo := 0) (hi := 999) g 238 8 rfl
  have b19 := gi_b (lo := -2147483648) (hi := 2147483647) g 3 9 rfl
  have b20 := gi_b (lo := 0) (hi := 999) g 238 9 rfl
  have b21 := gi_b (lo := -2147483648) (hi := 2147483647) g 63 5 rfl
  have b22 := gi_b (lo := 0) (hi := 12) g 18 7 rfl
  have b23 := gi_b (lo := 0) (hi := 12) g 66 1 rfl
  have b24 := gi_b (lo := 0) (hi := 1) g 0 12 rfl
  have b25 := gi_b (lo := 0) (hi := 1) g 236 21 rfl
  have bl_ := gi_b (lo := 0) (hi := 800) g 1 1 rfl
  have tb0 : BufC (h 2) (h 1 1) h := ⟨fun _ => rfl, rfl, by omega, by omega⟩
  have b26 := gi_b (lo := 0) (hi := 6) g 238 98 rfl
  have b27 := gi_b (lo := 0) (hi := 6) g 238 99 rfl
  have b28 := gi_b (lo := 0) (hi := 6) g 238 100 rfl
  have b29 := gi_b (lo := 0) (hi := 6) g 238 101 rfl
  have b30 := gi_b (lo := 0) (hi := 3) g 238 102 rfl
  have b31 := gi_b (lo := 0) (hi := 12) g 238 106 rfl
  have b32 := gi_b (lo := 0) (hi := 12) g 238 73 rfl
  have b33 := gi_b (lo := 0) (hi := 9999) g 238 119 rfl
  have b34 := gi_b (lo := 0) (hi := 9999) g 238 67 rfl
  have b35 := gi_b (lo := 0) (hi := 9) g 238 69 rfl
  have b36 := gi_b (lo := 0) (hi := 6) g 241 98 rfl
  have b37 := gi_b (lo := 0) (hi := 6) g 241 99 rfl
  have b38 := gi_b (lo := 0) (hi := 6) g 241 100 rfl
  have b39 := gi_b (lo := 0) (hi := 6) g 241 101 rfl
  have b40 := gi_b (lo := 0) (hi := 3) g 241 102 rfl
  have b41 := gi_b (lo := 0) (hi := 12) g 241 106 rfl
  have b42 := gi_b (lo := 0) (hi := 12) g 241 73 rfl
  have b43 := gi_b (lo := 0) (hi := 12) g 241 2 rfl
  have b44 := gi_b (lo := 0) (hi := 9999) g 241 119 rfl
  have b45 := gi_b (lo := 0) (hi := 9999) g 241 67 rfl
  have b46 := gi_b (lo := 0) (hi := 9) g 241 69 rfl
  have b47 := gi_b (lo := 0) (hi := 9) g 241 5 rfl
  have b48 := gi_b (lo := 0) (hi := 800) g 1 1 rfl
  have b49 := gi_b (lo := 0) (hi := 800) g 236 2 rfl
  have b50 := gi_b (lo := -2147483648) (hi := 2147483647) g 1 2 rfl
  have b51 := gi_b (lo := -2147483648) (hi := 2147483647) g 236 10 rfl
  have b52 := gi_b (lo := -2147483648) (hi := 2147483647) g 1 3 rfl
  have b53 := gi_b (lo := -2147483648) (hi := 2147483647) g 236 11 rfl
  refine wi_aload_n (i := 1) (x := 0) (nx := 425) (r1 := 0) (r2 := 0) (r3 := 0) rfl rfl ?_
  refine wr_V (k0 := 0) (rest := []) (as := [.ref 0]) (nx := 428) (r1 := 27) (r2 := 0) (r3 := 0) rfl rfl rfl (of_decide_eq_true rfl) rfl rfl (by decide) rfl rfl (of_decide_eq_true rfl) (of_decide_eq_true rfl) ?_
  refine ct_27_0 hcr  g    (fun z55  (fz55 : -2147483648 ≤ z55 ∧ z55 ≤ 2147483647) => ?_)
  refine wk_i ?_
  refine wi_pop (nx := 429) (r1 := 0) (r2 := 0) (r3 := 0) rfl rfl ?_
  refine wi_aload_n (i := 2) (x := 236) (nx := 430) (r1 := 0) (r2 := 0) (r3 := 0) rfl rfl ?_
  refine wr_V (k0 := 236) (rest := []) (as := [.ref 236]) (nx := 433) (r1 := 210) (r2 := 0) (r3 := 11) rfl rfl rfl (of_decide_eq_true rfl) rfl rfl (by decide) rfl rfl (of_decide_eq_true rfl) (of_decide_eq_true rfl) ?_
  refine ct_210_236 hcr  g    (fun h56 z57 g56 u56 (fz57 : -2147483648 ≤ z57 ∧ z57 ≤ 2147483647) => ?_)
  refine wk_i ?_
  refine wi_pop (nx := 434) (r1 := 0) (r2 := 0) (r3 := 0) rfl rfl ?_
  refine wi_goto (nx := 437) (r1 := 1501) (r2 := 0) (r3 := 0) rfl ?_
  have e58 : h56 238 98 = h 238 98 := (u56 238 98 rfl)
  have e59 : h56 238 99 = h 238 99 := (u56 238 99 rfl)
  have e60 : h56 238 100 = h 238 100 := (u56 238 100 rfl)
  have e61 : h56 238 101 = h 238 101 := (u56 238 101 rfl)
  have e62 : h56 238 102 = h 238 102 := (u56 238 102 rfl)
  have e63 : h56 238 106 = h 238 106 := (u56 238 106 rfl)
  have e64 : h56 238 73 = h 238 73 := (u56 238 73 rfl)
  have e65 : h56 238 2 = h 238 2 := (u56 238 2 rfl)
  have e66 : h56 238 119 = h 238 119 := (u56 238 119 rfl)
  have e67 : h56 238 67 = h 238 67 := (u56 238 67 rfl)
  have e68 : h56 238 69 = h 238 69 := (u56 238 69 rfl)
  have e69 : h56 238 5 = h 238 5 := (u56 238 5 rfl)
  have e70 : h56 241 98 = h 241 98 := (u56 241 98 rfl)
  have e71 : h56 241 99 = h 241 99 := (u56 241 99 rfl)
  have e72 : h56 241 100 = h 241 100 := (u56 241 100 rfl)
  have e73 : h56 241 101 = h 241 101 := (u56 241 101 rfl)
  have e74 : h56 241 102 = h 241 102 := (u56 241 102 rfl)
  have e75 : h56 241 106 = h 241 106 := (u56 241 106 rfl)
  have e76 : h56 241 73 = h 241 73 := (u56 241 73 rfl)
  have e77 : h56 241 2 = h 241 2 := (u56 241 2 rfl)
  have e78 : h56 241 119 = h 241 119 := (u56 241 119 rfl)
  have e79 : h56 241 67 = h 241 67 := (u56 241 67 rfl)
  have e80 : h56 241 69 = h 241 69 := (u56 241 69 rfl)
  have e81 : h56 241 5 = h 241 5 := (u56 241 5 rfl)
  have e82 : h56 1 1 = h 1 1 := (u56 1 1 rfl)
  have e83 : h56 236 2 = h 236 2 := (u56 236 2 rfl)
  have e84 : h56 1 2 = h 1 2 := (u56 1 2 rfl)
  have e85 : h56 236 10 = h 236 10 := (u56 236 10 rfl)
  have e86 : h56 1 3 = h 1 3 := (u56 1 3 rfl)
  have e87 : h56 236 11 = h 236 11 := (u56 236 11 rfl)
  have gp88 := GPH.fr u56 rfl gp0
  have b89 := gi_b (lo := 0) (hi := 5) g 241 0 rfl
  have b90 := gi_b (lo := 0) (hi := 4) g 241 1 rfl
  have gs91 := GPS.fr u56 rfl gs0
  have e92 : h56 0 12 = h 0 12 := (u56 0 12 rfl)
  have e93 : h56 236 21 = h 236 21 := (u56 236 21 rfl)
  have e94 : h56 63 5 = h 63 5 := (u56 63 5 rfl)
  have e95 : h56 18 16 = h 18 16 := (u56 18 16 rfl)
  have e96 : h56 18 7 = h 18 7 := (u56 18 7 rfl)
  have e97 : h56 3 2 = h 3 2 := (u56 3 2 rfl)
  have e98 : h56 66 1 = h 66 1 := (u56 66 1 rfl)
  have b99 := gi_b (lo := 0) (hi := 6) g 73 1 rfl
  have e100 : h56 73 1 = h 73 1 := (u56 73 1 rfl)
  have b101 := gi_b (lo := 0) (hi := 6) g 73 2 rfl
  have e102 : h56 73 2 = h 73 2 := (u56 73 2 rfl)
  have b103 := gi_b (lo := 0) (hi := 6) g 236 22 rfl
  have e104 : h56 236 22 = h 236 22 := (u56 236 22 rfl)
  have b105 := gi_b (lo := 0) (hi := 12) g 210 2 rfl
  have e106 : h56 210 2 = h 210 2 := (u56 210 2 rfl)
  have q109 : h56 8 = h 8 := funext (fun i => (u56 8 i (fo_no_ok (by decide) i)))
  have q110 : h56 7 = h 7 := funext (fun i => (u56 7 i (fo_no_ok (by decide) i)))
  have q111 : h56 19 = h 19 := funext (fun i => (u56 19 i (fo_no_ok (by decide) i)))
  have q112 : h56 67 = h 67 := funext (fun i => (u56 67 i (fo_no_ok (by decide) i)))
  have ml108 : MCL h56 := MCL.mv mi0.1 q109 q110 q111 q112 (by omega) (by omega) (by omega) (by omega)
  have q114 : h56 69 = h 69 := funext (fun i => (u56 69 i (fo_no_ok (by decide) i)))
  have q115 : h56 70 = h 70 := funext (fun i => (u56 70 i (fo_no_ok (by decide) i)))
  have nb113 : NBc (h56 69) (h56 70) := by rw [q114, q115]; exact mi0.2.2
  have q116 : h56 8 = h 8 := funext (fun i => (u56 8 i (fo_no_ok (by decide) i)))
  have q117 : h56 7 = h 7 := funext (fun i => (u56 7 i (fo_no_ok (by decide) i)))
  have mi107 : MCI h56 := ⟨ml108, HIv.mv mi0.2.1 q116 q117 (by omega) (by omega) (sv_seven (P := fun x => ∀ i, h56 (76 + 19 * x) i = h (76 + 19 * x) i) (fun i => (u56 76 i (fn_a (by decide) fn_0))) (fun i => (u56 95 i (fn_a (by decide) fn_0))) (fun i => (u56 114 i (fn_a (by decide) fn_0))) (fun i => (u56 133 i (fn_a (by decide) fn_0))) (fun i => (u56 152 i (fn_a (by decide) fn_0))) (fun i => (u56 171 i (fn_a (by decide) fn_0))) (fun i => (u56 190 i (fn_a (by decide) fn_0)))) (by omega) (by omega), nb113⟩
  have gq118 := GQS.fr u56 rfl gq0
  have q119 : h56 8 = h 8 := funext (fun i => (u56 8 i (fo_no_ok (by decide) i)))
  have q120 : h56 7 = h 7 := funext (fun i => (u56 7 i (fo_no_ok (by decide) i)))
  have q121 : h56 215 = h 215 := funext (fun i => (u56 215 i (fo_no_ok (by decide) i)))
  have q122 : h56 218 = h 218 := funext (fun i => (u56 218 i (fo_no_ok (by decide) i)))
  have q123 : h56 214 = h 214 := funext (fun i => (u56 214 i (fo_no_ok (by decide) i)))
  have q124 : h56 241 = h 241 := funext (fun i => (u56 241 i (fo_no_ok (by decide) i)))
  exact k h56 b c ⟨⟨g56, (show h56 1 1 = h56 236 2 by omega), (RS.i0 (f := h56 238) (by refine ⟨?_, ?_, ?_, ?_, ?_⟩ <;> omega)), (RS.i0 (f := h56 241) (by refine ⟨?_, ?_, ?_, ?_, ?_⟩ <;> omega)), gp88, (BRh.keep br0 (fun i => (u56 2 i (fn_a (by decide) fn_0))) (fun i => (u56 237 i (fn_a (by decide) fn_0))) (by omega)), (show h56 1 2 = h56 236 10 by omega), (show h56 1 3 = h56 236 11 by omega), (SVx.keep sv0 (by omega) (fun i _ => (u56 3 i (fn_a (by decide) fn_0))) (fun i _ => (u56 5 i (fn_a (by decide) fn_0))) (fun i _ => (u56 6 i (fn_a (by decide) fn_0))) (fun i _ => (u56 8 i (fn_a (by decide) fn_0))) (fun i _ => (u56 238 i (fn_a (by decide) fn_0)))), (show h56 0 12 = h56 236 21 by omega), (fun e => (SVx.keep (ss0 (by omega)) (by omega) (fun i _ => (u56 210 i (fn_a (by decide) fn_0))) (fun i _ => (u56 212 i (fn_a (by decide) fn_0))) (fun i _ => (u56 213 i (fn_a (by decide) fn_0))) (fun i _ => (u56 215 i (fn_a (by decide) fn_0))) (fun i _ => (u56 241 i (fn_a (by decide) fn_0))))), gs91, mi107, (show h56 63 5 ≤ h56 18 16 by omega), (show (h56 63 5) < (h56 18 16) ∨ ((h56 18 7) ≤ (h56 3 2) ∧ (h56 66 1) = (h56 3 2) - (h56 18 7)) ∨ ((h56 3 2) < (h56 18 7) ∧ (h56 66 1) = 0) by omega), gq118, (MR.mv mr0 (MSN.then (MSN.refl) (fun i _ => (u56 238 i (fn_a (by decide) fn_0)))) (by omega) q119 q120 (by omega)), (fun e => SM.mv (sm0 (by omega)) q121 q122 q123 (by omega) q124)⟩, (by omega)⟩ (by omega) (by omega)
-- the law, case at 437
set_option maxRecDepth 100000 in
set_option maxHeartbeats 100000000 in
theorem lc_437 {L : Nat} {xs : Nat → Int32} {d b c : Nat} {h : hp} {cr : Nat → Nat → Option Nat} {Q : hp_Q} (hcr : CR cr) (hL : L ≤ 3072) (hr : 1 ≤ b ∧ 6 ≤ c) (i : Int) (I : LIm i h) (hi : 0 ≤ i ∧ i + 6 ≤ L) (k : ∀ (h2 : hp) (b2 c2 : Nat), LIm (i + 6) h2 → b ≤ b2 + 1 → c ≤ c2 + 6 → wp (md_xa (L, xs)) (d + 107) 0 (1501, [(0, .ref 1000000), (1, .ref 0), (2, .ref 236), (3, .ref 259), (4, vi i)], [], hp_w h2 cr, b2, c2) Q) : wp (md_xa (L, xs)) (d + 107) 0 (437, [(0, .ref 1000000), (1, .ref 0), (2, .ref 236), (3, .ref 259), (4, vi i)], [], hp_w h cr, b, c) Q := by
  obtain ⟨⟨g, i11, r238, r241, gp0, br0, er2, er3, sv0, sf0, ss0, gs0, mi0, ml1, ml2, gq0, mr0, sm0⟩, ie0⟩ := I
  have r238e := r238.e0
  have r241e := r241.e0
  obtain ⟨⟨se0, se1, se2, se3, se4, se5, se6, se7, se8, se9⟩, -⟩ := id sv0
  have b1 := gi_b (lo := 0) (hi := 5) g 3 0 rfl
  have b2 := gi_b (lo := 0) (hi := 5) g 238 0 rfl
  have b3 := gi_b (lo := 0) (hi := 4) g 3 1 rfl
  have b4 := gi_b (lo := 0) (hi := 4) g 238 1 rfl
  have b5 := gi_b (lo := 0) (hi := 12) g 3 2 rfl
  have b6 := gi_b (lo := 0) (hi := 12) g 238 2 rfl
  have b7 := gi_b (lo := -2147483648) (hi := 2147483647) g 3 3 rfl
  have b8 := gi_b (lo := 0) (hi := 999) g 238 3 rfl
  have b9 := gi_b (lo := -2147483648) (hi := 2147483647) g 3 4 rfl
  have b10 := gi_b (lo := 0) (hi := 999) g 238 4 rfl
  have b11 := gi_b (lo := -2147483648) (hi := 2147483647) g 3 5 rfl
  have b12 := gi_b (lo := 0) (hi := 9) g 238 5 rfl
  have b13 := gi_b (lo := -2147483648) (hi := 2147483647) g 3 6 rfl
  have b14 := gi_b (lo := 0) (hi := 999) g 238 6 rfl
  have b15 := gi_b (lo := -2147483648) (hi := 2147483647) g 3 7 rfl
  have b16 := gi_b (lo := 0) (hi := 3) g 238 7 rfl
  have b17 := gi_b (lo := -2147483648) (hi := 2147483647) g 3 8 rfl
  have b18 := gi_b (lo := 0) (hi := 999) g 238 8 rfl
  have b19 := gi_b (lo := -2147483648) (hi := 2147483647) g 3 9 rfl
  have b20 := gi_b (lo := 0) (hi := 999) g 238 9 rfl
  have b21 := gi_b (lo := -2147483648) (hi := 2147483647) g 63 5 rfl
  have b22 := gi_b (lo := 0) (hi := 12) g 18 7 rfl
  have b23 := gi_b (lo := 0) (hi := 12) g 66 1 rfl
  have b24 := gi_b (lo := 0) (hi := 1) g 0 12 rfl
  have b25 := gi_b (lo := 0) (hi := 1) g 236 21 rfl
  have bl_ := gi_b (lo := 0) (hi := 800) g 1 1 rfl
  have tb0 : BufC (h 2) (h 1 1) h := ⟨fun _ => rfl, rfl, by omega, by omega⟩
  have b26 := gi_b (lo := 0) (hi := 6) g 238 98 rfl
  have b27 := gi_b (lo := 0) (hi := 6) g 238 99 rfl
  have b28 := gi_b (lo := 0) (hi := 6) g 238 100 rfl
  have b29 := gi_b (lo := 0) (hi := 6) g 238 101 rfl
  have b30 := gi_b (lo := 0) (hi := 3) g 238 102 rfl
  have b31 := gi_b (lo := 0) (hi := 12) g 238 106 rfl
  have b32 := gi_b (lo := 0) (hi := 12) g 238 73 rfl
  have b33 := gi_b (lo := 0) (hi := 9999) g 238 119 rfl
  have b34 := gi_b (lo := 0) (hi := 9999) g 238 67 rfl
  have b35 := gi_b (lo := 0) (hi := 9) g 238 69 rfl
  have b36 := gi_b (lo := 0) (hi := 6) g 241 98 rfl
  have b37 := gi_b (lo := 0) (hi := 6) g 241 99 rfl
  have b38 := gi_b (lo := 0) (hi := 6) g 241 100 rfl
  have b39 := gi_b (lo := 0) (hi := 6) g 241 101 rfl
  have b40 := gi_b (lo := 0) (hi := 3) g 241 102 rfl
  have b41 := gi_b (lo := 0) (hi := 12) g 241 106 rfl
  have b42 := gi_b (lo := 0) (hi := 12) g 241 73 rfl
  have b43 := gi_b (lo := 0) (hi := 12) g 241 2 rfl
  have b44 := gi_b (lo := 0) (hi := 9999) g 241 119 rfl
  have b45 := gi_b (lo := 0) (hi := 9999) g 241 67 rfl
  have b46 := gi_b (lo := 0) (hi := 9) g 241 69 rfl
  have b47 := gi_b (lo := 0) (hi := 9) g 241 5 rfl
  have b48 := gi_b (lo := 0) (hi := 800) g 1 1 rfl
  have b49 := gi_b (lo := 0) (hi := 800) g 236 2 rfl
  have b50 := gi_b (lo := -2147483648) (hi := 2147483647) g 1 2 rfl
  have b51 := gi_b (lo := -2147483648) (hi := 2147483647) g 236 10 rfl
  have b52 := gi_b (lo := -2147483648) (hi := 2147483647) g 1 3 rfl
  have b53 := gi_b (lo := -2147483648) (hi := 2147483647) g 236 11 rfl
  refine wi_aload_n (i := 1) (x := 0) (nx := 438) (r1 := 0) (r2 := 0) (r3 := 0) rfl rfl ?_
  refine wr_V (k0 := 0) (rest := []) (as := [.ref 0]) (nx := 441) (r1 := 28) (r2 := 0) (r3 := 0) rfl rfl rfl (of_decide_eq_true rfl) rfl rfl (by decide) rfl rfl (of_decide_eq_true rfl) (of_decide_eq_true rfl) ?_
  refine ct_28_0 hcr  g    (fun z55  (fz55 : -2147483648 ≤ z55 ∧ z55 ≤ 2147483647) => ?_)
  refine wk_i ?_
  refine wi_pop (nx := 442) (r1 := 0) (r2 := 0) (r3 := 0) rfl rfl ?_
  refine wi_aload_n (i := 2) (x := 236) (nx := 443) (r1 := 0) (r2 := 0) (r3 := 0) rfl rfl ?_
  refine wr_V (k0 := 236) (rest := []) (as := [.ref 236]) (nx := 446) (r1 := 211) (r2 := 0) (r3 := 11) rfl rfl rfl (of_decide_eq_true rfl) rfl rfl (by decide) rfl rfl (of_decide_eq_true rfl) (of_decide_eq_true rfl) ?_
  refine ct_211_236 hcr  g    (fun h56 z57 g56 u56 (fz57 : -2147483648 ≤ z57 ∧ z57 ≤ 2147483647) => ?_)
  refine wk_i ?_
  refine wi_pop (nx := 447) (r1 := 0) (r2 := 0) (r3 := 0) rfl rfl ?_
  refine wi_goto (nx := 450) (r1 := 1501) (r2 := 0) (r3 := 0) rfl ?_
  have e58 : h56 238 98 = h 238 98 := (u56 238 98 rfl)
  have e59 : h56 238 99 = h 238 99 := (u56 238 99 rfl)
  have e60 : h56 238 100 = h 238 100 := (u56 238 100 rfl)
  have e61 : h56 238 101 = h 238 101 := (u56 238 101 rfl)
  have e62 : h56 238 102 = h 238 102 := (u56 238 102 rfl)
  have e63 : h56 238 106 = h 238 106 := (u56 238 106 rfl)
  have e64 : h56 238 73 = h 238 73 := (u56 238 73 rfl)
  have e65 : h56 238 2 = h 238 2 := (u56 238 2 rfl)
  have e66 : h56 238 119 = h 238 119 := (u56 238 119 rfl)
  have e67 : h56 238 67 = h 238 67 := (u56 238 67 rfl)
  have e68 : h56 238 69 = h 238 69 := (u56 238 69 rfl)
  have e69 : h56 238 5 = h 238 5 := (u56 238 5 rfl)
  have e70 : h56 241 98 = h 241 98 := (u56 241 98 rfl)
  have e71 : h56 241 99 = h 241 99 := (u56 241 99 rfl)
  have e72 : h56 241 100 = h 241 100 := (u56 241 100 rfl)
  have e73 : h56 241 101 = h 241 101 := (u56 241 101 rfl)
  have e74 : h56 241 102 = h 241 102 := (u56 241 102 rfl)
  have e75 : h56 241 106 = h 241 106 := (u56 241 106 rfl)
  have e76 : h56 241 73 = h 241 73 := (u56 241 73 rfl)
  have e77 : h56 241 2 = h 241 2 := (u56 241 2 rfl)
  have e78 : h56 241 119 = h 241 119 := (u56 241 119 rfl)
  have e79 : h56 241 67 = h 241 67 := (u56 241 67 rfl)
  have e80 : h56 241 69 = h 241 69 := (u56 241 69 rfl)
  have e81 : h56 241 5 = h 241 5 := (u56 241 5 rfl)
  have e82 : h56 1 1 = h 1 1 := (u56 1 1 rfl)
  have e83 : h56 236 2 = h 236 2 := (u56 236 2 rfl)
  have e84 : h56 1 2 = h 1 2 := (u56 1 2 rfl)
  have e85 : h56 236 10 = h 236 10 := (u56 236 10 rfl)
  have e86 : h56 1 3 = h 1 3 := (u56 1 3 rfl)
  have e87 : h56 236 11 = h 236 11 := (u56 236 11 rfl)
  have gp88 := GPH.fr u56 rfl gp0
  have b89 := gi_b (lo := 0) (hi := 5) g 241 0 rfl
  have b90 := gi_b (lo := 0) (hi := 4) g 241 1 rfl
  have gs91 := GPS.fr u56 rfl gs0
  have e92 : h56 0 12 = h 0 12 := (u56 0 12 rfl)
  have e93 : h56 236 21 = h 236 21 := (u56 236 21 rfl)
  have e94 : h56 63 5 = h 63 5 := (u56 63 5 rfl)
  have e95 : h56 18 16 = h 18 16 := (u56 18 16 rfl)
  have e96 : h56 18 7 = h 18 7 := (u56 18 7 rfl)
  have e97 : h56 3 2 = h 3 2 := (u56 3 2 rfl)
  have e98 : h56 66 1 = h 66 1 := (u56 66 1 rfl)
  have b99 := gi_b (lo := 0) (hi := 6) g 73 1 rfl
  have e100 : h56 73 1 = h 73 1 := (u56 73 1 rfl)
  have b101 := gi_b (lo := 0) (hi := 6) g 73 2 rfl
  have e102 : h56 73 2 = h 73 2 := (u56 73 2 rfl)
  have b103 := gi_b (lo := 0) (hi := 6) g 236 22 rfl
  have e104 : h56 236 22 = h 236 22 := (u56 236 22 rfl)
  have b105 := gi_b (lo := 0) (hi := 12) g 210 2 rfl
  have e106 : h56 210 2 = h 210 2 := (u56 210 2 rfl)
  have q109 : h56 8 = h 8 := funext (fun i => (u56 8 i (fo_no_ok (by decide) i)))
  have q110 : h56 7 = h 7 := funext (fun i => (u56 7 i (fo_no_ok (by decide) i)))
  have q111 : h56 19 = h 19 := funext (fun i => (u56 19 i (fo_no_ok (by decide) i)))
  have q112 : h56 67 = h 67 := funext (fun i => (u56 67 i (fo_no_ok (by decide) i)))
  have ml108 : MCL h56 := MCL.mv mi0.1 q109 q110 q111 q112 (by omega) (by omega) (by omega) (by omega)
  have q114 : h56 69 = h 69 := funext (fun i => (u56 69 i (fo_no_ok (by decide) i)))
  have q115 : h56 70 = h 70 := funext (fun i => (u56 70 i (fo_no_ok (by decide) i)))
  have nb113 : NBc (h56 69) (h56 70) := by rw [q114, q115]; exact mi0.2.2
  have q116 : h56 8 = h 8 := funext (fun i => (u56 8 i (fo_no_ok (by decide) i)))
  have q117 : h56 7 = h 7 := funext (fun i => (u56 7 i (fo_no_ok (by decide) i)))
  have mi107 : MCI h56 := ⟨ml108, HIv.mv mi0.2.1 q116 q117 (by omega) (by omega) (sv_seven (P := fun x => ∀ i, h56 (76 + 19 * x) i = h (76 + 19 * x) i) (fun i => (u56 76 i (fn_a (by decide) fn_0))) (fun i => (u56 95 i (fn_a (by decide) fn_0))) (fun i => (u56 114 i (fn_a (by decide) fn_0))) (fun i => (u56 133 i (fn_a (by decide) fn_0))) (fun i => (u56 152 i (fn_a (by decide) fn_0))) (fun i => (u56 171 i (fn_a (by decide) fn_0))) (fun i => (u56 190 i (fn_a (by decide) fn_0)))) (by omega) (by omega), nb113⟩
  have gq118 := GQS.fr u56 rfl gq0
  have q119 : h56 8 = h 8 := funext (fun i => (u56 8 i (fo_no_ok (by decide) i)))
  have q120 : h56 7 = h 7 := funext (fun i => (u56 7 i (fo_no_ok (by decide) i)))
  have q121 : h56 215 = h 215 := funext (fun i => (u56 215 i (fo_no_ok (by decide) i)))
  have q122 : h56 218 = h 218 := funext (fun i => (u56 218 i (fo_no_ok (by decide) i)))
  have q123 : h56 214 = h 214 := funext (fun i => (u56 214 i (fo_no_ok (by decide) i)))
  have q124 : h56 241 = h 241 := funext (fun i => (u56 241 i (fo_no_ok (by decide) i)))
  exact k h56 b c ⟨⟨g56, (show h56 1 1 = h56 236 2 by omega), (RS.i0 (f := h56 238) (by refine ⟨?_, ?_, ?_, ?_, ?_⟩ <;> omega)), (RS.i0 (f := h56 241) (by refine ⟨?_, ?_, ?_, ?_, ?_⟩ <;> omega)), gp88, (BRh.keep br0 (fun i => (u56 2 i (fn_a (by decide) fn_0))) (fun i => (u56 237 i (fn_a (by decide) fn_0))) (by omega)), (show h56 1 2 = h56 236 10 by omega), (show h56 1 3 = h56 236 11 by omega), (SVx.keep sv0 (by omega) (fun i _ => (u56 3 i (fn_a (by decide) fn_0))) (fun i _ => (u56 5 i (fn_a (by decide) fn_0))) (fun i _ => (u56 6 i (fn_a (by decide) fn_0))) (fun i _ => (u56 8 i (fn_a (by decide) fn_0))) (fun i _ => (u56 238 i (fn_a (by decide) fn_0)))), (show h56 0 12 = h56 236 21 by omega), (fun e => (SVx.keep (ss0 (by omega)) (by omega) (fun i _ => (u56 210 i (fn_a (by decide) fn_0))) (fun i _ => (u56 212 i (fn_a (by decide) fn_0))) (fun i _ => (u56 213 i (fn_a (by decide) fn_0))) (fun i _ => (u56 215 i (fn_a (by decide) fn_0))) (fun i _ => (u56 241 i (fn_a (by decide) fn_0))))), gs91, mi107, (show h56 63 5 ≤ h56 18 16 by omega), (show (h56 63 5) < (h56 18 16) ∨ ((h56 18 7) ≤ (h56 3 2) ∧ (h56 66 1) = (h56 3 2) - (h56 18 7)) ∨ ((h56 3 2) < (h56 18 7) ∧ (h56 66 1) = 0) by omega), gq118, (MR.mv mr0 (MSN.then (MSN.refl) (fun i _ => (u56 238 i (fn_a (by decide) fn_0)))) (by omega) q119 q120 (by omega)), (fun e => SM.mv (sm0 (by omega)) q121 q122 q123 (by omega) q124)⟩, (by omega)⟩ (by omega) (by omega)
-- the law, case at 450
set_option maxRecDepth 100000 in
set_option maxHeartbeats 100000000 in
theorem lc_450 {L : Nat} {xs : Nat → Int32} {d b c : Nat} {h : hp} {cr : Nat → Nat → Option Nat} {Q : hp_Q} (hcr : CR cr) (hL : L ≤ 3072) (hr : 1 ≤ b ∧ 6 ≤ c) (i : Int) (I : LIm i h) (hi : 0 ≤ i ∧ i + 6 ≤ L) (k : ∀ (h2 : hp) (b2 c2 : Nat), LIm (i + 6) h2 → b ≤ b2 + 1 → c ≤ c2 + 6 → wp (md_xa (L, xs)) (d + 107) 0 (1501, [(0, .ref 1000000), (1, .ref 0), (2, .ref 236), (3, .ref 259), (4, vi i)], [], hp_w h2 cr, b2, c2) Q) : wp (md_xa (L, xs)) (d + 107) 0 (450, [(0, .ref 1000000), (1, .ref 0), (2, .ref 236), (3, .ref 259), (4, vi i)], [], hp_w h cr, b, c) Q := by
  obtain ⟨⟨g, i11, r238, r241, gp0, br0, er2, er3, sv0, sf0, ss0, gs0, mi0, ml1, ml2, gq0, mr0, sm0⟩, ie0⟩ := I
  have r238e := r238.e0
  have r241e := r241.e0
  obtain ⟨⟨se0, se1, se2, se3, se4, se5, se6, se7, se8, se9⟩, -⟩ := id sv0
  have b1 := gi_b (lo := 0) (hi := 5) g 3 0 rfl
  have b2 := gi_b (lo := 0) (hi := 5) g 238 0 rfl
  have b3 := gi_b (lo := 0) (hi := 4) g 3 1 rfl
  have b4 := gi_b (lo := 0) (hi := 4) g 238 1 rfl
  have b5 := gi_b (lo := 0) (hi := 12) g 3 2 rfl
  have b6 := gi_b (lo := 0) (hi := 12) g 238 2 rfl
  have b7 := gi_b (lo := -2147483648) (hi := 2147483647) g 3 3 rfl
  have b8 := gi_b (lo := 0) (hi := 999) g 238 3 rfl
  have b9 := gi_b (lo := -2147483648) (hi := 2147483647) g 3 4 rfl
  have b10 := gi_b (lo := 0) (hi := 999) g 238 4 rfl
  have b11 := gi_b (lo := -2147483648) (hi := 2147483647) g 3 5 rfl
  have b12 := gi_b (lo := 0) (hi := 9) g 238 5 rfl
  have b13 := gi_b (lo := -2147483648) (hi := 2147483647) g 3 6 rfl
  have b14 := gi_b (lo := 0) (hi := 999) g 238 6 rfl
  have b15 := gi_b (lo := -2147483648) (hi := 2147483647) g 3 7 rfl
  have b16 := gi_b (lo := 0) (hi := 3) g 238 7 rfl
  have b17 := gi_b (lo := -2147483648) (hi := 2147483647) g 3 8 rfl
  have b18 := gi_b (lo := 0) (hi := 999) g 238 8 rfl
  have b19 := gi_b (lo := -2147483648) (hi := 2147483647) g 3 9 rfl
  have b20 := gi_b (lo := 0) (hi := 999) g 238 9 rfl
  have b21 := gi_b (lo := -2147483648) (hi := 2147483647) g 63 5 rfl
  have b22 := gi_b (lo := 0) (hi := 12) g 18 7 rfl
  have b23 := gi_b (lo := 0) (hi := 12) g 66 1 rfl
  have b24 := gi_b (lo := 0) (hi := 1) g 0 12 rfl
  have b25 := gi_b (lo := 0) (hi := 1) g 236 21 rfl
  have bl_ := gi_b (lo := 0) (hi := 800) g 1 1 rfl
  have tb0 : BufC (h 2) (h 1 1) h := ⟨fun _ => rfl, rfl, by omega, by omega⟩
  have b26 := gi_b (lo := 0) (hi := 6) g 238 98 rfl
  have b27 := gi_b (lo := 0) (hi := 6) g 238 99 rfl
  have b28 := gi_b (lo := 0) (hi := 6) g 238 100 rfl
  have b29 := gi_b (lo := 0) (hi := 6) g 238 101 rfl
  have b30 := gi_b (lo := 0) (hi := 3) g 238 102 rfl
  have b31 := gi_b (lo := 0) (hi := 12) g 238 106 rfl
  have b32 := gi_b (lo := 0) (hi := 12) g 238 73 rfl
  have b33 := gi_b (lo := 0) (hi := 9999) g 238 119 rfl
  have b34 := gi_b (lo := 0) (hi := 9999) g 238 67 rfl
  have b35 := gi_b (lo := 0) (hi := 9) g 238 69 rfl
  have b36 := gi_b (lo := 0) (hi := 6) g 241 98 rfl
  have b37 := gi_b (lo := 0) (hi := 6) g 241 99 rfl
  have b38 := gi_b (lo := 0) (hi := 6) g 241 100 rfl
  have b39 := gi_b (lo := 0) (hi := 6) g 241 101 rfl
  have b40 := gi_b (lo := 0) (hi := 3) g 241 102 rfl
  have b41 := gi_b (lo := 0) (hi := 12) g 241 106 rfl
  have b42 := gi_b (lo := 0) (hi := 12) g 241 73 rfl
  have b43 := gi_b (lo := 0) (hi := 12) g 241 2 rfl
  have b44 := gi_b (lo := 0) (hi := 9999) g 241 119 rfl
  have b45 := gi_b (lo := 0) (hi := 9999) g 241 67 rfl
  have b46 := gi_b (lo := 0) (hi := 9) g 241 69 rfl
  have b47 := gi_b (lo := 0) (hi := 9) g 241 5 rfl
  have b48 := gi_b (lo := 0) (hi := 800) g 1 1 rfl
  have b49 := gi_b (lo := 0) (hi := 800) g 236 2 rfl
  have b50 := gi_b (lo := -2147483648) (hi := 2147483647) g 1 2 rfl
  have b51 := gi_b (lo := -2147483648) (hi := 2147483647) g 236 10 rfl
  have b52 := gi_b (lo := -2147483648) (hi := 2147483647) g 1 3 rfl
  have b53 := gi_b (lo := -2147483648) (hi := 2147483647) g 236 11 rfl
  refine wi_aload_n (i := 1) (x := 0) (nx := 451) (r1 := 0) (r2 := 0) (r3 := 0) rfl rfl ?_
  refine wi_aload_n (i := 0) (x := 1000000) (nx := 452) (r1 := 0) (r2 := 0) (r3 := 0) rfl rfl ?_
  refine wi_iload (i := 4) (e := i) (nx := 454) (r1 := 0) (r2 := 0) (r3 := 0) rfl rfl ?_
  refine wi_iconst (n := 1) (nx := 455) (r1 := 0) (r2 := 0) (r3 := 0) rfl ?_
  refine wr_add (nx := 456) (r1 := 0) (r2 := 0) (r3 := 0) rfl (fun e54 (fe54 : e54 = i + 1) => ?_)
  obtain ⟨i55, ei55⟩ : ∃ q : Nat, e54 = (q : Int) := ⟨(e54).toNat, by omega⟩
  have s56 := sc_b (xs i55)
  refine wr_sc (a := e54) (f := i55) (nx := 457) (r1 := 0) (r2 := 0) (r3 := 0) rfl (by omega) (by omega) hL ?_
  refine wi_aload_n (i := 3) (x := 259) (nx := 458) (r1 := 0) (r2 := 0) (r3 := 0) rfl rfl ?_
  refine wi_S (rest := []) (as := [.ref 0, vi ((xs i55).toInt), .ref 259]) (nx := 461) (r1 := 5) (r2 := 19) (r3 := 0) rfl rfl rfl (of_decide_eq_true rfl) rfl rfl (of_decide_eq_true rfl) (of_decide_eq_true rfl) ?_
  refine wi_aload_n (i := 2) (x := 259) (nx := 1) (r1 := 0) (r2 := 0) (r3 := 0) rfl rfl ?_
  refine wi_iconst (n := 0) (nx := 2) (r1 := 0) (r2 := 0) (r3 := 0) rfl ?_
  refine wi_aload_n (i := 0) (x := 0) (nx := 3) (r1 := 0) (r2 := 0) (r3 := 0) rfl rfl ?_
  refine wi_iload_n (i := 1) (e := (xs i55).toInt) (nx := 4) (r1 := 0) (r2 := 0) (r3 := 0) rfl rfl ?_
  refine wr_V (k0 := 0) (rest := [vi 0, .ref 259]) (as := [.ref 0, vi ((xs i55).toInt)]) (nx := 7) (r1 := 65) (r2 := 1) (r3 := 0) rfl rfl rfl (of_decide_eq_true rfl) rfl rfl (by decide) rfl rfl (of_decide_eq_true rfl) (of_decide_eq_true rfl) ?_
  refine ct_65_0 hcr hr  g ((xs i55).toInt) (by omega)  (fun z58  (fz58 : -2147483648 ≤ z58 ∧ z58 ≤ 2147483647) (p57_0 : 0 ≤ ((xs i55).toInt) ∧ ((xs i55).toInt) ≤ 9) y57_0 => ?_) (fun (pe57_0 : ((xs i55).toInt) < 0 ∨ 9 < ((xs i55).toInt)) => ?_)
  ·
    refine wk_i ?_
    refine wi_i2l (nx := 8) (r1 := 0) (r2 := 0) (r3 := 0) rfl (by omega) ?_
    refine wr_ls (k0 := 259) (a := 0) (f := 0) (x := z58) (bl := -9223372036854775808) (bh := 9223372036854775807) (nx := 9) (r1 := 0) (r2 := 0) (r3 := 0) rfl (by decide) rfl (by omega) (by omega) (by decide) g rfl (by omega) (fun h59 g59 w59 u59 => ?_)
    refine wi_goto (nx := 12) (r1 := 15) (r2 := 0) (r3 := 0) rfl ?_
    refine wi_iconst (n := 0) (nx := 16) (r1 := 0) (r2 := 0) (r3 := 0) rfl ?_
    refine wi_ireturn (nx := 17) (r1 := 0) (r2 := 0) (r3 := 0) rfl rfl ?_
    refine wk_i ?_
    refine wi_istore (i := 5) (e := 0) (lo2 := [(5, vi 0), (0, .ref 1000000), (1, .ref 0), (2, .ref 236), (3, .ref 259), (4, vi i)]) (nx := 463) (r1 := 0) (r2 := 0) (r3 := 0) rfl rfl ?_
    refine wi_aload_n (i := 2) (x := 236) (nx := 464) (r1 := 0) (r2 := 0) (r3 := 0) rfl rfl ?_
    refine wi_aload_n (i := 0) (x := 1000000) (nx := 465) (r1 := 0) (r2 := 0) (r3 := 0) rfl rfl ?_
    refine wi_iload (i := 4) (e := i) (nx := 467) (r1 := 0) (r2 := 0) (r3 := 0) rfl rfl ?_
    refine wi_iconst (n := 1) (nx := 468) (r1 := 0) (r2 := 0) (r3 := 0) rfl ?_
    refine wr_add (nx := 469) (r1 := 0) (r2 := 0) (r3 := 0) rfl (fun e60 (fe60 : e60 = i + 1) => ?_)
    refine wr_sc (a := e60) (f := i55) (nx := 470) (r1 := 0) (r2 := 0) (r3 := 0) rfl (by omega) (by omega) hL ?_
    refine wr_V (k0 := 236) (rest := []) (as := [.ref 236, vi ((xs i55).toInt)]) (nx := 473) (r1 := 238) (r2 := 1) (r3 := 11) rfl rfl rfl (of_decide_eq_true rfl) rfl rfl (by decide) rfl rfl (of_decide_eq_true rfl) (of_decide_eq_true rfl) ?_
    refine ct_238_236 hcr  g59 ((xs i55).toInt) (by omega)  (fun h61 z62 g61 u61 (fz62 : 0 ≤ z62 ∧ z62 ≤ 999) (p61_0 : (0 ≤ ((xs i55).toInt) ∧ ((xs i55).toInt) ≤ 9 ∧ (h61 236 0) = 0) ∨ ((((xs i55).toInt) < 0 ∨ 9 < ((xs i55).toInt)) ∧ (h61 236 0) = 1)) y61_0 => ?_)
    have b63 := gi_b (lo := 0) (hi := 2) g61 236 0 rfl
    refine wk_i ?_
    rcases p61_0 with p61_0 | p61_0
    ·
      have an64 : z58 = z62 := (y57_0.trans (sv0.f (((xs i55).toInt)).toNat (by omega))).trans (((y61_0 (by omega) (by omega)).trans (u59 238 (((((xs i55).toInt)).toNat)) (fn_a (by omega) fn_0)))).symm
      refine wi_istore (i := 6) (e := z62) (lo2 := [(6, vi z62), (5, vi 0), (0, .ref 1000000), (1, .ref 0), (2, .ref 236), (3, .ref 259), (4, vi i)]) (nx := 475) (r1 := 0) (r2 := 0) (r3 := 0) rfl rfl ?_
      refine wi_goto (nx := 478) (r1 := 1501) (r2 := 0) (r3 := 0) rfl ?_
      refine wp.lo (lo := [(0, .ref 1000000), (1, .ref 0), (2, .ref 236), (3, .ref 259), (4, vi i)]) ⟨rfl, rfl, rfl, rfl, rfl, trivial⟩ rfl ?_
      have e65 : h61 238 98 = h 238 98 := ((u61 238 98 rfl).trans (u59 238 98 rfl))
      have e66 : h61 238 99 = h 238 99 := ((u61 238 99 rfl).trans (u59 238 99 rfl))
      have e67 : h61 238 100 = h 238 100 := ((u61 238 100 rfl).trans (u59 238 100 rfl))
      have e68 : h61 238 101 = h 238 101 := ((u61 238 101 rfl).trans (u59 238 101 rfl))
      have e69 : h61 238 102 = h 238 102 := ((u61 238 102 rfl).trans (u59 238 102 rfl))
      have e70 : h61 238 106 = h 238 106 := ((u61 238 106 rfl).trans (u59 238 106 rfl))
      have e71 : h61 238 73 = h 238 73 := ((u61 238 73 rfl).trans (u59 238 73 rfl))
      have e72 : h61 238 2 = h 238 2 := ((u61 238 2 rfl).trans (u59 238 2 rfl))
      have e73 : h61 238 119 = h 238 119 := ((u61 238 119 rfl).trans (u59 238 119 rfl))
      have e74 : h61 238 67 = h 238 67 := ((u61 238 67 rfl).trans (u59 238 67 rfl))
      have e75 : h61 238 69 = h 238 69 := ((u61 238 69 rfl).trans (u59 238 69 rfl))
      have e76 : h61 238 5 = h 238 5 := ((u61 238 5 rfl).trans (u59 238 5 rfl))
      have e77 : h61 241 98 = h 241 98 := ((u61 241 98 rfl).trans (u59 241 98 rfl))
      have e78 : h61 241 99 = h 241 99 := ((u61 241 99 rfl).trans (u59 241 99 rfl))
      have e79 : h61 241 100 = h 241 100 := ((u61 241 100 rfl).trans (u59 241 100 rfl))
      have e80 : h61 241 101 = h 241 101 := ((u61 241 101 rfl).trans (u59 241 101 rfl))
      have e81 : h61 241 102 = h 241 102 := ((u61 241 102 rfl).trans (u59 241 102 rfl))
      have e82 : h61 241 106 = h 241 106 := ((u61 241 106 rfl).trans (u59 241 106 rfl))
      have e83 : h61 241 73 = h 241 73 := ((u61 241 73 rfl).trans (u59 241 73 rfl))
      have e84 : h61 241 2 = h 241 2 := ((u61 241 2 rfl).trans (u59 241 2 rfl))
      have e85 : h61 241 119 = h 241 119 := ((u61 241 119 rfl).trans (u59 241 119 rfl))
      have e86 : h61 241 67 = h 241 67 := ((u61 241 67 rfl).trans (u59 241 67 rfl))
      have e87 : h61 241 69 = h 241 69 := ((u61 241 69 rfl).trans (u59 241 69 rfl))
      have e88 : h61 241 5 = h 241 5 := ((u61 241 5 rfl).trans (u59 241 5 rfl))
      have e89 : h61 1 1 = h 1 1 := ((u61 1 1 rfl).trans (u59 1 1 rfl))
      have e90 : h61 236 2 = h 236 2 := ((u61 236 2 rfl).trans (u59 236 2 rfl))
      have e91 : h61 1 2 = h 1 2 := ((u61 1 2 rfl).trans (u59 1 2 rfl))
      have e92 : h61 236 10 = h 236 10 := ((u61 236 10 rfl).trans (u59 236 10 rfl))
      have e93 : h61 1 3 = h 1 3 := ((u61 1 3 rfl).trans (u59 1 3 rfl))
      have e94 : h61 236 11 = h 236 11 := ((u61 236 11 rfl).trans (u59 236 11 rfl))
      have gp95 := GPH.fr u59 rfl gp0
      have gp96 := GPH.fr u61 rfl gp95
      have b97 := gi_b (lo := 0) (hi := 5) g 241 0 rfl
      have b98 := gi_b (lo := 0) (hi := 4) g 241 1 rfl
      have gs99 := GPS.fr u59 rfl gs0
      have gs100 := GPS.fr u61 rfl gs99
      have e101 : h61 0 12 = h 0 12 := ((u61 0 12 rfl).trans (u59 0 12 rfl))
      have e102 : h61 236 21 = h 236 21 := ((u61 236 21 rfl).trans (u59 236 21 rfl))
      have e103 : h61 63 5 = h 63 5 := ((u61 63 5 rfl).trans (u59 63 5 rfl))
      have e104 : h61 18 16 = h 18 16 := ((u61 18 16 rfl).trans (u59 18 16 rfl))
      have e105 : h61 18 7 = h 18 7 := ((u61 18 7 rfl).trans (u59 18 7 rfl))
      have e106 : h61 3 2 = h 3 2 := ((u61 3 2 rfl).trans (u59 3 2 rfl))
      have e107 : h61 66 1 = h 66 1 := ((u61 66 1 rfl).trans (u59 66 1 rfl))
      have b108 := gi_b (lo := 0) (hi := 6) g 73 1 rfl
      have e109 : h61 73 1 = h 73 1 := ((u61 73 1 rfl).trans (u59 73 1 rfl))
      have b110 := gi_b (lo := 0) (hi := 6) g 73 2 rfl
      have e111 : h61 73 2 = h 73 2 := ((u61 73 2 rfl).trans (u59 73 2 rfl))
      have b112 := gi_b (lo := 0) (hi := 6) g 236 22 rfl
      have e113 : h61 236 22 = h 236 22 := ((u61 236 22 rfl).trans (u59 236 22 rfl))
      have b114 := gi_b (lo := 0) (hi := 12) g 210 2 rfl
      have e115 : h61 210 2 = h 210 2 := ((u61 210 2 rfl).trans (u59 210 2 rfl))
      have q118 : h61 8 = h 8 := funext (fun i => ((u61 8 i (fo_no_ok (by decide) i)).trans (u59 8 i rfl)))
      have q119 : h61 7 = h 7 := funext (fun i => ((u61 7 i (fo_no_ok (by decide) i)).trans (u59 7 i rfl)))
      have q120 : h61 19 = h 19 := funext (fun i => ((u61 19 i (fo_no_ok (by decide) i)).trans (u59 19 i rfl)))
      have q121 : h61 67 = h 67 := funext (fun i => ((u61 67 i (fo_no_ok (by decide) i)).trans (u59 67 i rfl)))
      have ml117 : MCL h61 := MCL.mv mi0.1 q118 q119 q120 q121 (by omega) (by omega) (by omega) (by omega)
      have q123 : h61 69 = h 69 := funext (fun i => ((u61 69 i (fo_no_ok (by decide) i)).trans (u59 69 i rfl)))
      have q124 : h61 70 = h 70 := funext (fun i => ((u61 70 i (fo_no_ok (by decide) i)).trans (u59 70 i rfl)))
      have nb122 : NBc (h61 69) (h61 70) := by rw [q123, q124]; exact mi0.2.2
      have q125 : h61 8 = h 8 := funext (fun i => ((u61 8 i (fo_no_ok (by decide) i)).trans (u59 8 i rfl)))
      have q126 : h61 7 = h 7 := funext (fun i => ((u61 7 i (fo_no_ok (by decide) i)).trans (u59 7 i rfl)))
      have mi116 : MCI h61 := ⟨ml117, HIv.mv mi0.2.1 q125 q126 (by omega) (by omega) (sv_seven (P := fun x => ∀ i, h61 (76 + 19 * x) i = h (76 + 19 * x) i) (fun i => ((u61 76 i (fn_a (by decide) fn_0)).trans (u59 76 i (fn_a (by omega) fn_0)))) (fun i => ((u61 95 i (fn_a (by decide) fn_0)).trans (u59 95 i (fn_a (by omega) fn_0)))) (fun i => ((u61 114 i (fn_a (by decide) fn_0)).trans (u59 114 i (fn_a (by omega) fn_0)))) (fun i => ((u61 133 i (fn_a (by decide) fn_0)).trans (u59 133 i (fn_a (by omega) fn_0)))) (fun i => ((u61 152 i (fn_a (by decide) fn_0)).trans (u59 152 i (fn_a (by omega) fn_0)))) (fun i => ((u61 171 i (fn_a (by decide) fn_0)).trans (u59 171 i (fn_a (by omega) fn_0)))) (fun i => ((u61 190 i (fn_a (by decide) fn_0)).trans (u59 190 i (fn_a (by omega) fn_0))))) (by omega) (by omega), nb122⟩
      have gq127 := GQS.fr u59 rfl gq0
      have gq128 := GQS.fr u61 rfl gq127
      have q129 : h61 8 = h 8 := funext (fun i => ((u61 8 i (fo_no_ok (by decide) i)).trans (u59 8 i rfl)))
      have q130 : h61 7 = h 7 := funext (fun i => ((u61 7 i (fo_no_ok (by decide) i)).trans (u59 7 i rfl)))
      have q131 : h61 215 = h 215 := funext (fun i => ((u61 215 i (fo_no_ok (by decide) i)).trans (u59 215 i rfl)))
      have q132 : h61 218 = h 218 := funext (fun i => ((u61 218 i (fo_no_ok (by decide) i)).trans (u59 218 i rfl)))
      have q133 : h61 214 = h 214 := funext (fun i => ((u61 214 i (fo_no_ok (by decide) i)).trans (u59 214 i rfl)))
      have q134 : h61 241 = h 241 := funext (fun i => ((u61 241 i (fo_no_ok (by decide) i)).trans (u59 241 i rfl)))
      exact k h61 b c ⟨⟨g61, (show h61 1 1 = h61 236 2 by omega), (RS.i0 (f := h61 238) (by refine ⟨?_, ?_, ?_, ?_, ?_⟩ <;> omega)), (RS.i0 (f := h61 241) (by refine ⟨?_, ?_, ?_, ?_, ?_⟩ <;> omega)), gp96, (BRh.keep br0 (fun i => ((u61 2 i (fn_a (by decide) fn_0)).trans (u59 2 i (fn_a (by omega) fn_0)))) (fun i => ((u61 237 i (fn_a (by decide) fn_0)).trans (u59 237 i (fn_a (by omega) fn_0)))) (by omega)), (show h61 1 2 = h61 236 10 by omega), (show h61 1 3 = h61 236 11 by omega), (SVx.keep sv0 (by omega) (fun i _ => ((u61 3 i (fn_a (by decide) fn_0)).trans (u59 3 i (fn_a (by omega) fn_0)))) (fun i _ => ((u61 5 i (fn_a (by decide) fn_0)).trans (u59 5 i (fn_a (by omega) fn_0)))) (fun i _ => ((u61 6 i (fn_a (by decide) fn_0)).trans (u59 6 i (fn_a (by omega) fn_0)))) (fun i _ => ((u61 8 i (fn_a (by decide) fn_0)).trans (u59 8 i (fn_a (by omega) fn_0)))) (fun i _ => ((u61 238 i (fn_a (by decide) fn_0)).trans (u59 238 i (fn_a (by omega) fn_0))))), (show h61 0 12 = h61 236 21 by omega), (fun e => (SVx.keep (ss0 (by omega)) (by omega) (fun i _ => ((u61 210 i (fn_a (by decide) fn_0)).trans (u59 210 i (fn_a (by omega) fn_0)))) (fun i _ => ((u61 212 i (fn_a (by decide) fn_0)).trans (u59 212 i (fn_a (by omega) fn_0)))) (fun i _ => ((u61 213 i (fn_a (by decide) fn_0)).trans (u59 213 i (fn_a (by omega) fn_0)))) (fun i _ => ((u61 215 i (fn_a (by decide) fn_0)).trans (u59 215 i (fn_a (by omega) fn_0)))) (fun i _ => ((u61 241 i (fn_a (by decide) fn_0)).trans (u59 241 i (fn_a (by omega) fn_0)))))), gs100, mi116, (show h61 63 5 ≤ h61 18 16 by omega), (show (h61 63 5) < (h61 18 16) ∨ ((h61 18 7) ≤ (h61 3 2) ∧ (h61 66 1) = (h61 3 2) - (h61 18 7)) ∨ ((h61 3 2) < (h61 18 7) ∧ (h61 66 1) = 0) by omega), gq128, (MR.mv mr0 (MSN.then (MSN.refl) (fun i _ => ((u61 238 i (fn_a (by decide) fn_0)).trans (u59 238 i (fn_a (by omega) fn_0))))) (by omega) q129 q130 (by omega)), (fun e => SM.mv (sm0 (by omega)) q131 q132 q133 (by omega) q134)⟩, (by omega)⟩ (by omega) (by omega)
    ·
      exfalso; omega
  ·
    refine wk_h 12 (by decide) rfl ?_
    refine wr_astx (i := 3) (lo2 := [(3, .retAddr 0), (0, .ref 0), (1, vi ((xs i55).toInt)), (2, .ref 259)]) (nx := 13) (r1 := 0) (r2 := 0) (r3 := 0) rfl rfl ?_
    refine wi_iconst (n := 1) (nx := 14) (r1 := 0) (r2 := 0) (r3 := 0) rfl ?_
    refine wi_ireturn (nx := 15) (r1 := 0) (r2 := 0) (r3 := 0) rfl rfl ?_
    refine wk_i ?_
    refine wi_istore (i := 5) (e := 1) (lo2 := [(5, vi 1), (0, .ref 1000000), (1, .ref 0), (2, .ref 236), (3, .ref 259), (4, vi i)]) (nx := 463) (r1 := 0) (r2 := 0) (r3 := 0) rfl rfl ?_
    refine wi_aload_n (i := 2) (x := 236) (nx := 464) (r1 := 0) (r2 := 0) (r3 := 0) rfl rfl ?_
    refine wi_aload_n (i := 0) (x := 1000000) (nx := 465) (r1 := 0) (r2 := 0) (r3 := 0) rfl rfl ?_
    refine wi_iload (i := 4) (e := i) (nx := 467) (r1 := 0) (r2 := 0) (r3 := 0) rfl rfl ?_
    refine wi_iconst (n := 1) (nx := 468) (r1 := 0) (r2 := 0) (r3 := 0) rfl ?_
    refine wr_add (nx := 469) (r1 := 0) (r2 := 0) (r3 := 0) rfl (fun e59 (fe59 : e59 = i + 1) => ?_)
    refine wr_sc (a := e59) (f := i55) (nx := 470) (r1 := 0) (r2 := 0) (r3 := 0) rfl (by omega) (by omega) hL ?_
    refine wr_V (k0 := 236) (rest := []) (as := [.ref 236, vi ((xs i55).toInt)]) (nx := 473) (r1 := 238) (r2 := 1) (r3 := 11) rfl rfl rfl (of_decide_eq_true rfl) rfl rfl (by decide) rfl rfl (of_decide_eq_true rfl) (of_decide_eq_true rfl) ?_
    refine ct_238_236 hcr  g ((xs i55).toInt) (by omega)  (fun h60 z61 g60 u60 (fz61 : 0 ≤ z61 ∧ z61 ≤ 999) (p60_0 : (0 ≤ ((xs i55).toInt) ∧ ((xs i55).toInt) ≤ 9 ∧ (h60 236 0) = 0) ∨ ((((xs i55).toInt) < 0 ∨ 9 < ((xs i55).toInt)) ∧ (h60 236 0) = 1)) y60_0 => ?_)
    have b62 := gi_b (lo := 0) (hi := 2) g60 236 0 rfl
    refine wk_i ?_
    rcases p60_0 with p60_0 | p60_0
    ·
      exfalso; omega
    ·
      refine wi_istore (i := 6) (e := z61) (lo2 := [(6, vi z61), (5, vi 1), (0, .ref 1000000), (1, .ref 0), (2, .ref 236), (3, .ref 259), (4, vi i)]) (nx := 475) (r1 := 0) (r2 := 0) (r3 := 0) rfl rfl ?_
      refine wi_goto (nx := 478) (r1 := 1501) (r2 := 0) (r3 := 0) rfl ?_
      refine wp.lo (lo := [(0, .ref 1000000), (1, .ref 0), (2, .ref 236), (3, .ref 259), (4, vi i)]) ⟨rfl, rfl, rfl, rfl, rfl, trivial⟩ rfl ?_
      have e63 : h60 238 98 = h 238 98 := (u60 238 98 rfl)
      have e64 : h60 238 99 = h 238 99 := (u60 238 99 rfl)
      have e65 : h60 238 100 = h 238 100 := (u60 238 100 rfl)
      have e66 : h60 238 101 = h 238 101 := (u60 238 101 rfl)
      have e67 : h60 238 102 = h 238 102 := (u60 238 102 rfl)
      have e68 : h60 238 106 = h 238 106 := (u60 238 106 rfl)
      have e69 : h60 238 73 = h 238 73 := (u60 238 73 rfl)
      have e70 : h60 238 2 = h 238 2 := (u60 238 2 rfl)
      have e71 : h60 238 119 = h 238 119 := (u60 238 119 rfl)
      have e72 : h60 238 67 = h 238 67 := (u60 238 67 rfl)
      have e73 : h60 238 69 = h 238 69 := (u60 238 69 rfl)
      have e74 : h60 238 5 = h 238 5 := (u60 238 5 rfl)
      have e75 : h60 241 98 = h 241 98 := (u60 241 98 rfl)
      have e76 : h60 241 99 = h 241 99 := (u60 241 99 rfl)
      have e77 : h60 241 100 = h 241 100 := (u60 241 100 rfl)
      have e78 : h60 241 101 = h 241 101 := (u60 241 101 rfl)
      have e79 : h60 241 102 = h 241 102 := (u60 241 102 rfl)
      have e80 : h60 241 106 = h 241 106 := (u60 241 106 rfl)
      have e81 : h60 241 73 = h 241 73 := (u60 241 73 rfl)
      have e82 : h60 241 2 = h 241 2 := (u60 241 2 rfl)
      have e83 : h60 241 119 = h 241 119 := (u60 241 119 rfl)
      have e84 : h60 241 67 = h 241 67 := (u60 241 67 rfl)
      have e85 : h60 241 69 = h 241 69 := (u60 241 69 rfl)
      have e86 : h60 241 5 = h 241 5 := (u60 241 5 rfl)
      have e87 : h60 1 1 = h 1 1 := (u60 1 1 rfl)
      have e88 : h60 236 2 = h 236 2 := (u60 236 2 rfl)
      have e89 : h60 1 2 = h 1 2 := (u60 1 2 rfl)
      have e90 : h60 236 10 = h 236 10 := (u60 236 10 rfl)
      have e91 : h60 1 3 = h 1 3 := (u60 1 3 rfl)
      have e92 : h60 236 11 = h 236 11 := (u60 236 11 rfl)
      have gp93 := GPH.fr u60 rfl gp0
      have b94 := gi_b (lo := 0) (hi := 5) g 241 0 rfl
      have b95 := gi_b (lo := 0) (hi := 4) g 241 1 rfl
      have gs96 := GPS.fr u60 rfl gs0
      have e97 : h60 0 12 = h 0 12 := (u60 0 12 rfl)
      have e98 : h60 236 21 = h 236 21 := (u60 236 21 rfl)
      have e99 : h60 63 5 = h 63 5 := (u60 63 5 rfl)
      have e100 : h60 18 16 = h 18 16 := (u60 18 16 rfl)
      have e101 : h60 18 7 = h 18 7 := (u60 18 7 rfl)
      have e102 : h60 3 2 = h 3 2 := (u60 3 2 rfl)
      have e103 : h60 66 1 = h 66 1 := (u60 66 1 rfl)
      have b104 := gi_b (lo := 0) (hi := 6) g 73 1 rfl
      have e105 : h60 73 1 = h 73 1 := (u60 73 1 rfl)
      have b106 := gi_b (lo := 0) (hi := 6) g 73 2 rfl
      have e107 : h60 73 2 = h 73 2 := (u60 73 2 rfl)
      have b108 := gi_b (lo := 0) (hi := 6) g 236 22 rfl
      have e109 : h60 236 22 = h 236 22 := (u60 236 22 rfl)
      have b110 := gi_b (lo := 0) (hi := 12) g 210 2 rfl
      have e111 : h60 210 2 = h 210 2 := (u60 210 2 rfl)
      have q114 : h60 8 = h 8 := funext (fun i => (u60 8 i (fo_no_ok (by decide) i)))
      have q115 : h60 7 = h 7 := funext (fun i => (u60 7 i (fo_no_ok (by decide) i)))
      have q116 : h60 19 = h 19 := funext (fun i => (u60 19 i (fo_no_ok (by decide) i)))
      have q117 : h60 67 = h 67 := funext (fun i => (u60 67 i (fo_no_ok (by decide) i)))
      have ml113 : MCL h60 := MCL.mv mi0.1 q114 q115 q116 q117 (by omega) (by omega) (by omega) (by omega)
      have q119 : h60 69 = h 69 := funext (fun i => (u60 69 i (fo_no_ok (by decide) i)))
      have q120 : h60 70 = h 70 := funext (fun i => (u60 70 i (fo_no_ok (by decide) i)))
      have nb118 : NBc (h60 69) (h60 70) := by rw [q119, q120]; exact mi0.2.2
      have q121 : h60 8 = h 8 := funext (fun i => (u60 8 i (fo_no_ok (by decide) i)))
      have q122 : h60 7 = h 7 := funext (fun i => (u60 7 i (fo_no_ok (by decide) i)))
      have mi112 : MCI h60 := ⟨ml113, HIv.mv mi0.2.1 q121 q122 (by omega) (by omega) (sv_seven (P := fun x => ∀ i, h60 (76 + 19 * x) i = h (76 + 19 * x) i) (fun i => (u60 76 i (fn_a (by decide) fn_0))) (fun i => (u60 95 i (fn_a (by decide) fn_0))) (fun i => (u60 114 i (fn_a (by decide) fn_0))) (fun i => (u60 133 i (fn_a (by decide) fn_0))) (fun i => (u60 152 i (fn_a (by decide) fn_0))) (fun i => (u60 171 i (fn_a (by decide) fn_0))) (fun i => (u60 190 i (fn_a (by decide) fn_0)))) (by omega) (by omega), nb118⟩
      have gq123 := GQS.fr u60 rfl gq0
      have q124 : h60 8 = h 8 := funext (fun i => (u60 8 i (fo_no_ok (by decide) i)))
      have q125 : h60 7 = h 7 := funext (fun i => (u60 7 i (fo_no_ok (by decide) i)))
      have q126 : h60 215 = h 215 := funext (fun i => (u60 215 i (fo_no_ok (by decide) i)))
      have q127 : h60 218 = h 218 := funext (fun i => (u60 218 i (fo_no_ok (by decide) i)))
      have q128 : h60 214 = h 214 := funext (fun i => (u60 214 i (fo_no_ok (by decide) i)))
      have q129 : h60 241 = h 241 := funext (fun i => (u60 241 i (fo_no_ok (by decide) i)))
      exact k h60 (b - 1) (c - 6) ⟨⟨g60, (show h60 1 1 = h60 236 2 by omega), (RS.i0 (f := h60 238) (by refine ⟨?_, ?_, ?_, ?_, ?_⟩ <;> omega)), (RS.i0 (f := h60 241) (by refine ⟨?_, ?_, ?_, ?_, ?_⟩ <;> omega)), gp93, (BRh.keep br0 (fun i => (u60 2 i (fn_a (by decide) fn_0))) (fun i => (u60 237 i (fn_a (by decide) fn_0))) (by omega)), (show h60 1 2 = h60 236 10 by omega), (show h60 1 3 = h60 236 11 by omega), (SVx.keep sv0 (by omega) (fun i _ => (u60 3 i (fn_a (by decide) fn_0))) (fun i _ => (u60 5 i (fn_a (by decide) fn_0))) (fun i _ => (u60 6 i (fn_a (by decide) fn_0))) (fun i _ => (u60 8 i (fn_a (by decide) fn_0))) (fun i _ => (u60 238 i (fn_a (by decide) fn_0)))), (show h60 0 12 = h60 236 21 by omega), (fun e => (SVx.keep (ss0 (by omega)) (by omega) (fun i _ => (u60 210 i (fn_a (by decide) fn_0))) (fun i _ => (u60 212 i (fn_a (by decide) fn_0))) (fun i _ => (u60 213 i (fn_a (by decide) fn_0))) (fun i _ => (u60 215 i (fn_a (by decide) fn_0))) (fun i _ => (u60 241 i (fn_a (by decide) fn_0))))), gs96, mi112, (show h60 63 5 ≤ h60 18 16 by omega), (show (h60 63 5) < (h60 18 16) ∨ ((h60 18 7) ≤ (h60 3 2) ∧ (h60 66 1) = (h60 3 2) - (h60 18 7)) ∨ ((h60 3 2) < (h60 18 7) ∧ (h60 66 1) = 0) by omega), gq123, (MR.mv mr0 (MSN.then (MSN.refl) (fun i _ => (u60 238 i (fn_a (by decide) fn_0)))) (by omega) q124 q125 (by omega)), (fun e => SM.mv (sm0 (by omega)) q126 q127 q128 (by omega) q129)⟩, (by omega)⟩ (by omega) (by omega)
