-- the law, case at 288
set_option maxRecDepth 100000 in
set_option maxHeartbeats 100000000 in
theorem lc_288 {L : Nat} {xs : Nat → Int32} {d b c : Nat} {h : hp} {cr : Nat → Nat → Option Nat} {Q : hp_Q} (hcr : CR cr) (hL : L ≤ 3072) (hr : 1 ≤ b ∧ 6 ≤ c) (I : LI h) (i : Int) (hi : 0 ≤ i ∧ i + 6 ≤ L) (k : ∀ (h2 : hp) (b2 c2 : Nat), LI h2 → b ≤ b2 + 1 → c ≤ c2 + 6 → wp (md_xa (L, xs)) (d + 107) 0 (1529, [(0, .ref 1000000), (1, .ref 0), (2, .ref 236), (3, .ref 259), (4, vi i)], [], hp_w h2 cr, b2, c2) Q) : wp (md_xa (L, xs)) (d + 107) 0 (288, [(0, .ref 1000000), (1, .ref 0), (2, .ref 236), (3, .ref 259), (4, vi i)], [], hp_w h cr, b, c) Q := by
  obtain ⟨g, i11, r238, r241, gp0, br0, er2, er3, sv0, sf0, ss0, gs0⟩ := I
  have r238e := r238.e0
  have r241e := r241.e0
  obtain ⟨⟨se0, se1, se2, se3, se4, se5, se6, se7, se8, se9⟩, -⟩ := id sv0
  have b1 := gi_b (lo := 0) (hi := 5) g 3 0 rfl
  have b2 := gi_b (lo := 0) (hi := 5) g 238 0 rfl
  have b3 := gi_b (lo := 0) (hi := 4) g 3 1 rfl
  have b4 := gi_b (lo := 0) (hi := 4) g 238 1 rfl
  have b5 := gi_b (lo := 0) (hi := 12) g 3 2 rfl
  have b6 := gi_b (lo := 0) (hi := 12) g 238 2 rfl
  have b7 := gi_b (lo := -2147483648) (hi := 2147483647) g 3 3 rfl
  have b8 := gi_b (lo := 0) (hi := 999) g 238 3 rfl
  have b9 := gi_b (lo := -2147483648) (hi := 2147483647) g 3 4 rfl
  have b10 := gi_b (lo := 0) (hi := 999) g 238 4 rfl
  have b11 := gi_b (lo := -2147483648) (hi := 2147483647) g 3 5 rfl
  have b12 := gi_b (lo := 0) (hi := 9) g 238 5 rfl
  have b13 := gi_b (lo := -2147483648) (hi := 2147483647) g 3 6 rfl
  have b14 := gi_b (lo := 0) (hi := 999) g 238 6 rfl
  have b15 := gi_b (lo := -2147483648) (hi := 2147483647) g 3 7 rfl
  have b16 := gi_b (lo := 0) (hi := 3) g 238 7 rfl
  have b17 := gi_b (lo := -2147483648) (hi := 2147483647) g 3 8 rfl
  have b18 := gi_b (lo := 0) (hi := 999) g 238 8 rfl
  have b19 := gi_b (lo := -2147483648) (hi := 2147483647) g 3 9 rfl
  have b20 := gi_b (lo := 0) (hi := 999) g 238 9 rfl
  have b21 := gi_b (lo := 0) (hi := 1) g 0 12 rfl
  have b22 := gi_b (lo := 0) (hi := 1) g 236 21 rfl
  have bl_ := gi_b (lo := 0) (hi := 800) g 1 1 rfl
  have tb0 : BufC (h 2) (h 1 1) h := ⟨fun _ => rfl, rfl, by omega, by omega⟩
  have b23 := gi_b (lo := 0) (hi := 6) g 238 98 rfl
  have b24 := gi_b (lo := 0) (hi := 6) g 238 99 rfl
  have b25 := gi_b (lo := 0) (hi := 6) g 238 100 rfl
  have b26 := gi_b (lo := 0) (hi := 6) g 238 101 rfl
  have b27 := gi_b (lo := 0) (hi := 3) g 238 102 rfl
  have b28 := gi_b (lo := 0) (hi := 12) g 238 106 rfl
  have b29 := gi_b (lo := 0) (hi := 12) g 238 73 rfl
  have b30 := gi_b (lo := 0) (hi := 9999) g 238 119 rfl
  have b31 := gi_b (lo := 0) (hi := 9999) g 238 67 rfl
  have b32 := gi_b (lo := 0) (hi := 9) g 238 69 rfl
  have b33 := gi_b (lo := 0) (hi := 6) g 241 98 rfl
  have b34 := gi_b (lo := 0) (hi := 6) g 241 99 rfl
  have b35 := gi_b (lo := 0) (hi := 6) g 241 100 rfl
  have b36 := gi_b (lo := 0) (hi := 6) g 241 101 rfl
  have b37 := gi_b (lo := 0) (hi := 3) g 241 102 rfl
  have b38 := gi_b (lo := 0) (hi := 12) g 241 106 rfl
  have b39 := gi_b (lo := 0) (hi := 12) g 241 73 rfl
  have b40 := gi_b (lo := 0) (hi := 12) g 241 2 rfl
  have b41 := gi_b (lo := 0) (hi := 9999) g 241 119 rfl
  have b42 := gi_b (lo := 0) (hi := 9999) g 241 67 rfl
  have b43 := gi_b (lo := 0) (hi := 9) g 241 69 rfl
  have b44 := gi_b (lo := 0) (hi := 9) g 241 5 rfl
  have b45 := gi_b (lo := 0) (hi := 800) g 1 1 rfl
  have b46 := gi_b (lo := 0) (hi := 800) g 236 2 rfl
  have b47 := gi_b (lo := -2147483648) (hi := 2147483647) g 1 2 rfl
  have b48 := gi_b (lo := -2147483648) (hi := 2147483647) g 236 10 rfl
  have b49 := gi_b (lo := -2147483648) (hi := 2147483647) g 1 3 rfl
  have b50 := gi_b (lo := -2147483648) (hi := 2147483647) g 236 11 rfl
  refine wi_aload_n (i := 1) (x := 0) (nx := 289) (r1 := 0) (r2 := 0) (r3 := 0) rfl rfl ?_
  refine wi_aload_n (i := 0) (x := 1000000) (nx := 290) (r1 := 0) (r2 := 0) (r3 := 0) rfl rfl ?_
  refine wi_iload (i := 4) (e := i) (nx := 292) (r1 := 0) (r2 := 0) (r3 := 0) rfl rfl ?_
  refine wi_iconst (n := 1) (nx := 293) (r1 := 0) (r2 := 0) (r3 := 0) rfl ?_
  refine wr_add (nx := 294) (r1 := 0) (r2 := 0) (r3 := 0) rfl (fun e51 (fe51 : e51 = i + 1) => ?_)
  obtain ⟨i52, ei52⟩ : ∃ q : Nat, e51 = (q : Int) := ⟨(e51).toNat, by omega⟩
  have s53 := sc_b (xs i52)
  refine wr_sc (a := e51) (f := i52) (nx := 295) (r1 := 0) (r2 := 0) (r3 := 0) rfl (by omega) (by omega) hL ?_
  refine wi_aload_n (i := 0) (x := 1000000) (nx := 296) (r1 := 0) (r2 := 0) (r3 := 0) rfl rfl ?_
  refine wi_iload (i := 4) (e := i) (nx := 298) (r1 := 0) (r2 := 0) (r3 := 0) rfl rfl ?_
  refine wi_iconst (n := 2) (nx := 299) (r1 := 0) (r2 := 0) (r3 := 0) rfl ?_
  refine wr_add (nx := 300) (r1 := 0) (r2 := 0) (r3 := 0) rfl (fun e54 (fe54 : e54 = i + 2) => ?_)
  obtain ⟨i55, ei55⟩ : ∃ q : Nat, e54 = (q : Int) := ⟨(e54).toNat, by omega⟩
  have s56 := sc_b (xs i55)
  refine wr_sc (a := e54) (f := i55) (nx := 301) (r1 := 0) (r2 := 0) (r3 := 0) rfl (by omega) (by omega) hL ?_
  refine wi_aload_n (i := 0) (x := 1000000) (nx := 302) (r1 := 0) (r2 := 0) (r3 := 0) rfl rfl ?_
  refine wi_iload (i := 4) (e := i) (nx := 304) (r1 := 0) (r2 := 0) (r3 := 0) rfl rfl ?_
  refine wi_iconst (n := 3) (nx := 305) (r1 := 0) (r2 := 0) (r3 := 0) rfl ?_
  refine wr_add (nx := 306) (r1 := 0) (r2 := 0) (r3 := 0) rfl (fun e57 (fe57 : e57 = i + 3) => ?_)
  obtain ⟨i58, ei58⟩ : ∃ q : Nat, e57 = (q : Int) := ⟨(e57).toNat, by omega⟩
  have s59 := sc_b (xs i58)
  refine wr_sc (a := e57) (f := i58) (nx := 307) (r1 := 0) (r2 := 0) (r3 := 0) rfl (by omega) (by omega) hL ?_
  refine wi_aload_n (i := 0) (x := 1000000) (nx := 308) (r1 := 0) (r2 := 0) (r3 := 0) rfl rfl ?_
  refine wi_iload (i := 4) (e := i) (nx := 310) (r1 := 0) (r2 := 0) (r3 := 0) rfl rfl ?_
  refine wi_iconst (n := 4) (nx := 311) (r1 := 0) (r2 := 0) (r3 := 0) rfl ?_
  refine wr_add (nx := 312) (r1 := 0) (r2 := 0) (r3 := 0) rfl (fun e60 (fe60 : e60 = i + 4) => ?_)
  obtain ⟨i61, ei61⟩ : ∃ q : Nat, e60 = (q : Int) := ⟨(e60).toNat, by omega⟩
  have s62 := sc_b (xs i61)
  refine wr_sc (a := e60) (f := i61) (nx := 313) (r1 := 0) (r2 := 0) (r3 := 0) rfl (by omega) (by omega) hL ?_
  refine wi_aload_n (i := 0) (x := 1000000) (nx := 314) (r1 := 0) (r2 := 0) (r3 := 0) rfl rfl ?_
  refine wi_iload (i := 4) (e := i) (nx := 316) (r1 := 0) (r2 := 0) (r3 := 0) rfl rfl ?_
  refine wi_iconst (n := 5) (nx := 317) (r1 := 0) (r2 := 0) (r3 := 0) rfl ?_
  refine wr_add (nx := 318) (r1 := 0) (r2 := 0) (r3 := 0) rfl (fun e63 (fe63 : e63 = i + 5) => ?_)
  obtain ⟨i64, ei64⟩ : ∃ q : Nat, e63 = (q : Int) := ⟨(e63).toNat, by omega⟩
  have s65 := sc_b (xs i64)
  refine wr_sc (a := e63) (f := i64) (nx := 319) (r1 := 0) (r2 := 0) (r3 := 0) rfl (by omega) (by omega) hL ?_
  refine wi_aload_n (i := 3) (x := 259) (nx := 320) (r1 := 0) (r2 := 0) (r3 := 0) rfl rfl ?_
  refine wi_S (rest := []) (as := [.ref 0, vi ((xs i52).toInt), vi ((xs i55).toInt), vi ((xs i58).toInt), vi ((xs i61).toInt), vi ((xs i64).toInt), .ref 259]) (nx := 323) (r1 := 1) (r2 := 23) (r3 := 0) rfl rfl rfl (of_decide_eq_true rfl) rfl rfl (of_decide_eq_true rfl) (of_decide_eq_true rfl) ?_
  refine wi_aload (i := 6) (x := 259) (nx := 2) (r1 := 0) (r2 := 0) (r3 := 0) rfl rfl ?_
  refine wi_iconst (n := 0) (nx := 3) (r1 := 0) (r2 := 0) (r3 := 0) rfl ?_
  refine wi_aload_n (i := 0) (x := 0) (nx := 4) (r1 := 0) (r2 := 0) (r3 := 0) rfl rfl ?_
  refine wi_iload_n (i := 1) (e := (xs i52).toInt) (nx := 5) (r1 := 0) (r2 := 0) (r3 := 0) rfl rfl ?_
  refine wi_iload_n (i := 2) (e := (xs i55).toInt) (nx := 6) (r1 := 0) (r2 := 0) (r3 := 0) rfl rfl ?_
  refine wi_iload_n (i := 3) (e := (xs i58).toInt) (nx := 7) (r1 := 0) (r2 := 0) (r3 := 0) rfl rfl ?_
  refine wi_iload (i := 4) (e := (xs i61).toInt) (nx := 9) (r1 := 0) (r2 := 0) (r3 := 0) rfl rfl ?_
  refine wi_iload (i := 5) (e := (xs i64).toInt) (nx := 11) (r1 := 0) (r2 := 0) (r3 := 0) rfl rfl ?_
  refine wr_V (k0 := 0) (rest := [vi 0, .ref 259]) (as := [.ref 0, vi ((xs i52).toInt), vi ((xs i55).toInt), vi ((xs i58).toInt), vi ((xs i61).toInt), vi ((xs i64).toInt)]) (nx := 14) (r1 := 61) (r2 := 5) (r3 := 0) rfl rfl rfl (of_decide_eq_true rfl) rfl rfl (by decide) rfl rfl (of_decide_eq_true rfl) (of_decide_eq_true rfl) ?_
  refine ct_61_0 hcr hr  g ((xs i52).toInt) ((xs i55).toInt) ((xs i58).toInt) ((xs i61).toInt) ((xs i64).toInt) (by omega) (by omega) (by omega) (by omega) (by omega)  (fun h66 z67 g66 u66 (fz67 : 20 ≤ z67 ∧ z67 ≤ 800) (p66_0 : (h 1 1) ≤ 780) (p66_1 : (h66 1 1) = (h 1 1) + 20) (p66_2 : z67 = (h 1 1) + 20) y66_0 => ?_) (fun h66 g66 u66 (pe66_0 : 781 ≤ (h 1 1)) (pe66_1 : (h66 1 1) = (h 1 1)) ye66_0 => ?_)
  ·
    have b68 := gi_b (lo := 0) (hi := 800) g66 1 1 rfl
    refine wk_i ?_
    refine wi_i2l (nx := 15) (r1 := 0) (r2 := 0) (r3 := 0) rfl (by omega) ?_
    refine wr_ls (k0 := 259) (a := 0) (f := 0) (x := z67) (bl := -9223372036854775808) (bh := 9223372036854775807) (nx := 16) (r1 := 0) (r2 := 0) (r3 := 0) rfl (by decide) rfl (by omega) (by omega) (by decide) g66 rfl (by omega) (fun h69 g69 w69 u69 => ?_)
    refine wi_goto (nx := 19) (r1 := 23) (r2 := 0) (r3 := 0) rfl ?_
    refine wi_iconst (n := 0) (nx := 24) (r1 := 0) (r2 := 0) (r3 := 0) rfl ?_
    refine wi_ireturn (nx := 25) (r1 := 0) (r2 := 0) (r3 := 0) rfl rfl ?_
    refine wk_i ?_
    refine wi_istore (i := 5) (e := 0) (lo2 := [(5, vi 0), (0, .ref 1000000), (1, .ref 0), (2, .ref 236), (3, .ref 259), (4, vi i)]) (nx := 325) (r1 := 0) (r2 := 0) (r3 := 0) rfl rfl ?_
    refine wi_aload_n (i := 2) (x := 236) (nx := 326) (r1 := 0) (r2 := 0) (r3 := 0) rfl rfl ?_
    refine wi_aload_n (i := 0) (x := 1000000) (nx := 327) (r1 := 0) (r2 := 0) (r3 := 0) rfl rfl ?_
    refine wi_iload (i := 4) (e := i) (nx := 329) (r1 := 0) (r2 := 0) (r3 := 0) rfl rfl ?_
    refine wi_iconst (n := 1) (nx := 330) (r1 := 0) (r2 := 0) (r3 := 0) rfl ?_
    refine wr_add (nx := 331) (r1 := 0) (r2 := 0) (r3 := 0) rfl (fun e70 (fe70 : e70 = i + 1) => ?_)
    refine wr_sc (a := e70) (f := i52) (nx := 332) (r1 := 0) (r2 := 0) (r3 := 0) rfl (by omega) (by omega) hL ?_
    refine wi_aload_n (i := 0) (x := 1000000) (nx := 333) (r1 := 0) (r2 := 0) (r3 := 0) rfl rfl ?_
    refine wi_iload (i := 4) (e := i) (nx := 335) (r1 := 0) (r2 := 0) (r3 := 0) rfl rfl ?_
    refine wi_iconst (n := 2) (nx := 336) (r1 := 0) (r2 := 0) (r3 := 0) rfl ?_
    refine wr_add (nx := 337) (r1 := 0) (r2 := 0) (r3 := 0) rfl (fun e71 (fe71 : e71 = i + 2) => ?_)
    refine wr_sc (a := e71) (f := i55) (nx := 338) (r1 := 0) (r2 := 0) (r3 := 0) rfl (by omega) (by omega) hL ?_
    refine wi_aload_n (i := 0) (x := 1000000) (nx := 339) (r1 := 0) (r2 := 0) (r3 := 0) rfl rfl ?_
    refine wi_iload (i := 4) (e := i) (nx := 341) (r1 := 0) (r2 := 0) (r3 := 0) rfl rfl ?_
    refine wi_iconst (n := 3) (nx := 342) (r1 := 0) (r2 := 0) (r3 := 0) rfl ?_
    refine wr_add (nx := 343) (r1 := 0) (r2 := 0) (r3 := 0) rfl (fun e72 (fe72 : e72 = i + 3) => ?_)
    refine wr_sc (a := e72) (f := i58) (nx := 344) (r1 := 0) (r2 := 0) (r3 := 0) rfl (by omega) (by omega) hL ?_
    refine wi_aload_n (i := 0) (x := 1000000) (nx := 345) (r1 := 0) (r2 := 0) (r3 := 0) rfl rfl ?_
    refine wi_iload (i := 4) (e := i) (nx := 347) (r1 := 0) (r2 := 0) (r3 := 0) rfl rfl ?_
    refine wi_iconst (n := 4) (nx := 348) (r1 := 0) (r2 := 0) (r3 := 0) rfl ?_
    refine wr_add (nx := 349) (r1 := 0) (r2 := 0) (r3 := 0) rfl (fun e73 (fe73 : e73 = i + 4) => ?_)
    refine wr_sc (a := e73) (f := i61) (nx := 350) (r1 := 0) (r2 := 0) (r3 := 0) rfl (by omega) (by omega) hL ?_
    refine wi_aload_n (i := 0) (x := 1000000) (nx := 351) (r1 := 0) (r2 := 0) (r3 := 0) rfl rfl ?_
    refine wi_iload (i := 4) (e := i) (nx := 353) (r1 := 0) (r2 := 0) (r3 := 0) rfl rfl ?_
    refine wi_iconst (n := 5) (nx := 354) (r1 := 0) (r2 := 0) (r3 := 0) rfl ?_
    refine wr_add (nx := 355) (r1 := 0) (r2 := 0) (r3 := 0) rfl (fun e74 (fe74 : e74 = i + 5) => ?_)
    refine wr_sc (a := e74) (f := i64) (nx := 356) (r1 := 0) (r2 := 0) (r3 := 0) rfl (by omega) (by omega) hL ?_
    refine wr_V (k0 := 236) (rest := []) (as := [.ref 236, vi ((xs i52).toInt), vi ((xs i55).toInt), vi ((xs i58).toInt), vi ((xs i61).toInt), vi ((xs i64).toInt)]) (nx := 359) (r1 := 205) (r2 := 5) (r3 := 11) rfl rfl rfl (of_decide_eq_true rfl) rfl rfl (by decide) rfl rfl (of_decide_eq_true rfl) (of_decide_eq_true rfl) ?_
    refine ct_205_236 hcr  g69 ((xs i52).toInt) ((xs i55).toInt) ((xs i58).toInt) ((xs i61).toInt) ((xs i64).toInt) (by omega) (by omega) (by omega) (by omega) (by omega)  (fun h75 z76 g75 u75 (fz76 : 0 ≤ z76 ∧ z76 ≤ 800) (p75_0 : ((h69 236 2) ≤ 780 ∧ (h75 236 0) = 0 ∧ (h75 236 2) = (h69 236 2) + 20 ∧ z76 = (h69 236 2) + 20) ∨ (781 ≤ (h69 236 2) ∧ (h75 236 0) = 1 ∧ (h75 236 2) = (h69 236 2))) y75_0 y75_1 => ?_)
    have e77 : h69 236 2 = h 236 2 := ((u69 236 2 rfl).trans (u66 236 2 rfl))
    have b78 := gi_b (lo := 0) (hi := 2) g75 236 0 rfl
    have b79 := gi_b (lo := 0) (hi := 800) g75 236 2 rfl
    refine wk_i ?_
    rcases p75_0 with p75_0 | p75_0
    ·
      refine wi_istore (i := 6) (e := z76) (lo2 := [(6, vi z76), (5, vi 0), (0, .ref 1000000), (1, .ref 0), (2, .ref 236), (3, .ref 259), (4, vi i)]) (nx := 361) (r1 := 0) (r2 := 0) (r3 := 0) rfl rfl ?_
      refine wi_goto (nx := 364) (r1 := 1529) (r2 := 0) (r3 := 0) rfl ?_
      refine wp.lo (lo := [(0, .ref 1000000), (1, .ref 0), (2, .ref 236), (3, .ref 259), (4, vi i)]) ⟨rfl, rfl, rfl, rfl, rfl, trivial⟩ rfl ?_
      have e80 : h75 238 98 = h 238 98 := ((u75 238 98 rfl).trans ((u69 238 98 rfl).trans (u66 238 98 rfl)))
      have e81 : h75 238 99 = h 238 99 := ((u75 238 99 rfl).trans ((u69 238 99 rfl).trans (u66 238 99 rfl)))
      have e82 : h75 238 100 = h 238 100 := ((u75 238 100 rfl).trans ((u69 238 100 rfl).trans (u66 238 100 rfl)))
      have e83 : h75 238 101 = h 238 101 := ((u75 238 101 rfl).trans ((u69 238 101 rfl).trans (u66 238 101 rfl)))
      have e84 : h75 238 102 = h 238 102 := ((u75 238 102 rfl).trans ((u69 238 102 rfl).trans (u66 238 102 rfl)))
      have e85 : h75 238 106 = h 238 106 := ((u75 238 106 rfl).trans ((u69 238 106 rfl).trans (u66 238 106 rfl)))
      have e86 : h75 238 73 = h 238 73 := ((u75 238 73 rfl).trans ((u69 238 73 rfl).trans (u66 238 73 rfl)))
      have e87 : h75 238 2 = h 238 2 := ((u75 238 2 rfl).trans ((u69 238 2 rfl).trans (u66 238 2 rfl)))
      have e88 : h75 238 119 = h 238 119 := ((u75 238 119 rfl).trans ((u69 238 119 rfl).trans (u66 238 119 rfl)))
      have e89 : h75 238 67 = h 238 67 := ((u75 238 67 rfl).trans ((u69 238 67 rfl).trans (u66 238 67 rfl)))
      have e90 : h75 238 69 = h 238 69 := ((u75 238 69 rfl).trans ((u69 238 69 rfl).trans (u66 238 69 rfl)))
      have e91 : h75 238 5 = h 238 5 := ((u75 238 5 rfl).trans ((u69 238 5 rfl).trans (u66 238 5 rfl)))
      have e92 : h75 241 98 = h 241 98 := ((u75 241 98 rfl).trans ((u69 241 98 rfl).trans (u66 241 98 rfl)))
      have e93 : h75 241 99 = h 241 99 := ((u75 241 99 rfl).trans ((u69 241 99 rfl).trans (u66 241 99 rfl)))
      have e94 : h75 241 100 = h 241 100 := ((u75 241 100 rfl).trans ((u69 241 100 rfl).trans (u66 241 100 rfl)))
      have e95 : h75 241 101 = h 241 101 := ((u75 241 101 rfl).trans ((u69 241 101 rfl).trans (u66 241 101 rfl)))
      have e96 : h75 241 102 = h 241 102 := ((u75 241 102 rfl).trans ((u69 241 102 rfl).trans (u66 241 102 rfl)))
      have e97 : h75 241 106 = h 241 106 := ((u75 241 106 rfl).trans ((u69 241 106 rfl).trans (u66 241 106 rfl)))
      have e98 : h75 241 73 = h 241 73 := ((u75 241 73 rfl).trans ((u69 241 73 rfl).trans (u66 241 73 rfl)))
      have e99 : h75 241 2 = h 241 2 := ((u75 241 2 rfl).trans ((u69 241 2 rfl).trans (u66 241 2 rfl)))
      have e100 : h75 241 119 = h 241 119 := ((u75 241 119 rfl).trans ((u69 241 119 rfl).trans (u66 241 119 rfl)))
      have e101 : h75 241 67 = h 241 67 := ((u75 241 67 rfl).trans ((u69 241 67 rfl).trans (u66 241 67 rfl)))
      have e102 : h75 241 69 = h 241 69 := ((u75 241 69 rfl).trans ((u69 241 69 rfl).trans (u66 241 69 rfl)))
      have e103 : h75 241 5 = h 241 5 := ((u75 241 5 rfl).trans ((u69 241 5 rfl).trans (u66 241 5 rfl)))
      have e104 : h75 1 1 = h66 1 1 := ((u75 1 1 rfl).trans (u69 1 1 rfl))
      have e105 : h75 1 2 = h 1 2 := ((u75 1 2 rfl).trans ((u69 1 2 rfl).trans (u66 1 2 rfl)))
      have e106 : h75 236 10 = h 236 10 := ((u75 236 10 rfl).trans ((u69 236 10 rfl).trans (u66 236 10 rfl)))
      have e107 : h75 1 3 = h 1 3 := ((u75 1 3 rfl).trans ((u69 1 3 rfl).trans (u66 1 3 rfl)))
      have e108 : h75 236 11 = h 236 11 := ((u75 236 11 rfl).trans ((u69 236 11 rfl).trans (u66 236 11 rfl)))
      have gp109 := GPH.fr u66 rfl gp0
      have gp110 := GPH.fr u69 rfl gp109
      have gp111 := GPH.fr u75 rfl gp110
      have b112 := gi_b (lo := 0) (hi := 5) g 241 0 rfl
      have b113 := gi_b (lo := 0) (hi := 4) g 241 1 rfl
      have gs114 := GPS.fr u66 rfl gs0
      have gs115 := GPS.fr u69 rfl gs114
      have gs116 := GPS.fr u75 rfl gs115
      have e117 : h75 0 12 = h 0 12 := ((u75 0 12 rfl).trans ((u69 0 12 rfl).trans (u66 0 12 rfl)))
      have e118 : h75 236 21 = h 236 21 := ((u75 236 21 rfl).trans ((u69 236 21 rfl).trans (u66 236 21 rfl)))
      exact k h75 b c ⟨g75, (show h75 1 1 = h75 236 2 by omega), (RS.i0 (f := h75 238) (by refine ⟨?_, ?_, ?_, ?_, ?_⟩ <;> omega)), (RS.i0 (f := h75 241) (by refine ⟨?_, ?_, ?_, ?_, ?_⟩ <;> omega)), gp111, (by
              have fa := y66_0 (by omega)
              have fb := y75_0 (by omega)
              rw [show h69 237 = h 237 from funext (fun i => ((u69 237 i (fn_a (by omega) fn_0)).trans (u66 237 i (fn_a (by decide) (fn_a (by decide) fn_0))))), show (h69 236 2).toNat = (h 1 1).toNat by omega] at fb
              unfold BRh
              rw [show h75 2 = h66 2 from funext (fun i => ((u75 2 i (fn_a (by decide) (fn_a (by decide) (fn_a (by decide) fn_0)))).trans (u69 2 i (fn_a (by omega) fn_0)))), show h75 237 = h75 237 from funext (fun i => rfl), show (h75 1 1).toNat = (h 1 1).toNat + 20 by omega]
              exact BRn.feed br0 fa fb), (show h75 1 2 = h75 236 10 by omega), (show h75 1 3 = h75 236 11 by omega), (SVx.keep sv0 (by omega) (fun i _ => ((u75 3 i (fn_a (by decide) (fn_a (by decide) (fn_a (by decide) fn_0)))).trans ((u69 3 i (fn_a (by omega) fn_0)).trans (u66 3 i (fn_a (by decide) (fn_a (by decide) fn_0)))))) (fun i _ => ((u75 5 i (fn_a (by decide) (fn_a (by decide) (fn_a (by decide) fn_0)))).trans ((u69 5 i (fn_a (by omega) fn_0)).trans (u66 5 i (fn_a (by decide) (fn_a (by decide) fn_0)))))) (fun i _ => ((u75 6 i (fn_a (by decide) (fn_a (by decide) (fn_a (by decide) fn_0)))).trans ((u69 6 i (fn_a (by omega) fn_0)).trans (u66 6 i (fn_a (by decide) (fn_a (by decide) fn_0)))))) (fun i _ => ((u75 8 i (fn_a (by decide) (fn_a (by decide) (fn_a (by decide) fn_0)))).trans ((u69 8 i (fn_a (by omega) fn_0)).trans (u66 8 i (fn_a (by decide) (fn_a (by decide) fn_0)))))) (fun i _ => ((u75 238 i (fn_a (by decide) (fn_a (by decide) (fn_a (by decide) fn_0)))).trans ((u69 238 i (fn_a (by omega) fn_0)).trans (u66 238 i (fn_a (by decide) (fn_a (by decide) fn_0))))))), (show h75 0 12 = h75 236 21 by omega), (fun e => (SVx.keep (ss0 (by omega)) (by omega) (fun i _ => ((u75 210 i (fn_a (by decide) (fn_a (by decide) (fn_a (by decide) fn_0)))).trans ((u69 210 i (fn_a (by omega) fn_0)).trans (u66 210 i (fn_a (by decide) (fn_a (by decide) fn_0)))))) (fun i _ => ((u75 212 i (fn_a (by decide) (fn_a (by decide) (fn_a (by decide) fn_0)))).trans ((u69 212 i (fn_a (by omega) fn_0)).trans (u66 212 i (fn_a (by decide) (fn_a (by decide) fn_0)))))) (fun i _ => ((u75 213 i (fn_a (by decide) (fn_a (by decide) (fn_a (by decide) fn_0)))).trans ((u69 213 i (fn_a (by omega) fn_0)).trans (u66 213 i (fn_a (by decide) (fn_a (by decide) fn_0)))))) (fun i _ => ((u75 215 i (fn_a (by decide) (fn_a (by decide) (fn_a (by decide) fn_0)))).trans ((u69 215 i (fn_a (by omega) fn_0)).trans (u66 215 i (fn_a (by decide) (fn_a (by decide) fn_0)))))) (fun i _ => ((u75 241 i (fn_a (by decide) (fn_a (by decide) (fn_a (by decide) fn_0)))).trans ((u69 241 i (fn_a (by omega) fn_0)).trans (u66 241 i (fn_a (by decide) (fn_a (by decide) fn_0)))))))), gs116⟩ (by omega) (by omega)
    ·
      exfalso; omega
  ·
    have b68 := gi_b (lo := 0) (hi := 800) g66 1 1 rfl
    refine wk_h 19 (by decide) rfl ?_
    refine wr_asty (i := 7) (lo2 := [(7, .retAddr 0), (0, .ref 0), (1, vi ((xs i52).toInt)), (2, vi ((xs i55).toInt)), (3, vi ((xs i58).toInt)), (4, vi ((xs i61).toInt)), (5, vi ((xs i64).toInt)), (6, .ref 259)]) (nx := 21) (r1 := 0) (r2 := 0) (r3 := 0) rfl rfl ?_
    refine wi_iconst (n := 1) (nx := 22) (r1 := 0) (r2 := 0) (r3 := 0) rfl ?_
    refine wi_ireturn (nx := 23) (r1 := 0) (r2 := 0) (r3 := 0) rfl rfl ?_
    refine wk_i ?_
    refine wi_istore (i := 5) (e := 1) (lo2 := [(5, vi 1), (0, .ref 1000000), (1, .ref 0), (2, .ref 236), (3, .ref 259), (4, vi i)]) (nx := 325) (r1 := 0) (r2 := 0) (r3 := 0) rfl rfl ?_
    refine wi_aload_n (i := 2) (x := 236) (nx := 326) (r1 := 0) (r2 := 0) (r3 := 0) rfl rfl ?_
    refine wi_aload_n (i := 0) (x := 1000000) (nx := 327) (r1 := 0) (r2 := 0) (r3 := 0) rfl rfl ?_
    refine wi_iload (i := 4) (e := i) (nx := 329) (r1 := 0) (r2 := 0) (r3 := 0) rfl rfl ?_
    refine wi_iconst (n := 1) (nx := 330) (r1 := 0) (r2 := 0) (r3 := 0) rfl ?_
    refine wr_add (nx := 331) (r1 := 0) (r2 := 0) (r3 := 0) rfl (fun e69 (fe69 : e69 = i + 1) => ?_)
    refine wr_sc (a := e69) (f := i52) (nx := 332) (r1 := 0) (r2 := 0) (r3 := 0) rfl (by omega) (by omega) hL ?_
    refine wi_aload_n (i := 0) (x := 1000000) (nx := 333) (r1 := 0) (r2 := 0) (r3 := 0) rfl rfl ?_
    refine wi_iload (i := 4) (e := i) (nx := 335) (r1 := 0) (r2 := 0) (r3 := 0) rfl rfl ?_
    refine wi_iconst (n := 2) (nx := 336) (r1 := 0) (r2 := 0) (r3 := 0) rfl ?_
    refine wr_add (nx := 337) (r1 := 0) (r2 := 0) (r3 := 0) rfl (fun e70 (fe70 : e70 = i + 2) => ?_)
    refine wr_sc (a := e70) (f := i55) (nx := 338) (r1 := 0) (r2 := 0) (r3 := 0) rfl (by omega) (by omega) hL ?_
    refine wi_aload_n (i := 0) (x := 1000000) (nx := 339) (r1 := 0) (r2 := 0) (r3 := 0) rfl rfl ?_
    refine wi_iload (i := 4) (e := i) (nx := 341) (r1 := 0) (r2 := 0) (r3 := 0) rfl rfl ?_
    refine wi_iconst (n := 3) (nx := 342) (r1 := 0) (r2 := 0) (r3 := 0) rfl ?_
    refine wr_add (nx := 343) (r1 := 0) (r2 := 0) (r3 := 0) rfl (fun e71 (fe71 : e71 = i + 3) => ?_)
    refine wr_sc (a := e71) (f := i58) (nx := 344) (r1 := 0) (r2 := 0) (r3 := 0) rfl (by omega) (by omega) hL ?_
    refine wi_aload_n (i := 0) (x := 1000000) (nx := 345) (r1 := 0) (r2 := 0) (r3 := 0) rfl rfl ?_
    refine wi_iload (i := 4) (e := i) (nx := 347) (r1 := 0) (r2 := 0) (r3 := 0) rfl rfl ?_
    refine wi_iconst (n := 4) (nx := 348) (r1 := 0) (r2 := 0) (r3 := 0) rfl ?_
    refine wr_add (nx := 349) (r1 := 0) (r2 := 0) (r3 := 0) rfl (fun e72 (fe72 : e72 = i + 4) => ?_)
    refine wr_sc (a := e72) (f := i61) (nx := 350) (r1 := 0) (r2 := 0) (r3 := 0) rfl (by omega) (by omega) hL ?_
    refine wi_aload_n (i := 0) (x := 1000000) (nx := 351) (r1 := 0) (r2 := 0) (r3 := 0) rfl rfl ?_
    refine wi_iload (i := 4) (e := i) (nx := 353) (r1 := 0) (r2 := 0) (r3 := 0) rfl rfl ?_
    refine wi_iconst (n := 5) (nx := 354) (r1 := 0) (r2 := 0) (r3 := 0) rfl ?_
    refine wr_add (nx := 355) (r1 := 0) (r2 := 0) (r3 := 0) rfl (fun e73 (fe73 : e73 = i + 5) => ?_)
    refine wr_sc (a := e73) (f := i64) (nx := 356) (r1 := 0) (r2 := 0) (r3 := 0) rfl (by omega) (by omega) hL ?_
    refine wr_V (k0 := 236) (rest := []) (as := [.ref 236, vi ((xs i52).toInt), vi ((xs i55).toInt), vi ((xs i58).toInt), vi ((xs i61).toInt), vi ((xs i64).toInt)]) (nx := 359) (r1 := 205) (r2 := 5) (r3 := 11) rfl rfl rfl (of_decide_eq_true rfl) rfl rfl (by decide) rfl rfl (of_decide_eq_true rfl) (of_decide_eq_true rfl) ?_
    refine ct_205_236 hcr  g66 ((xs i52).toInt) ((xs i55).toInt) ((xs i58).toInt) ((xs i61).toInt) ((xs i64).toInt) (by omega) (by omega) (by omega) (by omega) (by omega)  (fun h74 z75 g74 u74 (fz75 : 0 ≤ z75 ∧ z75 ≤ 800) (p74_0 : ((h66 236 2) ≤ 780 ∧ (h74 236 0) = 0 ∧ (h74 236 2) = (h66 236 2) + 20 ∧ z75 = (h66 236 2) + 20) ∨ (781 ≤ (h66 236 2) ∧ (h74 236 0) = 1 ∧ (h74 236 2) = (h66 236 2))) y74_0 y74_1 => ?_)
    have e76 : h66 236 2 = h 236 2 := (u66 236 2 rfl)
    have b77 := gi_b (lo := 0) (hi := 2) g74 236 0 rfl
    have b78 := gi_b (lo := 0) (hi := 800) g74 236 2 rfl
    refine wk_i ?_
    rcases p74_0 with p74_0 | p74_0
    ·
      exfalso; omega
    ·
      refine wi_istore (i := 6) (e := z75) (lo2 := [(6, vi z75), (5, vi 1), (0, .ref 1000000), (1, .ref 0), (2, .ref 236), (3, .ref 259), (4, vi i)]) (nx := 361) (r1 := 0) (r2 := 0) (r3 := 0) rfl rfl ?_
      refine wi_goto (nx := 364) (r1 := 1529) (r2 := 0) (r3 := 0) rfl ?_
      refine wp.lo (lo := [(0, .ref 1000000), (1, .ref 0), (2, .ref 236), (3, .ref 259), (4, vi i)]) ⟨rfl, rfl, rfl, rfl, rfl, trivial⟩ rfl ?_
      have e79 : h74 238 98 = h 238 98 := ((u74 238 98 rfl).trans (u66 238 98 rfl))
      have e80 : h74 238 99 = h 238 99 := ((u74 238 99 rfl).trans (u66 238 99 rfl))
      have e81 : h74 238 100 = h 238 100 := ((u74 238 100 rfl).trans (u66 238 100 rfl))
      have e82 : h74 238 101 = h 238 101 := ((u74 238 101 rfl).trans (u66 238 101 rfl))
      have e83 : h74 238 102 = h 238 102 := ((u74 238 102 rfl).trans (u66 238 102 rfl))
      have e84 : h74 238 106 = h 238 106 := ((u74 238 106 rfl).trans (u66 238 106 rfl))
      have e85 : h74 238 73 = h 238 73 := ((u74 238 73 rfl).trans (u66 238 73 rfl))
      have e86 : h74 238 2 = h 238 2 := ((u74 238 2 rfl).trans (u66 238 2 rfl))
      have e87 : h74 238 119 = h 238 119 := ((u74 238 119 rfl).trans (u66 238 119 rfl))
      have e88 : h74 238 67 = h 238 67 := ((u74 238 67 rfl).trans (u66 238 67 rfl))
      have e89 : h74 238 69 = h 238 69 := ((u74 238 69 rfl).trans (u66 238 69 rfl))
      have e90 : h74 238 5 = h 238 5 := ((u74 238 5 rfl).trans (u66 238 5 rfl))
      have e91 : h74 241 98 = h 241 98 := ((u74 241 98 rfl).trans (u66 241 98 rfl))
      have e92 : h74 241 99 = h 241 99 := ((u74 241 99 rfl).trans (u66 241 99 rfl))
      have e93 : h74 241 100 = h 241 100 := ((u74 241 100 rfl).trans (u66 241 100 rfl))
      have e94 : h74 241 101 = h 241 101 := ((u74 241 101 rfl).trans (u66 241 101 rfl))
      have e95 : h74 241 102 = h 241 102 := ((u74 241 102 rfl).trans (u66 241 102 rfl))
      have e96 : h74 241 106 = h 241 106 := ((u74 241 106 rfl).trans (u66 241 106 rfl))
      have e97 : h74 241 73 = h 241 73 := ((u74 241 73 rfl).trans (u66 241 73 rfl))
      have e98 : h74 241 2 = h 241 2 := ((u74 241 2 rfl).trans (u66 241 2 rfl))
      have e99 : h74 241 119 = h 241 119 := ((u74 241 119 rfl).trans (u66 241 119 rfl))
      have e100 : h74 241 67 = h 241 67 := ((u74 241 67 rfl).trans (u66 241 67 rfl))
      have e101 : h74 241 69 = h 241 69 := ((u74 241 69 rfl).trans (u66 241 69 rfl))
      have e102 : h74 241 5 = h 241 5 := ((u74 241 5 rfl).trans (u66 241 5 rfl))
      have e103 : h74 1 1 = h66 1 1 := (u74 1 1 rfl)
      have e104 : h74 1 2 = h 1 2 := ((u74 1 2 rfl).trans (u66 1 2 rfl))
      have e105 : h74 236 10 = h 236 10 := ((u74 236 10 rfl).trans (u66 236 10 rfl))
      have e106 : h74 1 3 = h 1 3 := ((u74 1 3 rfl).trans (u66 1 3 rfl))
      have e107 : h74 236 11 = h 236 11 := ((u74 236 11 rfl).trans (u66 236 11 rfl))
      have gp108 := GPH.fr u66 rfl gp0
      have gp109 := GPH.fr u74 rfl gp108
      have b110 := gi_b (lo := 0) (hi := 5) g 241 0 rfl
      have b111 := gi_b (lo := 0) (hi := 4) g 241 1 rfl
      have gs112 := GPS.fr u66 rfl gs0
      have gs113 := GPS.fr u74 rfl gs112
      have e114 : h74 0 12 = h 0 12 := ((u74 0 12 rfl).trans (u66 0 12 rfl))
      have e115 : h74 236 21 = h 236 21 := ((u74 236 21 rfl).trans (u66 236 21 rfl))
      exact k h74 (b - 1) (c - 6) ⟨g74, (show h74 1 1 = h74 236 2 by omega), (RS.i0 (f := h74 238) (by refine ⟨?_, ?_, ?_, ?_, ?_⟩ <;> omega)), (RS.i0 (f := h74 241) (by refine ⟨?_, ?_, ?_, ?_, ?_⟩ <;> omega)), gp109, (BRh.keep br0 (fun i => (u74 2 i (fn_a (by decide) (fn_a (by decide) (fn_a (by decide) fn_0)))).trans ((ye66_0 i).trans rfl)) (fun i => rfl.trans ((y74_1 (by omega) i).trans (u66 237 i (fn_a (by decide) (fn_a (by decide) fn_0))))) (by omega)), (show h74 1 2 = h74 236 10 by omega), (show h74 1 3 = h74 236 11 by omega), (SVx.keep sv0 (by omega) (fun i _ => ((u74 3 i (fn_a (by decide) (fn_a (by decide) (fn_a (by decide) fn_0)))).trans (u66 3 i (fn_a (by decide) (fn_a (by decide) fn_0))))) (fun i _ => ((u74 5 i (fn_a (by decide) (fn_a (by decide) (fn_a (by decide) fn_0)))).trans (u66 5 i (fn_a (by decide) (fn_a (by decide) fn_0))))) (fun i _ => ((u74 6 i (fn_a (by decide) (fn_a (by decide) (fn_a (by decide) fn_0)))).trans (u66 6 i (fn_a (by decide) (fn_a (by decide) fn_0))))) (fun i _ => ((u74 8 i (fn_a (by decide) (fn_a (by decide) (fn_a (by decide) fn_0)))).trans (u66 8 i (fn_a (by decide) (fn_a (by decide) fn_0))))) (fun i _ => ((u74 238 i (fn_a (by decide) (fn_a (by decide) (fn_a (by decide) fn_0)))).trans (u66 238 i (fn_a (by decide) (fn_a (by decide) fn_0)))))), (show h74 0 12 = h74 236 21 by omega), (fun e => (SVx.keep (ss0 (by omega)) (by omega) (fun i _ => ((u74 210 i (fn_a (by decide) (fn_a (by decide) (fn_a (by decide) fn_0)))).trans (u66 210 i (fn_a (by decide) (fn_a (by decide) fn_0))))) (fun i _ => ((u74 212 i (fn_a (by decide) (fn_a (by decide) (fn_a (by decide) fn_0)))).trans (u66 212 i (fn_a (by decide) (fn_a (by decide) fn_0))))) (fun i _ => ((u74 213 i (fn_a (by decide) (fn_a (by decide) (fn_a (by decide) fn_0)))).trans (u66 213 i (fn_a (by decide) (fn_a (by decide) fn_0))))) (fun i _ => ((u74 215 i (fn_a (by decide) (fn_a (by decide) (fn_a (by decide) fn_0)))).trans (u66 215 i (fn_a (by decide) (fn_a (by decide) fn_0))))) (fun i _ => ((u74 241 i (fn_a (by decide) (fn_a (by decide) (fn_a (by decide) fn_0)))).trans (u66 241 i (fn_a (by decide) (fn_a (by decide) fn_0))))))), gs113⟩ (by omega) (by omega)
-- the law, case at 364
set_option maxRecDepth 100000 in
set_option maxHeartbeats 100000000 in
theorem lc_364 {L : Nat} {xs : Nat → Int32} {d b c : Nat} {h : hp} {cr : Nat → Nat → Option Nat} {Q : hp_Q} (hcr : CR cr) (hL : L ≤ 3072) (hr : 1 ≤ b ∧ 6 ≤ c) (I : LI h) (i : Int) (hi : 0 ≤ i ∧ i + 6 ≤ L) (k : ∀ (h2 : hp) (b2 c2 : Nat), LI h2 → b ≤ b2 + 1 → c ≤ c2 + 6 → wp (md_xa (L, xs)) (d + 107) 0 (1529, [(0, .ref 1000000), (1, .ref 0), (2, .ref 236), (3, .ref 259), (4, vi i)], [], hp_w h2 cr, b2, c2) Q) : wp (md_xa (L, xs)) (d + 107) 0 (364, [(0, .ref 1000000), (1, .ref 0), (2, .ref 236), (3, .ref 259), (4, vi i)], [], hp_w h cr, b, c) Q := by
  obtain ⟨g, i11, r238, r241, gp0, br0, er2, er3, sv0, sf0, ss0, gs0⟩ := I
  have r238e := r238.e0
  have r241e := r241.e0
  obtain ⟨⟨se0, se1, se2, se3, se4, se5, se6, se7, se8, se9⟩, -⟩ := id sv0
  have b1 := gi_b (lo := 0) (hi := 5) g 3 0 rfl
  have b2 := gi_b (lo := 0) (hi := 5) g 238 0 rfl
  have b3 := gi_b (lo := 0) (hi := 4) g 3 1 rfl
  have b4 := gi_b (lo := 0) (hi := 4) g 238 1 rfl
  have b5 := gi_b (lo := 0) (hi := 12) g 3 2 rfl
  have b6 := gi_b (lo := 0) (hi := 12) g 238 2 rfl
  have b7 := gi_b (lo := -2147483648) (hi := 2147483647) g 3 3 rfl
  have b8 := gi_b (lo := 0) (hi := 999) g 238 3 rfl
  have b9 := gi_b (lo := -2147483648) (hi := 2147483647) g 3 4 rfl
  have b10 := gi_b (lo := 0) (hi := 999) g 238 4 rfl
  have b11 := gi_b (lo := -2147483648) (hi := 2147483647) g 3 5 rfl
  have b12 := gi_b (lo := 0) (hi := 9) g 238 5 rfl
  have b13 := gi_b (lo := -2147483648) (hi := 2147483647) g 3 6 rfl
  have b14 := gi_b (lo := 0) (hi := 999) g 238 6 rfl
  have b15 := gi_b (lo := -2147483648) (hi := 2147483647) g 3 7 rfl
  have b16 := gi_b (lo := 0) (hi := 3) g 238 7 rfl
  have b17 := gi_b (lo := -2147483648) (hi := 2147483647) g 3 8 rfl
  have b18 := gi_b (lo := 0) (hi := 999) g 238 8 rfl
  have b19 := gi_b (lo := -2147483648) (hi := 2147483647) g 3 9 rfl
  have b20 := gi_b (lo := 0) (hi := 999) g 238 9 rfl
  have b21 := gi_b (lo := 0) (hi := 1) g 0 12 rfl
  have b22 := gi_b (lo := 0) (hi := 1) g 236 21 rfl
  have bl_ := gi_b (lo := 0) (hi := 800) g 1 1 rfl
  have tb0 : BufC (h 2) (h 1 1) h := ⟨fun _ => rfl, rfl, by omega, by omega⟩
  have b23 := gi_b (lo := 0) (hi := 6) g 238 98 rfl
  have b24 := gi_b (lo := 0) (hi := 6) g 238 99 rfl
  have b25 := gi_b (lo := 0) (hi := 6) g 238 100 rfl
  have b26 := gi_b (lo := 0) (hi := 6) g 238 101 rfl
  have b27 := gi_b (lo := 0) (hi := 3) g 238 102 rfl
  have b28 := gi_b (lo := 0) (hi := 12) g 238 106 rfl
  have b29 := gi_b (lo := 0) (hi := 12) g 238 73 rfl
  have b30 := gi_b (lo := 0) (hi := 9999) g 238 119 rfl
  have b31 := gi_b (lo := 0) (hi := 9999) g 238 67 rfl
  have b32 := gi_b (lo := 0) (hi := 9) g 238 69 rfl
  have b33 := gi_b (lo := 0) (hi := 6) g 241 98 rfl
  have b34 := gi_b (lo := 0) (hi := 6) g 241 99 rfl
  have b35 := gi_b (lo := 0) (hi := 6) g 241 100 rfl
  have b36 := gi_b (lo := 0) (hi := 6) g 241 101 rfl
  have b37 := gi_b (lo := 0) (hi := 3) g 241 102 rfl
  have b38 := gi_b (lo := 0) (hi := 12) g 241 106 rfl
  have b39 := gi_b (lo := 0) (hi := 12) g 241 73 rfl
  have b40 := gi_b (lo := 0) (hi := 12) g 241 2 rfl
  have b41 := gi_b (lo := 0) (hi := 9999) g 241 119 rfl
  have b42 := gi_b (lo := 0) (hi := 9999) g 241 67 rfl
  have b43 := gi_b (lo := 0) (hi := 9) g 241 69 rfl
  have b44 := gi_b (lo := 0) (hi := 9) g 241 5 rfl
  have b45 := gi_b (lo := 0) (hi := 800) g 1 1 rfl
  have b46 := gi_b (lo := 0) (hi := 800) g 236 2 rfl
  have b47 := gi_b (lo := -2147483648) (hi := 2147483647) g 1 2 rfl
  have b48 := gi_b (lo := -2147483648) (hi := 2147483647) g 236 10 rfl
  have b49 := gi_b (lo := -2147483648) (hi := 2147483647) g 1 3 rfl
  have b50 := gi_b (lo := -2147483648) (hi := 2147483647) g 236 11 rfl
  refine wi_aload_n (i := 1) (x := 0) (nx := 365) (r1 := 0) (r2 := 0) (r3 := 0) rfl rfl ?_
  refine wi_aload_n (i := 0) (x := 1000000) (nx := 366) (r1 := 0) (r2 := 0) (r3 := 0) rfl rfl ?_
  refine wi_iload (i := 4) (e := i) (nx := 368) (r1 := 0) (r2 := 0) (r3 := 0) rfl rfl ?_
  refine wi_iconst (n := 1) (nx := 369) (r1 := 0) (r2 := 0) (r3 := 0) rfl ?_
  refine wr_add (nx := 370) (r1 := 0) (r2 := 0) (r3 := 0) rfl (fun e51 (fe51 : e51 = i + 1) => ?_)
  obtain ⟨i52, ei52⟩ : ∃ q : Nat, e51 = (q : Int) := ⟨(e51).toNat, by omega⟩
  have s53 := sc_b (xs i52)
  refine wr_sc (a := e51) (f := i52) (nx := 371) (r1 := 0) (r2 := 0) (r3 := 0) rfl (by omega) (by omega) hL ?_
  refine wi_aload_n (i := 3) (x := 259) (nx := 372) (r1 := 0) (r2 := 0) (r3 := 0) rfl rfl ?_
  refine wi_S (rest := []) (as := [.ref 0, vi ((xs i52).toInt), .ref 259]) (nx := 375) (r1 := 2) (r2 := 19) (r3 := 0) rfl rfl rfl (of_decide_eq_true rfl) rfl rfl (of_decide_eq_true rfl) (of_decide_eq_true rfl) ?_
  refine wi_aload_n (i := 2) (x := 259) (nx := 1) (r1 := 0) (r2 := 0) (r3 := 0) rfl rfl ?_
  refine wi_iconst (n := 0) (nx := 2) (r1 := 0) (r2 := 0) (r3 := 0) rfl ?_
  refine wi_aload_n (i := 0) (x := 0) (nx := 3) (r1 := 0) (r2 := 0) (r3 := 0) rfl rfl ?_
  refine wi_iload_n (i := 1) (e := (xs i52).toInt) (nx := 4) (r1 := 0) (r2 := 0) (r3 := 0) rfl rfl ?_
  refine wr_V (k0 := 0) (rest := [vi 0, .ref 259]) (as := [.ref 0, vi ((xs i52).toInt)]) (nx := 7) (r1 := 62) (r2 := 1) (r3 := 0) rfl rfl rfl (of_decide_eq_true rfl) rfl rfl (by decide) rfl rfl (of_decide_eq_true rfl) (of_decide_eq_true rfl) ?_
  refine ct_62_0 hcr hr  g ((xs i52).toInt) (by omega)  (fun h54 z55 g54 u54 (fz55 : 0 ≤ z55 ∧ z55 ≤ 800) (p54_0 : 0 ≤ ((xs i52).toInt) ∧ ((xs i52).toInt) ≤ (h 1 1)) (p54_1 : (h54 1 1) = ((xs i52).toInt)) (p54_2 : z55 = ((xs i52).toInt)) => ?_) (fun h54 g54 u54 (pe54_0 : ((xs i52).toInt) < 0 ∨ (h 1 1) < ((xs i52).toInt)) (pe54_1 : (h54 1 1) = (h 1 1)) => ?_)
  ·
    have b56 := gi_b (lo := 0) (hi := 800) g54 1 1 rfl
    refine wk_i ?_
    refine wi_i2l (nx := 8) (r1 := 0) (r2 := 0) (r3 := 0) rfl (by omega) ?_
    refine wr_ls (k0 := 259) (a := 0) (f := 0) (x := z55) (bl := -9223372036854775808) (bh := 9223372036854775807) (nx := 9) (r1 := 0) (r2 := 0) (r3 := 0) rfl (by decide) rfl (by omega) (by omega) (by decide) g54 rfl (by omega) (fun h57 g57 w57 u57 => ?_)
    refine wi_goto (nx := 12) (r1 := 15) (r2 := 0) (r3 := 0) rfl ?_
    refine wi_iconst (n := 0) (nx := 16) (r1 := 0) (r2 := 0) (r3 := 0) rfl ?_
    refine wi_ireturn (nx := 17) (r1 := 0) (r2 := 0) (r3 := 0) rfl rfl ?_
    refine wk_i ?_
    refine wi_istore (i := 5) (e := 0) (lo2 := [(5, vi 0), (0, .ref 1000000), (1, .ref 0), (2, .ref 236), (3, .ref 259), (4, vi i)]) (nx := 377) (r1 := 0) (r2 := 0) (r3 := 0) rfl rfl ?_
    refine wi_aload_n (i := 2) (x := 236) (nx := 378) (r1 := 0) (r2 := 0) (r3 := 0) rfl rfl ?_
    refine wi_aload_n (i := 0) (x := 1000000) (nx := 379) (r1 := 0) (r2 := 0) (r3 := 0) rfl rfl ?_
    refine wi_iload (i := 4) (e := i) (nx := 381) (r1 := 0) (r2 := 0) (r3 := 0) rfl rfl ?_
    refine wi_iconst (n := 1) (nx := 382) (r1 := 0) (r2 := 0) (r3 := 0) rfl ?_
    refine wr_add (nx := 383) (r1 := 0) (r2 := 0) (r3 := 0) rfl (fun e58 (fe58 : e58 = i + 1) => ?_)
    refine wr_sc (a := e58) (f := i52) (nx := 384) (r1 := 0) (r2 := 0) (r3 := 0) rfl (by omega) (by omega) hL ?_
    refine wr_V (k0 := 236) (rest := []) (as := [.ref 236, vi ((xs i52).toInt)]) (nx := 387) (r1 := 209) (r2 := 1) (r3 := 11) rfl rfl rfl (of_decide_eq_true rfl) rfl rfl (by decide) rfl rfl (of_decide_eq_true rfl) (of_decide_eq_true rfl) ?_
    refine ct_209_236 hcr  g57 ((xs i52).toInt) (by omega)  (fun h59 z60 g59 u59 (fz60 : 0 ≤ z60 ∧ z60 ≤ 800) (p59_0 : (0 ≤ ((xs i52).toInt) ∧ ((xs i52).toInt) ≤ (h57 236 2) ∧ (h59 236 0) = 0 ∧ (h59 236 2) = ((xs i52).toInt) ∧ z60 = ((xs i52).toInt)) ∨ ((((xs i52).toInt) < 0 ∨ (h57 236 2) < ((xs i52).toInt)) ∧ (h59 236 0) = 1 ∧ (h59 236 2) = (h57 236 2))) => ?_)
    have e61 : h57 236 2 = h 236 2 := ((u57 236 2 rfl).trans (u54 236 2 rfl))
    have b62 := gi_b (lo := 0) (hi := 2) g59 236 0 rfl
    have b63 := gi_b (lo := 0) (hi := 800) g59 236 2 rfl
    refine wk_i ?_
    rcases p59_0 with p59_0 | p59_0
    ·
      refine wi_istore (i := 6) (e := z60) (lo2 := [(6, vi z60), (5, vi 0), (0, .ref 1000000), (1, .ref 0), (2, .ref 236), (3, .ref 259), (4, vi i)]) (nx := 389) (r1 := 0) (r2 := 0) (r3 := 0) rfl rfl ?_
      refine wi_goto (nx := 392) (r1 := 1529) (r2 := 0) (r3 := 0) rfl ?_
      refine wp.lo (lo := [(0, .ref 1000000), (1, .ref 0), (2, .ref 236), (3, .ref 259), (4, vi i)]) ⟨rfl, rfl, rfl, rfl, rfl, trivial⟩ rfl ?_
      have e64 : h59 238 98 = h 238 98 := ((u59 238 98 rfl).trans ((u57 238 98 rfl).trans (u54 238 98 rfl)))
      have e65 : h59 238 99 = h 238 99 := ((u59 238 99 rfl).trans ((u57 238 99 rfl).trans (u54 238 99 rfl)))
      have e66 : h59 238 100 = h 238 100 := ((u59 238 100 rfl).trans ((u57 238 100 rfl).trans (u54 238 100 rfl)))
      have e67 : h59 238 101 = h 238 101 := ((u59 238 101 rfl).trans ((u57 238 101 rfl).trans (u54 238 101 rfl)))
      have e68 : h59 238 102 = h 238 102 := ((u59 238 102 rfl).trans ((u57 238 102 rfl).trans (u54 238 102 rfl)))
      have e69 : h59 238 106 = h 238 106 := ((u59 238 106 rfl).trans ((u57 238 106 rfl).trans (u54 238 106 rfl)))
      have e70 : h59 238 73 = h 238 73 := ((u59 238 73 rfl).trans ((u57 238 73 rfl).trans (u54 238 73 rfl)))
      have e71 : h59 238 2 = h 238 2 := ((u59 238 2 rfl).trans ((u57 238 2 rfl).trans (u54 238 2 rfl)))
      have e72 : h59 238 119 = h 238 119 := ((u59 238 119 rfl).trans ((u57 238 119 rfl).trans (u54 238 119 rfl)))
      have e73 : h59 238 67 = h 238 67 := ((u59 238 67 rfl).trans ((u57 238 67 rfl).trans (u54 238 67 rfl)))
      have e74 : h59 238 69 = h 238 69 := ((u59 238 69 rfl).trans ((u57 238 69 rfl).trans (u54 238 69 rfl)))
      have e75 : h59 238 5 = h 238 5 := ((u59 238 5 rfl).trans ((u57 238 5 rfl).trans (u54 238 5 rfl)))
      have e76 : h59 241 98 = h 241 98 := ((u59 241 98 rfl).trans ((u57 241 98 rfl).trans (u54 241 98 rfl)))
      have e77 : h59 241 99 = h 241 99 := ((u59 241 99 rfl).trans ((u57 241 99 rfl).trans (u54 241 99 rfl)))
      have e78 : h59 241 100 = h 241 100 := ((u59 241 100 rfl).trans ((u57 241 100 rfl).trans (u54 241 100 rfl)))
      have e79 : h59 241 101 = h 241 101 := ((u59 241 101 rfl).trans ((u57 241 101 rfl).trans (u54 241 101 rfl)))
      have e80 : h59 241 102 = h 241 102 := ((u59 241 102 rfl).trans ((u57 241 102 rfl).trans (u54 241 102 rfl)))
      have e81 : h59 241 106 = h 241 106 := ((u59 241 106 rfl).trans ((u57 241 106 rfl).trans (u54 241 106 rfl)))
      have e82 : h59 241 73 = h 241 73 := ((u59 241 73 rfl).trans ((u57 241 73 rfl).trans (u54 241 73 rfl)))
      have e83 : h59 241 2 = h 241 2 := ((u59 241 2 rfl).trans ((u57 241 2 rfl).trans (u54 241 2 rfl)))
      have e84 : h59 241 119 = h 241 119 := ((u59 241 119 rfl).trans ((u57 241 119 rfl).trans (u54 241 119 rfl)))
      have e85 : h59 241 67 = h 241 67 := ((u59 241 67 rfl).trans ((u57 241 67 rfl).trans (u54 241 67 rfl)))
      have e86 : h59 241 69 = h 241 69 := ((u59 241 69 rfl).trans ((u57 241 69 rfl).trans (u54 241 69 rfl)))
      have e87 : h59 241 5 = h 241 5 := ((u59 241 5 rfl).trans ((u57 241 5 rfl).trans (u54 241 5 rfl)))
      have e88 : h59 1 1 = h54 1 1 := ((u59 1 1 rfl).trans (u57 1 1 rfl))
      have e89 : h59 1 2 = h 1 2 := ((u59 1 2 rfl).trans ((u57 1 2 rfl).trans (u54 1 2 rfl)))
      have e90 : h59 236 10 = h 236 10 := ((u59 236 10 rfl).trans ((u57 236 10 rfl).trans (u54 236 10 rfl)))
      have e91 : h59 1 3 = h 1 3 := ((u59 1 3 rfl).trans ((u57 1 3 rfl).trans (u54 1 3 rfl)))
      have e92 : h59 236 11 = h 236 11 := ((u59 236 11 rfl).trans ((u57 236 11 rfl).trans (u54 236 11 rfl)))
      have gp93 := GPH.fr u54 rfl gp0
      have gp94 := GPH.fr u57 rfl gp93
      have gp95 := GPH.fr u59 rfl gp94
      have b96 := gi_b (lo := 0) (hi := 5) g 241 0 rfl
      have b97 := gi_b (lo := 0) (hi := 4) g 241 1 rfl
      have gs98 := GPS.fr u54 rfl gs0
      have gs99 := GPS.fr u57 rfl gs98
      have gs100 := GPS.fr u59 rfl gs99
      have e101 : h59 0 12 = h 0 12 := ((u59 0 12 rfl).trans ((u57 0 12 rfl).trans (u54 0 12 rfl)))
      have e102 : h59 236 21 = h 236 21 := ((u59 236 21 rfl).trans ((u57 236 21 rfl).trans (u54 236 21 rfl)))
      exact k h59 b c ⟨g59, (show h59 1 1 = h59 236 2 by omega), (RS.i0 (f := h59 238) (by refine ⟨?_, ?_, ?_, ?_, ?_⟩ <;> omega)), (RS.i0 (f := h59 241) (by refine ⟨?_, ?_, ?_, ?_, ?_⟩ <;> omega)), gp95, (BRh.keep br0 (fun i => ((u59 2 i (fn_a (by decide) (fn_a (by decide) fn_0))).trans ((u57 2 i (fn_a (by omega) fn_0)).trans (u54 2 i (fn_a (by decide) fn_0))))) (fun i => ((u59 237 i (fn_a (by decide) (fn_a (by decide) fn_0))).trans ((u57 237 i (fn_a (by omega) fn_0)).trans (u54 237 i (fn_a (by decide) fn_0))))) (by omega)), (show h59 1 2 = h59 236 10 by omega), (show h59 1 3 = h59 236 11 by omega), (SVx.keep sv0 (by omega) (fun i _ => ((u59 3 i (fn_a (by decide) (fn_a (by decide) fn_0))).trans ((u57 3 i (fn_a (by omega) fn_0)).trans (u54 3 i (fn_a (by decide) fn_0))))) (fun i _ => ((u59 5 i (fn_a (by decide) (fn_a (by decide) fn_0))).trans ((u57 5 i (fn_a (by omega) fn_0)).trans (u54 5 i (fn_a (by decide) fn_0))))) (fun i _ => ((u59 6 i (fn_a (by decide) (fn_a (by decide) fn_0))).trans ((u57 6 i (fn_a (by omega) fn_0)).trans (u54 6 i (fn_a (by decide) fn_0))))) (fun i _ => ((u59 8 i (fn_a (by decide) (fn_a (by decide) fn_0))).trans ((u57 8 i (fn_a (by omega) fn_0)).trans (u54 8 i (fn_a (by decide) fn_0))))) (fun i _ => ((u59 238 i (fn_a (by decide) (fn_a (by decide) fn_0))).trans ((u57 238 i (fn_a (by omega) fn_0)).trans (u54 238 i (fn_a (by decide) fn_0)))))), (show h59 0 12 = h59 236 21 by omega), (fun e => (SVx.keep (ss0 (by omega)) (by omega) (fun i _ => ((u59 210 i (fn_a (by decide) (fn_a (by decide) fn_0))).trans ((u57 210 i (fn_a (by omega) fn_0)).trans (u54 210 i (fn_a (by decide) fn_0))))) (fun i _ => ((u59 212 i (fn_a (by decide) (fn_a (by decide) fn_0))).trans ((u57 212 i (fn_a (by omega) fn_0)).trans (u54 212 i (fn_a (by decide) fn_0))))) (fun i _ => ((u59 213 i (fn_a (by decide) (fn_a (by decide) fn_0))).trans ((u57 213 i (fn_a (by omega) fn_0)).trans (u54 213 i (fn_a (by decide) fn_0))))) (fun i _ => ((u59 215 i (fn_a (by decide) (fn_a (by decide) fn_0))).trans ((u57 215 i (fn_a (by omega) fn_0)).trans (u54 215 i (fn_a (by decide) fn_0))))) (fun i _ => ((u59 241 i (fn_a (by decide) (fn_a (by decide) fn_0))).trans ((u57 241 i (fn_a (by omega) fn_0)).trans (u54 241 i (fn_a (by decide) fn_0))))))), gs100⟩ (by omega) (by omega)
    ·
      exfalso; omega
  ·
    have b56 := gi_b (lo := 0) (hi := 800) g54 1 1 rfl
    refine wk_h 12 (by decide) rfl ?_
    refine wr_astx (i := 3) (lo2 := [(3, .retAddr 0), (0, .ref 0), (1, vi ((xs i52).toInt)), (2, .ref 259)]) (nx := 13) (r1 := 0) (r2 := 0) (r3 := 0) rfl rfl ?_
    refine wi_iconst (n := 1) (nx := 14) (r1 := 0) (r2 := 0) (r3 := 0) rfl ?_
    refine wi_ireturn (nx := 15) (r1 := 0) (r2 := 0) (r3 := 0) rfl rfl ?_
    refine wk_i ?_
    refine wi_istore (i := 5) (e := 1) (lo2 := [(5, vi 1), (0, .ref 1000000), (1, .ref 0), (2, .ref 236), (3, .ref 259), (4, vi i)]) (nx := 377) (r1 := 0) (r2 := 0) (r3 := 0) rfl rfl ?_
    refine wi_aload_n (i := 2) (x := 236) (nx := 378) (r1 := 0) (r2 := 0) (r3 := 0) rfl rfl ?_
    refine wi_aload_n (i := 0) (x := 1000000) (nx := 379) (r1 := 0) (r2 := 0) (r3 := 0) rfl rfl ?_
    refine wi_iload (i := 4) (e := i) (nx := 381) (r1 := 0) (r2 := 0) (r3 := 0) rfl rfl ?_
    refine wi_iconst (n := 1) (nx := 382) (r1 := 0) (r2 := 0) (r3 := 0) rfl ?_
    refine wr_add (nx := 383) (r1 := 0) (r2 := 0) (r3 := 0) rfl (fun e57 (fe57 : e57 = i + 1) => ?_)
    refine wr_sc (a := e57) (f := i52) (nx := 384) (r1 := 0) (r2 := 0) (r3 := 0) rfl (by omega) (by omega) hL ?_
    refine wr_V (k0 := 236) (rest := []) (as := [.ref 236, vi ((xs i52).toInt)]) (nx := 387) (r1 := 209) (r2 := 1) (r3 := 11) rfl rfl rfl (of_decide_eq_true rfl) rfl rfl (by decide) rfl rfl (of_decide_eq_true rfl) (of_decide_eq_true rfl) ?_
    refine ct_209_236 hcr  g54 ((xs i52).toInt) (by omega)  (fun h58 z59 g58 u58 (fz59 : 0 ≤ z59 ∧ z59 ≤ 800) (p58_0 : (0 ≤ ((xs i52).toInt) ∧ ((xs i52).toInt) ≤ (h54 236 2) ∧ (h58 236 0) = 0 ∧ (h58 236 2) = ((xs i52).toInt) ∧ z59 = ((xs i52).toInt)) ∨ ((((xs i52).toInt) < 0 ∨ (h54 236 2) < ((xs i52).toInt)) ∧ (h58 236 0) = 1 ∧ (h58 236 2) = (h54 236 2))) => ?_)
    have e60 : h54 236 2 = h 236 2 := (u54 236 2 rfl)
    have b61 := gi_b (lo := 0) (hi := 2) g58 236 0 rfl
    have b62 := gi_b (lo := 0) (hi := 800) g58 236 2 rfl
    refine wk_i ?_
    rcases p58_0 with p58_0 | p58_0
    ·
      exfalso; omega
    ·
      refine wi_istore (i := 6) (e := z59) (lo2 := [(6, vi z59), (5, vi 1), (0, .ref 1000000), (1, .ref 0), (2, .ref 236), (3, .ref 259), (4, vi i)]) (nx := 389) (r1 := 0) (r2 := 0) (r3 := 0) rfl rfl ?_
      refine wi_goto (nx := 392) (r1 := 1529) (r2 := 0) (r3 := 0) rfl ?_
      refine wp.lo (lo := [(0, .ref 1000000), (1, .ref 0), (2, .ref 236), (3, .ref 259), (4, vi i)]) ⟨rfl, rfl, rfl, rfl, rfl, trivial⟩ rfl ?_
      have e63 : h58 238 98 = h 238 98 := ((u58 238 98 rfl).trans (u54 238 98 rfl))
      have e64 : h58 238 99 = h 238 99 := ((u58 238 99 rfl).trans (u54 238 99 rfl))
      have e65 : h58 238 100 = h 238 100 := ((u58 238 100 rfl).trans (u54 238 100 rfl))
      have e66 : h58 238 101 = h 238 101 := ((u58 238 101 rfl).trans (u54 238 101 rfl))
      have e67 : h58 238 102 = h 238 102 := ((u58 238 102 rfl).trans (u54 238 102 rfl))
      have e68 : h58 238 106 = h 238 106 := ((u58 238 106 rfl).trans (u54 238 106 rfl))
      have e69 : h58 238 73 = h 238 73 := ((u58 238 73 rfl).trans (u54 238 73 rfl))
      have e70 : h58 238 2 = h 238 2 := ((u58 238 2 rfl).trans (u54 238 2 rfl))
      have e71 : h58 238 119 = h 238 119 := ((u58 238 119 rfl).trans (u54 238 119 rfl))
      have e72 : h58 238 67 = h 238 67 := ((u58 238 67 rfl).trans (u54 238 67 rfl))
      have e73 : h58 238 69 = h 238 69 := ((u58 238 69 rfl).trans (u54 238 69 rfl))
      have e74 : h58 238 5 = h 238 5 := ((u58 238 5 rfl).trans (u54 238 5 rfl))
      have e75 : h58 241 98 = h 241 98 := ((u58 241 98 rfl).trans (u54 241 98 rfl))
      have e76 : h58 241 99 = h 241 99 := ((u58 241 99 rfl).trans (u54 241 99 rfl))
      have e77 : h58 241 100 = h 241 100 := ((u58 241 100 rfl).trans (u54 241 100 rfl))
      have e78 : h58 241 101 = h 241 101 := ((u58 241 101 rfl).trans (u54 241 101 rfl))
      have e79 : h58 241 102 = h 241 102 := ((u58 241 102 rfl).trans (u54 241 102 rfl))
      have e80 : h58 241 106 = h 241 106 := ((u58 241 106 rfl).trans (u54 241 106 rfl))
      have e81 : h58 241 73 = h 241 73 := ((u58 241 73 rfl).trans (u54 241 73 rfl))
      have e82 : h58 241 2 = h 241 2 := ((u58 241 2 rfl).trans (u54 241 2 rfl))
      have e83 : h58 241 119 = h 241 119 := ((u58 241 119 rfl).trans (u54 241 119 rfl))
      have e84 : h58 241 67 = h 241 67 := ((u58 241 67 rfl).trans (u54 241 67 rfl))
      have e85 : h58 241 69 = h 241 69 := ((u58 241 69 rfl).trans (u54 241 69 rfl))
      have e86 : h58 241 5 = h 241 5 := ((u58 241 5 rfl).trans (u54 241 5 rfl))
      have e87 : h58 1 1 = h54 1 1 := (u58 1 1 rfl)
      have e88 : h58 1 2 = h 1 2 := ((u58 1 2 rfl).trans (u54 1 2 rfl))
      have e89 : h58 236 10 = h 236 10 := ((u58 236 10 rfl).trans (u54 236 10 rfl))
      have e90 : h58 1 3 = h 1 3 := ((u58 1 3 rfl).trans (u54 1 3 rfl))
      have e91 : h58 236 11 = h 236 11 := ((u58 236 11 rfl).trans (u54 236 11 rfl))
      have gp92 := GPH.fr u54 rfl gp0
      have gp93 := GPH.fr u58 rfl gp92
      have b94 := gi_b (lo := 0) (hi := 5) g 241 0 rfl
      have b95 := gi_b (lo := 0) (hi := 4) g 241 1 rfl
      have gs96 := GPS.fr u54 rfl gs0
      have gs97 := GPS.fr u58 rfl gs96
      have e98 : h58 0 12 = h 0 12 := ((u58 0 12 rfl).trans (u54 0 12 rfl))
      have e99 : h58 236 21 = h 236 21 := ((u58 236 21 rfl).trans (u54 236 21 rfl))
      exact k h58 (b - 1) (c - 6) ⟨g58, (show h58 1 1 = h58 236 2 by omega), (RS.i0 (f := h58 238) (by refine ⟨?_, ?_, ?_, ?_, ?_⟩ <;> omega)), (RS.i0 (f := h58 241) (by refine ⟨?_, ?_, ?_, ?_, ?_⟩ <;> omega)), gp93, (BRh.keep br0 (fun i => ((u58 2 i (fn_a (by decide) (fn_a (by decide) fn_0))).trans (u54 2 i (fn_a (by decide) fn_0)))) (fun i => ((u58 237 i (fn_a (by decide) (fn_a (by decide) fn_0))).trans (u54 237 i (fn_a (by decide) fn_0)))) (by omega)), (show h58 1 2 = h58 236 10 by omega), (show h58 1 3 = h58 236 11 by omega), (SVx.keep sv0 (by omega) (fun i _ => ((u58 3 i (fn_a (by decide) (fn_a (by decide) fn_0))).trans (u54 3 i (fn_a (by decide) fn_0)))) (fun i _ => ((u58 5 i (fn_a (by decide) (fn_a (by decide) fn_0))).trans (u54 5 i (fn_a (by decide) fn_0)))) (fun i _ => ((u58 6 i (fn_a (by decide) (fn_a (by decide) fn_0))).trans (u54 6 i (fn_a (by decide) fn_0)))) (fun i _ => ((u58 8 i (fn_a (by decide) (fn_a (by decide) fn_0))).trans (u54 8 i (fn_a (by decide) fn_0)))) (fun i _ => ((u58 238 i (fn_a (by decide) (fn_a (by decide) fn_0))).trans (u54 238 i (fn_a (by decide) fn_0))))), (show h58 0 12 = h58 236 21 by omega), (fun e => (SVx.keep (ss0 (by omega)) (by omega) (fun i _ => ((u58 210 i (fn_a (by decide) (fn_a (by decide) fn_0))).trans (u54 210 i (fn_a (by decide) fn_0)))) (fun i _ => ((u58 212 i (fn_a (by decide) (fn_a (by decide) fn_0))).trans (u54 212 i (fn_a (by decide) fn_0)))) (fun i _ => ((u58 213 i (fn_a (by decide) (fn_a (by decide) fn_0))).trans (u54 213 i (fn_a (by decide) fn_0)))) (fun i _ => ((u58 215 i (fn_a (by decide) (fn_a (by decide) fn_0))).trans (u54 215 i (fn_a (by decide) fn_0)))) (fun i _ => ((u58 241 i (fn_a (by decide) (fn_a (by decide) fn_0))).trans (u54 241 i (fn_a (by decide) fn_0)))))), gs97⟩ (by omega) (by omega)
-- the law, case at 392
set_option maxRecDepth 100000 in
set_option maxHeartbeats 100000000 in
theorem lc_392 {L : Nat} {xs : Nat → Int32} {d b c : Nat} {h : hp} {cr : Nat → Nat → Option Nat} {Q : hp_Q} (hcr : CR cr) (hL : L ≤ 3072) (hr : 1 ≤ b ∧ 6 ≤ c) (I : LI h) (i : Int) (hi : 0 ≤ i ∧ i + 6 ≤ L) (k : ∀ (h2 : hp) (b2 c2 : Nat), LI h2 → b ≤ b2 + 1 → c ≤ c2 + 6 → wp (md_xa (L, xs)) (d + 107) 0 (1529, [(0, .ref 1000000), (1, .ref 0), (2, .ref 236), (3, .ref 259), (4, vi i)], [], hp_w h2 cr, b2, c2) Q) : wp (md_xa (L, xs)) (d + 107) 0 (392, [(0, .ref 1000000), (1, .ref 0), (2, .ref 236), (3, .ref 259), (4, vi i)], [], hp_w h cr, b, c) Q := by
  obtain ⟨g, i11, r238, r241, gp0, br0, er2, er3, sv0, sf0, ss0, gs0⟩ := I
  have r238e := r238.e0
  have r241e := r241.e0
  obtain ⟨⟨se0, se1, se2, se3, se4, se5, se6, se7, se8, se9⟩, -⟩ := id sv0
  have b1 := gi_b (lo := 0) (hi := 5) g 3 0 rfl
  have b2 := gi_b (lo := 0) (hi := 5) g 238 0 rfl
  have b3 := gi_b (lo := 0) (hi := 4) g 3 1 rfl
  have b4 := gi_b (lo := 0) (hi := 4) g 238 1 rfl
  have b5 := gi_b (lo := 0) (hi := 12) g 3 2 rfl
  have b6 := gi_b (lo := 0) (hi := 12) g 238 2 rfl
  have b7 := gi_b (lo := -2147483648) (hi := 2147483647) g 3 3 rfl
  have b8 := gi_b (lo := 0) (hi := 999) g 238 3 rfl
  have b9 := gi_b (lo := -2147483648) (hi := 2147483647) g 3 4 rfl
  have b10 := gi_b (lo := 0) (hi := 999) g 238 4 rfl
  have b11 := gi_b (lo := -2147483648) (hi := 2147483647) g 3 5 rfl
  have b12 := gi_b (lo := 0) (hi := 9) g 238 5 rfl
  have b13 := gi_b (lo := -2147483648) (hi := 2147483647) g 3 6 rfl
  have b14 := gi_b (lo := 0) (hi := 999) g 238 6 rfl
  have b15 := gi_b (lo := -2147483648) (hi := 2147483647) g 3 7 rfl
  have b16 := gi_b (lo := 0) (hi := 3) g 238 7 rfl
  have b17 := gi_b (lo := -2147483648) (hi := 2147483647) g 3 8 rfl
  have b18 := gi_b (lo := 0) (hi := 999) g 238 8 rfl
  have b19 := gi_b (lo := -2147483648) (hi := 2147483647) g 3 9 rfl
  have b20 := gi_b (lo := 0) (hi := 999) g 238 9 rfl
  have b21 := gi_b (lo := 0) (hi := 1) g 0 12 rfl
  have b22 := gi_b (lo := 0) (hi := 1) g 236 21 rfl
  have bl_ := gi_b (lo := 0) (hi := 800) g 1 1 rfl
  have tb0 : BufC (h 2) (h 1 1) h := ⟨fun _ => rfl, rfl, by omega, by omega⟩
  have b23 := gi_b (lo := 0) (hi := 6) g 238 98 rfl
  have b24 := gi_b (lo := 0) (hi := 6) g 238 99 rfl
  have b25 := gi_b (lo := 0) (hi := 6) g 238 100 rfl
  have b26 := gi_b (lo := 0) (hi := 6) g 238 101 rfl
  have b27 := gi_b (lo := 0) (hi := 3) g 238 102 rfl
  have b28 := gi_b (lo := 0) (hi := 12) g 238 106 rfl
  have b29 := gi_b (lo := 0) (hi := 12) g 238 73 rfl
  have b30 := gi_b (lo := 0) (hi := 9999) g 238 119 rfl
  have b31 := gi_b (lo := 0) (hi := 9999) g 238 67 rfl
  have b32 := gi_b (lo := 0) (hi := 9) g 238 69 rfl
  have b33 := gi_b (lo := 0) (hi := 6) g 241 98 rfl
  have b34 := gi_b (lo := 0) (hi := 6) g 241 99 rfl
  have b35 := gi_b (lo := 0) (hi := 6) g 241 100 rfl
  have b36 := gi_b (lo := 0) (hi := 6) g 241 101 rfl
  have b37 := gi_b (lo := 0) (hi := 3) g 241 102 rfl
  have b38 := gi_b (lo := 0) (hi := 12) g 241 106 rfl
  have b39 := gi_b (lo := 0) (hi := 12) g 241 73 rfl
  have b40 := gi_b (lo := 0) (hi := 12) g 241 2 rfl
  have b41 := gi_b (lo := 0) (hi := 9999) g 241 119 rfl
  have b42 := gi_b (lo := 0) (hi := 9999) g 241 67 rfl
  have b43 := gi_b (lo := 0) (hi := 9) g 241 69 rfl
  have b44 := gi_b (lo := 0) (hi := 9) g 241 5 rfl
  have b45 := gi_b (lo := 0) (hi := 800) g 1 1 rfl
  have b46 := gi_b (lo := 0) (hi := 800) g 236 2 rfl
  have b47 := gi_b (lo := -2147483648) (hi := 2147483647) g 1 2 rfl
  have b48 := gi_b (lo := -2147483648) (hi := 2147483647) g 236 10 rfl
  have b49 := gi_b (lo := -2147483648) (hi := 2147483647) g 1 3 rfl
  have b50 := gi_b (lo := -2147483648) (hi := 2147483647) g 236 11 rfl
  refine wi_aload_n (i := 1) (x := 0) (nx := 393) (r1 := 0) (r2 := 0) (r3 := 0) rfl rfl ?_
  refine wi_aload_n (i := 3) (x := 259) (nx := 394) (r1 := 0) (r2 := 0) (r3 := 0) rfl rfl ?_
  refine wi_S (rest := []) (as := [.ref 0, .ref 259]) (nx := 397) (r1 := 3) (r2 := 18) (r3 := 0) rfl rfl rfl (of_decide_eq_true rfl) rfl rfl (of_decide_eq_true rfl) (of_decide_eq_true rfl) ?_
  refine wi_aload_n (i := 1) (x := 259) (nx := 1) (r1 := 0) (r2 := 0) (r3 := 0) rfl rfl ?_
  refine wi_iconst (n := 0) (nx := 2) (r1 := 0) (r2 := 0) (r3 := 0) rfl ?_
  refine wi_aload_n (i := 0) (x := 0) (nx := 3) (r1 := 0) (r2 := 0) (r3 := 0) rfl rfl ?_
  refine wr_V (k0 := 0) (rest := [vi 0, .ref 259]) (as := [.ref 0]) (nx := 6) (r1 := 63) (r2 := 0) (r3 := 0) rfl rfl rfl (of_decide_eq_true rfl) rfl rfl (by decide) rfl rfl (of_decide_eq_true rfl) (of_decide_eq_true rfl) ?_
  refine ct_63_0 hcr hr  g    tb0 (fun h51 z52 g51 u51 (fz52 : 0 ≤ z52 ∧ z52 ≤ 800) (p51_0 : (h51 1 1) = 0) (p51_1 : tk_ok (h 2) (h 1 1) = 1) (p51_2 : z52 = tk_ct (h 2) (h 1 1)) (p51_3 : (h51 1 2) = tk_ec (h 2) (h 1 1)) (p51_4 : (h51 1 3) = tk_ep (h 2) (h 1 1)) y51_0 => ?_) (fun h51 g51 u51 (pe51_0 : (h51 1 1) = 0) (pe51_1 : tk_ok (h 2) (h 1 1) = 0) (pe51_2 : (h51 1 2) = tk_ec (h 2) (h 1 1)) (pe51_3 : (h51 1 3) = tk_ep (h 2) (h 1 1)) ye51_0 => ?_)
  ·
    have b53 := gi_b (lo := 0) (hi := 800) g51 1 1 rfl
    have b54 := gi_b (lo := -2147483648) (hi := 2147483647) g51 1 2 rfl
    have b55 := gi_b (lo := -2147483648) (hi := 2147483647) g51 1 3 rfl
    refine wk_i ?_
    refine wi_i2l (nx := 7) (r1 := 0) (r2 := 0) (r3 := 0) rfl (by omega) ?_
    refine wr_ls (k0 := 259) (a := 0) (f := 0) (x := z52) (bl := -9223372036854775808) (bh := 9223372036854775807) (nx := 8) (r1 := 0) (r2 := 0) (r3 := 0) rfl (by decide) rfl (by omega) (by omega) (by decide) g51 rfl (by omega) (fun h56 g56 w56 u56 => ?_)
    refine wi_goto (nx := 11) (r1 := 14) (r2 := 0) (r3 := 0) rfl ?_
    refine wi_iconst (n := 0) (nx := 15) (r1 := 0) (r2 := 0) (r3 := 0) rfl ?_
    refine wi_ireturn (nx := 16) (r1 := 0) (r2 := 0) (r3 := 0) rfl rfl ?_
    refine wk_i ?_
    refine wi_istore (i := 5) (e := 0) (lo2 := [(5, vi 0), (0, .ref 1000000), (1, .ref 0), (2, .ref 236), (3, .ref 259), (4, vi i)]) (nx := 399) (r1 := 0) (r2 := 0) (r3 := 0) rfl rfl ?_
    refine wi_aload_n (i := 2) (x := 236) (nx := 400) (r1 := 0) (r2 := 0) (r3 := 0) rfl rfl ?_
    refine wr_V (k0 := 236) (rest := []) (as := [.ref 236]) (nx := 403) (r1 := 213) (r2 := 0) (r3 := 11) rfl rfl rfl (of_decide_eq_true rfl) rfl rfl (by decide) rfl rfl (of_decide_eq_true rfl) (of_decide_eq_true rfl) ?_
    have e58 : h56 238 98 = h 238 98 := ((u56 238 98 rfl).trans (u51 238 98 rfl))
    have e59 : h56 238 99 = h 238 99 := ((u56 238 99 rfl).trans (u51 238 99 rfl))
    have e60 : h56 238 100 = h 238 100 := ((u56 238 100 rfl).trans (u51 238 100 rfl))
    have e61 : h56 238 101 = h 238 101 := ((u56 238 101 rfl).trans (u51 238 101 rfl))
    have e62 : h56 238 102 = h 238 102 := ((u56 238 102 rfl).trans (u51 238 102 rfl))
    have e63 : h56 238 106 = h 238 106 := ((u56 238 106 rfl).trans (u51 238 106 rfl))
    have e64 : h56 238 73 = h 238 73 := ((u56 238 73 rfl).trans (u51 238 73 rfl))
    have e65 : h56 238 2 = h 238 2 := ((u56 238 2 rfl).trans (u51 238 2 rfl))
    have e66 : h56 238 119 = h 238 119 := ((u56 238 119 rfl).trans (u51 238 119 rfl))
    have e67 : h56 238 67 = h 238 67 := ((u56 238 67 rfl).trans (u51 238 67 rfl))
    have e68 : h56 238 69 = h 238 69 := ((u56 238 69 rfl).trans (u51 238 69 rfl))
    have e69 : h56 238 5 = h 238 5 := ((u56 238 5 rfl).trans (u51 238 5 rfl))
    have e71 : h56 236 2 = h 236 2 := ((u56 236 2 rfl).trans (u51 236 2 rfl))
    have rb72 : RB0 (h 2) (h 1 1) h56 := RB0.of br0 (by omega) (fun i => ((u56 237 i (fn_a (by omega) fn_0)).trans (u51 237 i (fo_nk rfl)))) (show h56 236 2 = h 1 1 by omega)
    refine ct_213_236 hcr  g56   (show (h56 238 98) + (h56 238 99) + (h56 238 100) + (h56 238 101) + (h56 238 102) + (h56 238 106) = (h56 238 73) by omega) (show (h56 238 73) ≤ (h56 238 2) by omega) (show (h56 238 119) ≤ (h56 238 67) by omega) (show (h56 238 69) ≤ (h56 238 5) by omega) (show (h56 238 2) ≤ 12 * (h56 238 5) by omega) rb72 (fun h57 z70 g57 u57 (fz70 : 0 ≤ z70 ∧ z70 ≤ 801) (p57_0 : (tk_ok (h 2) (h 1 1) = 1 ∧ (h57 236 0) = 0 ∧ z70 = tk_ct (h 2) (h 1 1) ∧ (h57 236 22) = 0) ∨ (tk_ok (h 2) (h 1 1) = 0 ∧ (h57 236 0) = 1 ∧ (h57 236 22) = (h56 236 22))) (p57_1 : (h57 238 98) + (h57 238 99) + (h57 238 100) + (h57 238 101) + (h57 238 102) + (h57 238 106) = (h57 238 73)) (p57_2 : (h57 238 73) ≤ (h57 238 2)) (p57_3 : (h57 238 119) ≤ (h57 238 67)) (p57_4 : (h57 238 69) ≤ (h57 238 5)) (p57_5 : (h57 238 2) ≤ 12 * (h57 238 5)) (p57_6 : (h57 236 2) = 0) (p57_7 : (h57 236 10) = tk_ec (h 2) (h 1 1)) (p57_8 : (h57 236 11) = tk_ep (h 2) (h 1 1)) y57_0 y57_1 => ?_)
    have b73 := gi_b (lo := 0) (hi := 6) g 236 22 rfl
    have e74 : h56 236 22 = h 236 22 := ((u56 236 22 rfl).trans (u51 236 22 rfl))
    have b75 := gi_b (lo := 0) (hi := 2) g57 236 0 rfl
    have b76 := gi_b (lo := 0) (hi := 6) g57 236 22 rfl
    have b77 := gi_b (lo := 0) (hi := 6) g57 238 98 rfl
    have b78 := gi_b (lo := 0) (hi := 6) g57 238 99 rfl
    have b79 := gi_b (lo := 0) (hi := 6) g57 238 100 rfl
    have b80 := gi_b (lo := 0) (hi := 6) g57 238 101 rfl
    have b81 := gi_b (lo := 0) (hi := 3) g57 238 102 rfl
    have b82 := gi_b (lo := 0) (hi := 12) g57 238 106 rfl
    have b83 := gi_b (lo := 0) (hi := 12) g57 238 73 rfl
    have b84 := gi_b (lo := 0) (hi := 12) g57 238 2 rfl
    have b85 := gi_b (lo := 0) (hi := 9999) g57 238 119 rfl
    have b86 := gi_b (lo := 0) (hi := 9999) g57 238 67 rfl
    have b87 := gi_b (lo := 0) (hi := 9) g57 238 69 rfl
    have b88 := gi_b (lo := 0) (hi := 9) g57 238 5 rfl
    have b89 := gi_b (lo := 0) (hi := 800) g57 236 2 rfl
    have b90 := gi_b (lo := -2147483648) (hi := 2147483647) g57 236 10 rfl
    have b91 := gi_b (lo := -2147483648) (hi := 2147483647) g57 236 11 rfl
    refine wk_i ?_
    rcases p57_0 with p57_0 | p57_0
    ·
      refine wi_istore (i := 6) (e := z70) (lo2 := [(6, vi z70), (5, vi 0), (0, .ref 1000000), (1, .ref 0), (2, .ref 236), (3, .ref 259), (4, vi i)]) (nx := 405) (r1 := 0) (r2 := 0) (r3 := 0) rfl rfl ?_
      refine wi_aload_n (i := 2) (x := 236) (nx := 406) (r1 := 0) (r2 := 0) (r3 := 0) rfl rfl ?_
      refine wr_V (k0 := 236) (rest := []) (as := [.ref 236]) (nx := 409) (r1 := 204) (r2 := 0) (r3 := 11) rfl rfl rfl (of_decide_eq_true rfl) rfl rfl (by decide) rfl rfl (of_decide_eq_true rfl) (of_decide_eq_true rfl) ?_
      refine wi_aload_n (i := 0) (x := 236) (nx := 1) (r1 := 0) (r2 := 0) (r3 := 0) rfl rfl ?_
      refine wr_gi0 (k0 := 236) (x := h57 236 0) (nx := 4) (r1 := 11) (r2 := 0) (r3 := 0) rfl rfl (by decide) rfl ⟨rfl, rfl⟩ rfl rfl ?_
      refine wi_ireturn (nx := 5) (r1 := 0) (r2 := 0) (r3 := 0) rfl rfl ?_
      refine wk_i ?_
      refine wi_iload (i := 5) (e := 0) (nx := 411) (r1 := 0) (r2 := 0) (r3 := 0) rfl rfl ?_
      refine wi_icmp (cd := .eq) (nx := 414) (r1 := 416) (r2 := 0) (r3 := 0) rfl (by omega) (by omega) (fun (q92 : (h57 236 0) = 0) => ?_) (fun (q92 : ¬ ((h57 236 0) = 0)) => by exfalso; omega)
      refine wi_iload (i := 5) (e := 0) (nx := 418) (r1 := 0) (r2 := 0) (r3 := 0) rfl rfl ?_
      refine wi_if (cd := .ne) (nx := 421) (r1 := 433) (r2 := 0) (r3 := 0) rfl (by omega) (fun (q93 : 0 ≠ 0) => by exfalso; omega) (fun (q93 : ¬ (0 ≠ 0)) => ?_)
      refine wi_aload_n (i := 3) (x := 259) (nx := 422) (r1 := 0) (r2 := 0) (r3 := 0) rfl rfl ?_
      refine wi_iconst (n := 0) (nx := 423) (r1 := 0) (r2 := 0) (r3 := 0) rfl ?_
      refine wr_la (k0 := 259) (a := 0) (f := 0) (x := z52) (nx := 424) (r1 := 0) (r2 := 0) (r3 := 0) rfl (by decide) rfl (by omega) (by omega) (by decide) ((u57 259 0 rfl).trans w56) ?_
      refine wi_iload (i := 6) (e := z70) (nx := 426) (r1 := 0) (r2 := 0) (r3 := 0) rfl rfl ?_
      refine wi_i2l (nx := 427) (r1 := 0) (r2 := 0) (r3 := 0) rfl (by omega) ?_
      refine wi_lcmp (a := z52) (e := z70) (nx := 428) (r1 := 0) (r2 := 0) (r3 := 0) rfl (by omega) (by omega) (fun r94 (fr94 : (r94 = -1 ∧ z52 < z70) ∨ (r94 = 0 ∧ z52 = z70) ∨ (r94 = 1 ∧ z70 < z52)) => ?_)
      refine wi_if (cd := .eq) (nx := 431) (r1 := 433) (r2 := 0) (r3 := 0) rfl (by omega) (fun (q95 : r94 = 0) => ?_) (fun (q95 : ¬ (r94 = 0)) => by exfalso; omega)
      refine wi_goto (nx := 436) (r1 := 1529) (r2 := 0) (r3 := 0) rfl ?_
      refine wp.lo (lo := [(0, .ref 1000000), (1, .ref 0), (2, .ref 236), (3, .ref 259), (4, vi i)]) ⟨rfl, rfl, rfl, rfl, rfl, trivial⟩ rfl ?_
      have e96 : h57 241 98 = h 241 98 := ((u57 241 98 rfl).trans ((u56 241 98 rfl).trans (u51 241 98 rfl)))
      have e97 : h57 241 99 = h 241 99 := ((u57 241 99 rfl).trans ((u56 241 99 rfl).trans (u51 241 99 rfl)))
      have e98 : h57 241 100 = h 241 100 := ((u57 241 100 rfl).trans ((u56 241 100 rfl).trans (u51 241 100 rfl)))
      have e99 : h57 241 101 = h 241 101 := ((u57 241 101 rfl).trans ((u56 241 101 rfl).trans (u51 241 101 rfl)))
      have e100 : h57 241 102 = h 241 102 := ((u57 241 102 rfl).trans ((u56 241 102 rfl).trans (u51 241 102 rfl)))
      have e101 : h57 241 106 = h 241 106 := ((u57 241 106 rfl).trans ((u56 241 106 rfl).trans (u51 241 106 rfl)))
      have e102 : h57 241 73 = h 241 73 := ((u57 241 73 rfl).trans ((u56 241 73 rfl).trans (u51 241 73 rfl)))
      have e103 : h57 241 2 = h 241 2 := ((u57 241 2 rfl).trans ((u56 241 2 rfl).trans (u51 241 2 rfl)))
      have e104 : h57 241 119 = h 241 119 := ((u57 241 119 rfl).trans ((u56 241 119 rfl).trans (u51 241 119 rfl)))
      have e105 : h57 241 67 = h 241 67 := ((u57 241 67 rfl).trans ((u56 241 67 rfl).trans (u51 241 67 rfl)))
      have e106 : h57 241 69 = h 241 69 := ((u57 241 69 rfl).trans ((u56 241 69 rfl).trans (u51 241 69 rfl)))
      have e107 : h57 241 5 = h 241 5 := ((u57 241 5 rfl).trans ((u56 241 5 rfl).trans (u51 241 5 rfl)))
      have e108 : h57 1 1 = h51 1 1 := ((u57 1 1 rfl).trans (u56 1 1 rfl))
      have e109 : h57 1 2 = h51 1 2 := ((u57 1 2 rfl).trans (u56 1 2 rfl))
      have e110 : h57 1 3 = h51 1 3 := ((u57 1 3 rfl).trans (u56 1 3 rfl))
      have gp111 := GPH.fr u51 rfl gp0
      have gp112 := GPH.fr u56 rfl gp111
      have gp113 := GPH.fr u57 rfl gp112
      have b114 := gi_b (lo := 0) (hi := 5) g 241 0 rfl
      have b115 := gi_b (lo := 0) (hi := 4) g 241 1 rfl
      have sv116 := SVx.of y51_0 (y57_0 (by omega))
      have b117 := gi_b (lo := 0) (hi := 5) g57 238 0 rfl
      have b118 := gi_b (lo := 0) (hi := 4) g57 238 1 rfl
      have e119 : h57 0 12 = h 0 12 := ((u57 0 12 rfl).trans ((u56 0 12 rfl).trans (u51 0 12 rfl)))
      have e120 : h57 236 21 = h 236 21 := ((u57 236 21 rfl).trans ((u56 236 21 rfl).trans (u51 236 21 rfl)))
      exact k h57 b c ⟨g57, (show h57 1 1 = h57 236 2 by omega), (RS.i0 (f := h57 238) (by refine ⟨?_, ?_, ?_, ?_, ?_⟩ <;> omega)), (RS.i0 (f := h57 241) (by refine ⟨?_, ?_, ?_, ?_, ?_⟩ <;> omega)), gp113, (BRh.keep br0 (fun i => ((u57 2 i (fo_nk rfl)).trans ((u56 2 i (fn_a (by omega) fn_0)).trans (u51 2 i (fo_nk rfl))))) (fun i => ((u57 237 i (fo_nk rfl)).trans ((u56 237 i (fn_a (by omega) fn_0)).trans (u51 237 i (fo_nk rfl))))) (by omega)), (show h57 1 2 = h57 236 10 by omega), (show h57 1 3 = h57 236 11 by omega), (SVx.keep sv116 (by omega) (fun i _ => ((u57 3 i (fo_nk rfl)).trans (u56 3 i (fn_a (by omega) fn_0)))) (fun i _ => ((u57 5 i (fo_nk rfl)).trans (u56 5 i (fn_a (by omega) fn_0)))) (fun i _ => ((u57 6 i (fo_nk rfl)).trans (u56 6 i (fn_a (by omega) fn_0)))) (fun i _ => ((u57 8 i (fo_nk rfl)).trans (u56 8 i (fn_a (by omega) fn_0)))) (fun i _ => rfl)), (show h57 0 12 = h57 236 21 by omega), (fun e => (SVx.keep (ss0 (by omega)) (by omega) (fun i _ => ((u57 210 i (fo_nk rfl)).trans ((u56 210 i (fn_a (by omega) fn_0)).trans (u51 210 i (fo_nk rfl))))) (fun i _ => ((u57 212 i (fo_nk rfl)).trans ((u56 212 i (fn_a (by omega) fn_0)).trans (u51 212 i (fo_nk rfl))))) (fun i _ => ((u57 213 i (fo_nk rfl)).trans ((u56 213 i (fn_a (by omega) fn_0)).trans (u51 213 i (fo_nk rfl))))) (fun i _ => ((u57 215 i (fo_nk rfl)).trans ((u56 215 i (fn_a (by omega) fn_0)).trans (u51 215 i (fo_nk rfl))))) (fun i _ => ((u57 241 i (fo_nk rfl)).trans ((u56 241 i (fn_a (by omega) fn_0)).trans (u51 241 i (fo_nk rfl))))))), (GPS.zero (by omega))⟩ (by omega) (by omega)
    ·
      exfalso; omega
  ·
    have b53 := gi_b (lo := 0) (hi := 800) g51 1 1 rfl
    have b54 := gi_b (lo := -2147483648) (hi := 2147483647) g51 1 2 rfl
    have b55 := gi_b (lo := -2147483648) (hi := 2147483647) g51 1 3 rfl
    refine wk_h 11 (by decide) rfl ?_
    refine wr_astx (i := 2) (lo2 := [(2, .retAddr 0), (0, .ref 0), (1, .ref 259)]) (nx := 12) (r1 := 0) (r2 := 0) (r3 := 0) rfl rfl ?_
    refine wi_iconst (n := 1) (nx := 13) (r1 := 0) (r2 := 0) (r3 := 0) rfl ?_
    refine wi_ireturn (nx := 14) (r1 := 0) (r2 := 0) (r3 := 0) rfl rfl ?_
    refine wk_i ?_
    refine wi_istore (i := 5) (e := 1) (lo2 := [(5, vi 1), (0, .ref 1000000), (1, .ref 0), (2, .ref 236), (3, .ref 259), (4, vi i)]) (nx := 399) (r1 := 0) (r2 := 0) (r3 := 0) rfl rfl ?_
    refine wi_aload_n (i := 2) (x := 236) (nx := 400) (r1 := 0) (r2 := 0) (r3 := 0) rfl rfl ?_
    refine wr_V (k0 := 236) (rest := []) (as := [.ref 236]) (nx := 403) (r1 := 213) (r2 := 0) (r3 := 11) rfl rfl rfl (of_decide_eq_true rfl) rfl rfl (by decide) rfl rfl (of_decide_eq_true rfl) (of_decide_eq_true rfl) ?_
    have e57 : h51 238 98 = h 238 98 := (u51 238 98 rfl)
    have e58 : h51 238 99 = h 238 99 := (u51 238 99 rfl)
    have e59 : h51 238 100 = h 238 100 := (u51 238 100 rfl)
    have e60 : h51 238 101 = h 238 101 := (u51 238 101 rfl)
    have e61 : h51 238 102 = h 238 102 := (u51 238 102 rfl)
    have e62 : h51 238 106 = h 238 106 := (u51 238 106 rfl)
    have e63 : h51 238 73 = h 238 73 := (u51 238 73 rfl)
    have e64 : h51 238 2 = h 238 2 := (u51 238 2 rfl)
    have e65 : h51 238 119 = h 238 119 := (u51 238 119 rfl)
    have e66 : h51 238 67 = h 238 67 := (u51 238 67 rfl)
    have e67 : h51 238 69 = h 238 69 := (u51 238 69 rfl)
    have e68 : h51 238 5 = h 238 5 := (u51 238 5 rfl)
    have e70 : h51 236 2 = h 236 2 := (u51 236 2 rfl)
    have rb71 : RB0 (h 2) (h 1 1) h51 := RB0.of br0 (by omega) (fun i => (u51 237 i (fo_nk rfl))) (show h51 236 2 = h 1 1 by omega)
    refine ct_213_236 hcr  g51   (show (h51 238 98) + (h51 238 99) + (h51 238 100) + (h51 238 101) + (h51 238 102) + (h51 238 106) = (h51 238 73) by omega) (show (h51 238 73) ≤ (h51 238 2) by omega) (show (h51 238 119) ≤ (h51 238 67) by omega) (show (h51 238 69) ≤ (h51 238 5) by omega) (show (h51 238 2) ≤ 12 * (h51 238 5) by omega) rb71 (fun h56 z69 g56 u56 (fz69 : 0 ≤ z69 ∧ z69 ≤ 801) (p56_0 : (tk_ok (h 2) (h 1 1) = 1 ∧ (h56 236 0) = 0 ∧ z69 = tk_ct (h 2) (h 1 1) ∧ (h56 236 22) = 0) ∨ (tk_ok (h 2) (h 1 1) = 0 ∧ (h56 236 0) = 1 ∧ (h56 236 22) = (h51 236 22))) (p56_1 : (h56 238 98) + (h56 238 99) + (h56 238 100) + (h56 238 101) + (h56 238 102) + (h56 238 106) = (h56 238 73)) (p56_2 : (h56 238 73) ≤ (h56 238 2)) (p56_3 : (h56 238 119) ≤ (h56 238 67)) (p56_4 : (h56 238 69) ≤ (h56 238 5)) (p56_5 : (h56 238 2) ≤ 12 * (h56 238 5)) (p56_6 : (h56 236 2) = 0) (p56_7 : (h56 236 10) = tk_ec (h 2) (h 1 1)) (p56_8 : (h56 236 11) = tk_ep (h 2) (h 1 1)) y56_0 y56_1 => ?_)
    have b72 := gi_b (lo := 0) (hi := 6) g 236 22 rfl
    have e73 : h51 236 22 = h 236 22 := (u51 236 22 rfl)
    have b74 := gi_b (lo := 0) (hi := 2) g56 236 0 rfl
    have b75 := gi_b (lo := 0) (hi := 6) g56 236 22 rfl
    have b76 := gi_b (lo := 0) (hi := 6) g56 238 98 rfl
    have b77 := gi_b (lo := 0) (hi := 6) g56 238 99 rfl
    have b78 := gi_b (lo := 0) (hi := 6) g56 238 100 rfl
    have b79 := gi_b (lo := 0) (hi := 6) g56 238 101 rfl
    have b80 := gi_b (lo := 0) (hi := 3) g56 238 102 rfl
    have b81 := gi_b (lo := 0) (hi := 12) g56 238 106 rfl
    have b82 := gi_b (lo := 0) (hi := 12) g56 238 73 rfl
    have b83 := gi_b (lo := 0) (hi := 12) g56 238 2 rfl
    have b84 := gi_b (lo := 0) (hi := 9999) g56 238 119 rfl
    have b85 := gi_b (lo := 0) (hi := 9999) g56 238 67 rfl
    have b86 := gi_b (lo := 0) (hi := 9) g56 238 69 rfl
    have b87 := gi_b (lo := 0) (hi := 9) g56 238 5 rfl
    have b88 := gi_b (lo := 0) (hi := 800) g56 236 2 rfl
    have b89 := gi_b (lo := -2147483648) (hi := 2147483647) g56 236 10 rfl
    have b90 := gi_b (lo := -2147483648) (hi := 2147483647) g56 236 11 rfl
    refine wk_i ?_
    rcases p56_0 with p56_0 | p56_0
    ·
      exfalso; omega
    ·
      refine wi_istore (i := 6) (e := z69) (lo2 := [(6, vi z69), (5, vi 1), (0, .ref 1000000), (1, .ref 0), (2, .ref 236), (3, .ref 259), (4, vi i)]) (nx := 405) (r1 := 0) (r2 := 0) (r3 := 0) rfl rfl ?_
      refine wi_aload_n (i := 2) (x := 236) (nx := 406) (r1 := 0) (r2 := 0) (r3 := 0) rfl rfl ?_
      refine wr_V (k0 := 236) (rest := []) (as := [.ref 236]) (nx := 409) (r1 := 204) (r2 := 0) (r3 := 11) rfl rfl rfl (of_decide_eq_true rfl) rfl rfl (by decide) rfl rfl (of_decide_eq_true rfl) (of_decide_eq_true rfl) ?_
      refine wi_aload_n (i := 0) (x := 236) (nx := 1) (r1 := 0) (r2 := 0) (r3 := 0) rfl rfl ?_
      refine wr_gi0 (k0 := 236) (x := h56 236 0) (nx := 4) (r1 := 11) (r2 := 0) (r3 := 0) rfl rfl (by decide) rfl ⟨rfl, rfl⟩ rfl rfl ?_
      refine wi_ireturn (nx := 5) (r1 := 0) (r2 := 0) (r3 := 0) rfl rfl ?_
      refine wk_i ?_
      refine wi_iload (i := 5) (e := 1) (nx := 411) (r1 := 0) (r2 := 0) (r3 := 0) rfl rfl ?_
      refine wi_icmp (cd := .eq) (nx := 414) (r1 := 416) (r2 := 0) (r3 := 0) rfl (by omega) (by omega) (fun (q91 : (h56 236 0) = 1) => ?_) (fun (q91 : ¬ ((h56 236 0) = 1)) => by exfalso; omega)
      refine wi_iload (i := 5) (e := 1) (nx := 418) (r1 := 0) (r2 := 0) (r3 := 0) rfl rfl ?_
      refine wi_if (cd := .ne) (nx := 421) (r1 := 433) (r2 := 0) (r3 := 0) rfl (by omega) (fun (q92 : 1 ≠ 0) => ?_) (fun (q92 : ¬ (1 ≠ 0)) => by exfalso; omega)
      refine wi_goto (nx := 436) (r1 := 1529) (r2 := 0) (r3 := 0) rfl ?_
      refine wp.lo (lo := [(0, .ref 1000000), (1, .ref 0), (2, .ref 236), (3, .ref 259), (4, vi i)]) ⟨rfl, rfl, rfl, rfl, rfl, trivial⟩ rfl ?_
      have e93 : h56 241 98 = h 241 98 := ((u56 241 98 rfl).trans (u51 241 98 rfl))
      have e94 : h56 241 99 = h 241 99 := ((u56 241 99 rfl).trans (u51 241 99 rfl))
      have e95 : h56 241 100 = h 241 100 := ((u56 241 100 rfl).trans (u51 241 100 rfl))
      have e96 : h56 241 101 = h 241 101 := ((u56 241 101 rfl).trans (u51 241 101 rfl))
      have e97 : h56 241 102 = h 241 102 := ((u56 241 102 rfl).trans (u51 241 102 rfl))
      have e98 : h56 241 106 = h 241 106 := ((u56 241 106 rfl).trans (u51 241 106 rfl))
      have e99 : h56 241 73 = h 241 73 := ((u56 241 73 rfl).trans (u51 241 73 rfl))
      have e100 : h56 241 2 = h 241 2 := ((u56 241 2 rfl).trans (u51 241 2 rfl))
      have e101 : h56 241 119 = h 241 119 := ((u56 241 119 rfl).trans (u51 241 119 rfl))
      have e102 : h56 241 67 = h 241 67 := ((u56 241 67 rfl).trans (u51 241 67 rfl))
      have e103 : h56 241 69 = h 241 69 := ((u56 241 69 rfl).trans (u51 241 69 rfl))
      have e104 : h56 241 5 = h 241 5 := ((u56 241 5 rfl).trans (u51 241 5 rfl))
      have e105 : h56 1 1 = h51 1 1 := (u56 1 1 rfl)
      have e106 : h56 1 2 = h51 1 2 := (u56 1 2 rfl)
      have e107 : h56 1 3 = h51 1 3 := (u56 1 3 rfl)
      have gp108 := GPH.fr u51 rfl gp0
      have gp109 := GPH.fr u56 rfl gp108
      have b110 := gi_b (lo := 0) (hi := 5) g 241 0 rfl
      have b111 := gi_b (lo := 0) (hi := 4) g 241 1 rfl
      have e112 : h56 0 12 = h 0 12 := ((u56 0 12 rfl).trans (u51 0 12 rfl))
      have e113 : h56 236 21 = h 236 21 := ((u56 236 21 rfl).trans (u51 236 21 rfl))
      exact k h56 (b - 1) (c - 6) ⟨g56, (show h56 1 1 = h56 236 2 by omega), (RS.i0 (f := h56 238) (by refine ⟨?_, ?_, ?_, ?_, ?_⟩ <;> omega)), (RS.i0 (f := h56 241) (by refine ⟨?_, ?_, ?_, ?_, ?_⟩ <;> omega)), gp109, (BRh.keep br0 (fun i => ((u56 2 i (fo_nk rfl)).trans (u51 2 i (fo_nk rfl)))) (fun i => ((u56 237 i (fo_nk rfl)).trans (u51 237 i (fo_nk rfl)))) (by omega)), (show h56 1 2 = h56 236 10 by omega), (show h56 1 3 = h56 236 11 by omega), (SVx.keep sv0 (by omega) (fun i _ => ((u56 3 i (fo_nk rfl)).trans (ye51_0.1 i))) (fun i _ => ((u56 5 i (fo_nk rfl)).trans (ye51_0.2.1 i))) (fun i _ => ((u56 6 i (fo_nk rfl)).trans (ye51_0.2.2.1 i))) (fun i _ => ((u56 8 i (fo_nk rfl)).trans (ye51_0.2.2.2 i))) (fun i hi => ((y56_1 (by omega) i hi).trans (u51 238 i (fo_nk rfl))))), (show h56 0 12 = h56 236 21 by omega), (fun e => (SVx.keep (ss0 (by omega)) (by omega) (fun i _ => ((u56 210 i (fo_nk rfl)).trans (u51 210 i (fo_nk rfl)))) (fun i _ => ((u56 212 i (fo_nk rfl)).trans (u51 212 i (fo_nk rfl)))) (fun i _ => ((u56 213 i (fo_nk rfl)).trans (u51 213 i (fo_nk rfl)))) (fun i _ => ((u56 215 i (fo_nk rfl)).trans (u51 215 i (fo_nk rfl)))) (fun i _ => ((u56 241 i (fo_nk rfl)).trans (u51 241 i (fo_nk rfl)))))), (GPS.back gs0 (by omega) (fun i hi => ((y56_1 (by omega) i hi).trans (u51 238 i (fo_nk rfl)))) (fun i => ((u56 242 i (fo_nk rfl)).trans (u51 242 i (fo_nk rfl)))))⟩ (by omega) (by omega)
-- the law, case at 436
set_option maxRecDepth 100000 in
set_option maxHeartbeats 100000000 in
theorem lc_436 {L : Nat} {xs : Nat → Int32} {d b c : Nat} {h : hp} {cr : Nat → Nat → Option Nat} {Q : hp_Q} (hcr : CR cr) (hL : L ≤ 3072) (hr : 1 ≤ b ∧ 6 ≤ c) (I : LI h) (i : Int) (hi : 0 ≤ i ∧ i + 6 ≤ L) (k : ∀ (h2 : hp) (b2 c2 : Nat), LI h2 → b ≤ b2 + 1 → c ≤ c2 + 6 → wp (md_xa (L, xs)) (d + 107) 0 (1529, [(0, .ref 1000000), (1, .ref 0), (2, .ref 236), (3, .ref 259), (4, vi i)], [], hp_w h2 cr, b2, c2) Q) : wp (md_xa (L, xs)) (d + 107) 0 (436, [(0, .ref 1000000), (1, .ref 0), (2, .ref 236), (3, .ref 259), (4, vi i)], [], hp_w h cr, b, c) Q := by
  obtain ⟨g, i11, r238, r241, gp0, br0, er2, er3, sv0, sf0, ss0, gs0⟩ := I
  have r238e := r238.e0
  have r241e := r241.e0
  obtain ⟨⟨se0, se1, se2, se3, se4, se5, se6, se7, se8, se9⟩, -⟩ := id sv0
  have b1 := gi_b (lo := 0) (hi := 5) g 3 0 rfl
  have b2 := gi_b (lo := 0) (hi := 5) g 238 0 rfl
  have b3 := gi_b (lo := 0) (hi := 4) g 3 1 rfl
  have b4 := gi_b (lo := 0) (hi := 4) g 238 1 rfl
  have b5 := gi_b (lo := 0) (hi := 12) g 3 2 rfl
  have b6 := gi_b (lo := 0) (hi := 12) g 238 2 rfl
  have b7 := gi_b (lo := -2147483648) (hi := 2147483647) g 3 3 rfl
  have b8 := gi_b (lo := 0) (hi := 999) g 238 3 rfl
  have b9 := gi_b (lo := -2147483648) (hi := 2147483647) g 3 4 rfl
  have b10 := gi_b (lo := 0) (hi := 999) g 238 4 rfl
  have b11 := gi_b (lo := -2147483648) (hi := 2147483647) g 3 5 rfl
  have b12 := gi_b (lo := 0) (hi := 9) g 238 5 rfl
  have b13 := gi_b (lo := -2147483648) (hi := 2147483647) g 3 6 rfl
  have b14 := gi_b (lo := 0) (hi := 999) g 238 6 rfl
  have b15 := gi_b (lo := -2147483648) (hi := 2147483647) g 3 7 rfl
  have b16 := gi_b (lo := 0) (hi := 3) g 238 7 rfl
  have b17 := gi_b (lo := -2147483648) (hi := 2147483647) g 3 8 rfl
  have b18 := gi_b (lo := 0) (hi := 999) g 238 8 rfl
  have b19 := gi_b (lo := -2147483648) (hi := 2147483647) g 3 9 rfl
  have b20 := gi_b (lo := 0) (hi := 999) g 238 9 rfl
  have b21 := gi_b (lo := 0) (hi := 1) g 0 12 rfl
  have b22 := gi_b (lo := 0) (hi := 1) g 236 21 rfl
  have bl_ := gi_b (lo := 0) (hi := 800) g 1 1 rfl
  have tb0 : BufC (h 2) (h 1 1) h := ⟨fun _ => rfl, rfl, by omega, by omega⟩
  have b23 := gi_b (lo := 0) (hi := 6) g 238 98 rfl
  have b24 := gi_b (lo := 0) (hi := 6) g 238 99 rfl
  have b25 := gi_b (lo := 0) (hi := 6) g 238 100 rfl
  have b26 := gi_b (lo := 0) (hi := 6) g 238 101 rfl
  have b27 := gi_b (lo := 0) (hi := 3) g 238 102 rfl
  have b28 := gi_b (lo := 0) (hi := 12) g 238 106 rfl
  have b29 := gi_b (lo := 0) (hi := 12) g 238 73 rfl
  have b30 := gi_b (lo := 0) (hi := 9999) g 238 119 rfl
  have b31 := gi_b (lo := 0) (hi := 9999) g 238 67 rfl
  have b32 := gi_b (lo := 0) (hi := 9) g 238 69 rfl
  have b33 := gi_b (lo := 0) (hi := 6) g 241 98 rfl
  have b34 := gi_b (lo := 0) (hi := 6) g 241 99 rfl
  have b35 := gi_b (lo := 0) (hi := 6) g 241 100 rfl
  have b36 := gi_b (lo := 0) (hi := 6) g 241 101 rfl
  have b37 := gi_b (lo := 0) (hi := 3) g 241 102 rfl
  have b38 := gi_b (lo := 0) (hi := 12) g 241 106 rfl
  have b39 := gi_b (lo := 0) (hi := 12) g 241 73 rfl
  have b40 := gi_b (lo := 0) (hi := 12) g 241 2 rfl
  have b41 := gi_b (lo := 0) (hi := 9999) g 241 119 rfl
  have b42 := gi_b (lo := 0) (hi := 9999) g 241 67 rfl
  have b43 := gi_b (lo := 0) (hi := 9) g 241 69 rfl
  have b44 := gi_b (lo := 0) (hi := 9) g 241 5 rfl
  have b45 := gi_b (lo := 0) (hi := 800) g 1 1 rfl
  have b46 := gi_b (lo := 0) (hi := 800) g 236 2 rfl
  have b47 := gi_b (lo := -2147483648) (hi := 2147483647) g 1 2 rfl
  have b48 := gi_b (lo := -2147483648) (hi := 2147483647) g 236 10 rfl
  have b49 := gi_b (lo := -2147483648) (hi := 2147483647) g 1 3 rfl
  have b50 := gi_b (lo := -2147483648) (hi := 2147483647) g 236 11 rfl
  refine wi_aload_n (i := 1) (x := 0) (nx := 437) (r1 := 0) (r2 := 0) (r3 := 0) rfl rfl ?_
  refine wi_aload_n (i := 3) (x := 259) (nx := 438) (r1 := 0) (r2 := 0) (r3 := 0) rfl rfl ?_
  refine wi_S (rest := []) (as := [.ref 0, .ref 259]) (nx := 441) (r1 := 4) (r2 := 18) (r3 := 0) rfl rfl rfl (of_decide_eq_true rfl) rfl rfl (of_decide_eq_true rfl) (of_decide_eq_true rfl) ?_
  refine wi_aload_n (i := 1) (x := 259) (nx := 1) (r1 := 0) (r2 := 0) (r3 := 0) rfl rfl ?_
  refine wi_iconst (n := 0) (nx := 2) (r1 := 0) (r2 := 0) (r3 := 0) rfl ?_
  refine wi_aload_n (i := 0) (x := 0) (nx := 3) (r1 := 0) (r2 := 0) (r3 := 0) rfl rfl ?_
  refine wr_V (k0 := 0) (rest := [vi 0, .ref 259]) (as := [.ref 0]) (nx := 6) (r1 := 64) (r2 := 0) (r3 := 0) rfl rfl rfl (of_decide_eq_true rfl) rfl rfl (by decide) rfl rfl (of_decide_eq_true rfl) (of_decide_eq_true rfl) ?_
  refine ct_64_0 hcr hr  g    tb0 (fun h51 z52 g51 u51 (fz52 : 0 ≤ z52 ∧ z52 ≤ 100) (p51_0 : (h51 1 1) = 0) (p51_1 : (h51 1 2) = sc_ec (h 2) (h 1 1)) (p51_2 : (h51 1 3) = sc_ep (h 2) (h 1 1)) => ?_) (fun h51 g51 u51 (pe51_0 : (h51 1 1) = 0) (pe51_1 : (h51 1 2) = sc_ec (h 2) (h 1 1)) (pe51_2 : (h51 1 3) = sc_ep (h 2) (h 1 1)) => ?_)
  ·
    have b53 := gi_b (lo := 0) (hi := 800) g51 1 1 rfl
    have b54 := gi_b (lo := -2147483648) (hi := 2147483647) g51 1 2 rfl
    have b55 := gi_b (lo := -2147483648) (hi := 2147483647) g51 1 3 rfl
    refine wk_i ?_
    refine wi_i2l (nx := 7) (r1 := 0) (r2 := 0) (r3 := 0) rfl (by omega) ?_
    refine wr_ls (k0 := 259) (a := 0) (f := 0) (x := z52) (bl := -9223372036854775808) (bh := 9223372036854775807) (nx := 8) (r1 := 0) (r2 := 0) (r3 := 0) rfl (by decide) rfl (by omega) (by omega) (by decide) g51 rfl (by omega) (fun h56 g56 w56 u56 => ?_)
    refine wi_goto (nx := 11) (r1 := 14) (r2 := 0) (r3 := 0) rfl ?_
    refine wi_iconst (n := 0) (nx := 15) (r1 := 0) (r2 := 0) (r3 := 0) rfl ?_
    refine wi_ireturn (nx := 16) (r1 := 0) (r2 := 0) (r3 := 0) rfl rfl ?_
    refine wk_i ?_
    refine wi_istore (i := 5) (e := 0) (lo2 := [(5, vi 0), (0, .ref 1000000), (1, .ref 0), (2, .ref 236), (3, .ref 259), (4, vi i)]) (nx := 443) (r1 := 0) (r2 := 0) (r3 := 0) rfl rfl ?_
    refine wi_aload_n (i := 2) (x := 236) (nx := 444) (r1 := 0) (r2 := 0) (r3 := 0) rfl rfl ?_
    refine wr_V (k0 := 236) (rest := []) (as := [.ref 236]) (nx := 447) (r1 := 334) (r2 := 0) (r3 := 11) rfl rfl rfl (of_decide_eq_true rfl) rfl rfl (by decide) rfl rfl (of_decide_eq_true rfl) (of_decide_eq_true rfl) ?_
    have e58 : h56 238 98 = h 238 98 := ((u56 238 98 rfl).trans (u51 238 98 rfl))
    have e59 : h56 238 99 = h 238 99 := ((u56 238 99 rfl).trans (u51 238 99 rfl))
    have e60 : h56 238 100 = h 238 100 := ((u56 238 100 rfl).trans (u51 238 100 rfl))
    have e61 : h56 238 101 = h 238 101 := ((u56 238 101 rfl).trans (u51 238 101 rfl))
    have e62 : h56 238 102 = h 238 102 := ((u56 238 102 rfl).trans (u51 238 102 rfl))
    have e63 : h56 238 106 = h 238 106 := ((u56 238 106 rfl).trans (u51 238 106 rfl))
    have e64 : h56 238 73 = h 238 73 := ((u56 238 73 rfl).trans (u51 238 73 rfl))
    have e65 : h56 238 2 = h 238 2 := ((u56 238 2 rfl).trans (u51 238 2 rfl))
    have e66 : h56 238 119 = h 238 119 := ((u56 238 119 rfl).trans (u51 238 119 rfl))
    have e67 : h56 238 67 = h 238 67 := ((u56 238 67 rfl).trans (u51 238 67 rfl))
    have e68 : h56 238 69 = h 238 69 := ((u56 238 69 rfl).trans (u51 238 69 rfl))
    have e69 : h56 238 5 = h 238 5 := ((u56 238 5 rfl).trans (u51 238 5 rfl))
    have e71 : h56 236 2 = h 236 2 := ((u56 236 2 rfl).trans (u51 236 2 rfl))
    have rb72 : RB0 (h 2) (h 1 1) h56 := RB0.of br0 (by omega) (fun i => ((u56 237 i (fn_a (by omega) fn_0)).trans (u51 237 i (fo_nk rfl)))) (show h56 236 2 = h 1 1 by omega)
    have gs73 := GPS.fr u51 rfl gs0
    have gs74 := GPS.fr u56 rfl gs73
    have gp75 := GPH.fr u51 rfl gp0
    have gp76 := GPH.fr u56 rfl gp75
    refine ct_334_236 hcr  g56   (show (h56 238 98) + (h56 238 99) + (h56 238 100) + (h56 238 101) + (h56 238 102) + (h56 238 106) = (h56 238 73) by omega) (show (h56 238 73) ≤ (h56 238 2) by omega) (show (h56 238 119) ≤ (h56 238 67) by omega) (show (h56 238 69) ≤ (h56 238 5) by omega) (show (h56 238 2) ≤ 12 * (h56 238 5) by omega) rb72 gs74 gp76 (fun h57 z70 g57 u57 (fz70 : 0 ≤ z70 ∧ z70 ≤ 100) (p57_0 : (h57 238 98) + (h57 238 99) + (h57 238 100) + (h57 238 101) + (h57 238 102) + (h57 238 106) = (h57 238 73)) (p57_1 : (h57 238 73) ≤ (h57 238 2)) (p57_2 : (h57 238 119) ≤ (h57 238 67)) (p57_3 : (h57 238 69) ≤ (h57 238 5)) (p57_4 : (h57 238 2) ≤ 12 * (h57 238 5)) (p57_5 : (h57 236 2) = 0) (p57_6 : (h57 236 10) = sc_ec (h 2) (h 1 1)) (p57_7 : (h57 236 11) = sc_ep (h 2) (h 1 1)) y57_0 y57_1 => ?_)
    have b77 := gi_b (lo := 0) (hi := 6) g57 238 98 rfl
    have b78 := gi_b (lo := 0) (hi := 6) g57 238 99 rfl
    have b79 := gi_b (lo := 0) (hi := 6) g57 238 100 rfl
    have b80 := gi_b (lo := 0) (hi := 6) g57 238 101 rfl
    have b81 := gi_b (lo := 0) (hi := 3) g57 238 102 rfl
    have b82 := gi_b (lo := 0) (hi := 12) g57 238 106 rfl
    have b83 := gi_b (lo := 0) (hi := 12) g57 238 73 rfl
    have e84 : h57 238 2 = h 238 2 := ((u57 238 2 rfl).trans ((u56 238 2 rfl).trans (u51 238 2 rfl)))
    have b85 := gi_b (lo := 0) (hi := 9999) g57 238 119 rfl
    have b86 := gi_b (lo := 0) (hi := 9999) g57 238 67 rfl
    have b87 := gi_b (lo := 0) (hi := 9) g57 238 69 rfl
    have e88 : h57 238 5 = h 238 5 := ((u57 238 5 rfl).trans ((u56 238 5 rfl).trans (u51 238 5 rfl)))
    have b89 := gi_b (lo := 0) (hi := 800) g57 236 2 rfl
    have b90 := gi_b (lo := -2147483648) (hi := 2147483647) g57 236 10 rfl
    have b91 := gi_b (lo := -2147483648) (hi := 2147483647) g57 236 11 rfl
    refine wk_i ?_
    refine wi_istore (i := 6) (e := z70) (lo2 := [(6, vi z70), (5, vi 0), (0, .ref 1000000), (1, .ref 0), (2, .ref 236), (3, .ref 259), (4, vi i)]) (nx := 449) (r1 := 0) (r2 := 0) (r3 := 0) rfl rfl ?_
    refine wi_goto (nx := 452) (r1 := 1529) (r2 := 0) (r3 := 0) rfl ?_
    refine wp.lo (lo := [(0, .ref 1000000), (1, .ref 0), (2, .ref 236), (3, .ref 259), (4, vi i)]) ⟨rfl, rfl, rfl, rfl, rfl, trivial⟩ rfl ?_
    have e92 : h57 241 98 = h 241 98 := ((u57 241 98 rfl).trans ((u56 241 98 rfl).trans (u51 241 98 rfl)))
    have e93 : h57 241 99 = h 241 99 := ((u57 241 99 rfl).trans ((u56 241 99 rfl).trans (u51 241 99 rfl)))
    have e94 : h57 241 100 = h 241 100 := ((u57 241 100 rfl).trans ((u56 241 100 rfl).trans (u51 241 100 rfl)))
    have e95 : h57 241 101 = h 241 101 := ((u57 241 101 rfl).trans ((u56 241 101 rfl).trans (u51 241 101 rfl)))
    have e96 : h57 241 102 = h 241 102 := ((u57 241 102 rfl).trans ((u56 241 102 rfl).trans (u51 241 102 rfl)))
    have e97 : h57 241 106 = h 241 106 := ((u57 241 106 rfl).trans ((u56 241 106 rfl).trans (u51 241 106 rfl)))
    have e98 : h57 241 73 = h 241 73 := ((u57 241 73 rfl).trans ((u56 241 73 rfl).trans (u51 241 73 rfl)))
    have e99 : h57 241 2 = h 241 2 := ((u57 241 2 rfl).trans ((u56 241 2 rfl).trans (u51 241 2 rfl)))
    have e100 : h57 241 119 = h 241 119 := ((u57 241 119 rfl).trans ((u56 241 119 rfl).trans (u51 241 119 rfl)))
    have e101 : h57 241 67 = h 241 67 := ((u57 241 67 rfl).trans ((u56 241 67 rfl).trans (u51 241 67 rfl)))
    have e102 : h57 241 69 = h 241 69 := ((u57 241 69 rfl).trans ((u56 241 69 rfl).trans (u51 241 69 rfl)))
    have e103 : h57 241 5 = h 241 5 := ((u57 241 5 rfl).trans ((u56 241 5 rfl).trans (u51 241 5 rfl)))
    have e104 : h57 1 1 = h51 1 1 := ((u57 1 1 rfl).trans (u56 1 1 rfl))
    have e105 : h57 1 2 = h51 1 2 := ((u57 1 2 rfl).trans (u56 1 2 rfl))
    have e106 : h57 1 3 = h51 1 3 := ((u57 1 3 rfl).trans (u56 1 3 rfl))
    have b107 := gi_b (lo := 0) (hi := 5) g 241 0 rfl
    have b108 := gi_b (lo := 0) (hi := 4) g 241 1 rfl
    have e109 : h57 0 12 = h 0 12 := ((u57 0 12 rfl).trans ((u56 0 12 rfl).trans (u51 0 12 rfl)))
    have e110 : h57 236 21 = h 236 21 := ((u57 236 21 rfl).trans ((u56 236 21 rfl).trans (u51 236 21 rfl)))
    exact k h57 b c ⟨g57, (show h57 1 1 = h57 236 2 by omega), (RS.i0 (f := h57 238) (by refine ⟨?_, ?_, ?_, ?_, ?_⟩ <;> omega)), (RS.i0 (f := h57 241) (by refine ⟨?_, ?_, ?_, ?_, ?_⟩ <;> omega)), y57_1, (BRh.keep br0 (fun i => ((u57 2 i (fo_nk rfl)).trans ((u56 2 i (fn_a (by omega) fn_0)).trans (u51 2 i (fo_nk rfl))))) (fun i => ((u57 237 i (fo_nk rfl)).trans ((u56 237 i (fn_a (by omega) fn_0)).trans (u51 237 i (fo_nk rfl))))) (by omega)), (show h57 1 2 = h57 236 10 by omega), (show h57 1 3 = h57 236 11 by omega), (SVx.keep sv0 (by omega) (fun i _ => ((u57 3 i (fo_nk rfl)).trans ((u56 3 i (fn_a (by omega) fn_0)).trans (u51 3 i (fo_nk rfl))))) (fun i _ => ((u57 5 i (fo_nk rfl)).trans ((u56 5 i (fn_a (by omega) fn_0)).trans (u51 5 i (fo_nk rfl))))) (fun i _ => ((u57 6 i (fo_nk rfl)).trans ((u56 6 i (fn_a (by omega) fn_0)).trans (u51 6 i (fo_nk rfl))))) (fun i _ => ((u57 8 i (fo_nk rfl)).trans ((u56 8 i (fn_a (by omega) fn_0)).trans (u51 8 i (fo_nk rfl))))) (fun i _ => ((u57 238 i (fo_lk (m := 31) (by omega) rfl)).trans ((u56 238 i (fn_a (by omega) fn_0)).trans (u51 238 i (fo_nk rfl)))))), (show h57 0 12 = h57 236 21 by omega), (fun e => (SVx.keep (ss0 (by omega)) (by omega) (fun i _ => ((u57 210 i (fo_nk rfl)).trans ((u56 210 i (fn_a (by omega) fn_0)).trans (u51 210 i (fo_nk rfl))))) (fun i _ => ((u57 212 i (fo_nk rfl)).trans ((u56 212 i (fn_a (by omega) fn_0)).trans (u51 212 i (fo_nk rfl))))) (fun i _ => ((u57 213 i (fo_nk rfl)).trans ((u56 213 i (fn_a (by omega) fn_0)).trans (u51 213 i (fo_nk rfl))))) (fun i _ => ((u57 215 i (fo_nk rfl)).trans ((u56 215 i (fn_a (by omega) fn_0)).trans (u51 215 i (fo_nk rfl))))) (fun i _ => ((u57 241 i (fo_nk rfl)).trans ((u56 241 i (fn_a (by omega) fn_0)).trans (u51 241 i (fo_nk rfl))))))), y57_0⟩ (by omega) (by omega)
  ·
    have b53 := gi_b (lo := 0) (hi := 800) g51 1 1 rfl
    have b54 := gi_b (lo := -2147483648) (hi := 2147483647) g51 1 2 rfl
    have b55 := gi_b (lo := -2147483648) (hi := 2147483647) g51 1 3 rfl
    refine wk_h 11 (by decide) rfl ?_
    refine wr_astx (i := 2) (lo2 := [(2, .retAddr 0), (0, .ref 0), (1, .ref 259)]) (nx := 12) (r1 := 0) (r2 := 0) (r3 := 0) rfl rfl ?_
    refine wi_iconst (n := 1) (nx := 13) (r1 := 0) (r2 := 0) (r3 := 0) rfl ?_
    refine wi_ireturn (nx := 14) (r1 := 0) (r2 := 0) (r3 := 0) rfl rfl ?_
    refine wk_i ?_
    refine wi_istore (i := 5) (e := 1) (lo2 := [(5, vi 1), (0, .ref 1000000), (1, .ref 0), (2, .ref 236), (3, .ref 259), (4, vi i)]) (nx := 443) (r1 := 0) (r2 := 0) (r3 := 0) rfl rfl ?_
    refine wi_aload_n (i := 2) (x := 236) (nx := 444) (r1 := 0) (r2 := 0) (r3 := 0) rfl rfl ?_
    refine wr_V (k0 := 236) (rest := []) (as := [.ref 236]) (nx := 447) (r1 := 334) (r2 := 0) (r3 := 11) rfl rfl rfl (of_decide_eq_true rfl) rfl rfl (by decide) rfl rfl (of_decide_eq_true rfl) (of_decide_eq_true rfl) ?_
    have e57 : h51 238 98 = h 238 98 := (u51 238 98 rfl)
    have e58 : h51 238 99 = h 238 99 := (u51 238 99 rfl)
    have e59 : h51 238 100 = h 238 100 := (u51 238 100 rfl)
    have e60 : h51 238 101 = h 238 101 := (u51 238 101 rfl)
    have e61 : h51 238 102 = h 238 102 := (u51 238 102 rfl)
    have e62 : h51 238 106 = h 238 106 := (u51 238 106 rfl)
    have e63 : h51 238 73 = h 238 73 := (u51 238 73 rfl)
    have e64 : h51 238 2 = h 238 2 := (u51 238 2 rfl)
    have e65 : h51 238 119 = h 238 119 := (u51 238 119 rfl)
    have e66 : h51 238 67 = h 238 67 := (u51 238 67 rfl)
    have e67 : h51 238 69 = h 238 69 := (u51 238 69 rfl)
    have e68 : h51 238 5 = h 238 5 := (u51 238 5 rfl)
    have e70 : h51 236 2 = h 236 2 := (u51 236 2 rfl)
    have rb71 : RB0 (h 2) (h 1 1) h51 := RB0.of br0 (by omega) (fun i => (u51 237 i (fo_nk rfl))) (show h51 236 2 = h 1 1 by omega)
    have gs72 := GPS.fr u51 rfl gs0
    have gp73 := GPH.fr u51 rfl gp0
    refine ct_334_236 hcr  g51   (show (h51 238 98) + (h51 238 99) + (h51 238 100) + (h51 238 101) + (h51 238 102) + (h51 238 106) = (h51 238 73) by omega) (show (h51 238 73) ≤ (h51 238 2) by omega) (show (h51 238 119) ≤ (h51 238 67) by omega) (show (h51 238 69) ≤ (h51 238 5) by omega) (show (h51 238 2) ≤ 12 * (h51 238 5) by omega) rb71 gs72 gp73 (fun h56 z69 g56 u56 (fz69 : 0 ≤ z69 ∧ z69 ≤ 100) (p56_0 : (h56 238 98) + (h56 238 99) + (h56 238 100) + (h56 238 101) + (h56 238 102) + (h56 238 106) = (h56 238 73)) (p56_1 : (h56 238 73) ≤ (h56 238 2)) (p56_2 : (h56 238 119) ≤ (h56 238 67)) (p56_3 : (h56 238 69) ≤ (h56 238 5)) (p56_4 : (h56 238 2) ≤ 12 * (h56 238 5)) (p56_5 : (h56 236 2) = 0) (p56_6 : (h56 236 10) = sc_ec (h 2) (h 1 1)) (p56_7 : (h56 236 11) = sc_ep (h 2) (h 1 1)) y56_0 y56_1 => ?_)
    have b74 := gi_b (lo := 0) (hi := 6) g56 238 98 rfl
    have b75 := gi_b (lo := 0) (hi := 6) g56 238 99 rfl
    have b76 := gi_b (lo := 0) (hi := 6) g56 238 100 rfl
    have b77 := gi_b (lo := 0) (hi := 6) g56 238 101 rfl
    have b78 := gi_b (lo := 0) (hi := 3) g56 238 102 rfl
    have b79 := gi_b (lo := 0) (hi := 12) g56 238 106 rfl
    have b80 := gi_b (lo := 0) (hi := 12) g56 238 73 rfl
    have e81 : h56 238 2 = h 238 2 := ((u56 238 2 rfl).trans (u51 238 2 rfl))
    have b82 := gi_b (lo := 0) (hi := 9999) g56 238 119 rfl
    have b83 := gi_b (lo := 0) (hi := 9999) g56 238 67 rfl
    have b84 := gi_b (lo := 0) (hi := 9) g56 238 69 rfl
    have e85 : h56 238 5 = h 238 5 := ((u56 238 5 rfl).trans (u51 238 5 rfl))
    have b86 := gi_b (lo := 0) (hi := 800) g56 236 2 rfl
    have b87 := gi_b (lo := -2147483648) (hi := 2147483647) g56 236 10 rfl
    have b88 := gi_b (lo := -2147483648) (hi := 2147483647) g56 236 11 rfl
    refine wk_i ?_
    refine wi_istore (i := 6) (e := z69) (lo2 := [(6, vi z69), (5, vi 1), (0, .ref 1000000), (1, .ref 0), (2, .ref 236), (3, .ref 259), (4, vi i)]) (nx := 449) (r1 := 0) (r2 := 0) (r3 := 0) rfl rfl ?_
    refine wi_goto (nx := 452) (r1 := 1529) (r2 := 0) (r3 := 0) rfl ?_
    refine wp.lo (lo := [(0, .ref 1000000), (1, .ref 0), (2, .ref 236), (3, .ref 259), (4, vi i)]) ⟨rfl, rfl, rfl, rfl, rfl, trivial⟩ rfl ?_
    have e89 : h56 241 98 = h 241 98 := ((u56 241 98 rfl).trans (u51 241 98 rfl))
    have e90 : h56 241 99 = h 241 99 := ((u56 241 99 rfl).trans (u51 241 99 rfl))
    have e91 : h56 241 100 = h 241 100 := ((u56 241 100 rfl).trans (u51 241 100 rfl))
    have e92 : h56 241 101 = h 241 101 := ((u56 241 101 rfl).trans (u51 241 101 rfl))
    have e93 : h56 241 102 = h 241 102 := ((u56 241 102 rfl).trans (u51 241 102 rfl))
    have e94 : h56 241 106 = h 241 106 := ((u56 241 106 rfl).trans (u51 241 106 rfl))
    have e95 : h56 241 73 = h 241 73 := ((u56 241 73 rfl).trans (u51 241 73 rfl))
    have e96 : h56 241 2 = h 241 2 := ((u56 241 2 rfl).trans (u51 241 2 rfl))
    have e97 : h56 241 119 = h 241 119 := ((u56 241 119 rfl).trans (u51 241 119 rfl))
    have e98 : h56 241 67 = h 241 67 := ((u56 241 67 rfl).trans (u51 241 67 rfl))
    have e99 : h56 241 69 = h 241 69 := ((u56 241 69 rfl).trans (u51 241 69 rfl))
    have e100 : h56 241 5 = h 241 5 := ((u56 241 5 rfl).trans (u51 241 5 rfl))
    have e101 : h56 1 1 = h51 1 1 := (u56 1 1 rfl)
    have e102 : h56 1 2 = h51 1 2 := (u56 1 2 rfl)
    have e103 : h56 1 3 = h51 1 3 := (u56 1 3 rfl)
    have b104 := gi_b (lo := 0) (hi := 5) g 241 0 rfl
    have b105 := gi_b (lo := 0) (hi := 4) g 241 1 rfl
    have e106 : h56 0 12 = h 0 12 := ((u56 0 12 rfl).trans (u51 0 12 rfl))
    have e107 : h56 236 21 = h 236 21 := ((u56 236 21 rfl).trans (u51 236 21 rfl))
    exact k h56 (b - 1) (c - 6) ⟨g56, (show h56 1 1 = h56 236 2 by omega), (RS.i0 (f := h56 238) (by refine ⟨?_, ?_, ?_, ?_, ?_⟩ <;> omega)), (RS.i0 (f := h56 241) (by refine ⟨?_, ?_, ?_, ?_, ?_⟩ <;> omega)), y56_1, (BRh.keep br0 (fun i => ((u56 2 i (fo_nk rfl)).trans (u51 2 i (fo_nk rfl)))) (fun i => ((u56 237 i (fo_nk rfl)).trans (u51 237 i (fo_nk rfl)))) (by omega)), (show h56 1 2 = h56 236 10 by omega), (show h56 1 3 = h56 236 11 by omega), (SVx.keep sv0 (by omega) (fun i _ => ((u56 3 i (fo_nk rfl)).trans (u51 3 i (fo_nk rfl)))) (fun i _ => ((u56 5 i (fo_nk rfl)).trans (u51 5 i (fo_nk rfl)))) (fun i _ => ((u56 6 i (fo_nk rfl)).trans (u51 6 i (fo_nk rfl)))) (fun i _ => ((u56 8 i (fo_nk rfl)).trans (u51 8 i (fo_nk rfl)))) (fun i _ => ((u56 238 i (fo_lk (m := 31) (by omega) rfl)).trans (u51 238 i (fo_nk rfl))))), (show h56 0 12 = h56 236 21 by omega), (fun e => (SVx.keep (ss0 (by omega)) (by omega) (fun i _ => ((u56 210 i (fo_nk rfl)).trans (u51 210 i (fo_nk rfl)))) (fun i _ => ((u56 212 i (fo_nk rfl)).trans (u51 212 i (fo_nk rfl)))) (fun i _ => ((u56 213 i (fo_nk rfl)).trans (u51 213 i (fo_nk rfl)))) (fun i _ => ((u56 215 i (fo_nk rfl)).trans (u51 215 i (fo_nk rfl)))) (fun i _ => ((u56 241 i (fo_nk rfl)).trans (u51 241 i (fo_nk rfl)))))), y56_0⟩ (by omega) (by omega)
-- the law, case at 452
set_option maxRecDepth 100000 in
set_option maxHeartbeats 100000000 in
theorem lc_452 {L : Nat} {xs : Nat → Int32} {d b c : Nat} {h : hp} {cr : Nat → Nat → Option Nat} {Q : hp_Q} (hcr : CR cr) (hL : L ≤ 3072) (hr : 1 ≤ b ∧ 6 ≤ c) (I : LI h) (i : Int) (hi : 0 ≤ i ∧ i + 6 ≤ L) (k : ∀ (h2 : hp) (b2 c2 : Nat), LI h2 → b ≤ b2 + 1 → c ≤ c2 + 6 → wp (md_xa (L, xs)) (d + 107) 0 (1529, [(0, .ref 1000000), (1, .ref 0), (2, .ref 236), (3, .ref 259), (4, vi i)], [], hp_w h2 cr, b2, c2) Q) : wp (md_xa (L, xs)) (d + 107) 0 (452, [(0, .ref 1000000), (1, .ref 0), (2, .ref 236), (3, .ref 259), (4, vi i)], [], hp_w h cr, b, c) Q := by
  obtain ⟨g, i11, r238, r241, gp0, br0, er2, er3, sv0, sf0, ss0, gs0⟩ := I
  have r238e := r238.e0
  have r241e := r241.e0
  obtain ⟨⟨se0, se1, se2, se3, se4, se5, se6, se7, se8, se9⟩, -⟩ := id sv0
  have b1 := gi_b (lo := 0) (hi := 5) g 3 0 rfl
  have b2 := gi_b (lo := 0) (hi := 5) g 238 0 rfl
  have b3 := gi_b (lo := 0) (hi := 4) g 3 1 rfl
  have b4 := gi_b (lo := 0) (hi := 4) g 238 1 rfl
  have b5 := gi_b (lo := 0) (hi := 12) g 3 2 rfl
  have b6 := gi_b (lo := 0) (hi := 12) g 238 2 rfl
  have b7 := gi_b (lo := -2147483648) (hi := 2147483647) g 3 3 rfl
  have b8 := gi_b (lo := 0) (hi := 999) g 238 3 rfl
  have b9 := gi_b (lo := -2147483648) (hi := 2147483647) g 3 4 rfl
  have b10 := gi_b (lo := 0) (hi := 999) g 238 4 rfl
  have b11 := gi_b (lo := -2147483648) (hi := 2147483647) g 3 5 rfl
  have b12 := gi_b (lo := 0) (hi := 9) g 238 5 rfl
  have b13 := gi_b (lo := -2147483648) (hi := 2147483647) g 3 6 rfl
  have b14 := gi_b (lo := 0) (hi := 999) g 238 6 rfl
  have b15 := gi_b (lo := -2147483648) (hi := 2147483647) g 3 7 rfl
  have b16 := gi_b (lo := 0) (hi := 3) g 238 7 rfl
  have b17 := gi_b (lo := -2147483648) (hi := 2147483647) g 3 8 rfl
  have b18 := gi_b (lo := 0) (hi := 999) g 238 8 rfl
  have b19 := gi_b (lo := -2147483648) (hi := 2147483647) g 3 9 rfl
  have b20 := gi_b (lo := 0) (hi := 999) g 238 9 rfl
  have b21 := gi_b (lo := 0) (hi := 1) g 0 12 rfl
  have b22 := gi_b (lo := 0) (hi := 1) g 236 21 rfl
  have bl_ := gi_b (lo := 0) (hi := 800) g 1 1 rfl
  have tb0 : BufC (h 2) (h 1 1) h := ⟨fun _ => rfl, rfl, by omega, by omega⟩
  have b23 := gi_b (lo := 0) (hi := 6) g 238 98 rfl
  have b24 := gi_b (lo := 0) (hi := 6) g 238 99 rfl
  have b25 := gi_b (lo := 0) (hi := 6) g 238 100 rfl
  have b26 := gi_b (lo := 0) (hi := 6) g 238 101 rfl
  have b27 := gi_b (lo := 0) (hi := 3) g 238 102 rfl
  have b28 := gi_b (lo := 0) (hi := 12) g 238 106 rfl
  have b29 := gi_b (lo := 0) (hi := 12) g 238 73 rfl
  have b30 := gi_b (lo := 0) (hi := 9999) g 238 119 rfl
  have b31 := gi_b (lo := 0) (hi := 9999) g 238 67 rfl
  have b32 := gi_b (lo := 0) (hi := 9) g 238 69 rfl
  have b33 := gi_b (lo := 0) (hi := 6) g 241 98 rfl
  have b34 := gi_b (lo := 0) (hi := 6) g 241 99 rfl
  have b35 := gi_b (lo := 0) (hi := 6) g 241 100 rfl
  have b36 := gi_b (lo := 0) (hi := 6) g 241 101 rfl
  have b37 := gi_b (lo := 0) (hi := 3) g 241 102 rfl
  have b38 := gi_b (lo := 0) (hi := 12) g 241 106 rfl
  have b39 := gi_b (lo := 0) (hi := 12) g 241 73 rfl
  have b40 := gi_b (lo := 0) (hi := 12) g 241 2 rfl
  have b41 := gi_b (lo := 0) (hi := 9999) g 241 119 rfl
  have b42 := gi_b (lo := 0) (hi := 9999) g 241 67 rfl
  have b43 := gi_b (lo := 0) (hi := 9) g 241 69 rfl
  have b44 := gi_b (lo := 0) (hi := 9) g 241 5 rfl
  have b45 := gi_b (lo := 0) (hi := 800) g 1 1 rfl
  have b46 := gi_b (lo := 0) (hi := 800) g 236 2 rfl
  have b47 := gi_b (lo := -2147483648) (hi := 2147483647) g 1 2 rfl
  have b48 := gi_b (lo := -2147483648) (hi := 2147483647) g 236 10 rfl
  have b49 := gi_b (lo := -2147483648) (hi := 2147483647) g 1 3 rfl
  have b50 := gi_b (lo := -2147483648) (hi := 2147483647) g 236 11 rfl
  refine wi_aload_n (i := 1) (x := 0) (nx := 453) (r1 := 0) (r2 := 0) (r3 := 0) rfl rfl ?_
  refine wr_V (k0 := 0) (rest := []) (as := [.ref 0]) (nx := 456) (r1 := 27) (r2 := 0) (r3 := 0) rfl rfl rfl (of_decide_eq_true rfl) rfl rfl (by decide) rfl rfl (of_decide_eq_true rfl) (of_decide_eq_true rfl) ?_
  refine ct_27_0 hcr  g    (fun z52  (fz52 : -2147483648 ≤ z52 ∧ z52 ≤ 2147483647) => ?_)
  refine wk_i ?_
  refine wi_pop (nx := 457) (r1 := 0) (r2 := 0) (r3 := 0) rfl rfl ?_
  refine wi_aload_n (i := 2) (x := 236) (nx := 458) (r1 := 0) (r2 := 0) (r3 := 0) rfl rfl ?_
  refine wr_V (k0 := 236) (rest := []) (as := [.ref 236]) (nx := 461) (r1 := 211) (r2 := 0) (r3 := 11) rfl rfl rfl (of_decide_eq_true rfl) rfl rfl (by decide) rfl rfl (of_decide_eq_true rfl) (of_decide_eq_true rfl) ?_
  refine ct_211_236 hcr  g    (fun h53 z54 g53 u53 (fz54 : -2147483648 ≤ z54 ∧ z54 ≤ 2147483647) => ?_)
  refine wk_i ?_
  refine wi_pop (nx := 462) (r1 := 0) (r2 := 0) (r3 := 0) rfl rfl ?_
  refine wi_goto (nx := 465) (r1 := 1529) (r2 := 0) (r3 := 0) rfl ?_
  have e55 : h53 238 98 = h 238 98 := (u53 238 98 rfl)
  have e56 : h53 238 99 = h 238 99 := (u53 238 99 rfl)
  have e57 : h53 238 100 = h 238 100 := (u53 238 100 rfl)
  have e58 : h53 238 101 = h 238 101 := (u53 238 101 rfl)
  have e59 : h53 238 102 = h 238 102 := (u53 238 102 rfl)
  have e60 : h53 238 106 = h 238 106 := (u53 238 106 rfl)
  have e61 : h53 238 73 = h 238 73 := (u53 238 73 rfl)
  have e62 : h53 238 2 = h 238 2 := (u53 238 2 rfl)
  have e63 : h53 238 119 = h 238 119 := (u53 238 119 rfl)
  have e64 : h53 238 67 = h 238 67 := (u53 238 67 rfl)
  have e65 : h53 238 69 = h 238 69 := (u53 238 69 rfl)
  have e66 : h53 238 5 = h 238 5 := (u53 238 5 rfl)
  have e67 : h53 241 98 = h 241 98 := (u53 241 98 rfl)
  have e68 : h53 241 99 = h 241 99 := (u53 241 99 rfl)
  have e69 : h53 241 100 = h 241 100 := (u53 241 100 rfl)
  have e70 : h53 241 101 = h 241 101 := (u53 241 101 rfl)
  have e71 : h53 241 102 = h 241 102 := (u53 241 102 rfl)
  have e72 : h53 241 106 = h 241 106 := (u53 241 106 rfl)
  have e73 : h53 241 73 = h 241 73 := (u53 241 73 rfl)
  have e74 : h53 241 2 = h 241 2 := (u53 241 2 rfl)
  have e75 : h53 241 119 = h 241 119 := (u53 241 119 rfl)
  have e76 : h53 241 67 = h 241 67 := (u53 241 67 rfl)
  have e77 : h53 241 69 = h 241 69 := (u53 241 69 rfl)
  have e78 : h53 241 5 = h 241 5 := (u53 241 5 rfl)
  have e79 : h53 1 1 = h 1 1 := (u53 1 1 rfl)
  have e80 : h53 236 2 = h 236 2 := (u53 236 2 rfl)
  have e81 : h53 1 2 = h 1 2 := (u53 1 2 rfl)
  have e82 : h53 236 10 = h 236 10 := (u53 236 10 rfl)
  have e83 : h53 1 3 = h 1 3 := (u53 1 3 rfl)
  have e84 : h53 236 11 = h 236 11 := (u53 236 11 rfl)
  have gp85 := GPH.fr u53 rfl gp0
  have b86 := gi_b (lo := 0) (hi := 5) g 241 0 rfl
  have b87 := gi_b (lo := 0) (hi := 4) g 241 1 rfl
  have gs88 := GPS.fr u53 rfl gs0
  have e89 : h53 0 12 = h 0 12 := (u53 0 12 rfl)
  have e90 : h53 236 21 = h 236 21 := (u53 236 21 rfl)
  exact k h53 b c ⟨g53, (show h53 1 1 = h53 236 2 by omega), (RS.i0 (f := h53 238) (by refine ⟨?_, ?_, ?_, ?_, ?_⟩ <;> omega)), (RS.i0 (f := h53 241) (by refine ⟨?_, ?_, ?_, ?_, ?_⟩ <;> omega)), gp85, (BRh.keep br0 (fun i => (u53 2 i (fn_a (by decide) fn_0))) (fun i => (u53 237 i (fn_a (by decide) fn_0))) (by omega)), (show h53 1 2 = h53 236 10 by omega), (show h53 1 3 = h53 236 11 by omega), (SVx.keep sv0 (by omega) (fun i _ => (u53 3 i (fn_a (by decide) fn_0))) (fun i _ => (u53 5 i (fn_a (by decide) fn_0))) (fun i _ => (u53 6 i (fn_a (by decide) fn_0))) (fun i _ => (u53 8 i (fn_a (by decide) fn_0))) (fun i _ => (u53 238 i (fn_a (by decide) fn_0)))), (show h53 0 12 = h53 236 21 by omega), (fun e => (SVx.keep (ss0 (by omega)) (by omega) (fun i _ => (u53 210 i (fn_a (by decide) fn_0))) (fun i _ => (u53 212 i (fn_a (by decide) fn_0))) (fun i _ => (u53 213 i (fn_a (by decide) fn_0))) (fun i _ => (u53 215 i (fn_a (by decide) fn_0))) (fun i _ => (u53 241 i (fn_a (by decide) fn_0))))), gs88⟩ (by omega) (by omega)
-- the law, case at 465
set_option maxRecDepth 100000 in
set_option maxHeartbeats 100000000 in
theorem lc_465 {L : Nat} {xs : Nat → Int32} {d b c : Nat} {h : hp} {cr : Nat → Nat → Option Nat} {Q : hp_Q} (hcr : CR cr) (hL : L ≤ 3072) (hr : 1 ≤ b ∧ 6 ≤ c) (I : LI h) (i : Int) (hi : 0 ≤ i ∧ i + 6 ≤ L) (k : ∀ (h2 : hp) (b2 c2 : Nat), LI h2 → b ≤ b2 + 1 → c ≤ c2 + 6 → wp (md_xa (L, xs)) (d + 107) 0 (1529, [(0, .ref 1000000), (1, .ref 0), (2, .ref 236), (3, .ref 259), (4, vi i)], [], hp_w h2 cr, b2, c2) Q) : wp (md_xa (L, xs)) (d + 107) 0 (465, [(0, .ref 1000000), (1, .ref 0), (2, .ref 236), (3, .ref 259), (4, vi i)], [], hp_w h cr, b, c) Q := by
  obtain ⟨g, i11, r238, r241, gp0, br0, er2, er3, sv0, sf0, ss0, gs0⟩ := I
  have r238e := r238.e0
  have r241e := r241.e0
  obtain ⟨⟨se0, se1, se2, se3, se4, se5, se6, se7, se8, se9⟩, -⟩ := id sv0
  have b1 := gi_b (lo := 0) (hi := 5) g 3 0 rfl
  have b2 := gi_b (lo := 0) (hi := 5) g 238 0 rfl
  have b3 := gi_b (lo := 0) (hi := 4) g 3 1 rfl
  have b4 := gi_b (lo := 0) (hi := 4) g 238 1 rfl
  have b5 := gi_b (lo := 0) (hi := 12) g 3 2 rfl
  have b6 := gi_b (lo := 0) (hi := 12) g 238 2 rfl
  have b7 := gi_b (lo := -2147483648) (hi := 2147483647) g 3 3 rfl
  have b8 := gi_b (lo := 0) (hi := 999) g 238 3 rfl
  have b9 := gi_b (lo := -2147483648) (hi := 2147483647) g 3 4 rfl
  have b10 := gi_b (lo := 0) (hi := 999) g 238 4 rfl
  have b11 := gi_b (lo := -2147483648) (hi := 2147483647) g 3 5 rfl
  have b12 := gi_b (lo := 0) (hi := 9) g 238 5 rfl
  have b13 := gi_b (lo := -2147483648) (hi := 2147483647) g 3 6 rfl
  have b14 := gi_b (lo := 0) (hi := 999) g 238 6 rfl
  have b15 := gi_b (lo := -2147483648) (hi := 2147483647) g 3 7 rfl
  have b16 := gi_b (lo := 0) (hi := 3) g 238 7 rfl
  have b17 := gi_b (lo := -2147483648) (hi := 2147483647) g 3 8 rfl
  have b18 := gi_b (lo := 0) (hi := 999) g 238 8 rfl
  have b19 := gi_b (lo := -2147483648) (hi := 2147483647) g 3 9 rfl
  have b20 := gi_b (lo := 0) (hi := 999) g 238 9 rfl
  have b21 := gi_b (lo := 0) (hi := 1) g 0 12 rfl
  have b22 := gi_b (lo := 0) (hi := 1) g 236 21 rfl
  have bl_ := gi_b (lo := 0) (hi := 800) g 1 1 rfl
  have tb0 : BufC (h 2) (h 1 1) h := ⟨fun _ => rfl, rfl, by omega, by omega⟩
  have b23 := gi_b (lo := 0) (hi := 6) g 238 98 rfl
  have b24 := gi_b (lo := 0) (hi := 6) g 238 99 rfl
  have b25 := gi_b (lo := 0) (hi := 6) g 238 100 rfl
  have b26 := gi_b (lo := 0) (hi := 6) g 238 101 rfl
  have b27 := gi_b (lo := 0) (hi := 3) g 238 102 rfl
  have b28 := gi_b (lo := 0) (hi := 12) g 238 106 rfl
  have b29 := gi_b (lo := 0) (hi := 12) g 238 73 rfl
  have b30 := gi_b (lo := 0) (hi := 9999) g 238 119 rfl
  have b31 := gi_b (lo := 0) (hi := 9999) g 238 67 rfl
  have b32 := gi_b (lo := 0) (hi := 9) g 238 69 rfl
  have b33 := gi_b (lo := 0) (hi := 6) g 241 98 rfl
  have b34 := gi_b (lo := 0) (hi := 6) g 241 99 rfl
  have b35 := gi_b (lo := 0) (hi := 6) g 241 100 rfl
  have b36 := gi_b (lo := 0) (hi := 6) g 241 101 rfl
  have b37 := gi_b (lo := 0) (hi := 3) g 241 102 rfl
  have b38 := gi_b (lo := 0) (hi := 12) g 241 106 rfl
  have b39 := gi_b (lo := 0) (hi := 12) g 241 73 rfl
  have b40 := gi_b (lo := 0) (hi := 12) g 241 2 rfl
  have b41 := gi_b (lo := 0) (hi := 9999) g 241 119 rfl
  have b42 := gi_b (lo := 0) (hi := 9999) g 241 67 rfl
  have b43 := gi_b (lo := 0) (hi := 9) g 241 69 rfl
  have b44 := gi_b (lo := 0) (hi := 9) g 241 5 rfl
  have b45 := gi_b (lo := 0) (hi := 800) g 1 1 rfl
  have b46 := gi_b (lo := 0) (hi := 800) g 236 2 rfl
  have b47 := gi_b (lo := -2147483648) (hi := 2147483647) g 1 2 rfl
  have b48 := gi_b (lo := -2147483648) (hi := 2147483647) g 236 10 rfl
  have b49 := gi_b (lo := -2147483648) (hi := 2147483647) g 1 3 rfl
  have b50 := gi_b (lo := -2147483648) (hi := 2147483647) g 236 11 rfl
  refine wi_aload_n (i := 1) (x := 0) (nx := 466) (r1 := 0) (r2 := 0) (r3 := 0) rfl rfl ?_
  refine wr_V (k0 := 0) (rest := []) (as := [.ref 0]) (nx := 469) (r1 := 28) (r2 := 0) (r3 := 0) rfl rfl rfl (of_decide_eq_true rfl) rfl rfl (by decide) rfl rfl (of_decide_eq_true rfl) (of_decide_eq_true rfl) ?_
  refine ct_28_0 hcr  g    (fun z52  (fz52 : -2147483648 ≤ z52 ∧ z52 ≤ 2147483647) => ?_)
  refine wk_i ?_
  refine wi_pop (nx := 470) (r1 := 0) (r2 := 0) (r3 := 0) rfl rfl ?_
  refine wi_aload_n (i := 2) (x := 236) (nx := 471) (r1 := 0) (r2 := 0) (r3 := 0) rfl rfl ?_
  refine wr_V (k0 := 236) (rest := []) (as := [.ref 236]) (nx := 474) (r1 := 212) (r2 := 0) (r3 := 11) rfl rfl rfl (of_decide_eq_true rfl) rfl rfl (by decide) rfl rfl (of_decide_eq_true rfl) (of_decide_eq_true rfl) ?_
  refine ct_212_236 hcr  g    (fun h53 z54 g53 u53 (fz54 : -2147483648 ≤ z54 ∧ z54 ≤ 2147483647) => ?_)
  refine wk_i ?_
  refine wi_pop (nx := 475) (r1 := 0) (r2 := 0) (r3 := 0) rfl rfl ?_
  refine wi_goto (nx := 478) (r1 := 1529) (r2 := 0) (r3 := 0) rfl ?_
  have e55 : h53 238 98 = h 238 98 := (u53 238 98 rfl)
  have e56 : h53 238 99 = h 238 99 := (u53 238 99 rfl)
  have e57 : h53 238 100 = h 238 100 := (u53 238 100 rfl)
  have e58 : h53 238 101 = h 238 101 := (u53 238 101 rfl)
  have e59 : h53 238 102 = h 238 102 := (u53 238 102 rfl)
  have e60 : h53 238 106 = h 238 106 := (u53 238 106 rfl)
  have e61 : h53 238 73 = h 238 73 := (u53 238 73 rfl)
  have e62 : h53 238 2 = h 238 2 := (u53 238 2 rfl)
  have e63 : h53 238 119 = h 238 119 := (u53 238 119 rfl)
  have e64 : h53 238 67 = h 238 67 := (u53 238 67 rfl)
  have e65 : h53 238 69 = h 238 69 := (u53 238 69 rfl)
  have e66 : h53 238 5 = h 238 5 := (u53 238 5 rfl)
  have e67 : h53 241 98 = h 241 98 := (u53 241 98 rfl)
  have e68 : h53 241 99 = h 241 99 := (u53 241 99 rfl)
  have e69 : h53 241 100 = h 241 100 := (u53 241 100 rfl)
  have e70 : h53 241 101 = h 241 101 := (u53 241 101 rfl)
  have e71 : h53 241 102 = h 241 102 := (u53 241 102 rfl)
  have e72 : h53 241 106 = h 241 106 := (u53 241 106 rfl)
  have e73 : h53 241 73 = h 241 73 := (u53 241 73 rfl)
  have e74 : h53 241 2 = h 241 2 := (u53 241 2 rfl)
  have e75 : h53 241 119 = h 241 119 := (u53 241 119 rfl)
  have e76 : h53 241 67 = h 241 67 := (u53 241 67 rfl)
  have e77 : h53 241 69 = h 241 69 := (u53 241 69 rfl)
  have e78 : h53 241 5 = h 241 5 := (u53 241 5 rfl)
  have e79 : h53 1 1 = h 1 1 := (u53 1 1 rfl)
  have e80 : h53 236 2 = h 236 2 := (u53 236 2 rfl)
  have e81 : h53 1 2 = h 1 2 := (u53 1 2 rfl)
  have e82 : h53 236 10 = h 236 10 := (u53 236 10 rfl)
  have e83 : h53 1 3 = h 1 3 := (u53 1 3 rfl)
  have e84 : h53 236 11 = h 236 11 := (u53 236 11 rfl)
  have gp85 := GPH.fr u53 rfl gp0
  have b86 := gi_b (lo := 0) (hi := 5) g 241 0 rfl
  have b87 := gi_b (lo := 0) (hi := 4) g 241 1 rfl
  have gs88 := GPS.fr u53 rfl gs0
  have e89 : h53 0 12 = h 0 12 := (u53 0 12 rfl)
  have e90 : h53 236 21 = h 236 21 := (u53 236 21 rfl)
  exact k h53 b c ⟨g53, (show h53 1 1 = h53 236 2 by omega), (RS.i0 (f := h53 238) (by refine ⟨?_, ?_, ?_, ?_, ?_⟩ <;> omega)), (RS.i0 (f := h53 241) (by refine ⟨?_, ?_, ?_, ?_, ?_⟩ <;> omega)), gp85, (BRh.keep br0 (fun i => (u53 2 i (fn_a (by decide) fn_0))) (fun i => (u53 237 i (fn_a (by decide) fn_0))) (by omega)), (show h53 1 2 = h53 236 10 by omega), (show h53 1 3 = h53 236 11 by omega), (SVx.keep sv0 (by omega) (fun i _ => (u53 3 i (fn_a (by decide) fn_0))) (fun i _ => (u53 5 i (fn_a (by decide) fn_0))) (fun i _ => (u53 6 i (fn_a (by decide) fn_0))) (fun i _ => (u53 8 i (fn_a (by decide) fn_0))) (fun i _ => (u53 238 i (fn_a (by decide) fn_0)))), (show h53 0 12 = h53 236 21 by omega), (fun e => (SVx.keep (ss0 (by omega)) (by omega) (fun i _ => (u53 210 i (fn_a (by decide) fn_0))) (fun i _ => (u53 212 i (fn_a (by decide) fn_0))) (fun i _ => (u53 213 i (fn_a (by decide) fn_0))) (fun i _ => (u53 215 i (fn_a (by decide) fn_0))) (fun i _ => (u53 241 i (fn_a (by decide) fn_0))))), gs88⟩ (by omega) (by omega)
-- the law, case at 478
set_option maxRecDepth 100000 in
set_option maxHeartbeats 100000000 in
theorem lc_478 {L : Nat} {xs : Nat → Int32} {d b c : Nat} {h : hp} {cr : Nat → Nat → Option Nat} {Q : hp_Q} (hcr : CR cr) (hL : L ≤ 3072) (hr : 1 ≤ b ∧ 6 ≤ c) (I : LI h) (i : Int) (hi : 0 ≤ i ∧ i + 6 ≤ L) (k : ∀ (h2 : hp) (b2 c2 : Nat), LI h2 → b ≤ b2 + 1 → c ≤ c2 + 6 → wp (md_xa (L, xs)) (d + 107) 0 (1529, [(0, .ref 1000000), (1, .ref 0), (2, .ref 236), (3, .ref 259), (4, vi i)], [], hp_w h2 cr, b2, c2) Q) : wp (md_xa (L, xs)) (d + 107) 0 (478, [(0, .ref 1000000), (1, .ref 0), (2, .ref 236), (3, .ref 259), (4, vi i)], [], hp_w h cr, b, c) Q := by
  obtain ⟨g, i11, r238, r241, gp0, br0, er2, er3, sv0, sf0, ss0, gs0⟩ := I
  have r238e := r238.e0
  have r241e := r241.e0
  obtain ⟨⟨se0, se1, se2, se3, se4, se5, se6, se7, se8, se9⟩, -⟩ := id sv0
  have b1 := gi_b (lo := 0) (hi := 5) g 3 0 rfl
  have b2 := gi_b (lo := 0) (hi := 5) g 238 0 rfl
  have b3 := gi_b (lo := 0) (hi := 4) g 3 1 rfl
  have b4 := gi_b (lo := 0) (hi := 4) g 238 1 rfl
  have b5 := gi_b (lo := 0) (hi := 12) g 3 2 rfl
  have b6 := gi_b (lo := 0) (hi := 12) g 238 2 rfl
  have b7 := gi_b (lo := -2147483648) (hi := 2147483647) g 3 3 rfl
  have b8 := gi_b (lo := 0) (hi := 999) g 238 3 rfl
  have b9 := gi_b (lo := -2147483648) (hi := 2147483647) g 3 4 rfl
  have b10 := gi_b (lo := 0) (hi := 999) g 238 4 rfl
  have b11 := gi_b (lo := -2147483648) (hi := 2147483647) g 3 5 rfl
  have b12 := gi_b (lo := 0) (hi := 9) g 238 5 rfl
  have b13 := gi_b (lo := -2147483648) (hi := 2147483647) g 3 6 rfl
  have b14 := gi_b (lo := 0) (hi := 999) g 238 6 rfl
  have b15 := gi_b (lo := -2147483648) (hi := 2147483647) g 3 7 rfl
  have b16 := gi_b (lo := 0) (hi := 3) g 238 7 rfl
  have b17 := gi_b (lo := -2147483648) (hi := 2147483647) g 3 8 rfl
  have b18 := gi_b (lo := 0) (hi := 999) g 238 8 rfl
  have b19 := gi_b (lo := -2147483648) (hi := 2147483647) g 3 9 rfl
  have b20 := gi_b (lo := 0) (hi := 999) g 238 9 rfl
  have b21 := gi_b (lo := 0) (hi := 1) g 0 12 rfl
  have b22 := gi_b (lo := 0) (hi := 1) g 236 21 rfl
  have bl_ := gi_b (lo := 0) (hi := 800) g 1 1 rfl
  have tb0 : BufC (h 2) (h 1 1) h := ⟨fun _ => rfl, rfl, by omega, by omega⟩
  have b23 := gi_b (lo := 0) (hi := 6) g 238 98 rfl
  have b24 := gi_b (lo := 0) (hi := 6) g 238 99 rfl
  have b25 := gi_b (lo := 0) (hi := 6) g 238 100 rfl
  have b26 := gi_b (lo := 0) (hi := 6) g 238 101 rfl
  have b27 := gi_b (lo := 0) (hi := 3) g 238 102 rfl
  have b28 := gi_b (lo := 0) (hi := 12) g 238 106 rfl
  have b29 := gi_b (lo := 0) (hi := 12) g 238 73 rfl
  have b30 := gi_b (lo := 0) (hi := 9999) g 238 119 rfl
  have b31 := gi_b (lo := 0) (hi := 9999) g 238 67 rfl
  have b32 := gi_b (lo := 0) (hi := 9) g 238 69 rfl
  have b33 := gi_b (lo := 0) (hi := 6) g 241 98 rfl
  have b34 := gi_b (lo := 0) (hi := 6) g 241 99 rfl
  have b35 := gi_b (lo := 0) (hi := 6) g 241 100 rfl
  have b36 := gi_b (lo := 0) (hi := 6) g 241 101 rfl
  have b37 := gi_b (lo := 0) (hi := 3) g 241 102 rfl
  have b38 := gi_b (lo := 0) (hi := 12) g 241 106 rfl
  have b39 := gi_b (lo := 0) (hi := 12) g 241 73 rfl
  have b40 := gi_b (lo := 0) (hi := 12) g 241 2 rfl
  have b41 := gi_b (lo := 0) (hi := 9999) g 241 119 rfl
  have b42 := gi_b (lo := 0) (hi := 9999) g 241 67 rfl
  have b43 := gi_b (lo := 0) (hi := 9) g 241 69 rfl
  have b44 := gi_b (lo := 0) (hi := 9) g 241 5 rfl
  have b45 := gi_b (lo := 0) (hi := 800) g 1 1 rfl
  have b46 := gi_b (lo := 0) (hi := 800) g 236 2 rfl
  have b47 := gi_b (lo := -2147483648) (hi := 2147483647) g 1 2 rfl
  have b48 := gi_b (lo := -2147483648) (hi := 2147483647) g 236 10 rfl
  have b49 := gi_b (lo := -2147483648) (hi := 2147483647) g 1 3 rfl
  have b50 := gi_b (lo := -2147483648) (hi := 2147483647) g 236 11 rfl
  refine wi_aload_n (i := 1) (x := 0) (nx := 479) (r1 := 0) (r2 := 0) (r3 := 0) rfl rfl ?_
  refine wi_aload_n (i := 0) (x := 1000000) (nx := 480) (r1 := 0) (r2 := 0) (r3 := 0) rfl rfl ?_
  refine wi_iload (i := 4) (e := i) (nx := 482) (r1 := 0) (r2 := 0) (r3 := 0) rfl rfl ?_
  refine wi_iconst (n := 1) (nx := 483) (r1 := 0) (r2 := 0) (r3 := 0) rfl ?_
  refine wr_add (nx := 484) (r1 := 0) (r2 := 0) (r3 := 0) rfl (fun e51 (fe51 : e51 = i + 1) => ?_)
  obtain ⟨i52, ei52⟩ : ∃ q : Nat, e51 = (q : Int) := ⟨(e51).toNat, by omega⟩
  have s53 := sc_b (xs i52)
  refine wr_sc (a := e51) (f := i52) (nx := 485) (r1 := 0) (r2 := 0) (r3 := 0) rfl (by omega) (by omega) hL ?_
  refine wi_aload_n (i := 3) (x := 259) (nx := 486) (r1 := 0) (r2 := 0) (r3 := 0) rfl rfl ?_
  refine wi_S (rest := []) (as := [.ref 0, vi ((xs i52).toInt), .ref 259]) (nx := 489) (r1 := 5) (r2 := 19) (r3 := 0) rfl rfl rfl (of_decide_eq_true rfl) rfl rfl (of_decide_eq_true rfl) (of_decide_eq_true rfl) ?_
  refine wi_aload_n (i := 2) (x := 259) (nx := 1) (r1 := 0) (r2 := 0) (r3 := 0) rfl rfl ?_
  refine wi_iconst (n := 0) (nx := 2) (r1 := 0) (r2 := 0) (r3 := 0) rfl ?_
  refine wi_aload_n (i := 0) (x := 0) (nx := 3) (r1 := 0) (r2 := 0) (r3 := 0) rfl rfl ?_
  refine wi_iload_n (i := 1) (e := (xs i52).toInt) (nx := 4) (r1 := 0) (r2 := 0) (r3 := 0) rfl rfl ?_
  refine wr_V (k0 := 0) (rest := [vi 0, .ref 259]) (as := [.ref 0, vi ((xs i52).toInt)]) (nx := 7) (r1 := 65) (r2 := 1) (r3 := 0) rfl rfl rfl (of_decide_eq_true rfl) rfl rfl (by decide) rfl rfl (of_decide_eq_true rfl) (of_decide_eq_true rfl) ?_
  refine ct_65_0 hcr hr  g ((xs i52).toInt) (by omega)  (fun z55  (fz55 : -2147483648 ≤ z55 ∧ z55 ≤ 2147483647) (p54_0 : 0 ≤ ((xs i52).toInt) ∧ ((xs i52).toInt) ≤ 9) y54_0 => ?_) (fun (pe54_0 : ((xs i52).toInt) < 0 ∨ 9 < ((xs i52).toInt)) => ?_)
  ·
    refine wk_i ?_
    refine wi_i2l (nx := 8) (r1 := 0) (r2 := 0) (r3 := 0) rfl (by omega) ?_
    refine wr_ls (k0 := 259) (a := 0) (f := 0) (x := z55) (bl := -9223372036854775808) (bh := 9223372036854775807) (nx := 9) (r1 := 0) (r2 := 0) (r3 := 0) rfl (by decide) rfl (by omega) (by omega) (by decide) g rfl (by omega) (fun h56 g56 w56 u56 => ?_)
    refine wi_goto (nx := 12) (r1 := 15) (r2 := 0) (r3 := 0) rfl ?_
    refine wi_iconst (n := 0) (nx := 16) (r1 := 0) (r2 := 0) (r3 := 0) rfl ?_
    refine wi_ireturn (nx := 17) (r1 := 0) (r2 := 0) (r3 := 0) rfl rfl ?_
    refine wk_i ?_
    refine wi_istore (i := 5) (e := 0) (lo2 := [(5, vi 0), (0, .ref 1000000), (1, .ref 0), (2, .ref 236), (3, .ref 259), (4, vi i)]) (nx := 491) (r1 := 0) (r2 := 0) (r3 := 0) rfl rfl ?_
    refine wi_aload_n (i := 2) (x := 236) (nx := 492) (r1 := 0) (r2 := 0) (r3 := 0) rfl rfl ?_
    refine wi_aload_n (i := 0) (x := 1000000) (nx := 493) (r1 := 0) (r2 := 0) (r3 := 0) rfl rfl ?_
    refine wi_iload (i := 4) (e := i) (nx := 495) (r1 := 0) (r2 := 0) (r3 := 0) rfl rfl ?_
    refine wi_iconst (n := 1) (nx := 496) (r1 := 0) (r2 := 0) (r3 := 0) rfl ?_
    refine wr_add (nx := 497) (r1 := 0) (r2 := 0) (r3 := 0) rfl (fun e57 (fe57 : e57 = i + 1) => ?_)
    refine wr_sc (a := e57) (f := i52) (nx := 498) (r1 := 0) (r2 := 0) (r3 := 0) rfl (by omega) (by omega) hL ?_
    refine wr_V (k0 := 236) (rest := []) (as := [.ref 236, vi ((xs i52).toInt)]) (nx := 501) (r1 := 239) (r2 := 1) (r3 := 11) rfl rfl rfl (of_decide_eq_true rfl) rfl rfl (by decide) rfl rfl (of_decide_eq_true rfl) (of_decide_eq_true rfl) ?_
    refine ct_239_236 hcr  g56 ((xs i52).toInt) (by omega)  (fun h58 z59 g58 u58 (fz59 : 0 ≤ z59 ∧ z59 ≤ 999) (p58_0 : (0 ≤ ((xs i52).toInt) ∧ ((xs i52).toInt) ≤ 9 ∧ (h58 236 0) = 0) ∨ ((((xs i52).toInt) < 0 ∨ 9 < ((xs i52).toInt)) ∧ (h58 236 0) = 1)) y58_0 => ?_)
    have b60 := gi_b (lo := 0) (hi := 2) g58 236 0 rfl
    refine wk_i ?_
    rcases p58_0 with p58_0 | p58_0
    ·
      have an61 : z55 = z59 := (y54_0.trans (sv0.f (((xs i52).toInt)).toNat (by omega))).trans (((y58_0 (by omega) (by omega)).trans (u56 238 (((((xs i52).toInt)).toNat)) (fn_a (by omega) fn_0)))).symm
      refine wi_istore (i := 6) (e := z59) (lo2 := [(6, vi z59), (5, vi 0), (0, .ref 1000000), (1, .ref 0), (2, .ref 236), (3, .ref 259), (4, vi i)]) (nx := 503) (r1 := 0) (r2 := 0) (r3 := 0) rfl rfl ?_
      refine wi_goto (nx := 506) (r1 := 1529) (r2 := 0) (r3 := 0) rfl ?_
      refine wp.lo (lo := [(0, .ref 1000000), (1, .ref 0), (2, .ref 236), (3, .ref 259), (4, vi i)]) ⟨rfl, rfl, rfl, rfl, rfl, trivial⟩ rfl ?_
      have e62 : h58 238 98 = h 238 98 := ((u58 238 98 rfl).trans (u56 238 98 rfl))
      have e63 : h58 238 99 = h 238 99 := ((u58 238 99 rfl).trans (u56 238 99 rfl))
      have e64 : h58 238 100 = h 238 100 := ((u58 238 100 rfl).trans (u56 238 100 rfl))
      have e65 : h58 238 101 = h 238 101 := ((u58 238 101 rfl).trans (u56 238 101 rfl))
      have e66 : h58 238 102 = h 238 102 := ((u58 238 102 rfl).trans (u56 238 102 rfl))
      have e67 : h58 238 106 = h 238 106 := ((u58 238 106 rfl).trans (u56 238 106 rfl))
      have e68 : h58 238 73 = h 238 73 := ((u58 238 73 rfl).trans (u56 238 73 rfl))
      have e69 : h58 238 2 = h 238 2 := ((u58 238 2 rfl).trans (u56 238 2 rfl))
      have e70 : h58 238 119 = h 238 119 := ((u58 238 119 rfl).trans (u56 238 119 rfl))
      have e71 : h58 238 67 = h 238 67 := ((u58 238 67 rfl).trans (u56 238 67 rfl))
      have e72 : h58 238 69 = h 238 69 := ((u58 238 69 rfl).trans (u56 238 69 rfl))
      have e73 : h58 238 5 = h 238 5 := ((u58 238 5 rfl).trans (u56 238 5 rfl))
      have e74 : h58 241 98 = h 241 98 := ((u58 241 98 rfl).trans (u56 241 98 rfl))
      have e75 : h58 241 99 = h 241 99 := ((u58 241 99 rfl).trans (u56 241 99 rfl))
      have e76 : h58 241 100 = h 241 100 := ((u58 241 100 rfl).trans (u56 241 100 rfl))
      have e77 : h58 241 101 = h 241 101 := ((u58 241 101 rfl).trans (u56 241 101 rfl))
      have e78 : h58 241 102 = h 241 102 := ((u58 241 102 rfl).trans (u56 241 102 rfl))
      have e79 : h58 241 106 = h 241 106 := ((u58 241 106 rfl).trans (u56 241 106 rfl))
      have e80 : h58 241 73 = h 241 73 := ((u58 241 73 rfl).trans (u56 241 73 rfl))
      have e81 : h58 241 2 = h 241 2 := ((u58 241 2 rfl).trans (u56 241 2 rfl))
      have e82 : h58 241 119 = h 241 119 := ((u58 241 119 rfl).trans (u56 241 119 rfl))
      have e83 : h58 241 67 = h 241 67 := ((u58 241 67 rfl).trans (u56 241 67 rfl))
      have e84 : h58 241 69 = h 241 69 := ((u58 241 69 rfl).trans (u56 241 69 rfl))
      have e85 : h58 241 5 = h 241 5 := ((u58 241 5 rfl).trans (u56 241 5 rfl))
      have e86 : h58 1 1 = h 1 1 := ((u58 1 1 rfl).trans (u56 1 1 rfl))
      have e87 : h58 236 2 = h 236 2 := ((u58 236 2 rfl).trans (u56 236 2 rfl))
      have e88 : h58 1 2 = h 1 2 := ((u58 1 2 rfl).trans (u56 1 2 rfl))
      have e89 : h58 236 10 = h 236 10 := ((u58 236 10 rfl).trans (u56 236 10 rfl))
      have e90 : h58 1 3 = h 1 3 := ((u58 1 3 rfl).trans (u56 1 3 rfl))
      have e91 : h58 236 11 = h 236 11 := ((u58 236 11 rfl).trans (u56 236 11 rfl))
      have gp92 := GPH.fr u56 rfl gp0
      have gp93 := GPH.fr u58 rfl gp92
      have b94 := gi_b (lo := 0) (hi := 5) g 241 0 rfl
      have b95 := gi_b (lo := 0) (hi := 4) g 241 1 rfl
      have gs96 := GPS.fr u56 rfl gs0
      have gs97 := GPS.fr u58 rfl gs96
      have e98 : h58 0 12 = h 0 12 := ((u58 0 12 rfl).trans (u56 0 12 rfl))
      have e99 : h58 236 21 = h 236 21 := ((u58 236 21 rfl).trans (u56 236 21 rfl))
      exact k h58 b c ⟨g58, (show h58 1 1 = h58 236 2 by omega), (RS.i0 (f := h58 238) (by refine ⟨?_, ?_, ?_, ?_, ?_⟩ <;> omega)), (RS.i0 (f := h58 241) (by refine ⟨?_, ?_, ?_, ?_, ?_⟩ <;> omega)), gp93, (BRh.keep br0 (fun i => ((u58 2 i (fn_a (by decide) fn_0)).trans (u56 2 i (fn_a (by omega) fn_0)))) (fun i => ((u58 237 i (fn_a (by decide) fn_0)).trans (u56 237 i (fn_a (by omega) fn_0)))) (by omega)), (show h58 1 2 = h58 236 10 by omega), (show h58 1 3 = h58 236 11 by omega), (SVx.keep sv0 (by omega) (fun i _ => ((u58 3 i (fn_a (by decide) fn_0)).trans (u56 3 i (fn_a (by omega) fn_0)))) (fun i _ => ((u58 5 i (fn_a (by decide) fn_0)).trans (u56 5 i (fn_a (by omega) fn_0)))) (fun i _ => ((u58 6 i (fn_a (by decide) fn_0)).trans (u56 6 i (fn_a (by omega) fn_0)))) (fun i _ => ((u58 8 i (fn_a (by decide) fn_0)).trans (u56 8 i (fn_a (by omega) fn_0)))) (fun i _ => ((u58 238 i (fn_a (by decide) fn_0)).trans (u56 238 i (fn_a (by omega) fn_0))))), (show h58 0 12 = h58 236 21 by omega), (fun e => (SVx.keep (ss0 (by omega)) (by omega) (fun i _ => ((u58 210 i (fn_a (by decide) fn_0)).trans (u56 210 i (fn_a (by omega) fn_0)))) (fun i _ => ((u58 212 i (fn_a (by decide) fn_0)).trans (u56 212 i (fn_a (by omega) fn_0)))) (fun i _ => ((u58 213 i (fn_a (by decide) fn_0)).trans (u56 213 i (fn_a (by omega) fn_0)))) (fun i _ => ((u58 215 i (fn_a (by decide) fn_0)).trans (u56 215 i (fn_a (by omega) fn_0)))) (fun i _ => ((u58 241 i (fn_a (by decide) fn_0)).trans (u56 241 i (fn_a (by omega) fn_0)))))), gs97⟩ (by omega) (by omega)
    ·
      exfalso; omega
  ·
    refine wk_h 12 (by decide) rfl ?_
    refine wr_astx (i := 3) (lo2 := [(3, .retAddr 0), (0, .ref 0), (1, vi ((xs i52).toInt)), (2, .ref 259)]) (nx := 13) (r1 := 0) (r2 := 0) (r3 := 0) rfl rfl ?_
    refine wi_iconst (n := 1) (nx := 14) (r1 := 0) (r2 := 0) (r3 := 0) rfl ?_
    refine wi_ireturn (nx := 15) (r1 := 0) (r2 := 0) (r3 := 0) rfl rfl ?_
    refine wk_i ?_
    refine wi_istore (i := 5) (e := 1) (lo2 := [(5, vi 1), (0, .ref 1000000), (1, .ref 0), (2, .ref 236), (3, .ref 259), (4, vi i)]) (nx := 491) (r1 := 0) (r2 := 0) (r3 := 0) rfl rfl ?_
    refine wi_aload_n (i := 2) (x := 236) (nx := 492) (r1 := 0) (r2 := 0) (r3 := 0) rfl rfl ?_
    refine wi_aload_n (i := 0) (x := 1000000) (nx := 493) (r1 := 0) (r2 := 0) (r3 := 0) rfl rfl ?_
    refine wi_iload (i := 4) (e := i) (nx := 495) (r1 := 0) (r2 := 0) (r3 := 0) rfl rfl ?_
    refine wi_iconst (n := 1) (nx := 496) (r1 := 0) (r2 := 0) (r3 := 0) rfl ?_
    refine wr_add (nx := 497) (r1 := 0) (r2 := 0) (r3 := 0) rfl (fun e56 (fe56 : e56 = i + 1) => ?_)
    refine wr_sc (a := e56) (f := i52) (nx := 498) (r1 := 0) (r2 := 0) (r3 := 0) rfl (by omega) (by omega) hL ?_
    refine wr_V (k0 := 236) (rest := []) (as := [.ref 236, vi ((xs i52).toInt)]) (nx := 501) (r1 := 239) (r2 := 1) (r3 := 11) rfl rfl rfl (of_decide_eq_true rfl) rfl rfl (by decide) rfl rfl (of_decide_eq_true rfl) (of_decide_eq_true rfl) ?_
    refine ct_239_236 hcr  g ((xs i52).toInt) (by omega)  (fun h57 z58 g57 u57 (fz58 : 0 ≤ z58 ∧ z58 ≤ 999) (p57_0 : (0 ≤ ((xs i52).toInt) ∧ ((xs i52).toInt) ≤ 9 ∧ (h57 236 0) = 0) ∨ ((((xs i52).toInt) < 0 ∨ 9 < ((xs i52).toInt)) ∧ (h57 236 0) = 1)) y57_0 => ?_)
    have b59 := gi_b (lo := 0) (hi := 2) g57 236 0 rfl
    refine wk_i ?_
    rcases p57_0 with p57_0 | p57_0
    ·
      exfalso; omega
    ·
      refine wi_istore (i := 6) (e := z58) (lo2 := [(6, vi z58), (5, vi 1), (0, .ref 1000000), (1, .ref 0), (2, .ref 236), (3, .ref 259), (4, vi i)]) (nx := 503) (r1 := 0) (r2 := 0) (r3 := 0) rfl rfl ?_
      refine wi_goto (nx := 506) (r1 := 1529) (r2 := 0) (r3 := 0) rfl ?_
      refine wp.lo (lo := [(0, .ref 1000000), (1, .ref 0), (2, .ref 236), (3, .ref 259), (4, vi i)]) ⟨rfl, rfl, rfl, rfl, rfl, trivial⟩ rfl ?_
      have e60 : h57 238 98 = h 238 98 := (u57 238 98 rfl)
      have e61 : h57 238 99 = h 238 99 := (u57 238 99 rfl)
      have e62 : h57 238 100 = h 238 100 := (u57 238 100 rfl)
      have e63 : h57 238 101 = h 238 101 := (u57 238 101 rfl)
      have e64 : h57 238 102 = h 238 102 := (u57 238 102 rfl)
      have e65 : h57 238 106 = h 238 106 := (u57 238 106 rfl)
      have e66 : h57 238 73 = h 238 73 := (u57 238 73 rfl)
      have e67 : h57 238 2 = h 238 2 := (u57 238 2 rfl)
      have e68 : h57 238 119 = h 238 119 := (u57 238 119 rfl)
      have e69 : h57 238 67 = h 238 67 := (u57 238 67 rfl)
      have e70 : h57 238 69 = h 238 69 := (u57 238 69 rfl)
      have e71 : h57 238 5 = h 238 5 := (u57 238 5 rfl)
      have e72 : h57 241 98 = h 241 98 := (u57 241 98 rfl)
      have e73 : h57 241 99 = h 241 99 := (u57 241 99 rfl)
      have e74 : h57 241 100 = h 241 100 := (u57 241 100 rfl)
      have e75 : h57 241 101 = h 241 101 := (u57 241 101 rfl)
      have e76 : h57 241 102 = h 241 102 := (u57 241 102 rfl)
      have e77 : h57 241 106 = h 241 106 := (u57 241 106 rfl)
      have e78 : h57 241 73 = h 241 73 := (u57 241 73 rfl)
      have e79 : h57 241 2 = h 241 2 := (u57 241 2 rfl)
      have e80 : h57 241 119 = h 241 119 := (u57 241 119 rfl)
      have e81 : h57 241 67 = h 241 67 := (u57 241 67 rfl)
      have e82 : h57 241 69 = h 241 69 := (u57 241 69 rfl)
      have e83 : h57 241 5 = h 241 5 := (u57 241 5 rfl)
      have e84 : h57 1 1 = h 1 1 := (u57 1 1 rfl)
      have e85 : h57 236 2 = h 236 2 := (u57 236 2 rfl)
      have e86 : h57 1 2 = h 1 2 := (u57 1 2 rfl)
      have e87 : h57 236 10 = h 236 10 := (u57 236 10 rfl)
      have e88 : h57 1 3 = h 1 3 := (u57 1 3 rfl)
      have e89 : h57 236 11 = h 236 11 := (u57 236 11 rfl)
      have gp90 := GPH.fr u57 rfl gp0
      have b91 := gi_b (lo := 0) (hi := 5) g 241 0 rfl
      have b92 := gi_b (lo := 0) (hi := 4) g 241 1 rfl
      have gs93 := GPS.fr u57 rfl gs0
      have e94 : h57 0 12 = h 0 12 := (u57 0 12 rfl)
      have e95 : h57 236 21 = h 236 21 := (u57 236 21 rfl)
      exact k h57 (b - 1) (c - 6) ⟨g57, (show h57 1 1 = h57 236 2 by omega), (RS.i0 (f := h57 238) (by refine ⟨?_, ?_, ?_, ?_, ?_⟩ <;> omega)), (RS.i0 (f := h57 241) (by refine ⟨?_, ?_, ?_, ?_, ?_⟩ <;> omega)), gp90, (BRh.keep br0 (fun i => (u57 2 i (fn_a (by decide) fn_0))) (fun i => (u57 237 i (fn_a (by decide) fn_0))) (by omega)), (show h57 1 2 = h57 236 10 by omega), (show h57 1 3 = h57 236 11 by omega), (SVx.keep sv0 (by omega) (fun i _ => (u57 3 i (fn_a (by decide) fn_0))) (fun i _ => (u57 5 i (fn_a (by decide) fn_0))) (fun i _ => (u57 6 i (fn_a (by decide) fn_0))) (fun i _ => (u57 8 i (fn_a (by decide) fn_0))) (fun i _ => (u57 238 i (fn_a (by decide) fn_0)))), (show h57 0 12 = h57 236 21 by omega), (fun e => (SVx.keep (ss0 (by omega)) (by omega) (fun i _ => (u57 210 i (fn_a (by decide) fn_0))) (fun i _ => (u57 212 i (fn_a (by decide) fn_0))) (fun i _ => (u57 213 i (fn_a (by decide) fn_0))) (fun i _ => (u57 215 i (fn_a (by decide) fn_0))) (fun i _ => (u57 241 i (fn_a (by decide) fn_0))))), gs93⟩ (by omega) (by omega)
-- the law, case at 506
set_option maxRecDepth 100000 in
set_option maxHeartbeats 100000000 in
theorem lc_506 {L : Nat} {xs : Nat → Int32} {d b c : Nat} {h : hp} {cr : Nat → Nat → Option Nat} {Q : hp_Q} (hcr : CR cr) (hL : L ≤ 3072) (hr : 1 ≤ b ∧ 6 ≤ c) (I : LI h) (i : Int) (hi : 0 ≤ i ∧ i + 6 ≤ L) (k : ∀ (h2 : hp) (b2 c2 : Nat), LI h2 → b ≤ b2 + 1 → c ≤ c2 + 6 → wp (md_xa (L, xs)) (d + 107) 0 (1529, [(0, .ref 1000000), (1, .ref 0), (2, .ref 236), (3, .ref 259), (4, vi i)], [], hp_w h2 cr, b2, c2) Q) : wp (md_xa (L, xs)) (d + 107) 0 (506, [(0, .ref 1000000), (1, .ref 0), (2, .ref 236), (3, .ref 259), (4, vi i)], [], hp_w h cr, b, c) Q := by
  obtain ⟨g, i11, r238, r241, gp0, br0, er2, er3, sv0, sf0, ss0, gs0⟩ := I
  have r238e := r238.e0
  have r241e := r241.e0
  obtain ⟨⟨se0, se1, se2, se3, se4, se5, se6, se7, se8, se9⟩, -⟩ := id sv0
  have b1 := gi_b (lo := 0) (hi := 5) g 3 0 rfl
  have b2 := gi_b (lo := 0) (hi := 5) g 238 0 rfl
  have b3 := gi_b (lo := 0) (hi := 4) g 3 1 rfl
  have b4 := gi_b (lo := 0) (hi := 4) g 238 1 rfl
  have b5 := gi_b (lo := 0) (hi := 12) g 3 2 rfl
  have b6 := gi_b (lo := 0) (hi := 12) g 238 2 rfl
  have b7 := gi_b (lo := -2147483648) (hi := 2147483647) g 3 3 rfl
  have b8 := gi_b (lo := 0) (hi := 999) g 238 3 rfl
  have b9 := gi_b (lo := -2147483648) (hi := 2147483647) g 3 4 rfl
  have b10 := gi_b (lo := 0) (hi := 999) g 238 4 rfl
  have b11 := gi_b (lo := -2147483648) (hi := 2147483647) g 3 5 rfl
  have b12 := gi_b (lo := 0) (hi := 9) g 238 5 rfl
  have b13 := gi_b (lo := -2147483648) (hi := 2147483647) g 3 6 rfl
  have b14 := gi_b (lo := 0) (hi := 999) g 238 6 rfl
  have b15 := gi_b (lo := -2147483648) (hi := 2147483647) g 3 7 rfl
  have b16 := gi_b (lo := 0) (hi := 3) g 238 7 rfl
  have b17 := gi_b (lo := -2147483648) (hi := 2147483647) g 3 8 rfl
  have b18 := gi_b (lo := 0) (hi := 999) g 238 8 rfl
  have b19 := gi_b (lo := -2147483648) (hi := 2147483647) g 3 9 rfl
  have b20 := gi_b (lo := 0) (hi := 999) g 238 9 rfl
  have b21 := gi_b (lo := 0) (hi := 1) g 0 12 rfl
  have b22 := gi_b (lo := 0) (hi := 1) g 236 21 rfl
  have bl_ := gi_b (lo := 0) (hi := 800) g 1 1 rfl
  have tb0 : BufC (h 2) (h 1 1) h := ⟨fun _ => rfl, rfl, by omega, by omega⟩
  have b23 := gi_b (lo := 0) (hi := 6) g 238 98 rfl
  have b24 := gi_b (lo := 0) (hi := 6) g 238 99 rfl
  have b25 := gi_b (lo := 0) (hi := 6) g 238 100 rfl
  have b26 := gi_b (lo := 0) (hi := 6) g 238 101 rfl
  have b27 := gi_b (lo := 0) (hi := 3) g 238 102 rfl
  have b28 := gi_b (lo := 0) (hi := 12) g 238 106 rfl
  have b29 := gi_b (lo := 0) (hi := 12) g 238 73 rfl
  have b30 := gi_b (lo := 0) (hi := 9999) g 238 119 rfl
  have b31 := gi_b (lo := 0) (hi := 9999) g 238 67 rfl
  have b32 := gi_b (lo := 0) (hi := 9) g 238 69 rfl
  have b33 := gi_b (lo := 0) (hi := 6) g 241 98 rfl
  have b34 := gi_b (lo := 0) (hi := 6) g 241 99 rfl
  have b35 := gi_b (lo := 0) (hi := 6) g 241 100 rfl
  have b36 := gi_b (lo := 0) (hi := 6) g 241 101 rfl
  have b37 := gi_b (lo := 0) (hi := 3) g 241 102 rfl
  have b38 := gi_b (lo := 0) (hi := 12) g 241 106 rfl
  have b39 := gi_b (lo := 0) (hi := 12) g 241 73 rfl
  have b40 := gi_b (lo := 0) (hi := 12) g 241 2 rfl
  have b41 := gi_b (lo := 0) (hi := 9999) g 241 119 rfl
  have b42 := gi_b (lo := 0) (hi := 9999) g 241 67 rfl
  have b43 := gi_b (lo := 0) (hi := 9) g 241 69 rfl
  have b44 := gi_b (lo := 0) (hi := 9) g 241 5 rfl
  have b45 := gi_b (lo := 0) (hi := 800) g 1 1 rfl
  have b46 := gi_b (lo := 0) (hi := 800) g 236 2 rfl
  have b47 := gi_b (lo := -2147483648) (hi := 2147483647) g 1 2 rfl
  have b48 := gi_b (lo := -2147483648) (hi := 2147483647) g 236 10 rfl
  have b49 := gi_b (lo := -2147483648) (hi := 2147483647) g 1 3 rfl
  have b50 := gi_b (lo := -2147483648) (hi := 2147483647) g 236 11 rfl
  refine wi_aload_n (i := 1) (x := 0) (nx := 507) (r1 := 0) (r2 := 0) (r3 := 0) rfl rfl ?_
  refine wi_aload_n (i := 0) (x := 1000000) (nx := 508) (r1 := 0) (r2 := 0) (r3 := 0) rfl rfl ?_
  refine wi_iload (i := 4) (e := i) (nx := 510) (r1 := 0) (r2 := 0) (r3 := 0) rfl rfl ?_
  refine wi_iconst (n := 1) (nx := 511) (r1 := 0) (r2 := 0) (r3 := 0) rfl ?_
  refine wr_add (nx := 512) (r1 := 0) (r2 := 0) (r3 := 0) rfl (fun e51 (fe51 : e51 = i + 1) => ?_)
  obtain ⟨i52, ei52⟩ : ∃ q : Nat, e51 = (q : Int) := ⟨(e51).toNat, by omega⟩
  have s53 := sc_b (xs i52)
  refine wr_sc (a := e51) (f := i52) (nx := 513) (r1 := 0) (r2 := 0) (r3 := 0) rfl (by omega) (by omega) hL ?_
  refine wi_aload_n (i := 3) (x := 259) (nx := 514) (r1 := 0) (r2 := 0) (r3 := 0) rfl rfl ?_
  refine wi_S (rest := []) (as := [.ref 0, vi ((xs i52).toInt), .ref 259]) (nx := 517) (r1 := 6) (r2 := 19) (r3 := 0) rfl rfl rfl (of_decide_eq_true rfl) rfl rfl (of_decide_eq_true rfl) (of_decide_eq_true rfl) ?_
  refine wi_aload_n (i := 2) (x := 259) (nx := 1) (r1 := 0) (r2 := 0) (r3 := 0) rfl rfl ?_
  refine wi_iconst (n := 0) (nx := 2) (r1 := 0) (r2 := 0) (r3 := 0) rfl ?_
  refine wi_aload_n (i := 0) (x := 0) (nx := 3) (r1 := 0) (r2 := 0) (r3 := 0) rfl rfl ?_
  refine wi_iload_n (i := 1) (e := (xs i52).toInt) (nx := 4) (r1 := 0) (r2 := 0) (r3 := 0) rfl rfl ?_
  refine wr_V (k0 := 0) (rest := [vi 0, .ref 259]) (as := [.ref 0, vi ((xs i52).toInt)]) (nx := 7) (r1 := 66) (r2 := 1) (r3 := 0) rfl rfl rfl (of_decide_eq_true rfl) rfl rfl (by decide) rfl rfl (of_decide_eq_true rfl) (of_decide_eq_true rfl) ?_
  refine ct_66_0 hcr hr  g ((xs i52).toInt) (by omega)  (fun z55  (fz55 : -2147483648 ≤ z55 ∧ z55 ≤ 2147483647) (p54_0 : 0 ≤ ((xs i52).toInt) ∧ ((xs i52).toInt) < (h 3 0)) y54_0 => ?_) (fun (pe54_0 : ((xs i52).toInt) < 0 ∨ (h 3 0) ≤ ((xs i52).toInt)) => ?_)
  ·
    refine wk_i ?_
    refine wi_i2l (nx := 8) (r1 := 0) (r2 := 0) (r3 := 0) rfl (by omega) ?_
    refine wr_ls (k0 := 259) (a := 0) (f := 0) (x := z55) (bl := -9223372036854775808) (bh := 9223372036854775807) (nx := 9) (r1 := 0) (r2 := 0) (r3 := 0) rfl (by decide) rfl (by omega) (by omega) (by decide) g rfl (by omega) (fun h56 g56 w56 u56 => ?_)
    refine wi_goto (nx := 12) (r1 := 15) (r2 := 0) (r3 := 0) rfl ?_
    refine wi_iconst (n := 0) (nx := 16) (r1 := 0) (r2 := 0) (r3 := 0) rfl ?_
    refine wi_ireturn (nx := 17) (r1 := 0) (r2 := 0) (r3 := 0) rfl rfl ?_
    refine wk_i ?_
    refine wi_istore (i := 5) (e := 0) (lo2 := [(5, vi 0), (0, .ref 1000000), (1, .ref 0), (2, .ref 236), (3, .ref 259), (4, vi i)]) (nx := 519) (r1 := 0) (r2 := 0) (r3 := 0) rfl rfl ?_
    refine wi_aload_n (i := 2) (x := 236) (nx := 520) (r1 := 0) (r2 := 0) (r3 := 0) rfl rfl ?_
    refine wi_aload_n (i := 0) (x := 1000000) (nx := 521) (r1 := 0) (r2 := 0) (r3 := 0) rfl rfl ?_
    refine wi_iload (i := 4) (e := i) (nx := 523) (r1 := 0) (r2 := 0) (r3 := 0) rfl rfl ?_
    refine wi_iconst (n := 1) (nx := 524) (r1 := 0) (r2 := 0) (r3 := 0) rfl ?_
    refine wr_add (nx := 525) (r1 := 0) (r2 := 0) (r3 := 0) rfl (fun e57 (fe57 : e57 = i + 1) => ?_)
    refine wr_sc (a := e57) (f := i52) (nx := 526) (r1 := 0) (r2 := 0) (r3 := 0) rfl (by omega) (by omega) hL ?_
    refine wr_V (k0 := 236) (rest := []) (as := [.ref 236, vi ((xs i52).toInt)]) (nx := 529) (r1 := 240) (r2 := 1) (r3 := 11) rfl rfl rfl (of_decide_eq_true rfl) rfl rfl (by decide) rfl rfl (of_decide_eq_true rfl) (of_decide_eq_true rfl) ?_
    refine ct_240_236 hcr  g56 ((xs i52).toInt) (by omega)  (fun h58 z59 g58 u58 (fz59 : 0 ≤ z59 ∧ z59 ≤ 999) (p58_0 : (0 ≤ ((xs i52).toInt) ∧ ((xs i52).toInt) < (h56 238 0) ∧ (h58 236 0) = 0) ∨ ((((xs i52).toInt) < 0 ∨ (h56 238 0) ≤ ((xs i52).toInt)) ∧ (h58 236 0) = 1)) y58_0 => ?_)
    have e60 : h56 238 0 = h 238 0 := (u56 238 0 rfl)
    have b61 := gi_b (lo := 0) (hi := 2) g58 236 0 rfl
    refine wk_i ?_
    rcases p58_0 with p58_0 | p58_0
    ·
      have an62 : z55 = z59 := (y54_0.trans (sv0.2.1 (((xs i52).toInt)).toNat (by omega))).trans (((y58_0 (by omega) (by omega)).trans (u56 238 ((10 + (((xs i52).toInt)).toNat)) (fn_a (by omega) fn_0)))).symm
      refine wi_istore (i := 6) (e := z59) (lo2 := [(6, vi z59), (5, vi 0), (0, .ref 1000000), (1, .ref 0), (2, .ref 236), (3, .ref 259), (4, vi i)]) (nx := 531) (r1 := 0) (r2 := 0) (r3 := 0) rfl rfl ?_
      refine wi_goto (nx := 534) (r1 := 1529) (r2 := 0) (r3 := 0) rfl ?_
      refine wp.lo (lo := [(0, .ref 1000000), (1, .ref 0), (2, .ref 236), (3, .ref 259), (4, vi i)]) ⟨rfl, rfl, rfl, rfl, rfl, trivial⟩ rfl ?_
      have e63 : h58 238 98 = h 238 98 := ((u58 238 98 rfl).trans (u56 238 98 rfl))
      have e64 : h58 238 99 = h 238 99 := ((u58 238 99 rfl).trans (u56 238 99 rfl))
      have e65 : h58 238 100 = h 238 100 := ((u58 238 100 rfl).trans (u56 238 100 rfl))
      have e66 : h58 238 101 = h 238 101 := ((u58 238 101 rfl).trans (u56 238 101 rfl))
      have e67 : h58 238 102 = h 238 102 := ((u58 238 102 rfl).trans (u56 238 102 rfl))
      have e68 : h58 238 106 = h 238 106 := ((u58 238 106 rfl).trans (u56 238 106 rfl))
      have e69 : h58 238 73 = h 238 73 := ((u58 238 73 rfl).trans (u56 238 73 rfl))
      have e70 : h58 238 2 = h 238 2 := ((u58 238 2 rfl).trans (u56 238 2 rfl))
      have e71 : h58 238 119 = h 238 119 := ((u58 238 119 rfl).trans (u56 238 119 rfl))
      have e72 : h58 238 67 = h 238 67 := ((u58 238 67 rfl).trans (u56 238 67 rfl))
      have e73 : h58 238 69 = h 238 69 := ((u58 238 69 rfl).trans (u56 238 69 rfl))
      have e74 : h58 238 5 = h 238 5 := ((u58 238 5 rfl).trans (u56 238 5 rfl))
      have e75 : h58 241 98 = h 241 98 := ((u58 241 98 rfl).trans (u56 241 98 rfl))
      have e76 : h58 241 99 = h 241 99 := ((u58 241 99 rfl).trans (u56 241 99 rfl))
      have e77 : h58 241 100 = h 241 100 := ((u58 241 100 rfl).trans (u56 241 100 rfl))
      have e78 : h58 241 101 = h 241 101 := ((u58 241 101 rfl).trans (u56 241 101 rfl))
      have e79 : h58 241 102 = h 241 102 := ((u58 241 102 rfl).trans (u56 241 102 rfl))
      have e80 : h58 241 106 = h 241 106 := ((u58 241 106 rfl).trans (u56 241 106 rfl))
      have e81 : h58 241 73 = h 241 73 := ((u58 241 73 rfl).trans (u56 241 73 rfl))
      have e82 : h58 241 2 = h 241 2 := ((u58 241 2 rfl).trans (u56 241 2 rfl))
      have e83 : h58 241 119 = h 241 119 := ((u58 241 119 rfl).trans (u56 241 119 rfl))
      have e84 : h58 241 67 = h 241 67 := ((u58 241 67 rfl).trans (u56 241 67 rfl))
      have e85 : h58 241 69 = h 241 69 := ((u58 241 69 rfl).trans (u56 241 69 rfl))
      have e86 : h58 241 5 = h 241 5 := ((u58 241 5 rfl).trans (u56 241 5 rfl))
      have e87 : h58 1 1 = h 1 1 := ((u58 1 1 rfl).trans (u56 1 1 rfl))
      have e88 : h58 236 2 = h 236 2 := ((u58 236 2 rfl).trans (u56 236 2 rfl))
      have e89 : h58 1 2 = h 1 2 := ((u58 1 2 rfl).trans (u56 1 2 rfl))
      have e90 : h58 236 10 = h 236 10 := ((u58 236 10 rfl).trans (u56 236 10 rfl))
      have e91 : h58 1 3 = h 1 3 := ((u58 1 3 rfl).trans (u56 1 3 rfl))
      have e92 : h58 236 11 = h 236 11 := ((u58 236 11 rfl).trans (u56 236 11 rfl))
      have gp93 := GPH.fr u56 rfl gp0
      have gp94 := GPH.fr u58 rfl gp93
      have b95 := gi_b (lo := 0) (hi := 5) g 241 0 rfl
      have b96 := gi_b (lo := 0) (hi := 4) g 241 1 rfl
      have gs97 := GPS.fr u56 rfl gs0
      have gs98 := GPS.fr u58 rfl gs97
      have e99 : h58 0 12 = h 0 12 := ((u58 0 12 rfl).trans (u56 0 12 rfl))
      have e100 : h58 236 21 = h 236 21 := ((u58 236 21 rfl).trans (u56 236 21 rfl))
      exact k h58 b c ⟨g58, (show h58 1 1 = h58 236 2 by omega), (RS.i0 (f := h58 238) (by refine ⟨?_, ?_, ?_, ?_, ?_⟩ <;> omega)), (RS.i0 (f := h58 241) (by refine ⟨?_, ?_, ?_, ?_, ?_⟩ <;> omega)), gp94, (BRh.keep br0 (fun i => ((u58 2 i (fn_a (by decide) fn_0)).trans (u56 2 i (fn_a (by omega) fn_0)))) (fun i => ((u58 237 i (fn_a (by decide) fn_0)).trans (u56 237 i (fn_a (by omega) fn_0)))) (by omega)), (show h58 1 2 = h58 236 10 by omega), (show h58 1 3 = h58 236 11 by omega), (SVx.keep sv0 (by omega) (fun i _ => ((u58 3 i (fn_a (by decide) fn_0)).trans (u56 3 i (fn_a (by omega) fn_0)))) (fun i _ => ((u58 5 i (fn_a (by decide) fn_0)).trans (u56 5 i (fn_a (by omega) fn_0)))) (fun i _ => ((u58 6 i (fn_a (by decide) fn_0)).trans (u56 6 i (fn_a (by omega) fn_0)))) (fun i _ => ((u58 8 i (fn_a (by decide) fn_0)).trans (u56 8 i (fn_a (by omega) fn_0)))) (fun i _ => ((u58 238 i (fn_a (by decide) fn_0)).trans (u56 238 i (fn_a (by omega) fn_0))))), (show h58 0 12 = h58 236 21 by omega), (fun e => (SVx.keep (ss0 (by omega)) (by omega) (fun i _ => ((u58 210 i (fn_a (by decide) fn_0)).trans (u56 210 i (fn_a (by omega) fn_0)))) (fun i _ => ((u58 212 i (fn_a (by decide) fn_0)).trans (u56 212 i (fn_a (by omega) fn_0)))) (fun i _ => ((u58 213 i (fn_a (by decide) fn_0)).trans (u56 213 i (fn_a (by omega) fn_0)))) (fun i _ => ((u58 215 i (fn_a (by decide) fn_0)).trans (u56 215 i (fn_a (by omega) fn_0)))) (fun i _ => ((u58 241 i (fn_a (by decide) fn_0)).trans (u56 241 i (fn_a (by omega) fn_0)))))), gs98⟩ (by omega) (by omega)
    ·
      exfalso; omega
  ·
    refine wk_h 12 (by decide) rfl ?_
    refine wr_astx (i := 3) (lo2 := [(3, .retAddr 0), (0, .ref 0), (1, vi ((xs i52).toInt)), (2, .ref 259)]) (nx := 13) (r1 := 0) (r2 := 0) (r3 := 0) rfl rfl ?_
    refine wi_iconst (n := 1) (nx := 14) (r1 := 0) (r2 := 0) (r3 := 0) rfl ?_
    refine wi_ireturn (nx := 15) (r1 := 0) (r2 := 0) (r3 := 0) rfl rfl ?_
    refine wk_i ?_
    refine wi_istore (i := 5) (e := 1) (lo2 := [(5, vi 1), (0, .ref 1000000), (1, .ref 0), (2, .ref 236), (3, .ref 259), (4, vi i)]) (nx := 519) (r1 := 0) (r2 := 0) (r3 := 0) rfl rfl ?_
    refine wi_aload_n (i := 2) (x := 236) (nx := 520) (r1 := 0) (r2 := 0) (r3 := 0) rfl rfl ?_
    refine wi_aload_n (i := 0) (x := 1000000) (nx := 521) (r1 := 0) (r2 := 0) (r3 := 0) rfl rfl ?_
    refine wi_iload (i := 4) (e := i) (nx := 523) (r1 := 0) (r2 := 0) (r3 := 0) rfl rfl ?_
    refine wi_iconst (n := 1) (nx := 524) (r1 := 0) (r2 := 0) (r3 := 0) rfl ?_
    refine wr_add (nx := 525) (r1 := 0) (r2 := 0) (r3 := 0) rfl (fun e56 (fe56 : e56 = i + 1) => ?_)
    refine wr_sc (a := e56) (f := i52) (nx := 526) (r1 := 0) (r2 := 0) (r3 := 0) rfl (by omega) (by omega) hL ?_
    refine wr_V (k0 := 236) (rest := []) (as := [.ref 236, vi ((xs i52).toInt)]) (nx := 529) (r1 := 240) (r2 := 1) (r3 := 11) rfl rfl rfl (of_decide_eq_true rfl) rfl rfl (by decide) rfl rfl (of_decide_eq_true rfl) (of_decide_eq_true rfl) ?_
    refine ct_240_236 hcr  g ((xs i52).toInt) (by omega)  (fun h57 z58 g57 u57 (fz58 : 0 ≤ z58 ∧ z58 ≤ 999) (p57_0 : (0 ≤ ((xs i52).toInt) ∧ ((xs i52).toInt) < (h 238 0) ∧ (h57 236 0) = 0) ∨ ((((xs i52).toInt) < 0 ∨ (h 238 0) ≤ ((xs i52).toInt)) ∧ (h57 236 0) = 1)) y57_0 => ?_)
    have b59 := gi_b (lo := 0) (hi := 2) g57 236 0 rfl
    refine wk_i ?_
    rcases p57_0 with p57_0 | p57_0
    ·
      exfalso; omega
    ·
      refine wi_istore (i := 6) (e := z58) (lo2 := [(6, vi z58), (5, vi 1), (0, .ref 1000000), (1, .ref 0), (2, .ref 236), (3, .ref 259), (4, vi i)]) (nx := 531) (r1 := 0) (r2 := 0) (r3 := 0) rfl rfl ?_
      refine wi_goto (nx := 534) (r1 := 1529) (r2 := 0) (r3 := 0) rfl ?_
      refine wp.lo (lo := [(0, .ref 1000000), (1, .ref 0), (2, .ref 236), (3, .ref 259), (4, vi i)]) ⟨rfl, rfl, rfl, rfl, rfl, trivial⟩ rfl ?_
      have e60 : h57 238 98 = h 238 98 := (u57 238 98 rfl)
      have e61 : h57 238 99 = h 238 99 := (u57 238 99 rfl)
      have e62 : h57 238 100 = h 238 100 := (u57 238 100 rfl)
      have e63 : h57 238 101 = h 238 101 := (u57 238 101 rfl)
      have e64 : h57 238 102 = h 238 102 := (u57 238 102 rfl)
      have e65 : h57 238 106 = h 238 106 := (u57 238 106 rfl)
      have e66 : h57 238 73 = h 238 73 := (u57 238 73 rfl)
      have e67 : h57 238 2 = h 238 2 := (u57 238 2 rfl)
      have e68 : h57 238 119 = h 238 119 := (u57 238 119 rfl)
      have e69 : h57 238 67 = h 238 67 := (u57 238 67 rfl)
      have e70 : h57 238 69 = h 238 69 := (u57 238 69 rfl)
      have e71 : h57 238 5 = h 238 5 := (u57 238 5 rfl)
      have e72 : h57 241 98 = h 241 98 := (u57 241 98 rfl)
      have e73 : h57 241 99 = h 241 99 := (u57 241 99 rfl)
      have e74 : h57 241 100 = h 241 100 := (u57 241 100 rfl)
      have e75 : h57 241 101 = h 241 101 := (u57 241 101 rfl)
      have e76 : h57 241 102 = h 241 102 := (u57 241 102 rfl)
      have e77 : h57 241 106 = h 241 106 := (u57 241 106 rfl)
      have e78 : h57 241 73 = h 241 73 := (u57 241 73 rfl)
      have e79 : h57 241 2 = h 241 2 := (u57 241 2 rfl)
      have e80 : h57 241 119 = h 241 119 := (u57 241 119 rfl)
      have e81 : h57 241 67 = h 241 67 := (u57 241 67 rfl)
      have e82 : h57 241 69 = h 241 69 := (u57 241 69 rfl)
      have e83 : h57 241 5 = h 241 5 := (u57 241 5 rfl)
      have e84 : h57 1 1 = h 1 1 := (u57 1 1 rfl)
      have e85 : h57 236 2 = h 236 2 := (u57 236 2 rfl)
      have e86 : h57 1 2 = h 1 2 := (u57 1 2 rfl)
      have e87 : h57 236 10 = h 236 10 := (u57 236 10 rfl)
      have e88 : h57 1 3 = h 1 3 := (u57 1 3 rfl)
      have e89 : h57 236 11 = h 236 11 := (u57 236 11 rfl)
      have gp90 := GPH.fr u57 rfl gp0
      have b91 := gi_b (lo := 0) (hi := 5) g 241 0 rfl
      have b92 := gi_b (lo := 0) (hi := 4) g 241 1 rfl
      have gs93 := GPS.fr u57 rfl gs0
      have e94 : h57 0 12 = h 0 12 := (u57 0 12 rfl)
      have e95 : h57 236 21 = h 236 21 := (u57 236 21 rfl)
      exact k h57 (b - 1) (c - 6) ⟨g57, (show h57 1 1 = h57 236 2 by omega), (RS.i0 (f := h57 238) (by refine ⟨?_, ?_, ?_, ?_, ?_⟩ <;> omega)), (RS.i0 (f := h57 241) (by refine ⟨?_, ?_, ?_, ?_, ?_⟩ <;> omega)), gp90, (BRh.keep br0 (fun i => (u57 2 i (fn_a (by decide) fn_0))) (fun i => (u57 237 i (fn_a (by decide) fn_0))) (by omega)), (show h57 1 2 = h57 236 10 by omega), (show h57 1 3 = h57 236 11 by omega), (SVx.keep sv0 (by omega) (fun i _ => (u57 3 i (fn_a (by decide) fn_0))) (fun i _ => (u57 5 i (fn_a (by decide) fn_0))) (fun i _ => (u57 6 i (fn_a (by decide) fn_0))) (fun i _ => (u57 8 i (fn_a (by decide) fn_0))) (fun i _ => (u57 238 i (fn_a (by decide) fn_0)))), (show h57 0 12 = h57 236 21 by omega), (fun e => (SVx.keep (ss0 (by omega)) (by omega) (fun i _ => (u57 210 i (fn_a (by decide) fn_0))) (fun i _ => (u57 212 i (fn_a (by decide) fn_0))) (fun i _ => (u57 213 i (fn_a (by decide) fn_0))) (fun i _ => (u57 215 i (fn_a (by decide) fn_0))) (fun i _ => (u57 241 i (fn_a (by decide) fn_0))))), gs93⟩ (by omega) (by omega)
-- the law, case at 534
set_option maxRecDepth 100000 in
set_option maxHeartbeats 100000000 in
theorem lc_534 {L : Nat} {xs : Nat → Int32} {d b c : Nat} {h : hp} {cr : Nat → Nat → Option Nat} {Q : hp_Q} (hcr : CR cr) (hL : L ≤ 3072) (hr : 1 ≤ b ∧ 6 ≤ c) (I : LI h) (i : Int) (hi : 0 ≤ i ∧ i + 6 ≤ L) (k : ∀ (h2 : hp) (b2 c2 : Nat), LI h2 → b ≤ b2 + 1 → c ≤ c2 + 6 → wp (md_xa (L, xs)) (d + 107) 0 (1529, [(0, .ref 1000000), (1, .ref 0), (2, .ref 236), (3, .ref 259), (4, vi i)], [], hp_w h2 cr, b2, c2) Q) : wp (md_xa (L, xs)) (d + 107) 0 (534, [(0, .ref 1000000), (1, .ref 0), (2, .ref 236), (3, .ref 259), (4, vi i)], [], hp_w h cr, b, c) Q := by
  obtain ⟨g, i11, r238, r241, gp0, br0, er2, er3, sv0, sf0, ss0, gs0⟩ := I
  have r238e := r238.e0
  have r241e := r241.e0
  obtain ⟨⟨se0, se1, se2, se3, se4, se5, se6, se7, se8, se9⟩, -⟩ := id sv0
  have b1 := gi_b (lo := 0) (hi := 5) g 3 0 rfl
  have b2 := gi_b (lo := 0) (hi := 5) g 238 0 rfl
  have b3 := gi_b (lo := 0) (hi := 4) g 3 1 rfl
  have b4 := gi_b (lo := 0) (hi := 4) g 238 1 rfl
  have b5 := gi_b (lo := 0) (hi := 12) g 3 2 rfl
  have b6 := gi_b (lo := 0) (hi := 12) g 238 2 rfl
  have b7 := gi_b (lo := -2147483648) (hi := 2147483647) g 3 3 rfl
  have b8 := gi_b (lo := 0) (hi := 999) g 238 3 rfl
  have b9 := gi_b (lo := -2147483648) (hi := 2147483647) g 3 4 rfl
  have b10 := gi_b (lo := 0) (hi := 999) g 238 4 rfl
  have b11 := gi_b (lo := -2147483648) (hi := 2147483647) g 3 5 rfl
  have b12 := gi_b (lo := 0) (hi := 9) g 238 5 rfl
  have b13 := gi_b (lo := -2147483648) (hi := 2147483647) g 3 6 rfl
  have b14 := gi_b (lo := 0) (hi := 999) g 238 6 rfl
  have b15 := gi_b (lo := -2147483648) (hi := 2147483647) g 3 7 rfl
  have b16 := gi_b (lo := 0) (hi := 3) g 238 7 rfl
  have b17 := gi_b (lo := -2147483648) (hi := 2147483647) g 3 8 rfl
  have b18 := gi_b (lo := 0) (hi := 999) g 238 8 rfl
  have b19 := gi_b (lo := -2147483648) (hi := 2147483647) g 3 9 rfl
  have b20 := gi_b (lo := 0) (hi := 999) g 238 9 rfl
  have b21 := gi_b (lo := 0) (hi := 1) g 0 12 rfl
  have b22 := gi_b (lo := 0) (hi := 1) g 236 21 rfl
  have bl_ := gi_b (lo := 0) (hi := 800) g 1 1 rfl
  have tb0 : BufC (h 2) (h 1 1) h := ⟨fun _ => rfl, rfl, by omega, by omega⟩
  have b23 := gi_b (lo := 0) (hi := 6) g 238 98 rfl
  have b24 := gi_b (lo := 0) (hi := 6) g 238 99 rfl
  have b25 := gi_b (lo := 0) (hi := 6) g 238 100 rfl
  have b26 := gi_b (lo := 0) (hi := 6) g 238 101 rfl
  have b27 := gi_b (lo := 0) (hi := 3) g 238 102 rfl
  have b28 := gi_b (lo := 0) (hi := 12) g 238 106 rfl
  have b29 := gi_b (lo := 0) (hi := 12) g 238 73 rfl
  have b30 := gi_b (lo := 0) (hi := 9999) g 238 119 rfl
  have b31 := gi_b (lo := 0) (hi := 9999) g 238 67 rfl
  have b32 := gi_b (lo := 0) (hi := 9) g 238 69 rfl
  have b33 := gi_b (lo := 0) (hi := 6) g 241 98 rfl
  have b34 := gi_b (lo := 0) (hi := 6) g 241 99 rfl
  have b35 := gi_b (lo := 0) (hi := 6) g 241 100 rfl
  have b36 := gi_b (lo := 0) (hi := 6) g 241 101 rfl
  have b37 := gi_b (lo := 0) (hi := 3) g 241 102 rfl
  have b38 := gi_b (lo := 0) (hi := 12) g 241 106 rfl
  have b39 := gi_b (lo := 0) (hi := 12) g 241 73 rfl
  have b40 := gi_b (lo := 0) (hi := 12) g 241 2 rfl
  have b41 := gi_b (lo := 0) (hi := 9999) g 241 119 rfl
  have b42 := gi_b (lo := 0) (hi := 9999) g 241 67 rfl
  have b43 := gi_b (lo := 0) (hi := 9) g 241 69 rfl
  have b44 := gi_b (lo := 0) (hi := 9) g 241 5 rfl
  have b45 := gi_b (lo := 0) (hi := 800) g 1 1 rfl
  have b46 := gi_b (lo := 0) (hi := 800) g 236 2 rfl
  have b47 := gi_b (lo := -2147483648) (hi := 2147483647) g 1 2 rfl
  have b48 := gi_b (lo := -2147483648) (hi := 2147483647) g 236 10 rfl
  have b49 := gi_b (lo := -2147483648) (hi := 2147483647) g 1 3 rfl
  have b50 := gi_b (lo := -2147483648) (hi := 2147483647) g 236 11 rfl
  refine wi_aload_n (i := 1) (x := 0) (nx := 535) (r1 := 0) (r2 := 0) (r3 := 0) rfl rfl ?_
  refine wi_aload_n (i := 0) (x := 1000000) (nx := 536) (r1 := 0) (r2 := 0) (r3 := 0) rfl rfl ?_
  refine wi_iload (i := 4) (e := i) (nx := 538) (r1 := 0) (r2 := 0) (r3 := 0) rfl rfl ?_
  refine wi_iconst (n := 1) (nx := 539) (r1 := 0) (r2 := 0) (r3 := 0) rfl ?_
  refine wr_add (nx := 540) (r1 := 0) (r2 := 0) (r3 := 0) rfl (fun e51 (fe51 : e51 = i + 1) => ?_)
  obtain ⟨i52, ei52⟩ : ∃ q : Nat, e51 = (q : Int) := ⟨(e51).toNat, by omega⟩
  have s53 := sc_b (xs i52)
  refine wr_sc (a := e51) (f := i52) (nx := 541) (r1 := 0) (r2 := 0) (r3 := 0) rfl (by omega) (by omega) hL ?_
  refine wi_aload_n (i := 3) (x := 259) (nx := 542) (r1 := 0) (r2 := 0) (r3 := 0) rfl rfl ?_
  refine wi_S (rest := []) (as := [.ref 0, vi ((xs i52).toInt), .ref 259]) (nx := 545) (r1 := 7) (r2 := 19) (r3 := 0) rfl rfl rfl (of_decide_eq_true rfl) rfl rfl (of_decide_eq_true rfl) (of_decide_eq_true rfl) ?_
  refine wi_aload_n (i := 2) (x := 259) (nx := 1) (r1 := 0) (r2 := 0) (r3 := 0) rfl rfl ?_
  refine wi_iconst (n := 0) (nx := 2) (r1 := 0) (r2 := 0) (r3 := 0) rfl ?_
  refine wi_aload_n (i := 0) (x := 0) (nx := 3) (r1 := 0) (r2 := 0) (r3 := 0) rfl rfl ?_
  refine wi_iload_n (i := 1) (e := (xs i52).toInt) (nx := 4) (r1 := 0) (r2 := 0) (r3 := 0) rfl rfl ?_
  refine wr_V (k0 := 0) (rest := [vi 0, .ref 259]) (as := [.ref 0, vi ((xs i52).toInt)]) (nx := 7) (r1 := 67) (r2 := 1) (r3 := 0) rfl rfl rfl (of_decide_eq_true rfl) rfl rfl (by decide) rfl rfl (of_decide_eq_true rfl) (of_decide_eq_true rfl) ?_
  refine ct_67_0 hcr hr  g ((xs i52).toInt) (by omega)  (fun z55  (fz55 : -2147483648 ≤ z55 ∧ z55 ≤ 2147483647) (p54_0 : 0 ≤ ((xs i52).toInt) ∧ ((xs i52).toInt) < (h 3 1)) y54_0 => ?_) (fun (pe54_0 : ((xs i52).toInt) < 0 ∨ (h 3 1) ≤ ((xs i52).toInt)) => ?_)
  ·
    refine wk_i ?_
    refine wi_i2l (nx := 8) (r1 := 0) (r2 := 0) (r3 := 0) rfl (by omega) ?_
    refine wr_ls (k0 := 259) (a := 0) (f := 0) (x := z55) (bl := -9223372036854775808) (bh := 9223372036854775807) (nx := 9) (r1 := 0) (r2 := 0) (r3 := 0) rfl (by decide) rfl (by omega) (by omega) (by decide) g rfl (by omega) (fun h56 g56 w56 u56 => ?_)
    refine wi_goto (nx := 12) (r1 := 15) (r2 := 0) (r3 := 0) rfl ?_
    refine wi_iconst (n := 0) (nx := 16) (r1 := 0) (r2 := 0) (r3 := 0) rfl ?_
    refine wi_ireturn (nx := 17) (r1 := 0) (r2 := 0) (r3 := 0) rfl rfl ?_
    refine wk_i ?_
    refine wi_istore (i := 5) (e := 0) (lo2 := [(5, vi 0), (0, .ref 1000000), (1, .ref 0), (2, .ref 236), (3, .ref 259), (4, vi i)]) (nx := 547) (r1 := 0) (r2 := 0) (r3 := 0) rfl rfl ?_
    refine wi_aload_n (i := 2) (x := 236) (nx := 548) (r1 := 0) (r2 := 0) (r3 := 0) rfl rfl ?_
    refine wi_aload_n (i := 0) (x := 1000000) (nx := 549) (r1 := 0) (r2 := 0) (r3 := 0) rfl rfl ?_
    refine wi_iload (i := 4) (e := i) (nx := 551) (r1 := 0) (r2 := 0) (r3 := 0) rfl rfl ?_
    refine wi_iconst (n := 1) (nx := 552) (r1 := 0) (r2 := 0) (r3 := 0) rfl ?_
    refine wr_add (nx := 553) (r1 := 0) (r2 := 0) (r3 := 0) rfl (fun e57 (fe57 : e57 = i + 1) => ?_)
    refine wr_sc (a := e57) (f := i52) (nx := 554) (r1 := 0) (r2 := 0) (r3 := 0) rfl (by omega) (by omega) hL ?_
    refine wr_V (k0 := 236) (rest := []) (as := [.ref 236, vi ((xs i52).toInt)]) (nx := 557) (r1 := 241) (r2 := 1) (r3 := 11) rfl rfl rfl (of_decide_eq_true rfl) rfl rfl (by decide) rfl rfl (of_decide_eq_true rfl) (of_decide_eq_true rfl) ?_
    refine ct_241_236 hcr  g56 ((xs i52).toInt) (by omega)  (fun h58 z59 g58 u58 (fz59 : 0 ≤ z59 ∧ z59 ≤ 6) (p58_0 : (0 ≤ ((xs i52).toInt) ∧ ((xs i52).toInt) < (h56 238 1) ∧ (h58 236 0) = 0) ∨ ((((xs i52).toInt) < 0 ∨ (h56 238 1) ≤ ((xs i52).toInt)) ∧ (h58 236 0) = 1)) y58_0 => ?_)
    have e60 : h56 238 1 = h 238 1 := (u56 238 1 rfl)
    have b61 := gi_b (lo := 0) (hi := 2) g58 236 0 rfl
    refine wk_i ?_
    rcases p58_0 with p58_0 | p58_0
    ·
      have an62 : z55 = z59 := (y54_0.trans (sv0.2.2.1 (((xs i52).toInt)).toNat (by omega))).trans (((y58_0 (by omega) (by omega)).trans (u56 238 ((15 + (((xs i52).toInt)).toNat)) (fn_a (by omega) fn_0)))).symm
      refine wi_istore (i := 6) (e := z59) (lo2 := [(6, vi z59), (5, vi 0), (0, .ref 1000000), (1, .ref 0), (2, .ref 236), (3, .ref 259), (4, vi i)]) (nx := 559) (r1 := 0) (r2 := 0) (r3 := 0) rfl rfl ?_
      refine wi_goto (nx := 562) (r1 := 1529) (r2 := 0) (r3 := 0) rfl ?_
      refine wp.lo (lo := [(0, .ref 1000000), (1, .ref 0), (2, .ref 236), (3, .ref 259), (4, vi i)]) ⟨rfl, rfl, rfl, rfl, rfl, trivial⟩ rfl ?_
      have e63 : h58 238 98 = h 238 98 := ((u58 238 98 rfl).trans (u56 238 98 rfl))
      have e64 : h58 238 99 = h 238 99 := ((u58 238 99 rfl).trans (u56 238 99 rfl))
      have e65 : h58 238 100 = h 238 100 := ((u58 238 100 rfl).trans (u56 238 100 rfl))
      have e66 : h58 238 101 = h 238 101 := ((u58 238 101 rfl).trans (u56 238 101 rfl))
      have e67 : h58 238 102 = h 238 102 := ((u58 238 102 rfl).trans (u56 238 102 rfl))
      have e68 : h58 238 106 = h 238 106 := ((u58 238 106 rfl).trans (u56 238 106 rfl))
      have e69 : h58 238 73 = h 238 73 := ((u58 238 73 rfl).trans (u56 238 73 rfl))
      have e70 : h58 238 2 = h 238 2 := ((u58 238 2 rfl).trans (u56 238 2 rfl))
      have e71 : h58 238 119 = h 238 119 := ((u58 238 119 rfl).trans (u56 238 119 rfl))
      have e72 : h58 238 67 = h 238 67 := ((u58 238 67 rfl).trans (u56 238 67 rfl))
      have e73 : h58 238 69 = h 238 69 := ((u58 238 69 rfl).trans (u56 238 69 rfl))
      have e74 : h58 238 5 = h 238 5 := ((u58 238 5 rfl).trans (u56 238 5 rfl))
      have e75 : h58 241 98 = h 241 98 := ((u58 241 98 rfl).trans (u56 241 98 rfl))
      have e76 : h58 241 99 = h 241 99 := ((u58 241 99 rfl).trans (u56 241 99 rfl))
      have e77 : h58 241 100 = h 241 100 := ((u58 241 100 rfl).trans (u56 241 100 rfl))
      have e78 : h58 241 101 = h 241 101 := ((u58 241 101 rfl).trans (u56 241 101 rfl))
      have e79 : h58 241 102 = h 241 102 := ((u58 241 102 rfl).trans (u56 241 102 rfl))
      have e80 : h58 241 106 = h 241 106 := ((u58 241 106 rfl).trans (u56 241 106 rfl))
      have e81 : h58 241 73 = h 241 73 := ((u58 241 73 rfl).trans (u56 241 73 rfl))
      have e82 : h58 241 2 = h 241 2 := ((u58 241 2 rfl).trans (u56 241 2 rfl))
      have e83 : h58 241 119 = h 241 119 := ((u58 241 119 rfl).trans (u56 241 119 rfl))
      have e84 : h58 241 67 = h 241 67 := ((u58 241 67 rfl).trans (u56 241 67 rfl))
      have e85 : h58 241 69 = h 241 69 := ((u58 241 69 rfl).trans (u56 241 69 rfl))
      have e86 : h58 241 5 = h 241 5 := ((u58 241 5 rfl).trans (u56 241 5 rfl))
      have e87 : h58 1 1 = h 1 1 := ((u58 1 1 rfl).trans (u56 1 1 rfl))
      have e88 : h58 236 2 = h 236 2 := ((u58 236 2 rfl).trans (u56 236 2 rfl))
      have e89 : h58 1 2 = h 1 2 := ((u58 1 2 rfl).trans (u56 1 2 rfl))
      have e90 : h58 236 10 = h 236 10 := ((u58 236 10 rfl).trans (u56 236 10 rfl))
      have e91 : h58 1 3 = h 1 3 := ((u58 1 3 rfl).trans (u56 1 3 rfl))
      have e92 : h58 236 11 = h 236 11 := ((u58 236 11 rfl).trans (u56 236 11 rfl))
      have gp93 := GPH.fr u56 rfl gp0
      have gp94 := GPH.fr u58 rfl gp93
      have b95 := gi_b (lo := 0) (hi := 5) g 241 0 rfl
      have b96 := gi_b (lo := 0) (hi := 4) g 241 1 rfl
      have gs97 := GPS.fr u56 rfl gs0
      have gs98 := GPS.fr u58 rfl gs97
      have e99 : h58 0 12 = h 0 12 := ((u58 0 12 rfl).trans (u56 0 12 rfl))
      have e100 : h58 236 21 = h 236 21 := ((u58 236 21 rfl).trans (u56 236 21 rfl))
      exact k h58 b c ⟨g58, (show h58 1 1 = h58 236 2 by omega), (RS.i0 (f := h58 238) (by refine ⟨?_, ?_, ?_, ?_, ?_⟩ <;> omega)), (RS.i0 (f := h58 241) (by refine ⟨?_, ?_, ?_, ?_, ?_⟩ <;> omega)), gp94, (BRh.keep br0 (fun i => ((u58 2 i (fn_a (by decide) fn_0)).trans (u56 2 i (fn_a (by omega) fn_0)))) (fun i => ((u58 237 i (fn_a (by decide) fn_0)).trans (u56 237 i (fn_a (by omega) fn_0)))) (by omega)), (show h58 1 2 = h58 236 10 by omega), (show h58 1 3 = h58 236 11 by omega), (SVx.keep sv0 (by omega) (fun i _ => ((u58 3 i (fn_a (by decide) fn_0)).trans (u56 3 i (fn_a (by omega) fn_0)))) (fun i _ => ((u58 5 i (fn_a (by decide) fn_0)).trans (u56 5 i (fn_a (by omega) fn_0)))) (fun i _ => ((u58 6 i (fn_a (by decide) fn_0)).trans (u56 6 i (fn_a (by omega) fn_0)))) (fun i _ => ((u58 8 i (fn_a (by decide) fn_0)).trans (u56 8 i (fn_a (by omega) fn_0)))) (fun i _ => ((u58 238 i (fn_a (by decide) fn_0)).trans (u56 238 i (fn_a (by omega) fn_0))))), (show h58 0 12 = h58 236 21 by omega), (fun e => (SVx.keep (ss0 (by omega)) (by omega) (fun i _ => ((u58 210 i (fn_a (by decide) fn_0)).trans (u56 210 i (fn_a (by omega) fn_0)))) (fun i _ => ((u58 212 i (fn_a (by decide) fn_0)).trans (u56 212 i (fn_a (by omega) fn_0)))) (fun i _ => ((u58 213 i (fn_a (by decide) fn_0)).trans (u56 213 i (fn_a (by omega) fn_0)))) (fun i _ => ((u58 215 i (fn_a (by decide) fn_0)).trans (u56 215 i (fn_a (by omega) fn_0)))) (fun i _ => ((u58 241 i (fn_a (by decide) fn_0)).trans (u56 241 i (fn_a (by omega) fn_0)))))), gs98⟩ (by omega) (by omega)
    ·
      exfalso; omega
  ·
    refine wk_h 12 (by decide) rfl ?_
    refine wr_astx (i := 3) (lo2 := [(3, .retAddr 0), (0, .ref 0), (1, vi ((xs i52).toInt)), (2, .ref 259)]) (nx := 13) (r1 := 0) (r2 := 0) (r3 := 0) rfl rfl ?_
    refine wi_iconst (n := 1) (nx := 14) (r1 := 0) (r2 := 0) (r3 := 0) rfl ?_
    refine wi_ireturn (nx := 15) (r1 := 0) (r2 := 0) (r3 := 0) rfl rfl ?_
    refine wk_i ?_
    refine wi_istore (i := 5) (e := 1) (lo2 := [(5, vi 1), (0, .ref 1000000), (1, .ref 0), (2, .ref 236), (3, .ref 259), (4, vi i)]) (nx := 547) (r1 := 0) (r2 := 0) (r3 := 0) rfl rfl ?_
    refine wi_aload_n (i := 2) (x := 236) (nx := 548) (r1 := 0) (r2 := 0) (r3 := 0) rfl rfl ?_
    refine wi_aload_n (i := 0) (x := 1000000) (nx := 549) (r1 := 0) (r2 := 0) (r3 := 0) rfl rfl ?_
    refine wi_iload (i := 4) (e := i) (nx := 551) (r1 := 0) (r2 := 0) (r3 := 0) rfl rfl ?_
    refine wi_iconst (n := 1) (nx := 552) (r1 := 0) (r2 := 0) (r3 := 0) rfl ?_
    refine wr_add (nx := 553) (r1 := 0) (r2 := 0) (r3 := 0) rfl (fun e56 (fe56 : e56 = i + 1) => ?_)
    refine wr_sc (a := e56) (f := i52) (nx := 554) (r1 := 0) (r2 := 0) (r3 := 0) rfl (by omega) (by omega) hL ?_
    refine wr_V (k0 := 236) (rest := []) (as := [.ref 236, vi ((xs i52).toInt)]) (nx := 557) (r1 := 241) (r2 := 1) (r3 := 11) rfl rfl rfl (of_decide_eq_true rfl) rfl rfl (by decide) rfl rfl (of_decide_eq_true rfl) (of_decide_eq_true rfl) ?_
    refine ct_241_236 hcr  g ((xs i52).toInt) (by omega)  (fun h57 z58 g57 u57 (fz58 : 0 ≤ z58 ∧ z58 ≤ 6) (p57_0 : (0 ≤ ((xs i52).toInt) ∧ ((xs i52).toInt) < (h 238 1) ∧ (h57 236 0) = 0) ∨ ((((xs i52).toInt) < 0 ∨ (h 238 1) ≤ ((xs i52).toInt)) ∧ (h57 236 0) = 1)) y57_0 => ?_)
    have b59 := gi_b (lo := 0) (hi := 2) g57 236 0 rfl
    refine wk_i ?_
    rcases p57_0 with p57_0 | p57_0
    ·
      exfalso; omega
    ·
      refine wi_istore (i := 6) (e := z58) (lo2 := [(6, vi z58), (5, vi 1), (0, .ref 1000000), (1, .ref 0), (2, .ref 236), (3, .ref 259), (4, vi i)]) (nx := 559) (r1 := 0) (r2 := 0) (r3 := 0) rfl rfl ?_
      refine wi_goto (nx := 562) (r1 := 1529) (r2 := 0) (r3 := 0) rfl ?_
      refine wp.lo (lo := [(0, .ref 1000000), (1, .ref 0), (2, .ref 236), (3, .ref 259), (4, vi i)]) ⟨rfl, rfl, rfl, rfl, rfl, trivial⟩ rfl ?_
      have e60 : h57 238 98 = h 238 98 := (u57 238 98 rfl)
      have e61 : h57 238 99 = h 238 99 := (u57 238 99 rfl)
      have e62 : h57 238 100 = h 238 100 := (u57 238 100 rfl)
      have e63 : h57 238 101 = h 238 101 := (u57 238 101 rfl)
      have e64 : h57 238 102 = h 238 102 := (u57 238 102 rfl)
      have e65 : h57 238 106 = h 238 106 := (u57 238 106 rfl)
      have e66 : h57 238 73 = h 238 73 := (u57 238 73 rfl)
      have e67 : h57 238 2 = h 238 2 := (u57 238 2 rfl)
      have e68 : h57 238 119 = h 238 119 := (u57 238 119 rfl)
      have e69 : h57 238 67 = h 238 67 := (u57 238 67 rfl)
      have e70 : h57 238 69 = h 238 69 := (u57 238 69 rfl)
      have e71 : h57 238 5 = h 238 5 := (u57 238 5 rfl)
      have e72 : h57 241 98 = h 241 98 := (u57 241 98 rfl)
      have e73 : h57 241 99 = h 241 99 := (u57 241 99 rfl)
      have e74 : h57 241 100 = h 241 100 := (u57 241 100 rfl)
      have e75 : h57 241 101 = h 241 101 := (u57 241 101 rfl)
      have e76 : h57 241 102 = h 241 102 := (u57 241 102 rfl)
      have e77 : h57 241 106 = h 241 106 := (u57 241 106 rfl)
      have e78 : h57 241 73 = h 241 73 := (u57 241 73 rfl)
      have e79 : h57 241 2 = h 241 2 := (u57 241 2 rfl)
      have e80 : h57 241 119 = h 241 119 := (u57 241 119 rfl)
      have e81 : h57 241 67 = h 241 67 := (u57 241 67 rfl)
      have e82 : h57 241 69 = h 241 69 := (u57 241 69 rfl)
      have e83 : h57 241 5 = h 241 5 := (u57 241 5 rfl)
      have e84 : h57 1 1 = h 1 1 := (u57 1 1 rfl)
      have e85 : h57 236 2 = h 236 2 := (u57 236 2 rfl)
      have e86 : h57 1 2 = h 1 2 := (u57 1 2 rfl)
      have e87 : h57 236 10 = h 236 10 := (u57 236 10 rfl)
      have e88 : h57 1 3 = h 1 3 := (u57 1 3 rfl)
      have e89 : h57 236 11 = h 236 11 := (u57 236 11 rfl)
      have gp90 := GPH.fr u57 rfl gp0
      have b91 := gi_b (lo := 0) (hi := 5) g 241 0 rfl
      have b92 := gi_b (lo := 0) (hi := 4) g 241 1 rfl
      have gs93 := GPS.fr u57 rfl gs0
      have e94 : h57 0 12 = h 0 12 := (u57 0 12 rfl)
      have e95 : h57 236 21 = h 236 21 := (u57 236 21 rfl)
      exact k h57 (b - 1) (c - 6) ⟨g57, (show h57 1 1 = h57 236 2 by omega), (RS.i0 (f := h57 238) (by refine ⟨?_, ?_, ?_, ?_, ?_⟩ <;> omega)), (RS.i0 (f := h57 241) (by refine ⟨?_, ?_, ?_, ?_, ?_⟩ <;> omega)), gp90, (BRh.keep br0 (fun i => (u57 2 i (fn_a (by decide) fn_0))) (fun i => (u57 237 i (fn_a (by decide) fn_0))) (by omega)), (show h57 1 2 = h57 236 10 by omega), (show h57 1 3 = h57 236 11 by omega), (SVx.keep sv0 (by omega) (fun i _ => (u57 3 i (fn_a (by decide) fn_0))) (fun i _ => (u57 5 i (fn_a (by decide) fn_0))) (fun i _ => (u57 6 i (fn_a (by decide) fn_0))) (fun i _ => (u57 8 i (fn_a (by decide) fn_0))) (fun i _ => (u57 238 i (fn_a (by decide) fn_0)))), (show h57 0 12 = h57 236 21 by omega), (fun e => (SVx.keep (ss0 (by omega)) (by omega) (fun i _ => (u57 210 i (fn_a (by decide) fn_0))) (fun i _ => (u57 212 i (fn_a (by decide) fn_0))) (fun i _ => (u57 213 i (fn_a (by decide) fn_0))) (fun i _ => (u57 215 i (fn_a (by decide) fn_0))) (fun i _ => (u57 241 i (fn_a (by decide) fn_0))))), gs93⟩ (by omega) (by omega)
-- the law, case at 562
set_option maxRecDepth 100000 in
set_option maxHeartbeats 100000000 in
theorem lc_562 {L : Nat} {xs : Nat → Int32} {d b c : Nat} {h : hp} {cr : Nat → Nat → Option Nat} {Q : hp_Q} (hcr : CR cr) (hL : L ≤ 3072) (hr : 1 ≤ b ∧ 6 ≤ c) (I : LI h) (i : Int) (hi : 0 ≤ i ∧ i + 6 ≤ L) (k : ∀ (h2 : hp) (b2 c2 : Nat), LI h2 → b ≤ b2 + 1 → c ≤ c2 + 6 → wp (md_xa (L, xs)) (d + 107) 0 (1529, [(0, .ref 1000000), (1, .ref 0), (2, .ref 236), (3, .ref 259), (4, vi i)], [], hp_w h2 cr, b2, c2) Q) : wp (md_xa (L, xs)) (d + 107) 0 (562, [(0, .ref 1000000), (1, .ref 0), (2, .ref 236), (3, .ref 259), (4, vi i)], [], hp_w h cr, b, c) Q := by
  obtain ⟨g, i11, r238, r241, gp0, br0, er2, er3, sv0, sf0, ss0, gs0⟩ := I
  have r238e := r238.e0
  have r241e := r241.e0
  obtain ⟨⟨se0, se1, se2, se3, se4, se5, se6, se7, se8, se9⟩, -⟩ := id sv0
  have b1 := gi_b (lo := 0) (hi := 5) g 3 0 rfl
  have b2 := gi_b (lo := 0) (hi := 5) g 238 0 rfl
  have b3 := gi_b (lo := 0) (hi := 4) g 3 1 rfl
  have b4 := gi_b (lo := 0) (hi := 4) g 238 1 rfl
  have b5 := gi_b (lo := 0) (hi := 12) g 3 2 rfl
  have b6 := gi_b (lo := 0) (hi := 12) g 238 2 rfl
  have b7 := gi_b (lo := -2147483648) (hi := 2147483647) g 3 3 rfl
  have b8 := gi_b (lo := 0) (hi := 999) g 238 3 rfl
  have b9 := gi_b (lo := -2147483648) (hi := 2147483647) g 3 4 rfl
  have b10 := gi_b (lo := 0) (hi := 999) g 238 4 rfl
  have b11 := gi_b (lo := -2147483648) (hi := 2147483647) g 3 5 rfl
  have b12 := gi_b (lo := 0) (hi := 9) g 238 5 rfl
  have b13 := gi_b (lo := -2147483648) (hi := 2147483647) g 3 6 rfl
  have b14 := gi_b (lo := 0) (hi := 999) g 238 6 rfl
  have b15 := gi_b (lo := -2147483648) (hi := 2147483647) g 3 7 rfl
  have b16 := gi_b (lo := 0) (hi := 3) g 238 7 rfl
  have b17 := gi_b (lo := -2147483648) (hi := 2147483647) g 3 8 rfl
  have b18 := gi_b (lo := 0) (hi := 999) g 238 8 rfl
  have b19 := gi_b (lo := -2147483648) (hi := 2147483647) g 3 9 rfl
  have b20 := gi_b (lo := 0) (hi := 999) g 238 9 rfl
  have b21 := gi_b (lo := 0) (hi := 1) g 0 12 rfl
  have b22 := gi_b (lo := 0) (hi := 1) g 236 21 rfl
  have bl_ := gi_b (lo := 0) (hi := 800) g 1 1 rfl
  have tb0 : BufC (h 2) (h 1 1) h := ⟨fun _ => rfl, rfl, by omega, by omega⟩
  have b23 := gi_b (lo := 0) (hi := 6) g 238 98 rfl
  have b24 := gi_b (lo := 0) (hi := 6) g 238 99 rfl
  have b25 := gi_b (lo := 0) (hi := 6) g 238 100 rfl
  have b26 := gi_b (lo := 0) (hi := 6) g 238 101 rfl
  have b27 := gi_b (lo := 0) (hi := 3) g 238 102 rfl
  have b28 := gi_b (lo := 0) (hi := 12) g 238 106 rfl
  have b29 := gi_b (lo := 0) (hi := 12) g 238 73 rfl
  have b30 := gi_b (lo := 0) (hi := 9999) g 238 119 rfl
  have b31 := gi_b (lo := 0) (hi := 9999) g 238 67 rfl
  have b32 := gi_b (lo := 0) (hi := 9) g 238 69 rfl
  have b33 := gi_b (lo := 0) (hi := 6) g 241 98 rfl
  have b34 := gi_b (lo := 0) (hi := 6) g 241 99 rfl
  have b35 := gi_b (lo := 0) (hi := 6) g 241 100 rfl
  have b36 := gi_b (lo := 0) (hi := 6) g 241 101 rfl
  have b37 := gi_b (lo := 0) (hi := 3) g 241 102 rfl
  have b38 := gi_b (lo := 0) (hi := 12) g 241 106 rfl
  have b39 := gi_b (lo := 0) (hi := 12) g 241 73 rfl
  have b40 := gi_b (lo := 0) (hi := 12) g 241 2 rfl
  have b41 := gi_b (lo := 0) (hi := 9999) g 241 119 rfl
  have b42 := gi_b (lo := 0) (hi := 9999) g 241 67 rfl
  have b43 := gi_b (lo := 0) (hi := 9) g 241 69 rfl
  have b44 := gi_b (lo := 0) (hi := 9) g 241 5 rfl
  have b45 := gi_b (lo := 0) (hi := 800) g 1 1 rfl
  have b46 := gi_b (lo := 0) (hi := 800) g 236 2 rfl
  have b47 := gi_b (lo := -2147483648) (hi := 2147483647) g 1 2 rfl
  have b48 := gi_b (lo := -2147483648) (hi := 2147483647) g 236 10 rfl
  have b49 := gi_b (lo := -2147483648) (hi := 2147483647) g 1 3 rfl
  have b50 := gi_b (lo := -2147483648) (hi := 2147483647) g 236 11 rfl
  refine wi_aload_n (i := 1) (x := 0) (nx := 563) (r1 := 0) (r2 := 0) (r3 := 0) rfl rfl ?_
  refine wi_aload_n (i := 0) (x := 1000000) (nx := 564) (r1 := 0) (r2 := 0) (r3 := 0) rfl rfl ?_
  refine wi_iload (i := 4) (e := i) (nx := 566) (r1 := 0) (r2 := 0) (r3 := 0) rfl rfl ?_
  refine wi_iconst (n := 1) (nx := 567) (r1 := 0) (r2 := 0) (r3 := 0) rfl ?_
  refine wr_add (nx := 568) (r1 := 0) (r2 := 0) (r3 := 0) rfl (fun e51 (fe51 : e51 = i + 1) => ?_)
  obtain ⟨i52, ei52⟩ : ∃ q : Nat, e51 = (q : Int) := ⟨(e51).toNat, by omega⟩
  have s53 := sc_b (xs i52)
  refine wr_sc (a := e51) (f := i52) (nx := 569) (r1 := 0) (r2 := 0) (r3 := 0) rfl (by omega) (by omega) hL ?_
  refine wi_aload_n (i := 3) (x := 259) (nx := 570) (r1 := 0) (r2 := 0) (r3 := 0) rfl rfl ?_
  refine wi_S (rest := []) (as := [.ref 0, vi ((xs i52).toInt), .ref 259]) (nx := 573) (r1 := 8) (r2 := 19) (r3 := 0) rfl rfl rfl (of_decide_eq_true rfl) rfl rfl (of_decide_eq_true rfl) (of_decide_eq_true rfl) ?_
  refine wi_aload_n (i := 2) (x := 259) (nx := 1) (r1 := 0) (r2 := 0) (r3 := 0) rfl rfl ?_
  refine wi_iconst (n := 0) (nx := 2) (r1 := 0) (r2 := 0) (r3 := 0) rfl ?_
  refine wi_aload_n (i := 0) (x := 0) (nx := 3) (r1 := 0) (r2 := 0) (r3 := 0) rfl rfl ?_
  refine wi_iload_n (i := 1) (e := (xs i52).toInt) (nx := 4) (r1 := 0) (r2 := 0) (r3 := 0) rfl rfl ?_
  refine wr_V (k0 := 0) (rest := [vi 0, .ref 259]) (as := [.ref 0, vi ((xs i52).toInt)]) (nx := 7) (r1 := 69) (r2 := 1) (r3 := 0) rfl rfl rfl (of_decide_eq_true rfl) rfl rfl (by decide) rfl rfl (of_decide_eq_true rfl) (of_decide_eq_true rfl) ?_
  refine ct_69_0 hcr hr  g ((xs i52).toInt) (by omega)  (fun z55  (fz55 : -2147483648 ≤ z55 ∧ z55 ≤ 2147483647) (p54_0 : 0 ≤ ((xs i52).toInt) ∧ ((xs i52).toInt) < (h 3 2)) y54_0 => ?_) (fun (pe54_0 : ((xs i52).toInt) < 0 ∨ (h 3 2) ≤ ((xs i52).toInt)) => ?_)
  ·
    refine wk_i ?_
    refine wi_i2l (nx := 8) (r1 := 0) (r2 := 0) (r3 := 0) rfl (by omega) ?_
    refine wr_ls (k0 := 259) (a := 0) (f := 0) (x := z55) (bl := -9223372036854775808) (bh := 9223372036854775807) (nx := 9) (r1 := 0) (r2 := 0) (r3 := 0) rfl (by decide) rfl (by omega) (by omega) (by decide) g rfl (by omega) (fun h56 g56 w56 u56 => ?_)
    refine wi_goto (nx := 12) (r1 := 15) (r2 := 0) (r3 := 0) rfl ?_
    refine wi_iconst (n := 0) (nx := 16) (r1 := 0) (r2 := 0) (r3 := 0) rfl ?_
    refine wi_ireturn (nx := 17) (r1 := 0) (r2 := 0) (r3 := 0) rfl rfl ?_
    refine wk_i ?_
    refine wi_istore (i := 5) (e := 0) (lo2 := [(5, vi 0), (0, .ref 1000000), (1, .ref 0), (2, .ref 236), (3, .ref 259), (4, vi i)]) (nx := 575) (r1 := 0) (r2 := 0) (r3 := 0) rfl rfl ?_
    refine wi_aload_n (i := 2) (x := 236) (nx := 576) (r1 := 0) (r2 := 0) (r3 := 0) rfl rfl ?_
    refine wi_aload_n (i := 0) (x := 1000000) (nx := 577) (r1 := 0) (r2 := 0) (r3 := 0) rfl rfl ?_
    refine wi_iload (i := 4) (e := i) (nx := 579) (r1 := 0) (r2 := 0) (r3 := 0) rfl rfl ?_
    refine wi_iconst (n := 1) (nx := 580) (r1 := 0) (r2 := 0) (r3 := 0) rfl ?_
    refine wr_add (nx := 581) (r1 := 0) (r2 := 0) (r3 := 0) rfl (fun e57 (fe57 : e57 = i + 1) => ?_)
    refine wr_sc (a := e57) (f := i52) (nx := 582) (r1 := 0) (r2 := 0) (r3 := 0) rfl (by omega) (by omega) hL ?_
    refine wr_V (k0 := 236) (rest := []) (as := [.ref 236, vi ((xs i52).toInt)]) (nx := 585) (r1 := 243) (r2 := 1) (r3 := 11) rfl rfl rfl (of_decide_eq_true rfl) rfl rfl (by decide) rfl rfl (of_decide_eq_true rfl) (of_decide_eq_true rfl) ?_
    refine ct_243_236 hcr  g56 ((xs i52).toInt) (by omega)  (fun h58 z59 g58 u58 (fz59 : 0 ≤ z59 ∧ z59 ≤ 999) (p58_0 : (0 ≤ ((xs i52).toInt) ∧ ((xs i52).toInt) < (h56 238 2) ∧ (h58 236 0) = 0) ∨ ((((xs i52).toInt) < 0 ∨ (h56 238 2) ≤ ((xs i52).toInt)) ∧ (h58 236 0) = 1)) y58_0 => ?_)
    have e60 : h56 238 2 = h 238 2 := (u56 238 2 rfl)
    have b61 := gi_b (lo := 0) (hi := 2) g58 236 0 rfl
    refine wk_i ?_
    rcases p58_0 with p58_0 | p58_0
    ·
      have an62 : z55 = z59 := (y54_0.trans (sv0.2.2.2 (((xs i52).toInt)).toNat (by omega))).trans (((y58_0 (by omega) (by omega)).trans (u56 238 ((19 + (((xs i52).toInt)).toNat)) (fn_a (by omega) fn_0)))).symm
      refine wi_istore (i := 6) (e := z59) (lo2 := [(6, vi z59), (5, vi 0), (0, .ref 1000000), (1, .ref 0), (2, .ref 236), (3, .ref 259), (4, vi i)]) (nx := 587) (r1 := 0) (r2 := 0) (r3 := 0) rfl rfl ?_
      refine wi_goto (nx := 590) (r1 := 1529) (r2 := 0) (r3 := 0) rfl ?_
      refine wp.lo (lo := [(0, .ref 1000000), (1, .ref 0), (2, .ref 236), (3, .ref 259), (4, vi i)]) ⟨rfl, rfl, rfl, rfl, rfl, trivial⟩ rfl ?_
      have e63 : h58 238 98 = h 238 98 := ((u58 238 98 rfl).trans (u56 238 98 rfl))
      have e64 : h58 238 99 = h 238 99 := ((u58 238 99 rfl).trans (u56 238 99 rfl))
      have e65 : h58 238 100 = h 238 100 := ((u58 238 100 rfl).trans (u56 238 100 rfl))
      have e66 : h58 238 101 = h 238 101 := ((u58 238 101 rfl).trans (u56 238 101 rfl))
      have e67 : h58 238 102 = h 238 102 := ((u58 238 102 rfl).trans (u56 238 102 rfl))
      have e68 : h58 238 106 = h 238 106 := ((u58 238 106 rfl).trans (u56 238 106 rfl))
      have e69 : h58 238 73 = h 238 73 := ((u58 238 73 rfl).trans (u56 238 73 rfl))
      have e70 : h58 238 2 = h 238 2 := ((u58 238 2 rfl).trans (u56 238 2 rfl))
      have e71 : h58 238 119 = h 238 119 := ((u58 238 119 rfl).trans (u56 238 119 rfl))
      have e72 : h58 238 67 = h 238 67 := ((u58 238 67 rfl).trans (u56 238 67 rfl))
      have e73 : h58 238 69 = h 238 69 := ((u58 238 69 rfl).trans (u56 238 69 rfl))
      have e74 : h58 238 5 = h 238 5 := ((u58 238 5 rfl).trans (u56 238 5 rfl))
      have e75 : h58 241 98 = h 241 98 := ((u58 241 98 rfl).trans (u56 241 98 rfl))
      have e76 : h58 241 99 = h 241 99 := ((u58 241 99 rfl).trans (u56 241 99 rfl))
      have e77 : h58 241 100 = h 241 100 := ((u58 241 100 rfl).trans (u56 241 100 rfl))
      have e78 : h58 241 101 = h 241 101 := ((u58 241 101 rfl).trans (u56 241 101 rfl))
      have e79 : h58 241 102 = h 241 102 := ((u58 241 102 rfl).trans (u56 241 102 rfl))
      have e80 : h58 241 106 = h 241 106 := ((u58 241 106 rfl).trans (u56 241 106 rfl))
      have e81 : h58 241 73 = h 241 73 := ((u58 241 73 rfl).trans (u56 241 73 rfl))
      have e82 : h58 241 2 = h 241 2 := ((u58 241 2 rfl).trans (u56 241 2 rfl))
      have e83 : h58 241 119 = h 241 119 := ((u58 241 119 rfl).trans (u56 241 119 rfl))
      have e84 : h58 241 67 = h 241 67 := ((u58 241 67 rfl).trans (u56 241 67 rfl))
      have e85 : h58 241 69 = h 241 69 := ((u58 241 69 rfl).trans (u56 241 69 rfl))
      have e86 : h58 241 5 = h 241 5 := ((u58 241 5 rfl).trans (u56 241 5 rfl))
      have e87 : h58 1 1 = h 1 1 := ((u58 1 1 rfl).trans (u56 1 1 rfl))
      have e88 : h58 236 2 = h 236 2 := ((u58 236 2 rfl).trans (u56 236 2 rfl))
      have e89 : h58 1 2 = h 1 2 := ((u58 1 2 rfl).trans (u56 1 2 rfl))
      have e90 : h58 236 10 = h 236 10 := ((u58 236 10 rfl).trans (u56 236 10 rfl))
      have e91 : h58 1 3 = h 1 3 := ((u58 1 3 rfl).trans (u56 1 3 rfl))
      have e92 : h58 236 11 = h 236 11 := ((u58 236 11 rfl).trans (u56 236 11 rfl))
      have gp93 := GPH.fr u56 rfl gp0
      have gp94 := GPH.fr u58 rfl gp93
      have b95 := gi_b (lo := 0) (hi := 5) g 241 0 rfl
      have b96 := gi_b (lo := 0) (hi := 4) g 241 1 rfl
      have gs97 := GPS.fr u56 rfl gs0
      have gs98 := GPS.fr u58 rfl gs97
      have e99 : h58 0 12 = h 0 12 := ((u58 0 12 rfl).trans (u56 0 12 rfl))
      have e100 : h58 236 21 = h 236 21 := ((u58 236 21 rfl).trans (u56 236 21 rfl))
      exact k h58 b c ⟨g58, (show h58 1 1 = h58 236 2 by omega), (RS.i0 (f := h58 238) (by refine ⟨?_, ?_, ?_, ?_, ?_⟩ <;> omega)), (RS.i0 (f := h58 241) (by refine ⟨?_, ?_, ?_, ?_, ?_⟩ <;> omega)), gp94, (BRh.keep br0 (fun i => ((u58 2 i (fn_a (by decide) fn_0)).trans (u56 2 i (fn_a (by omega) fn_0)))) (fun i => ((u58 237 i (fn_a (by decide) fn_0)).trans (u56 237 i (fn_a (by omega) fn_0)))) (by omega)), (show h58 1 2 = h58 236 10 by omega), (show h58 1 3 = h58 236 11 by omega), (SVx.keep sv0 (by omega) (fun i _ => ((u58 3 i (fn_a (by decide) fn_0)).trans (u56 3 i (fn_a (by omega) fn_0)))) (fun i _ => ((u58 5 i (fn_a (by decide) fn_0)).trans (u56 5 i (fn_a (by omega) fn_0)))) (fun i _ => ((u58 6 i (fn_a (by decide) fn_0)).trans (u56 6 i (fn_a (by omega) fn_0)))) (fun i _ => ((u58 8 i (fn_a (by decide) fn_0)).trans (u56 8 i (fn_a (by omega) fn_0)))) (fun i _ => ((u58 238 i (fn_a (by decide) fn_0)).trans (u56 238 i (fn_a (by omega) fn_0))))), (show h58 0 12 = h58 236 21 by omega), (fun e => (SVx.keep (ss0 (by omega)) (by omega) (fun i _ => ((u58 210 i (fn_a (by decide) fn_0)).trans (u56 210 i (fn_a (by omega) fn_0)))) (fun i _ => ((u58 212 i (fn_a (by decide) fn_0)).trans (u56 212 i (fn_a (by omega) fn_0)))) (fun i _ => ((u58 213 i (fn_a (by decide) fn_0)).trans (u56 213 i (fn_a (by omega) fn_0)))) (fun i _ => ((u58 215 i (fn_a (by decide) fn_0)).trans (u56 215 i (fn_a (by omega) fn_0)))) (fun i _ => ((u58 241 i (fn_a (by decide) fn_0)).trans (u56 241 i (fn_a (by omega) fn_0)))))), gs98⟩ (by omega) (by omega)
    ·
      exfalso; omega
  ·
    refine wk_h 12 (by decide) rfl ?_
    refine wr_astx (i := 3) (lo2 := [(3, .retAddr 0), (0, .ref 0), (1, vi ((xs i52).toInt)), (2, .ref 259)]) (nx := 13) (r1 := 0) (r2 := 0) (r3 := 0) rfl rfl ?_
    refine wi_iconst (n := 1) (nx := 14) (r1 := 0) (r2 := 0) (r3 := 0) rfl ?_
    refine wi_ireturn (nx := 15) (r1 := 0) (r2 := 0) (r3 := 0) rfl rfl ?_
    refine wk_i ?_
    refine wi_istore (i := 5) (e := 1) (lo2 := [(5, vi 1), (0, .ref 1000000), (1, .ref 0), (2, .ref 236), (3, .ref 259), (4, vi i)]) (nx := 575) (r1 := 0) (r2 := 0) (r3 := 0) rfl rfl ?_
    refine wi_aload_n (i := 2) (x := 236) (nx := 576) (r1 := 0) (r2 := 0) (r3 := 0) rfl rfl ?_
    refine wi_aload_n (i := 0) (x := 1000000) (nx := 577) (r1 := 0) (r2 := 0) (r3 := 0) rfl rfl ?_
    refine wi_iload (i := 4) (e := i) (nx := 579) (r1 := 0) (r2 := 0) (r3 := 0) rfl rfl ?_
    refine wi_iconst (n := 1) (nx := 580) (r1 := 0) (r2 := 0) (r3 := 0) rfl ?_
    refine wr_add (nx := 581) (r1 := 0) (r2 := 0) (r3 := 0) rfl (fun e56 (fe56 : e56 = i + 1) => ?_)
    refine wr_sc (a := e56) (f := i52) (nx := 582) (r1 := 0) (r2 := 0) (r3 := 0) rfl (by omega) (by omega) hL ?_
    refine wr_V (k0 := 236) (rest := []) (as := [.ref 236, vi ((xs i52).toInt)]) (nx := 585) (r1 := 243) (r2 := 1) (r3 := 11) rfl rfl rfl (of_decide_eq_true rfl) rfl rfl (by decide) rfl rfl (of_decide_eq_true rfl) (of_decide_eq_true rfl) ?_
    refine ct_243_236 hcr  g ((xs i52).toInt) (by omega)  (fun h57 z58 g57 u57 (fz58 : 0 ≤ z58 ∧ z58 ≤ 999) (p57_0 : (0 ≤ ((xs i52).toInt) ∧ ((xs i52).toInt) < (h 238 2) ∧ (h57 236 0) = 0) ∨ ((((xs i52).toInt) < 0 ∨ (h 238 2) ≤ ((xs i52).toInt)) ∧ (h57 236 0) = 1)) y57_0 => ?_)
    have b59 := gi_b (lo := 0) (hi := 2) g57 236 0 rfl
    refine wk_i ?_
    rcases p57_0 with p57_0 | p57_0
    ·
      exfalso; omega
    ·
      refine wi_istore (i := 6) (e := z58) (lo2 := [(6, vi z58), (5, vi 1), (0, .ref 1000000), (1, .ref 0), (2, .ref 236), (3, .ref 259), (4, vi i)]) (nx := 587) (r1 := 0) (r2 := 0) (r3 := 0) rfl rfl ?_
      refine wi_goto (nx := 590) (r1 := 1529) (r2 := 0) (r3 := 0) rfl ?_
      refine wp.lo (lo := [(0, .ref 1000000), (1, .ref 0), (2, .ref 236), (3, .ref 259), (4, vi i)]) ⟨rfl, rfl, rfl, rfl, rfl, trivial⟩ rfl ?_
      have e60 : h57 238 98 = h 238 98 := (u57 238 98 rfl)
      have e61 : h57 238 99 = h 238 99 := (u57 238 99 rfl)
      have e62 : h57 238 100 = h 238 100 := (u57 238 100 rfl)
      have e63 : h57 238 101 = h 238 101 := (u57 238 101 rfl)
      have e64 : h57 238 102 = h 238 102 := (u57 238 102 rfl)
      have e65 : h57 238 106 = h 238 106 := (u57 238 106 rfl)
      have e66 : h57 238 73 = h 238 73 := (u57 238 73 rfl)
      have e67 : h57 238 2 = h 238 2 := (u57 238 2 rfl)
      have e68 : h57 238 119 = h 238 119 := (u57 238 119 rfl)
      have e69 : h57 238 67 = h 238 67 := (u57 238 67 rfl)
      have e70 : h57 238 69 = h 238 69 := (u57 238 69 rfl)
      have e71 : h57 238 5 = h 238 5 := (u57 238 5 rfl)
      have e72 : h57 241 98 = h 241 98 := (u57 241 98 rfl)
      have e73 : h57 241 99 = h 241 99 := (u57 241 99 rfl)
      have e74 : h57 241 100 = h 241 100 := (u57 241 100 rfl)
      have e75 : h57 241 101 = h 241 101 := (u57 241 101 rfl)
      have e76 : h57 241 102 = h 241 102 := (u57 241 102 rfl)
      have e77 : h57 241 106 = h 241 106 := (u57 241 106 rfl)
      have e78 : h57 241 73 = h 241 73 := (u57 241 73 rfl)
      have e79 : h57 241 2 = h 241 2 := (u57 241 2 rfl)
      have e80 : h57 241 119 = h 241 119 := (u57 241 119 rfl)
      have e81 : h57 241 67 = h 241 67 := (u57 241 67 rfl)
      have e82 : h57 241 69 = h 241 69 := (u57 241 69 rfl)
      have e83 : h57 241 5 = h 241 5 := (u57 241 5 rfl)
      have e84 : h57 1 1 = h 1 1 := (u57 1 1 rfl)
      have e85 : h57 236 2 = h 236 2 := (u57 236 2 rfl)
      have e86 : h57 1 2 = h 1 2 := (u57 1 2 rfl)
      have e87 : h57 236 10 = h 236 10 := (u57 236 10 rfl)
      have e88 : h57 1 3 = h 1 3 := (u57 1 3 rfl)
      have e89 : h57 236 11 = h 236 11 := (u57 236 11 rfl)
      have gp90 := GPH.fr u57 rfl gp0
      have b91 := gi_b (lo := 0) (hi := 5) g 241 0 rfl
      have b92 := gi_b (lo := 0) (hi := 4) g 241 1 rfl
      have gs93 := GPS.fr u57 rfl gs0
      have e94 : h57 0 12 = h 0 12 := (u57 0 12 rfl)
      have e95 : h57 236 21 = h 236 21 := (u57 236 21 rfl)
      exact k h57 (b - 1) (c - 6) ⟨g57, (show h57 1 1 = h57 236 2 by omega), (RS.i0 (f := h57 238) (by refine ⟨?_, ?_, ?_, ?_, ?_⟩ <;> omega)), (RS.i0 (f := h57 241) (by refine ⟨?_, ?_, ?_, ?_, ?_⟩ <;> omega)), gp90, (BRh.keep br0 (fun i => (u57 2 i (fn_a (by decide) fn_0))) (fun i => (u57 237 i (fn_a (by decide) fn_0))) (by omega)), (show h57 1 2 = h57 236 10 by omega), (show h57 1 3 = h57 236 11 by omega), (SVx.keep sv0 (by omega) (fun i _ => (u57 3 i (fn_a (by decide) fn_0))) (fun i _ => (u57 5 i (fn_a (by decide) fn_0))) (fun i _ => (u57 6 i (fn_a (by decide) fn_0))) (fun i _ => (u57 8 i (fn_a (by decide) fn_0))) (fun i _ => (u57 238 i (fn_a (by decide) fn_0)))), (show h57 0 12 = h57 236 21 by omega), (fun e => (SVx.keep (ss0 (by omega)) (by omega) (fun i _ => (u57 210 i (fn_a (by decide) fn_0))) (fun i _ => (u57 212 i (fn_a (by decide) fn_0))) (fun i _ => (u57 213 i (fn_a (by decide) fn_0))) (fun i _ => (u57 215 i (fn_a (by decide) fn_0))) (fun i _ => (u57 241 i (fn_a (by decide) fn_0))))), gs93⟩ (by omega) (by omega)
