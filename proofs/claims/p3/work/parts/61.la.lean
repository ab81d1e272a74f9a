-- the law, case at 288
set_option maxRecDepth 100000 in
set_option maxHeartbeats 100000000 in
theorem lc_288 {L : Nat} {xs : Nat → Int32} {d b c : Nat} {h : hp} {cr : Nat → Nat → Option Nat} {Q : hp_Q} (hcr : CR cr) (hL : L ≤ 3072) (hr : 1 ≤ b ∧ 6 ≤ c) (I : LI h) (i : Int) (hi : 0 ≤ i ∧ i + 6 ≤ L) (k : ∀ (h2 : hp) (b2 c2 : Nat), LI h2 → b ≤ b2 + 1 → c ≤ c2 + 6 → wp (md_xa (L, xs)) (d + 107) 0 (1529, [(0, .ref 1000000), (1, .ref 0), (2, .ref 236), (3, .ref 259), (4, vi i)], [], hp_w h2 cr, b2, c2) Q) : wp (md_xa (L, xs)) (d + 107) 0 (288, [(0, .ref 1000000), (1, .ref 0), (2, .ref 236), (3, .ref 259), (4, vi i)], [], hp_w h cr, b, c) Q := by
  obtain ⟨g, i11, r238, r241, gp0⟩ := I
  have r238e := r238.e0
  have r241e := r241.e0
  have b1 := gi_b (lo := 0) (hi := 6) g 238 98 rfl
  have b2 := gi_b (lo := 0) (hi := 6) g 238 99 rfl
  have b3 := gi_b (lo := 0) (hi := 6) g 238 100 rfl
  have b4 := gi_b (lo := 0) (hi := 6) g 238 101 rfl
  have b5 := gi_b (lo := 0) (hi := 3) g 238 102 rfl
  have b6 := gi_b (lo := 0) (hi := 12) g 238 106 rfl
  have b7 := gi_b (lo := 0) (hi := 12) g 238 73 rfl
  have b8 := gi_b (lo := 0) (hi := 12) g 238 2 rfl
  have b9 := gi_b (lo := 0) (hi := 9999) g 238 119 rfl
  have b10 := gi_b (lo := 0) (hi := 9999) g 238 67 rfl
  have b11 := gi_b (lo := 0) (hi := 9) g 238 69 rfl
  have b12 := gi_b (lo := 0) (hi := 9) g 238 5 rfl
  have b13 := gi_b (lo := 0) (hi := 6) g 241 98 rfl
  have b14 := gi_b (lo := 0) (hi := 6) g 241 99 rfl
  have b15 := gi_b (lo := 0) (hi := 6) g 241 100 rfl
  have b16 := gi_b (lo := 0) (hi := 6) g 241 101 rfl
  have b17 := gi_b (lo := 0) (hi := 3) g 241 102 rfl
  have b18 := gi_b (lo := 0) (hi := 12) g 241 106 rfl
  have b19 := gi_b (lo := 0) (hi := 12) g 241 73 rfl
  have b20 := gi_b (lo := 0) (hi := 12) g 241 2 rfl
  have b21 := gi_b (lo := 0) (hi := 9999) g 241 119 rfl
  have b22 := gi_b (lo := 0) (hi := 9999) g 241 67 rfl
  have b23 := gi_b (lo := 0) (hi := 9) g 241 69 rfl
  have b24 := gi_b (lo := 0) (hi := 9) g 241 5 rfl
  have b25 := gi_b (lo := 0) (hi := 800) g 1 1 rfl
  have b26 := gi_b (lo := 0) (hi := 800) g 236 2 rfl
  refine wi_aload_n (i := 1) (x := 0) (nx := 289) (r1 := 0) (r2 := 0) (r3 := 0) rfl rfl ?_
  refine wi_aload_n (i := 0) (x := 1000000) (nx := 290) (r1 := 0) (r2 := 0) (r3 := 0) rfl rfl ?_
  refine wi_iload (i := 4) (e := i) (nx := 292) (r1 := 0) (r2 := 0) (r3 := 0) rfl rfl ?_
  refine wi_iconst (n := 1) (nx := 293) (r1 := 0) (r2 := 0) (r3 := 0) rfl ?_
  refine wr_add (nx := 294) (r1 := 0) (r2 := 0) (r3 := 0) rfl (fun e27 (fe27 : e27 = i + 1) => ?_)
  obtain ⟨i28, ei28⟩ : ∃ q : Nat, e27 = (q : Int) := ⟨(e27).toNat, by omega⟩
  have s29 := sc_b (xs i28)
  refine wr_sc (a := e27) (f := i28) (nx := 295) (r1 := 0) (r2 := 0) (r3 := 0) rfl (by omega) (by omega) hL ?_
  refine wi_aload_n (i := 0) (x := 1000000) (nx := 296) (r1 := 0) (r2 := 0) (r3 := 0) rfl rfl ?_
  refine wi_iload (i := 4) (e := i) (nx := 298) (r1 := 0) (r2 := 0) (r3 := 0) rfl rfl ?_
  refine wi_iconst (n := 2) (nx := 299) (r1 := 0) (r2 := 0) (r3 := 0) rfl ?_
  refine wr_add (nx := 300) (r1 := 0) (r2 := 0) (r3 := 0) rfl (fun e30 (fe30 : e30 = i + 2) => ?_)
  obtain ⟨i31, ei31⟩ : ∃ q : Nat, e30 = (q : Int) := ⟨(e30).toNat, by omega⟩
  have s32 := sc_b (xs i31)
  refine wr_sc (a := e30) (f := i31) (nx := 301) (r1 := 0) (r2 := 0) (r3 := 0) rfl (by omega) (by omega) hL ?_
  refine wi_aload_n (i := 0) (x := 1000000) (nx := 302) (r1 := 0) (r2 := 0) (r3 := 0) rfl rfl ?_
  refine wi_iload (i := 4) (e := i) (nx := 304) (r1 := 0) (r2 := 0) (r3 := 0) rfl rfl ?_
  refine wi_iconst (n := 3) (nx := 305) (r1 := 0) (r2 := 0) (r3 := 0) rfl ?_
  refine wr_add (nx := 306) (r1 := 0) (r2 := 0) (r3 := 0) rfl (fun e33 (fe33 : e33 = i + 3) => ?_)
  obtain ⟨i34, ei34⟩ : ∃ q : Nat, e33 = (q : Int) := ⟨(e33).toNat, by omega⟩
  have s35 := sc_b (xs i34)
  refine wr_sc (a := e33) (f := i34) (nx := 307) (r1 := 0) (r2 := 0) (r3 := 0) rfl (by omega) (by omega) hL ?_
  refine wi_aload_n (i := 0) (x := 1000000) (nx := 308) (r1 := 0) (r2 := 0) (r3 := 0) rfl rfl ?_
  refine wi_iload (i := 4) (e := i) (nx := 310) (r1 := 0) (r2 := 0) (r3 := 0) rfl rfl ?_
  refine wi_iconst (n := 4) (nx := 311) (r1 := 0) (r2 := 0) (r3 := 0) rfl ?_
  refine wr_add (nx := 312) (r1 := 0) (r2 := 0) (r3 := 0) rfl (fun e36 (fe36 : e36 = i + 4) => ?_)
  obtain ⟨i37, ei37⟩ : ∃ q : Nat, e36 = (q : Int) := ⟨(e36).toNat, by omega⟩
  have s38 := sc_b (xs i37)
  refine wr_sc (a := e36) (f := i37) (nx := 313) (r1 := 0) (r2 := 0) (r3 := 0) rfl (by omega) (by omega) hL ?_
  refine wi_aload_n (i := 0) (x := 1000000) (nx := 314) (r1 := 0) (r2 := 0) (r3 := 0) rfl rfl ?_
  refine wi_iload (i := 4) (e := i) (nx := 316) (r1 := 0) (r2 := 0) (r3 := 0) rfl rfl ?_
  refine wi_iconst (n := 5) (nx := 317) (r1 := 0) (r2 := 0) (r3 := 0) rfl ?_
  refine wr_add (nx := 318) (r1 := 0) (r2 := 0) (r3 := 0) rfl (fun e39 (fe39 : e39 = i + 5) => ?_)
  obtain ⟨i40, ei40⟩ : ∃ q : Nat, e39 = (q : Int) := ⟨(e39).toNat, by omega⟩
  have s41 := sc_b (xs i40)
  refine wr_sc (a := e39) (f := i40) (nx := 319) (r1 := 0) (r2 := 0) (r3 := 0) rfl (by omega) (by omega) hL ?_
  refine wi_aload_n (i := 3) (x := 259) (nx := 320) (r1 := 0) (r2 := 0) (r3 := 0) rfl rfl ?_
  refine wi_S (rest := []) (as := [.ref 0, vi ((xs i28).toInt), vi ((xs i31).toInt), vi ((xs i34).toInt), vi ((xs i37).toInt), vi ((xs i40).toInt), .ref 259]) (nx := 323) (r1 := 1) (r2 := 23) (r3 := 0) rfl rfl rfl (of_decide_eq_true rfl) rfl rfl (of_decide_eq_true rfl) (of_decide_eq_true rfl) ?_
  refine wi_aload (i := 6) (x := 259) (nx := 2) (r1 := 0) (r2 := 0) (r3 := 0) rfl rfl ?_
  refine wi_iconst (n := 0) (nx := 3) (r1 := 0) (r2 := 0) (r3 := 0) rfl ?_
  refine wi_aload_n (i := 0) (x := 0) (nx := 4) (r1 := 0) (r2 := 0) (r3 := 0) rfl rfl ?_
  refine wi_iload_n (i := 1) (e := (xs i28).toInt) (nx := 5) (r1 := 0) (r2 := 0) (r3 := 0) rfl rfl ?_
  refine wi_iload_n (i := 2) (e := (xs i31).toInt) (nx := 6) (r1 := 0) (r2 := 0) (r3 := 0) rfl rfl ?_
  refine wi_iload_n (i := 3) (e := (xs i34).toInt) (nx := 7) (r1 := 0) (r2 := 0) (r3 := 0) rfl rfl ?_
  refine wi_iload (i := 4) (e := (xs i37).toInt) (nx := 9) (r1 := 0) (r2 := 0) (r3 := 0) rfl rfl ?_
  refine wi_iload (i := 5) (e := (xs i40).toInt) (nx := 11) (r1 := 0) (r2 := 0) (r3 := 0) rfl rfl ?_
  refine wr_V (k0 := 0) (rest := [vi 0, .ref 259]) (as := [.ref 0, vi ((xs i28).toInt), vi ((xs i31).toInt), vi ((xs i34).toInt), vi ((xs i37).toInt), vi ((xs i40).toInt)]) (nx := 14) (r1 := 61) (r2 := 5) (r3 := 0) rfl rfl rfl (of_decide_eq_true rfl) rfl rfl (by decide) rfl rfl (of_decide_eq_true rfl) (of_decide_eq_true rfl) ?_
  refine ct_61_0 hcr hr  g ((xs i28).toInt) ((xs i31).toInt) ((xs i34).toInt) ((xs i37).toInt) ((xs i40).toInt) (by omega) (by omega) (by omega) (by omega) (by omega)  (fun h42 z43 g42 u42 (fz43 : 20 ≤ z43 ∧ z43 ≤ 800) (p42_0 : (h 1 1) ≤ 780) (p42_1 : (h42 1 1) = (h 1 1) + 20) (p42_2 : z43 = (h 1 1) + 20) => ?_) (fun h42 g42 u42 (pe42_0 : 781 ≤ (h 1 1)) (pe42_1 : (h42 1 1) = (h 1 1)) => ?_)
  ·
    have b44 := gi_b (lo := 0) (hi := 800) g42 1 1 rfl
    refine wk_i ?_
    refine wi_i2l (nx := 15) (r1 := 0) (r2 := 0) (r3 := 0) rfl (by omega) ?_
    refine wr_ls (k0 := 259) (a := 0) (f := 0) (x := z43) (bl := -9223372036854775808) (bh := 9223372036854775807) (nx := 16) (r1 := 0) (r2 := 0) (r3 := 0) rfl (by decide) rfl (by omega) (by omega) (by decide) g42 rfl (by omega) (fun h45 g45 w45 u45 => ?_)
    refine wi_goto (nx := 19) (r1 := 23) (r2 := 0) (r3 := 0) rfl ?_
    refine wi_iconst (n := 0) (nx := 24) (r1 := 0) (r2 := 0) (r3 := 0) rfl ?_
    refine wi_ireturn (nx := 25) (r1 := 0) (r2 := 0) (r3 := 0) rfl rfl ?_
    refine wk_i ?_
    refine wi_istore (i := 5) (e := 0) (lo2 := [(5, vi 0), (0, .ref 1000000), (1, .ref 0), (2, .ref 236), (3, .ref 259), (4, vi i)]) (nx := 325) (r1 := 0) (r2 := 0) (r3 := 0) rfl rfl ?_
    refine wi_aload_n (i := 2) (x := 236) (nx := 326) (r1 := 0) (r2 := 0) (r3 := 0) rfl rfl ?_
    refine wi_aload_n (i := 0) (x := 1000000) (nx := 327) (r1 := 0) (r2 := 0) (r3 := 0) rfl rfl ?_
    refine wi_iload (i := 4) (e := i) (nx := 329) (r1 := 0) (r2 := 0) (r3 := 0) rfl rfl ?_
    refine wi_iconst (n := 1) (nx := 330) (r1 := 0) (r2 := 0) (r3 := 0) rfl ?_
    refine wr_add (nx := 331) (r1 := 0) (r2 := 0) (r3 := 0) rfl (fun e46 (fe46 : e46 = i + 1) => ?_)
    refine wr_sc (a := e46) (f := i28) (nx := 332) (r1 := 0) (r2 := 0) (r3 := 0) rfl (by omega) (by omega) hL ?_
    refine wi_aload_n (i := 0) (x := 1000000) (nx := 333) (r1 := 0) (r2 := 0) (r3 := 0) rfl rfl ?_
    refine wi_iload (i := 4) (e := i) (nx := 335) (r1 := 0) (r2 := 0) (r3 := 0) rfl rfl ?_
    refine wi_iconst (n := 2) (nx := 336) (r1 := 0) (r2 := 0) (r3 := 0) rfl ?_
    refine wr_add (nx := 337) (r1 := 0) (r2 := 0) (r3 := 0) rfl (fun e47 (fe47 : e47 = i + 2) => ?_)
    refine wr_sc (a := e47) (f := i31) (nx := 338) (r1 := 0) (r2 := 0) (r3 := 0) rfl (by omega) (by omega) hL ?_
    refine wi_aload_n (i := 0) (x := 1000000) (nx := 339) (r1 := 0) (r2 := 0) (r3 := 0) rfl rfl ?_
    refine wi_iload (i := 4) (e := i) (nx := 341) (r1 := 0) (r2 := 0) (r3 := 0) rfl rfl ?_
    refine wi_iconst (n := 3) (nx := 342) (r1 := 0) (r2 := 0) (r3 := 0) rfl ?_
    refine wr_add (nx := 343) (r1 := 0) (r2 := 0) (r3 := 0) rfl (fun e48 (fe48 : e48 = i + 3) => ?_)
    refine wr_sc (a := e48) (f := i34) (nx := 344) (r1 := 0) (r2 := 0) (r3 := 0) rfl (by omega) (by omega) hL ?_
    refine wi_aload_n (i := 0) (x := 1000000) (nx := 345) (r1 := 0) (r2 := 0) (r3 := 0) rfl rfl ?_
    refine wi_iload (i := 4) (e := i) (nx := 347) (r1 := 0) (r2 := 0) (r3 := 0) rfl rfl ?_
    refine wi_iconst (n := 4) (nx := 348) (r1 := 0) (r2 := 0) (r3 := 0) rfl ?_
    refine wr_add (nx := 349) (r1 := 0) (r2 := 0) (r3 := 0) rfl (fun e49 (fe49 : e49 = i + 4) => ?_)
    refine wr_sc (a := e49) (f := i37) (nx := 350) (r1 := 0) (r2 := 0) (r3 := 0) rfl (by omega) (by omega) hL ?_
    refine wi_aload_n (i := 0) (x := 1000000) (nx := 351) (r1 := 0) (r2 := 0) (r3 := 0) rfl rfl ?_
    refine wi_iload (i := 4) (e := i) (nx := 353) (r1 := 0) (r2 := 0) (r3 := 0) rfl rfl ?_
    refine wi_iconst (n := 5) (nx := 354) (r1 := 0) (r2 := 0) (r3 := 0) rfl ?_
    refine wr_add (nx := 355) (r1 := 0) (r2 := 0) (r3 := 0) rfl (fun e50 (fe50 : e50 = i + 5) => ?_)
    refine wr_sc (a := e50) (f := i40) (nx := 356) (r1 := 0) (r2 := 0) (r3 := 0) rfl (by omega) (by omega) hL ?_
    refine wr_V (k0 := 236) (rest := []) (as := [.ref 236, vi ((xs i28).toInt), vi ((xs i31).toInt), vi ((xs i34).toInt), vi ((xs i37).toInt), vi ((xs i40).toInt)]) (nx := 359) (r1 := 205) (r2 := 5) (r3 := 11) rfl rfl rfl (of_decide_eq_true rfl) rfl rfl (by decide) rfl rfl (of_decide_eq_true rfl) (of_decide_eq_true rfl) ?_
    refine ct_205_236 hcr  g45 ((xs i28).toInt) ((xs i31).toInt) ((xs i34).toInt) ((xs i37).toInt) ((xs i40).toInt) (by omega) (by omega) (by omega) (by omega) (by omega)  (fun h51 z52 g51 u51 (fz52 : 0 ≤ z52 ∧ z52 ≤ 800) (p51_0 : ((h45 236 2) ≤ 780 ∧ (h51 236 0) = 0 ∧ (h51 236 2) = (h45 236 2) + 20 ∧ z52 = (h45 236 2) + 20) ∨ (781 ≤ (h45 236 2) ∧ (h51 236 0) = 1 ∧ (h51 236 2) = (h45 236 2))) => ?_)
    have e53 : h45 236 2 = h 236 2 := ((u45 236 2 rfl).trans (u42 236 2 rfl))
    have b54 := gi_b (lo := 0) (hi := 2) g51 236 0 rfl
    have b55 := gi_b (lo := 0) (hi := 800) g51 236 2 rfl
    refine wk_i ?_
    rcases p51_0 with p51_0 | p51_0
    ·
      refine wi_istore (i := 6) (e := z52) (lo2 := [(6, vi z52), (5, vi 0), (0, .ref 1000000), (1, .ref 0), (2, .ref 236), (3, .ref 259), (4, vi i)]) (nx := 361) (r1 := 0) (r2 := 0) (r3 := 0) rfl rfl ?_
      refine wi_goto (nx := 364) (r1 := 1529) (r2 := 0) (r3 := 0) rfl ?_
      refine wp.lo (lo := [(0, .ref 1000000), (1, .ref 0), (2, .ref 236), (3, .ref 259), (4, vi i)]) ⟨rfl, rfl, rfl, rfl, rfl, trivial⟩ rfl ?_
      have e56 : h51 238 98 = h 238 98 := ((u51 238 98 rfl).trans ((u45 238 98 rfl).trans (u42 238 98 rfl)))
      have e57 : h51 238 99 = h 238 99 := ((u51 238 99 rfl).trans ((u45 238 99 rfl).trans (u42 238 99 rfl)))
      have e58 : h51 238 100 = h 238 100 := ((u51 238 100 rfl).trans ((u45 238 100 rfl).trans (u42 238 100 rfl)))
      have e59 : h51 238 101 = h 238 101 := ((u51 238 101 rfl).trans ((u45 238 101 rfl).trans (u42 238 101 rfl)))
      have e60 : h51 238 102 = h 238 102 := ((u51 238 102 rfl).trans ((u45 238 102 rfl).trans (u42 238 102 rfl)))
      have e61 : h51 238 106 = h 238 106 := ((u51 238 106 rfl).trans ((u45 238 106 rfl).trans (u42 238 106 rfl)))
      have e62 : h51 238 73 = h 238 73 := ((u51 238 73 rfl).trans ((u45 238 73 rfl).trans (u42 238 73 rfl)))
      have e63 : h51 238 2 = h 238 2 := ((u51 238 2 rfl).trans ((u45 238 2 rfl).trans (u42 238 2 rfl)))
      have e64 : h51 238 119 = h 238 119 := ((u51 238 119 rfl).trans ((u45 238 119 rfl).trans (u42 238 119 rfl)))
      have e65 : h51 238 67 = h 238 67 := ((u51 238 67 rfl).trans ((u45 238 67 rfl).trans (u42 238 67 rfl)))
      have e66 : h51 238 69 = h 238 69 := ((u51 238 69 rfl).trans ((u45 238 69 rfl).trans (u42 238 69 rfl)))
      have e67 : h51 238 5 = h 238 5 := ((u51 238 5 rfl).trans ((u45 238 5 rfl).trans (u42 238 5 rfl)))
      have e68 : h51 241 98 = h 241 98 := ((u51 241 98 rfl).trans ((u45 241 98 rfl).trans (u42 241 98 rfl)))
      have e69 : h51 241 99 = h 241 99 := ((u51 241 99 rfl).trans ((u45 241 99 rfl).trans (u42 241 99 rfl)))
      have e70 : h51 241 100 = h 241 100 := ((u51 241 100 rfl).trans ((u45 241 100 rfl).trans (u42 241 100 rfl)))
      have e71 : h51 241 101 = h 241 101 := ((u51 241 101 rfl).trans ((u45 241 101 rfl).trans (u42 241 101 rfl)))
      have e72 : h51 241 102 = h 241 102 := ((u51 241 102 rfl).trans ((u45 241 102 rfl).trans (u42 241 102 rfl)))
      have e73 : h51 241 106 = h 241 106 := ((u51 241 106 rfl).trans ((u45 241 106 rfl).trans (u42 241 106 rfl)))
      have e74 : h51 241 73 = h 241 73 := ((u51 241 73 rfl).trans ((u45 241 73 rfl).trans (u42 241 73 rfl)))
      have e75 : h51 241 2 = h 241 2 := ((u51 241 2 rfl).trans ((u45 241 2 rfl).trans (u42 241 2 rfl)))
      have e76 : h51 241 119 = h 241 119 := ((u51 241 119 rfl).trans ((u45 241 119 rfl).trans (u42 241 119 rfl)))
      have e77 : h51 241 67 = h 241 67 := ((u51 241 67 rfl).trans ((u45 241 67 rfl).trans (u42 241 67 rfl)))
      have e78 : h51 241 69 = h 241 69 := ((u51 241 69 rfl).trans ((u45 241 69 rfl).trans (u42 241 69 rfl)))
      have e79 : h51 241 5 = h 241 5 := ((u51 241 5 rfl).trans ((u45 241 5 rfl).trans (u42 241 5 rfl)))
      have e80 : h51 1 1 = h42 1 1 := ((u51 1 1 rfl).trans (u45 1 1 rfl))
      have gp81 := GPH.fr u42 rfl gp0
      have gp82 := GPH.fr u45 rfl gp81
      have gp83 := GPH.fr u51 rfl gp82
      exact k h51 b c ⟨g51, (show h51 1 1 = h51 236 2 by omega), (RS.i0 (f := h51 238) (by refine ⟨?_, ?_, ?_, ?_, ?_⟩ <;> omega)), (RS.i0 (f := h51 241) (by refine ⟨?_, ?_, ?_, ?_, ?_⟩ <;> omega)), gp83⟩ (by omega) (by omega)
    ·
      exfalso; omega
  ·
    have b44 := gi_b (lo := 0) (hi := 800) g42 1 1 rfl
    refine wk_h 19 (by decide) rfl ?_
    refine wr_asty (i := 7) (lo2 := [(7, .retAddr 0), (0, .ref 0), (1, vi ((xs i28).toInt)), (2, vi ((xs i31).toInt)), (3, vi ((xs i34).toInt)), (4, vi ((xs i37).toInt)), (5, vi ((xs i40).toInt)), (6, .ref 259)]) (nx := 21) (r1 := 0) (r2 := 0) (r3 := 0) rfl rfl ?_
    refine wi_iconst (n := 1) (nx := 22) (r1 := 0) (r2 := 0) (r3 := 0) rfl ?_
    refine wi_ireturn (nx := 23) (r1 := 0) (r2 := 0) (r3 := 0) rfl rfl ?_
    refine wk_i ?_
    refine wi_istore (i := 5) (e := 1) (lo2 := [(5, vi 1), (0, .ref 1000000), (1, .ref 0), (2, .ref 236), (3, .ref 259), (4, vi i)]) (nx := 325) (r1 := 0) (r2 := 0) (r3 := 0) rfl rfl ?_
    refine wi_aload_n (i := 2) (x := 236) (nx := 326) (r1 := 0) (r2 := 0) (r3 := 0) rfl rfl ?_
    refine wi_aload_n (i := 0) (x := 1000000) (nx := 327) (r1 := 0) (r2 := 0) (r3 := 0) rfl rfl ?_
    refine wi_iload (i := 4) (e := i) (nx := 329) (r1 := 0) (r2 := 0) (r3 := 0) rfl rfl ?_
    refine wi_iconst (n := 1) (nx := 330) (r1 := 0) (r2 := 0) (r3 := 0) rfl ?_
    refine wr_add (nx := 331) (r1 := 0) (r2 := 0) (r3 := 0) rfl (fun e45 (fe45 : e45 = i + 1) => ?_)
    refine wr_sc (a := e45) (f := i28) (nx := 332) (r1 := 0) (r2 := 0) (r3 := 0) rfl (by omega) (by omega) hL ?_
    refine wi_aload_n (i := 0) (x := 1000000) (nx := 333) (r1 := 0) (r2 := 0) (r3 := 0) rfl rfl ?_
    refine wi_iload (i := 4) (e := i) (nx := 335) (r1 := 0) (r2 := 0) (r3 := 0) rfl rfl ?_
    refine wi_iconst (n := 2) (nx := 336) (r1 := 0) (r2 := 0) (r3 := 0) rfl ?_
    refine wr_add (nx := 337) (r1 := 0) (r2 := 0) (r3 := 0) rfl (fun e46 (fe46 : e46 = i + 2) => ?_)
    refine wr_sc (a := e46) (f := i31) (nx := 338) (r1 := 0) (r2 := 0) (r3 := 0) rfl (by omega) (by omega) hL ?_
    refine wi_aload_n (i := 0) (x := 1000000) (nx := 339) (r1 := 0) (r2 := 0) (r3 := 0) rfl rfl ?_
    refine wi_iload (i := 4) (e := i) (nx := 341) (r1 := 0) (r2 := 0) (r3 := 0) rfl rfl ?_
    refine wi_iconst (n := 3) (nx := 342) (r1 := 0) (r2 := 0) (r3 := 0) rfl ?_
    refine wr_add (nx := 343) (r1 := 0) (r2 := 0) (r3 := 0) rfl (fun e47 (fe47 : e47 = i + 3) => ?_)
    refine wr_sc (a := e47) (f := i34) (nx := 344) (r1 := 0) (r2 := 0) (r3 := 0) rfl (by omega) (by omega) hL ?_
    refine wi_aload_n (i := 0) (x := 1000000) (nx := 345) (r1 := 0) (r2 := 0) (r3 := 0) rfl rfl ?_
    refine wi_iload (i := 4) (e := i) (nx := 347) (r1 := 0) (r2 := 0) (r3 := 0) rfl rfl ?_
    refine wi_iconst (n := 4) (nx := 348) (r1 := 0) (r2 := 0) (r3 := 0) rfl ?_
    refine wr_add (nx := 349) (r1 := 0) (r2 := 0) (r3 := 0) rfl (fun e48 (fe48 : e48 = i + 4) => ?_)
    refine wr_sc (a := e48) (f := i37) (nx := 350) (r1 := 0) (r2 := 0) (r3 := 0) rfl (by omega) (by omega) hL ?_
    refine wi_aload_n (i := 0) (x := 1000000) (nx := 351) (r1 := 0) (r2 := 0) (r3 := 0) rfl rfl ?_
    refine wi_iload (i := 4) (e := i) (nx := 353) (r1 := 0) (r2 := 0) (r3 := 0) rfl rfl ?_
    refine wi_iconst (n := 5) (nx := 354) (r1 := 0) (r2 := 0) (r3 := 0) rfl ?_
    refine wr_add (nx := 355) (r1 := 0) (r2 := 0) (r3 := 0) rfl (fun e49 (fe49 : e49 = i + 5) => ?_)
    refine wr_sc (a := e49) (f := i40) (nx := 356) (r1 := 0) (r2 := 0) (r3 := 0) rfl (by omega) (by omega) hL ?_
    refine wr_V (k0 := 236) (rest := []) (as := [.ref 236, vi ((xs i28).toInt), vi ((xs i31).toInt), vi ((xs i34).toInt), vi ((xs i37).toInt), vi ((xs i40).toInt)]) (nx := 359) (r1 := 205) (r2 := 5) (r3 := 11) rfl rfl rfl (of_decide_eq_true rfl) rfl rfl (by decide) rfl rfl (of_decide_eq_true rfl) (of_decide_eq_true rfl) ?_
    refine ct_205_236 hcr  g42 ((xs i28).toInt) ((xs i31).toInt) ((xs i34).toInt) ((xs i37).toInt) ((xs i40).toInt) (by omega) (by omega) (by omega) (by omega) (by omega)  (fun h50 z51 g50 u50 (fz51 : 0 ≤ z51 ∧ z51 ≤ 800) (p50_0 : ((h42 236 2) ≤ 780 ∧ (h50 236 0) = 0 ∧ (h50 236 2) = (h42 236 2) + 20 ∧ z51 = (h42 236 2) + 20) ∨ (781 ≤ (h42 236 2) ∧ (h50 236 0) = 1 ∧ (h50 236 2) = (h42 236 2))) => ?_)
    have e52 : h42 236 2 = h 236 2 := (u42 236 2 rfl)
    have b53 := gi_b (lo := 0) (hi := 2) g50 236 0 rfl
    have b54 := gi_b (lo := 0) (hi := 800) g50 236 2 rfl
    refine wk_i ?_
    rcases p50_0 with p50_0 | p50_0
    ·
      exfalso; omega
    ·
      refine wi_istore (i := 6) (e := z51) (lo2 := [(6, vi z51), (5, vi 1), (0, .ref 1000000), (1, .ref 0), (2, .ref 236), (3, .ref 259), (4, vi i)]) (nx := 361) (r1 := 0) (r2 := 0) (r3 := 0) rfl rfl ?_
      refine wi_goto (nx := 364) (r1 := 1529) (r2 := 0) (r3 := 0) rfl ?_
      refine wp.lo (lo := [(0, .ref 1000000), (1, .ref 0), (2, .ref 236), (3, .ref 259), (4, vi i)]) ⟨rfl, rfl, rfl, rfl, rfl, trivial⟩ rfl ?_
      have e55 : h50 238 98 = h 238 98 := ((u50 238 98 rfl).trans (u42 238 98 rfl))
      have e56 : h50 238 99 = h 238 99 := ((u50 238 99 rfl).trans (u42 238 99 rfl))
      have e57 : h50 238 100 = h 238 100 := ((u50 238 100 rfl).trans (u42 238 100 rfl))
      have e58 : h50 238 101 = h 238 101 := ((u50 238 101 rfl).trans (u42 238 101 rfl))
      have e59 : h50 238 102 = h 238 102 := ((u50 238 102 rfl).trans (u42 238 102 rfl))
      have e60 : h50 238 106 = h 238 106 := ((u50 238 106 rfl).trans (u42 238 106 rfl))
      have e61 : h50 238 73 = h 238 73 := ((u50 238 73 rfl).trans (u42 238 73 rfl))
      have e62 : h50 238 2 = h 238 2 := ((u50 238 2 rfl).trans (u42 238 2 rfl))
      have e63 : h50 238 119 = h 238 119 := ((u50 238 119 rfl).trans (u42 238 119 rfl))
      have e64 : h50 238 67 = h 238 67 := ((u50 238 67 rfl).trans (u42 238 67 rfl))
      have e65 : h50 238 69 = h 238 69 := ((u50 238 69 rfl).trans (u42 238 69 rfl))
      have e66 : h50 238 5 = h 238 5 := ((u50 238 5 rfl).trans (u42 238 5 rfl))
      have e67 : h50 241 98 = h 241 98 := ((u50 241 98 rfl).trans (u42 241 98 rfl))
      have e68 : h50 241 99 = h 241 99 := ((u50 241 99 rfl).trans (u42 241 99 rfl))
      have e69 : h50 241 100 = h 241 100 := ((u50 241 100 rfl).trans (u42 241 100 rfl))
      have e70 : h50 241 101 = h 241 101 := ((u50 241 101 rfl).trans (u42 241 101 rfl))
      have e71 : h50 241 102 = h 241 102 := ((u50 241 102 rfl).trans (u42 241 102 rfl))
      have e72 : h50 241 106 = h 241 106 := ((u50 241 106 rfl).trans (u42 241 106 rfl))
      have e73 : h50 241 73 = h 241 73 := ((u50 241 73 rfl).trans (u42 241 73 rfl))
      have e74 : h50 241 2 = h 241 2 := ((u50 241 2 rfl).trans (u42 241 2 rfl))
      have e75 : h50 241 119 = h 241 119 := ((u50 241 119 rfl).trans (u42 241 119 rfl))
      have e76 : h50 241 67 = h 241 67 := ((u50 241 67 rfl).trans (u42 241 67 rfl))
      have e77 : h50 241 69 = h 241 69 := ((u50 241 69 rfl).trans (u42 241 69 rfl))
      have e78 : h50 241 5 = h 241 5 := ((u50 241 5 rfl).trans (u42 241 5 rfl))
      have e79 : h50 1 1 = h42 1 1 := (u50 1 1 rfl)
      have gp80 := GPH.fr u42 rfl gp0
      have gp81 := GPH.fr u50 rfl gp80
      exact k h50 (b - 1) (c - 6) ⟨g50, (show h50 1 1 = h50 236 2 by omega), (RS.i0 (f := h50 238) (by refine ⟨?_, ?_, ?_, ?_, ?_⟩ <;> omega)), (RS.i0 (f := h50 241) (by refine ⟨?_, ?_, ?_, ?_, ?_⟩ <;> omega)), gp81⟩ (by omega) (by omega)
-- the law, case at 364
set_option maxRecDepth 100000 in
set_option maxHeartbeats 100000000 in
theorem lc_364 {L : Nat} {xs : Nat → Int32} {d b c : Nat} {h : hp} {cr : Nat → Nat → Option Nat} {Q : hp_Q} (hcr : CR cr) (hL : L ≤ 3072) (hr : 1 ≤ b ∧ 6 ≤ c) (I : LI h) (i : Int) (hi : 0 ≤ i ∧ i + 6 ≤ L) (k : ∀ (h2 : hp) (b2 c2 : Nat), LI h2 → b ≤ b2 + 1 → c ≤ c2 + 6 → wp (md_xa (L, xs)) (d + 107) 0 (1529, [(0, .ref 1000000), (1, .ref 0), (2, .ref 236), (3, .ref 259), (4, vi i)], [], hp_w h2 cr, b2, c2) Q) : wp (md_xa (L, xs)) (d + 107) 0 (364, [(0, .ref 1000000), (1, .ref 0), (2, .ref 236), (3, .ref 259), (4, vi i)], [], hp_w h cr, b, c) Q := by
  obtain ⟨g, i11, r238, r241, gp0⟩ := I
  have r238e := r238.e0
  have r241e := r241.e0
  have b1 := gi_b (lo := 0) (hi := 6) g 238 98 rfl
  have b2 := gi_b (lo := 0) (hi := 6) g 238 99 rfl
  have b3 := gi_b (lo := 0) (hi := 6) g 238 100 rfl
  have b4 := gi_b (lo := 0) (hi := 6) g 238 101 rfl
  have b5 := gi_b (lo := 0) (hi := 3) g 238 102 rfl
  have b6 := gi_b (lo := 0) (hi := 12) g 238 106 rfl
  have b7 := gi_b (lo := 0) (hi := 12) g 238 73 rfl
  have b8 := gi_b (lo := 0) (hi := 12) g 238 2 rfl
  have b9 := gi_b (lo := 0) (hi := 9999) g 238 119 rfl
  have b10 := gi_b (lo := 0) (hi := 9999) g 238 67 rfl
  have b11 := gi_b (lo := 0) (hi := 9) g 238 69 rfl
  have b12 := gi_b (lo := 0) (hi := 9) g 238 5 rfl
  have b13 := gi_b (lo := 0) (hi := 6) g 241 98 rfl
  have b14 := gi_b (lo := 0) (hi := 6) g 241 99 rfl
  have b15 := gi_b (lo := 0) (hi := 6) g 241 100 rfl
  have b16 := gi_b (lo := 0) (hi := 6) g 241 101 rfl
  have b17 := gi_b (lo := 0) (hi := 3) g 241 102 rfl
  have b18 := gi_b (lo := 0) (hi := 12) g 241 106 rfl
  have b19 := gi_b (lo := 0) (hi := 12) g 241 73 rfl
  have b20 := gi_b (lo := 0) (hi := 12) g 241 2 rfl
  have b21 := gi_b (lo := 0) (hi := 9999) g 241 119 rfl
  have b22 := gi_b (lo := 0) (hi := 9999) g 241 67 rfl
  have b23 := gi_b (lo := 0) (hi := 9) g 241 69 rfl
  have b24 := gi_b (lo := 0) (hi := 9) g 241 5 rfl
  have b25 := gi_b (lo := 0) (hi := 800) g 1 1 rfl
  have b26 := gi_b (lo := 0) (hi := 800) g 236 2 rfl
  refine wi_aload_n (i := 1) (x := 0) (nx := 365) (r1 := 0) (r2 := 0) (r3 := 0) rfl rfl ?_
  refine wi_aload_n (i := 0) (x := 1000000) (nx := 366) (r1 := 0) (r2 := 0) (r3 := 0) rfl rfl ?_
  refine wi_iload (i := 4) (e := i) (nx := 368) (r1 := 0) (r2 := 0) (r3 := 0) rfl rfl ?_
  refine wi_iconst (n := 1) (nx := 369) (r1 := 0) (r2 := 0) (r3 := 0) rfl ?_
  refine wr_add (nx := 370) (r1 := 0) (r2 := 0) (r3 := 0) rfl (fun e27 (fe27 : e27 = i + 1) => ?_)
  obtain ⟨i28, ei28⟩ : ∃ q : Nat, e27 = (q : Int) := ⟨(e27).toNat, by omega⟩
  have s29 := sc_b (xs i28)
  refine wr_sc (a := e27) (f := i28) (nx := 371) (r1 := 0) (r2 := 0) (r3 := 0) rfl (by omega) (by omega) hL ?_
  refine wi_aload_n (i := 3) (x := 259) (nx := 372) (r1 := 0) (r2 := 0) (r3 := 0) rfl rfl ?_
  refine wi_S (rest := []) (as := [.ref 0, vi ((xs i28).toInt), .ref 259]) (nx := 375) (r1 := 2) (r2 := 19) (r3 := 0) rfl rfl rfl (of_decide_eq_true rfl) rfl rfl (of_decide_eq_true rfl) (of_decide_eq_true rfl) ?_
  refine wi_aload_n (i := 2) (x := 259) (nx := 1) (r1 := 0) (r2 := 0) (r3 := 0) rfl rfl ?_
  refine wi_iconst (n := 0) (nx := 2) (r1 := 0) (r2 := 0) (r3 := 0) rfl ?_
  refine wi_aload_n (i := 0) (x := 0) (nx := 3) (r1 := 0) (r2 := 0) (r3 := 0) rfl rfl ?_
  refine wi_iload_n (i := 1) (e := (xs i28).toInt) (nx := 4) (r1 := 0) (r2 := 0) (r3 := 0) rfl rfl ?_
  refine wr_V (k0 := 0) (rest := [vi 0, .ref 259]) (as := [.ref 0, vi ((xs i28).toInt)]) (nx := 7) (r1 := 62) (r2 := 1) (r3 := 0) rfl rfl rfl (of_decide_eq_true rfl) rfl rfl (by decide) rfl rfl (of_decide_eq_true rfl) (of_decide_eq_true rfl) ?_
  refine ct_62_0 hcr hr  g ((xs i28).toInt) (by omega)  (fun h30 z31 g30 u30 (fz31 : 0 ≤ z31 ∧ z31 ≤ 800) (p30_0 : 0 ≤ ((xs i28).toInt) ∧ ((xs i28).toInt) ≤ (h 1 1)) (p30_1 : (h30 1 1) = ((xs i28).toInt)) (p30_2 : z31 = ((xs i28).toInt)) => ?_) (fun h30 g30 u30 (pe30_0 : ((xs i28).toInt) < 0 ∨ (h 1 1) < ((xs i28).toInt)) (pe30_1 : (h30 1 1) = (h 1 1)) => ?_)
  ·
    have b32 := gi_b (lo := 0) (hi := 800) g30 1 1 rfl
    refine wk_i ?_
    refine wi_i2l (nx := 8) (r1 := 0) (r2 := 0) (r3 := 0) rfl (by omega) ?_
    refine wr_ls (k0 := 259) (a := 0) (f := 0) (x := z31) (bl := -9223372036854775808) (bh := 9223372036854775807) (nx := 9) (r1 := 0) (r2 := 0) (r3 := 0) rfl (by decide) rfl (by omega) (by omega) (by decide) g30 rfl (by omega) (fun h33 g33 w33 u33 => ?_)
    refine wi_goto (nx := 12) (r1 := 15) (r2 := 0) (r3 := 0) rfl ?_
    refine wi_iconst (n := 0) (nx := 16) (r1 := 0) (r2 := 0) (r3 := 0) rfl ?_
    refine wi_ireturn (nx := 17) (r1 := 0) (r2 := 0) (r3 := 0) rfl rfl ?_
    refine wk_i ?_
    refine wi_istore (i := 5) (e := 0) (lo2 := [(5, vi 0), (0, .ref 1000000), (1, .ref 0), (2, .ref 236), (3, .ref 259), (4, vi i)]) (nx := 377) (r1 := 0) (r2 := 0) (r3 := 0) rfl rfl ?_
    refine wi_aload_n (i := 2) (x := 236) (nx := 378) (r1 := 0) (r2 := 0) (r3 := 0) rfl rfl ?_
    refine wi_aload_n (i := 0) (x := 1000000) (nx := 379) (r1 := 0) (r2 := 0) (r3 := 0) rfl rfl ?_
    refine wi_iload (i := 4) (e := i) (nx := 381) (r1 := 0) (r2 := 0) (r3 := 0) rfl rfl ?_
    refine wi_iconst (n := 1) (nx := 382) (r1 := 0) (r2 := 0) (r3 := 0) rfl ?_
    refine wr_add (nx := 383) (r1 := 0) (r2 := 0) (r3 := 0) rfl (fun e34 (fe34 : e34 = i + 1) => ?_)
    refine wr_sc (a := e34) (f := i28) (nx := 384) (r1 := 0) (r2 := 0) (r3 := 0) rfl (by omega) (by omega) hL ?_
    refine wr_V (k0 := 236) (rest := []) (as := [.ref 236, vi ((xs i28).toInt)]) (nx := 387) (r1 := 209) (r2 := 1) (r3 := 11) rfl rfl rfl (of_decide_eq_true rfl) rfl rfl (by decide) rfl rfl (of_decide_eq_true rfl) (of_decide_eq_true rfl) ?_
    refine ct_209_236 hcr  g33 ((xs i28).toInt) (by omega)  (fun h35 z36 g35 u35 (fz36 : 0 ≤ z36 ∧ z36 ≤ 800) (p35_0 : (0 ≤ ((xs i28).toInt) ∧ ((xs i28).toInt) ≤ (h33 236 2) ∧ (h35 236 0) = 0 ∧ (h35 236 2) = ((xs i28).toInt) ∧ z36 = ((xs i28).toInt)) ∨ ((((xs i28).toInt) < 0 ∨ (h33 236 2) < ((xs i28).toInt)) ∧ (h35 236 0) = 1 ∧ (h35 236 2) = (h33 236 2))) => ?_)
    have e37 : h33 236 2 = h 236 2 := ((u33 236 2 rfl).trans (u30 236 2 rfl))
    have b38 := gi_b (lo := 0) (hi := 2) g35 236 0 rfl
    have b39 := gi_b (lo := 0) (hi := 800) g35 236 2 rfl
    refine wk_i ?_
    rcases p35_0 with p35_0 | p35_0
    ·
      refine wi_istore (i := 6) (e := z36) (lo2 := [(6, vi z36), (5, vi 0), (0, .ref 1000000), (1, .ref 0), (2, .ref 236), (3, .ref 259), (4, vi i)]) (nx := 389) (r1 := 0) (r2 := 0) (r3 := 0) rfl rfl ?_
      refine wi_aload_n (i := 2) (x := 236) (nx := 390) (r1 := 0) (r2 := 0) (r3 := 0) rfl rfl ?_
      refine wr_V (k0 := 236) (rest := []) (as := [.ref 236]) (nx := 393) (r1 := 204) (r2 := 0) (r3 := 11) rfl rfl rfl (of_decide_eq_true rfl) rfl rfl (by decide) rfl rfl (of_decide_eq_true rfl) (of_decide_eq_true rfl) ?_
      refine wi_aload_n (i := 0) (x := 236) (nx := 1) (r1 := 0) (r2 := 0) (r3 := 0) rfl rfl ?_
      refine wr_gi0 (k0 := 236) (x := h35 236 0) (nx := 4) (r1 := 11) (r2 := 0) (r3 := 0) rfl rfl (by decide) rfl ⟨rfl, rfl⟩ rfl rfl ?_
      refine wi_ireturn (nx := 5) (r1 := 0) (r2 := 0) (r3 := 0) rfl rfl ?_
      refine wk_i ?_
      refine wi_iload (i := 5) (e := 0) (nx := 395) (r1 := 0) (r2 := 0) (r3 := 0) rfl rfl ?_
      refine wi_icmp (cd := .eq) (nx := 398) (r1 := 400) (r2 := 0) (r3 := 0) rfl (by omega) (by omega) (fun (q40 : (h35 236 0) = 0) => ?_) (fun (q40 : ¬ ((h35 236 0) = 0)) => by exfalso; omega)
      refine wi_iload (i := 5) (e := 0) (nx := 402) (r1 := 0) (r2 := 0) (r3 := 0) rfl rfl ?_
      refine wi_if (cd := .ne) (nx := 405) (r1 := 417) (r2 := 0) (r3 := 0) rfl (by omega) (fun (q41 : 0 ≠ 0) => by exfalso; omega) (fun (q41 : ¬ (0 ≠ 0)) => ?_)
      refine wi_aload_n (i := 3) (x := 259) (nx := 406) (r1 := 0) (r2 := 0) (r3 := 0) rfl rfl ?_
      refine wi_iconst (n := 0) (nx := 407) (r1 := 0) (r2 := 0) (r3 := 0) rfl ?_
      refine wr_la (k0 := 259) (a := 0) (f := 0) (x := z31) (nx := 408) (r1 := 0) (r2 := 0) (r3 := 0) rfl (by decide) rfl (by omega) (by omega) (by decide) ((u35 259 0 rfl).trans w33) ?_
      refine wi_iload (i := 6) (e := z36) (nx := 410) (r1 := 0) (r2 := 0) (r3 := 0) rfl rfl ?_
      refine wi_i2l (nx := 411) (r1 := 0) (r2 := 0) (r3 := 0) rfl (by omega) ?_
      refine wi_lcmp (a := z31) (e := z36) (nx := 412) (r1 := 0) (r2 := 0) (r3 := 0) rfl (by omega) (by omega) (fun r42 (fr42 : (r42 = -1 ∧ z31 < z36) ∨ (r42 = 0 ∧ z31 = z36) ∨ (r42 = 1 ∧ z36 < z31)) => ?_)
      refine wi_if (cd := .eq) (nx := 415) (r1 := 417) (r2 := 0) (r3 := 0) rfl (by omega) (fun (q43 : r42 = 0) => ?_) (fun (q43 : ¬ (r42 = 0)) => by exfalso; omega)
      refine wi_goto (nx := 420) (r1 := 1529) (r2 := 0) (r3 := 0) rfl ?_
      refine wp.lo (lo := [(0, .ref 1000000), (1, .ref 0), (2, .ref 236), (3, .ref 259), (4, vi i)]) ⟨rfl, rfl, rfl, rfl, rfl, trivial⟩ rfl ?_
      have e44 : h35 238 98 = h 238 98 := ((u35 238 98 rfl).trans ((u33 238 98 rfl).trans (u30 238 98 rfl)))
      have e45 : h35 238 99 = h 238 99 := ((u35 238 99 rfl).trans ((u33 238 99 rfl).trans (u30 238 99 rfl)))
      have e46 : h35 238 100 = h 238 100 := ((u35 238 100 rfl).trans ((u33 238 100 rfl).trans (u30 238 100 rfl)))
      have e47 : h35 238 101 = h 238 101 := ((u35 238 101 rfl).trans ((u33 238 101 rfl).trans (u30 238 101 rfl)))
      have e48 : h35 238 102 = h 238 102 := ((u35 238 102 rfl).trans ((u33 238 102 rfl).trans (u30 238 102 rfl)))
      have e49 : h35 238 106 = h 238 106 := ((u35 238 106 rfl).trans ((u33 238 106 rfl).trans (u30 238 106 rfl)))
      have e50 : h35 238 73 = h 238 73 := ((u35 238 73 rfl).trans ((u33 238 73 rfl).trans (u30 238 73 rfl)))
      have e51 : h35 238 2 = h 238 2 := ((u35 238 2 rfl).trans ((u33 238 2 rfl).trans (u30 238 2 rfl)))
      have e52 : h35 238 119 = h 238 119 := ((u35 238 119 rfl).trans ((u33 238 119 rfl).trans (u30 238 119 rfl)))
      have e53 : h35 238 67 = h 238 67 := ((u35 238 67 rfl).trans ((u33 238 67 rfl).trans (u30 238 67 rfl)))
      have e54 : h35 238 69 = h 238 69 := ((u35 238 69 rfl).trans ((u33 238 69 rfl).trans (u30 238 69 rfl)))
      have e55 : h35 238 5 = h 238 5 := ((u35 238 5 rfl).trans ((u33 238 5 rfl).trans (u30 238 5 rfl)))
      have e56 : h35 241 98 = h 241 98 := ((u35 241 98 rfl).trans ((u33 241 98 rfl).trans (u30 241 98 rfl)))
      have e57 : h35 241 99 = h 241 99 := ((u35 241 99 rfl).trans ((u33 241 99 rfl).trans (u30 241 99 rfl)))
      have e58 : h35 241 100 = h 241 100 := ((u35 241 100 rfl).trans ((u33 241 100 rfl).trans (u30 241 100 rfl)))
      have e59 : h35 241 101 = h 241 101 := ((u35 241 101 rfl).trans ((u33 241 101 rfl).trans (u30 241 101 rfl)))
      have e60 : h35 241 102 = h 241 102 := ((u35 241 102 rfl).trans ((u33 241 102 rfl).trans (u30 241 102 rfl)))
      have e61 : h35 241 106 = h 241 106 := ((u35 241 106 rfl).trans ((u33 241 106 rfl).trans (u30 241 106 rfl)))
      have e62 : h35 241 73 = h 241 73 := ((u35 241 73 rfl).trans ((u33 241 73 rfl).trans (u30 241 73 rfl)))
      have e63 : h35 241 2 = h 241 2 := ((u35 241 2 rfl).trans ((u33 241 2 rfl).trans (u30 241 2 rfl)))
      have e64 : h35 241 119 = h 241 119 := ((u35 241 119 rfl).trans ((u33 241 119 rfl).trans (u30 241 119 rfl)))
      have e65 : h35 241 67 = h 241 67 := ((u35 241 67 rfl).trans ((u33 241 67 rfl).trans (u30 241 67 rfl)))
      have e66 : h35 241 69 = h 241 69 := ((u35 241 69 rfl).trans ((u33 241 69 rfl).trans (u30 241 69 rfl)))
      have e67 : h35 241 5 = h 241 5 := ((u35 241 5 rfl).trans ((u33 241 5 rfl).trans (u30 241 5 rfl)))
      have e68 : h35 1 1 = h30 1 1 := ((u35 1 1 rfl).trans (u33 1 1 rfl))
      have gp69 := GPH.fr u30 rfl gp0
      have gp70 := GPH.fr u33 rfl gp69
      have gp71 := GPH.fr u35 rfl gp70
      exact k h35 b c ⟨g35, (show h35 1 1 = h35 236 2 by omega), (RS.i0 (f := h35 238) (by refine ⟨?_, ?_, ?_, ?_, ?_⟩ <;> omega)), (RS.i0 (f := h35 241) (by refine ⟨?_, ?_, ?_, ?_, ?_⟩ <;> omega)), gp71⟩ (by omega) (by omega)
    ·
      exfalso; omega
  ·
    have b32 := gi_b (lo := 0) (hi := 800) g30 1 1 rfl
    refine wk_h 12 (by decide) rfl ?_
    refine wr_astx (i := 3) (lo2 := [(3, .retAddr 0), (0, .ref 0), (1, vi ((xs i28).toInt)), (2, .ref 259)]) (nx := 13) (r1 := 0) (r2 := 0) (r3 := 0) rfl rfl ?_
    refine wi_iconst (n := 1) (nx := 14) (r1 := 0) (r2 := 0) (r3 := 0) rfl ?_
    refine wi_ireturn (nx := 15) (r1 := 0) (r2 := 0) (r3 := 0) rfl rfl ?_
    refine wk_i ?_
    refine wi_istore (i := 5) (e := 1) (lo2 := [(5, vi 1), (0, .ref 1000000), (1, .ref 0), (2, .ref 236), (3, .ref 259), (4, vi i)]) (nx := 377) (r1 := 0) (r2 := 0) (r3 := 0) rfl rfl ?_
    refine wi_aload_n (i := 2) (x := 236) (nx := 378) (r1 := 0) (r2 := 0) (r3 := 0) rfl rfl ?_
    refine wi_aload_n (i := 0) (x := 1000000) (nx := 379) (r1 := 0) (r2 := 0) (r3 := 0) rfl rfl ?_
    refine wi_iload (i := 4) (e := i) (nx := 381) (r1 := 0) (r2 := 0) (r3 := 0) rfl rfl ?_
    refine wi_iconst (n := 1) (nx := 382) (r1 := 0) (r2 := 0) (r3 := 0) rfl ?_
    refine wr_add (nx := 383) (r1 := 0) (r2 := 0) (r3 := 0) rfl (fun e33 (fe33 : e33 = i + 1) => ?_)
    refine wr_sc (a := e33) (f := i28) (nx := 384) (r1 := 0) (r2 := 0) (r3 := 0) rfl (by omega) (by omega) hL ?_
    refine wr_V (k0 := 236) (rest := []) (as := [.ref 236, vi ((xs i28).toInt)]) (nx := 387) (r1 := 209) (r2 := 1) (r3 := 11) rfl rfl rfl (of_decide_eq_true rfl) rfl rfl (by decide) rfl rfl (of_decide_eq_true rfl) (of_decide_eq_true rfl) ?_
    refine ct_209_236 hcr  g30 ((xs i28).toInt) (by omega)  (fun h34 z35 g34 u34 (fz35 : 0 ≤ z35 ∧ z35 ≤ 800) (p34_0 : (0 ≤ ((xs i28).toInt) ∧ ((xs i28).toInt) ≤ (h30 236 2) ∧ (h34 236 0) = 0 ∧ (h34 236 2) = ((xs i28).toInt) ∧ z35 = ((xs i28).toInt)) ∨ ((((xs i28).toInt) < 0 ∨ (h30 236 2) < ((xs i28).toInt)) ∧ (h34 236 0) = 1 ∧ (h34 236 2) = (h30 236 2))) => ?_)
    have e36 : h30 236 2 = h 236 2 := (u30 236 2 rfl)
    have b37 := gi_b (lo := 0) (hi := 2) g34 236 0 rfl
    have b38 := gi_b (lo := 0) (hi := 800) g34 236 2 rfl
    refine wk_i ?_
    rcases p34_0 with p34_0 | p34_0
    ·
      exfalso; omega
    ·
      refine wi_istore (i := 6) (e := z35) (lo2 := [(6, vi z35), (5, vi 1), (0, .ref 1000000), (1, .ref 0), (2, .ref 236), (3, .ref 259), (4, vi i)]) (nx := 389) (r1 := 0) (r2 := 0) (r3 := 0) rfl rfl ?_
      refine wi_aload_n (i := 2) (x := 236) (nx := 390) (r1 := 0) (r2 := 0) (r3 := 0) rfl rfl ?_
      refine wr_V (k0 := 236) (rest := []) (as := [.ref 236]) (nx := 393) (r1 := 204) (r2 := 0) (r3 := 11) rfl rfl rfl (of_decide_eq_true rfl) rfl rfl (by decide) rfl rfl (of_decide_eq_true rfl) (of_decide_eq_true rfl) ?_
      refine wi_aload_n (i := 0) (x := 236) (nx := 1) (r1 := 0) (r2 := 0) (r3 := 0) rfl rfl ?_
      refine wr_gi0 (k0 := 236) (x := h34 236 0) (nx := 4) (r1 := 11) (r2 := 0) (r3 := 0) rfl rfl (by decide) rfl ⟨rfl, rfl⟩ rfl rfl ?_
      refine wi_ireturn (nx := 5) (r1 := 0) (r2 := 0) (r3 := 0) rfl rfl ?_
      refine wk_i ?_
      refine wi_iload (i := 5) (e := 1) (nx := 395) (r1 := 0) (r2 := 0) (r3 := 0) rfl rfl ?_
      refine wi_icmp (cd := .eq) (nx := 398) (r1 := 400) (r2 := 0) (r3 := 0) rfl (by omega) (by omega) (fun (q39 : (h34 236 0) = 1) => ?_) (fun (q39 : ¬ ((h34 236 0) = 1)) => by exfalso; omega)
      refine wi_iload (i := 5) (e := 1) (nx := 402) (r1 := 0) (r2 := 0) (r3 := 0) rfl rfl ?_
      refine wi_if (cd := .ne) (nx := 405) (r1 := 417) (r2 := 0) (r3 := 0) rfl (by omega) (fun (q40 : 1 ≠ 0) => ?_) (fun (q40 : ¬ (1 ≠ 0)) => by exfalso; omega)
      refine wi_goto (nx := 420) (r1 := 1529) (r2 := 0) (r3 := 0) rfl ?_
      refine wp.lo (lo := [(0, .ref 1000000), (1, .ref 0), (2, .ref 236), (3, .ref 259), (4, vi i)]) ⟨rfl, rfl, rfl, rfl, rfl, trivial⟩ rfl ?_
      have e41 : h34 238 98 = h 238 98 := ((u34 238 98 rfl).trans (u30 238 98 rfl))
      have e42 : h34 238 99 = h 238 99 := ((u34 238 99 rfl).trans (u30 238 99 rfl))
      have e43 : h34 238 100 = h 238 100 := ((u34 238 100 rfl).trans (u30 238 100 rfl))
      have e44 : h34 238 101 = h 238 101 := ((u34 238 101 rfl).trans (u30 238 101 rfl))
      have e45 : h34 238 102 = h 238 102 := ((u34 238 102 rfl).trans (u30 238 102 rfl))
      have e46 : h34 238 106 = h 238 106 := ((u34 238 106 rfl).trans (u30 238 106 rfl))
      have e47 : h34 238 73 = h 238 73 := ((u34 238 73 rfl).trans (u30 238 73 rfl))
      have e48 : h34 238 2 = h 238 2 := ((u34 238 2 rfl).trans (u30 238 2 rfl))
      have e49 : h34 238 119 = h 238 119 := ((u34 238 119 rfl).trans (u30 238 119 rfl))
      have e50 : h34 238 67 = h 238 67 := ((u34 238 67 rfl).trans (u30 238 67 rfl))
      have e51 : h34 238 69 = h 238 69 := ((u34 238 69 rfl).trans (u30 238 69 rfl))
      have e52 : h34 238 5 = h 238 5 := ((u34 238 5 rfl).trans (u30 238 5 rfl))
      have e53 : h34 241 98 = h 241 98 := ((u34 241 98 rfl).trans (u30 241 98 rfl))
      have e54 : h34 241 99 = h 241 99 := ((u34 241 99 rfl).trans (u30 241 99 rfl))
      have e55 : h34 241 100 = h 241 100 := ((u34 241 100 rfl).trans (u30 241 100 rfl))
      have e56 : h34 241 101 = h 241 101 := ((u34 241 101 rfl).trans (u30 241 101 rfl))
      have e57 : h34 241 102 = h 241 102 := ((u34 241 102 rfl).trans (u30 241 102 rfl))
      have e58 : h34 241 106 = h 241 106 := ((u34 241 106 rfl).trans (u30 241 106 rfl))
      have e59 : h34 241 73 = h 241 73 := ((u34 241 73 rfl).trans (u30 241 73 rfl))
      have e60 : h34 241 2 = h 241 2 := ((u34 241 2 rfl).trans (u30 241 2 rfl))
      have e61 : h34 241 119 = h 241 119 := ((u34 241 119 rfl).trans (u30 241 119 rfl))
      have e62 : h34 241 67 = h 241 67 := ((u34 241 67 rfl).trans (u30 241 67 rfl))
      have e63 : h34 241 69 = h 241 69 := ((u34 241 69 rfl).trans (u30 241 69 rfl))
      have e64 : h34 241 5 = h 241 5 := ((u34 241 5 rfl).trans (u30 241 5 rfl))
      have e65 : h34 1 1 = h30 1 1 := (u34 1 1 rfl)
      have gp66 := GPH.fr u30 rfl gp0
      have gp67 := GPH.fr u34 rfl gp66
      exact k h34 (b - 1) (c - 6) ⟨g34, (show h34 1 1 = h34 236 2 by omega), (RS.i0 (f := h34 238) (by refine ⟨?_, ?_, ?_, ?_, ?_⟩ <;> omega)), (RS.i0 (f := h34 241) (by refine ⟨?_, ?_, ?_, ?_, ?_⟩ <;> omega)), gp67⟩ (by omega) (by omega)
-- the law, case at 420
set_option maxRecDepth 100000 in
set_option maxHeartbeats 100000000 in
theorem lc_420 {L : Nat} {xs : Nat → Int32} {d b c : Nat} {h : hp} {cr : Nat → Nat → Option Nat} {Q : hp_Q} (hcr : CR cr) (hL : L ≤ 3072) (hr : 1 ≤ b ∧ 6 ≤ c) (I : LI h) (i : Int) (hi : 0 ≤ i ∧ i + 6 ≤ L) (k : ∀ (h2 : hp) (b2 c2 : Nat), LI h2 → b ≤ b2 + 1 → c ≤ c2 + 6 → wp (md_xa (L, xs)) (d + 107) 0 (1529, [(0, .ref 1000000), (1, .ref 0), (2, .ref 236), (3, .ref 259), (4, vi i)], [], hp_w h2 cr, b2, c2) Q) : wp (md_xa (L, xs)) (d + 107) 0 (420, [(0, .ref 1000000), (1, .ref 0), (2, .ref 236), (3, .ref 259), (4, vi i)], [], hp_w h cr, b, c) Q := by
  obtain ⟨g, i11, r238, r241, gp0⟩ := I
  have r238e := r238.e0
  have r241e := r241.e0
  have b1 := gi_b (lo := 0) (hi := 6) g 238 98 rfl
  have b2 := gi_b (lo := 0) (hi := 6) g 238 99 rfl
  have b3 := gi_b (lo := 0) (hi := 6) g 238 100 rfl
  have b4 := gi_b (lo := 0) (hi := 6) g 238 101 rfl
  have b5 := gi_b (lo := 0) (hi := 3) g 238 102 rfl
  have b6 := gi_b (lo := 0) (hi := 12) g 238 106 rfl
  have b7 := gi_b (lo := 0) (hi := 12) g 238 73 rfl
  have b8 := gi_b (lo := 0) (hi := 12) g 238 2 rfl
  have b9 := gi_b (lo := 0) (hi := 9999) g 238 119 rfl
  have b10 := gi_b (lo := 0) (hi := 9999) g 238 67 rfl
  have b11 := gi_b (lo := 0) (hi := 9) g 238 69 rfl
  have b12 := gi_b (lo := 0) (hi := 9) g 238 5 rfl
  have b13 := gi_b (lo := 0) (hi := 6) g 241 98 rfl
  have b14 := gi_b (lo := 0) (hi := 6) g 241 99 rfl
  have b15 := gi_b (lo := 0) (hi := 6) g 241 100 rfl
  have b16 := gi_b (lo := 0) (hi := 6) g 241 101 rfl
  have b17 := gi_b (lo := 0) (hi := 3) g 241 102 rfl
  have b18 := gi_b (lo := 0) (hi := 12) g 241 106 rfl
  have b19 := gi_b (lo := 0) (hi := 12) g 241 73 rfl
  have b20 := gi_b (lo := 0) (hi := 12) g 241 2 rfl
  have b21 := gi_b (lo := 0) (hi := 9999) g 241 119 rfl
  have b22 := gi_b (lo := 0) (hi := 9999) g 241 67 rfl
  have b23 := gi_b (lo := 0) (hi := 9) g 241 69 rfl
  have b24 := gi_b (lo := 0) (hi := 9) g 241 5 rfl
  have b25 := gi_b (lo := 0) (hi := 800) g 1 1 rfl
  have b26 := gi_b (lo := 0) (hi := 800) g 236 2 rfl
  refine wi_aload_n (i := 1) (x := 0) (nx := 421) (r1 := 0) (r2 := 0) (r3 := 0) rfl rfl ?_
  refine wi_aload_n (i := 3) (x := 259) (nx := 422) (r1 := 0) (r2 := 0) (r3 := 0) rfl rfl ?_
  refine wi_S (rest := []) (as := [.ref 0, .ref 259]) (nx := 425) (r1 := 3) (r2 := 18) (r3 := 0) rfl rfl rfl (of_decide_eq_true rfl) rfl rfl (of_decide_eq_true rfl) (of_decide_eq_true rfl) ?_
  refine wi_aload_n (i := 1) (x := 259) (nx := 1) (r1 := 0) (r2 := 0) (r3 := 0) rfl rfl ?_
  refine wi_iconst (n := 0) (nx := 2) (r1 := 0) (r2 := 0) (r3 := 0) rfl ?_
  refine wi_aload_n (i := 0) (x := 0) (nx := 3) (r1 := 0) (r2 := 0) (r3 := 0) rfl rfl ?_
  refine wr_V (k0 := 0) (rest := [vi 0, .ref 259]) (as := [.ref 0]) (nx := 6) (r1 := 63) (r2 := 0) (r3 := 0) rfl rfl rfl (of_decide_eq_true rfl) rfl rfl (by decide) rfl rfl (of_decide_eq_true rfl) (of_decide_eq_true rfl) ?_
  refine ct_63_0 hcr hr  g    (fun h27 z28 g27 u27 (fz28 : 0 ≤ z28 ∧ z28 ≤ 800) (p27_0 : (h27 1 1) = 0) => ?_) (fun h27 g27 u27 (pe27_0 : (h27 1 1) = 0) => ?_)
  ·
    have b29 := gi_b (lo := 0) (hi := 800) g27 1 1 rfl
    refine wk_i ?_
    refine wi_i2l (nx := 7) (r1 := 0) (r2 := 0) (r3 := 0) rfl (by omega) ?_
    refine wr_ls (k0 := 259) (a := 0) (f := 0) (x := z28) (bl := -9223372036854775808) (bh := 9223372036854775807) (nx := 8) (r1 := 0) (r2 := 0) (r3 := 0) rfl (by decide) rfl (by omega) (by omega) (by decide) g27 rfl (by omega) (fun h30 g30 w30 u30 => ?_)
    refine wi_goto (nx := 11) (r1 := 14) (r2 := 0) (r3 := 0) rfl ?_
    refine wi_iconst (n := 0) (nx := 15) (r1 := 0) (r2 := 0) (r3 := 0) rfl ?_
    refine wi_ireturn (nx := 16) (r1 := 0) (r2 := 0) (r3 := 0) rfl rfl ?_
    refine wk_i ?_
    refine wi_istore (i := 5) (e := 0) (lo2 := [(5, vi 0), (0, .ref 1000000), (1, .ref 0), (2, .ref 236), (3, .ref 259), (4, vi i)]) (nx := 427) (r1 := 0) (r2 := 0) (r3 := 0) rfl rfl ?_
    refine wi_aload_n (i := 2) (x := 236) (nx := 428) (r1 := 0) (r2 := 0) (r3 := 0) rfl rfl ?_
    refine wr_V (k0 := 236) (rest := []) (as := [.ref 236]) (nx := 431) (r1 := 213) (r2 := 0) (r3 := 11) rfl rfl rfl (of_decide_eq_true rfl) rfl rfl (by decide) rfl rfl (of_decide_eq_true rfl) (of_decide_eq_true rfl) ?_
    have e32 : h30 238 98 = h 238 98 := ((u30 238 98 rfl).trans (u27 238 98 rfl))
    have e33 : h30 238 99 = h 238 99 := ((u30 238 99 rfl).trans (u27 238 99 rfl))
    have e34 : h30 238 100 = h 238 100 := ((u30 238 100 rfl).trans (u27 238 100 rfl))
    have e35 : h30 238 101 = h 238 101 := ((u30 238 101 rfl).trans (u27 238 101 rfl))
    have e36 : h30 238 102 = h 238 102 := ((u30 238 102 rfl).trans (u27 238 102 rfl))
    have e37 : h30 238 106 = h 238 106 := ((u30 238 106 rfl).trans (u27 238 106 rfl))
    have e38 : h30 238 73 = h 238 73 := ((u30 238 73 rfl).trans (u27 238 73 rfl))
    have e39 : h30 238 2 = h 238 2 := ((u30 238 2 rfl).trans (u27 238 2 rfl))
    have e40 : h30 238 119 = h 238 119 := ((u30 238 119 rfl).trans (u27 238 119 rfl))
    have e41 : h30 238 67 = h 238 67 := ((u30 238 67 rfl).trans (u27 238 67 rfl))
    have e42 : h30 238 69 = h 238 69 := ((u30 238 69 rfl).trans (u27 238 69 rfl))
    have e43 : h30 238 5 = h 238 5 := ((u30 238 5 rfl).trans (u27 238 5 rfl))
    refine ct_213_236 hcr  g30   (show (h30 238 98) + (h30 238 99) + (h30 238 100) + (h30 238 101) + (h30 238 102) + (h30 238 106) = (h30 238 73) by omega) (show (h30 238 73) ≤ (h30 238 2) by omega) (show (h30 238 119) ≤ (h30 238 67) by omega) (show (h30 238 69) ≤ (h30 238 5) by omega) (show (h30 238 2) ≤ 12 * (h30 238 5) by omega) (fun h31 z44 g31 u31 (fz44 : -2147483648 ≤ z44 ∧ z44 ≤ 2147483647) (p31_0 : (h31 238 98) + (h31 238 99) + (h31 238 100) + (h31 238 101) + (h31 238 102) + (h31 238 106) = (h31 238 73)) (p31_1 : (h31 238 73) ≤ (h31 238 2)) (p31_2 : (h31 238 119) ≤ (h31 238 67)) (p31_3 : (h31 238 69) ≤ (h31 238 5)) (p31_4 : (h31 238 2) ≤ 12 * (h31 238 5)) (p31_5 : (h31 236 2) = 0) => ?_)
    have b45 := gi_b (lo := 0) (hi := 6) g31 238 98 rfl
    have b46 := gi_b (lo := 0) (hi := 6) g31 238 99 rfl
    have b47 := gi_b (lo := 0) (hi := 6) g31 238 100 rfl
    have b48 := gi_b (lo := 0) (hi := 6) g31 238 101 rfl
    have b49 := gi_b (lo := 0) (hi := 3) g31 238 102 rfl
    have b50 := gi_b (lo := 0) (hi := 12) g31 238 106 rfl
    have b51 := gi_b (lo := 0) (hi := 12) g31 238 73 rfl
    have b52 := gi_b (lo := 0) (hi := 12) g31 238 2 rfl
    have b53 := gi_b (lo := 0) (hi := 9999) g31 238 119 rfl
    have b54 := gi_b (lo := 0) (hi := 9999) g31 238 67 rfl
    have b55 := gi_b (lo := 0) (hi := 9) g31 238 69 rfl
    have b56 := gi_b (lo := 0) (hi := 9) g31 238 5 rfl
    have b57 := gi_b (lo := 0) (hi := 800) g31 236 2 rfl
    refine wk_i ?_
    refine wi_istore (i := 6) (e := z44) (lo2 := [(6, vi z44), (5, vi 0), (0, .ref 1000000), (1, .ref 0), (2, .ref 236), (3, .ref 259), (4, vi i)]) (nx := 433) (r1 := 0) (r2 := 0) (r3 := 0) rfl rfl ?_
    refine wi_goto (nx := 436) (r1 := 1529) (r2 := 0) (r3 := 0) rfl ?_
    refine wp.lo (lo := [(0, .ref 1000000), (1, .ref 0), (2, .ref 236), (3, .ref 259), (4, vi i)]) ⟨rfl, rfl, rfl, rfl, rfl, trivial⟩ rfl ?_
    have e58 : h31 241 98 = h 241 98 := ((u31 241 98 rfl).trans ((u30 241 98 rfl).trans (u27 241 98 rfl)))
    have e59 : h31 241 99 = h 241 99 := ((u31 241 99 rfl).trans ((u30 241 99 rfl).trans (u27 241 99 rfl)))
    have e60 : h31 241 100 = h 241 100 := ((u31 241 100 rfl).trans ((u30 241 100 rfl).trans (u27 241 100 rfl)))
    have e61 : h31 241 101 = h 241 101 := ((u31 241 101 rfl).trans ((u30 241 101 rfl).trans (u27 241 101 rfl)))
    have e62 : h31 241 102 = h 241 102 := ((u31 241 102 rfl).trans ((u30 241 102 rfl).trans (u27 241 102 rfl)))
    have e63 : h31 241 106 = h 241 106 := ((u31 241 106 rfl).trans ((u30 241 106 rfl).trans (u27 241 106 rfl)))
    have e64 : h31 241 73 = h 241 73 := ((u31 241 73 rfl).trans ((u30 241 73 rfl).trans (u27 241 73 rfl)))
    have e65 : h31 241 2 = h 241 2 := ((u31 241 2 rfl).trans ((u30 241 2 rfl).trans (u27 241 2 rfl)))
    have e66 : h31 241 119 = h 241 119 := ((u31 241 119 rfl).trans ((u30 241 119 rfl).trans (u27 241 119 rfl)))
    have e67 : h31 241 67 = h 241 67 := ((u31 241 67 rfl).trans ((u30 241 67 rfl).trans (u27 241 67 rfl)))
    have e68 : h31 241 69 = h 241 69 := ((u31 241 69 rfl).trans ((u30 241 69 rfl).trans (u27 241 69 rfl)))
    have e69 : h31 241 5 = h 241 5 := ((u31 241 5 rfl).trans ((u30 241 5 rfl).trans (u27 241 5 rfl)))
    have e70 : h31 1 1 = h27 1 1 := ((u31 1 1 rfl).trans (u30 1 1 rfl))
    have gp71 := GPH.fr u27 rfl gp0
    have gp72 := GPH.fr u30 rfl gp71
    have gp73 := GPH.fr u31 rfl gp72
    exact k h31 b c ⟨g31, (show h31 1 1 = h31 236 2 by omega), (RS.i0 (f := h31 238) (by refine ⟨?_, ?_, ?_, ?_, ?_⟩ <;> omega)), (RS.i0 (f := h31 241) (by refine ⟨?_, ?_, ?_, ?_, ?_⟩ <;> omega)), gp73⟩ (by omega) (by omega)
  ·
    have b29 := gi_b (lo := 0) (hi := 800) g27 1 1 rfl
    refine wk_h 11 (by decide) rfl ?_
    refine wr_astx (i := 2) (lo2 := [(2, .retAddr 0), (0, .ref 0), (1, .ref 259)]) (nx := 12) (r1 := 0) (r2 := 0) (r3 := 0) rfl rfl ?_
    refine wi_iconst (n := 1) (nx := 13) (r1 := 0) (r2 := 0) (r3 := 0) rfl ?_
    refine wi_ireturn (nx := 14) (r1 := 0) (r2 := 0) (r3 := 0) rfl rfl ?_
    refine wk_i ?_
    refine wi_istore (i := 5) (e := 1) (lo2 := [(5, vi 1), (0, .ref 1000000), (1, .ref 0), (2, .ref 236), (3, .ref 259), (4, vi i)]) (nx := 427) (r1 := 0) (r2 := 0) (r3 := 0) rfl rfl ?_
    refine wi_aload_n (i := 2) (x := 236) (nx := 428) (r1 := 0) (r2 := 0) (r3 := 0) rfl rfl ?_
    refine wr_V (k0 := 236) (rest := []) (as := [.ref 236]) (nx := 431) (r1 := 213) (r2 := 0) (r3 := 11) rfl rfl rfl (of_decide_eq_true rfl) rfl rfl (by decide) rfl rfl (of_decide_eq_true rfl) (of_decide_eq_true rfl) ?_
    have e31 : h27 238 98 = h 238 98 := (u27 238 98 rfl)
    have e32 : h27 238 99 = h 238 99 := (u27 238 99 rfl)
    have e33 : h27 238 100 = h 238 100 := (u27 238 100 rfl)
    have e34 : h27 238 101 = h 238 101 := (u27 238 101 rfl)
    have e35 : h27 238 102 = h 238 102 := (u27 238 102 rfl)
    have e36 : h27 238 106 = h 238 106 := (u27 238 106 rfl)
    have e37 : h27 238 73 = h 238 73 := (u27 238 73 rfl)
    have e38 : h27 238 2 = h 238 2 := (u27 238 2 rfl)
    have e39 : h27 238 119 = h 238 119 := (u27 238 119 rfl)
    have e40 : h27 238 67 = h 238 67 := (u27 238 67 rfl)
    have e41 : h27 238 69 = h 238 69 := (u27 238 69 rfl)
    have e42 : h27 238 5 = h 238 5 := (u27 238 5 rfl)
    refine ct_213_236 hcr  g27   (show (h27 238 98) + (h27 238 99) + (h27 238 100) + (h27 238 101) + (h27 238 102) + (h27 238 106) = (h27 238 73) by omega) (show (h27 238 73) ≤ (h27 238 2) by omega) (show (h27 238 119) ≤ (h27 238 67) by omega) (show (h27 238 69) ≤ (h27 238 5) by omega) (show (h27 238 2) ≤ 12 * (h27 238 5) by omega) (fun h30 z43 g30 u30 (fz43 : -2147483648 ≤ z43 ∧ z43 ≤ 2147483647) (p30_0 : (h30 238 98) + (h30 238 99) + (h30 238 100) + (h30 238 101) + (h30 238 102) + (h30 238 106) = (h30 238 73)) (p30_1 : (h30 238 73) ≤ (h30 238 2)) (p30_2 : (h30 238 119) ≤ (h30 238 67)) (p30_3 : (h30 238 69) ≤ (h30 238 5)) (p30_4 : (h30 238 2) ≤ 12 * (h30 238 5)) (p30_5 : (h30 236 2) = 0) => ?_)
    have b44 := gi_b (lo := 0) (hi := 6) g30 238 98 rfl
    have b45 := gi_b (lo := 0) (hi := 6) g30 238 99 rfl
    have b46 := gi_b (lo := 0) (hi := 6) g30 238 100 rfl
    have b47 := gi_b (lo := 0) (hi := 6) g30 238 101 rfl
    have b48 := gi_b (lo := 0) (hi := 3) g30 238 102 rfl
    have b49 := gi_b (lo := 0) (hi := 12) g30 238 106 rfl
    have b50 := gi_b (lo := 0) (hi := 12) g30 238 73 rfl
    have b51 := gi_b (lo := 0) (hi := 12) g30 238 2 rfl
    have b52 := gi_b (lo := 0) (hi := 9999) g30 238 119 rfl
    have b53 := gi_b (lo := 0) (hi := 9999) g30 238 67 rfl
    have b54 := gi_b (lo := 0) (hi := 9) g30 238 69 rfl
    have b55 := gi_b (lo := 0) (hi := 9) g30 238 5 rfl
    have b56 := gi_b (lo := 0) (hi := 800) g30 236 2 rfl
    refine wk_i ?_
    refine wi_istore (i := 6) (e := z43) (lo2 := [(6, vi z43), (5, vi 1), (0, .ref 1000000), (1, .ref 0), (2, .ref 236), (3, .ref 259), (4, vi i)]) (nx := 433) (r1 := 0) (r2 := 0) (r3 := 0) rfl rfl ?_
    refine wi_goto (nx := 436) (r1 := 1529) (r2 := 0) (r3 := 0) rfl ?_
    refine wp.lo (lo := [(0, .ref 1000000), (1, .ref 0), (2, .ref 236), (3, .ref 259), (4, vi i)]) ⟨rfl, rfl, rfl, rfl, rfl, trivial⟩ rfl ?_
    have e57 : h30 241 98 = h 241 98 := ((u30 241 98 rfl).trans (u27 241 98 rfl))
    have e58 : h30 241 99 = h 241 99 := ((u30 241 99 rfl).trans (u27 241 99 rfl))
    have e59 : h30 241 100 = h 241 100 := ((u30 241 100 rfl).trans (u27 241 100 rfl))
    have e60 : h30 241 101 = h 241 101 := ((u30 241 101 rfl).trans (u27 241 101 rfl))
    have e61 : h30 241 102 = h 241 102 := ((u30 241 102 rfl).trans (u27 241 102 rfl))
    have e62 : h30 241 106 = h 241 106 := ((u30 241 106 rfl).trans (u27 241 106 rfl))
    have e63 : h30 241 73 = h 241 73 := ((u30 241 73 rfl).trans (u27 241 73 rfl))
    have e64 : h30 241 2 = h 241 2 := ((u30 241 2 rfl).trans (u27 241 2 rfl))
    have e65 : h30 241 119 = h 241 119 := ((u30 241 119 rfl).trans (u27 241 119 rfl))
    have e66 : h30 241 67 = h 241 67 := ((u30 241 67 rfl).trans (u27 241 67 rfl))
    have e67 : h30 241 69 = h 241 69 := ((u30 241 69 rfl).trans (u27 241 69 rfl))
    have e68 : h30 241 5 = h 241 5 := ((u30 241 5 rfl).trans (u27 241 5 rfl))
    have e69 : h30 1 1 = h27 1 1 := (u30 1 1 rfl)
    have gp70 := GPH.fr u27 rfl gp0
    have gp71 := GPH.fr u30 rfl gp70
    exact k h30 (b - 1) (c - 6) ⟨g30, (show h30 1 1 = h30 236 2 by omega), (RS.i0 (f := h30 238) (by refine ⟨?_, ?_, ?_, ?_, ?_⟩ <;> omega)), (RS.i0 (f := h30 241) (by refine ⟨?_, ?_, ?_, ?_, ?_⟩ <;> omega)), gp71⟩ (by omega) (by omega)
-- the law, case at 436
set_option maxRecDepth 100000 in
set_option maxHeartbeats 100000000 in
theorem lc_436 {L : Nat} {xs : Nat → Int32} {d b c : Nat} {h : hp} {cr : Nat → Nat → Option Nat} {Q : hp_Q} (hcr : CR cr) (hL : L ≤ 3072) (hr : 1 ≤ b ∧ 6 ≤ c) (I : LI h) (i : Int) (hi : 0 ≤ i ∧ i + 6 ≤ L) (k : ∀ (h2 : hp) (b2 c2 : Nat), LI h2 → b ≤ b2 + 1 → c ≤ c2 + 6 → wp (md_xa (L, xs)) (d + 107) 0 (1529, [(0, .ref 1000000), (1, .ref 0), (2, .ref 236), (3, .ref 259), (4, vi i)], [], hp_w h2 cr, b2, c2) Q) : wp (md_xa (L, xs)) (d + 107) 0 (436, [(0, .ref 1000000), (1, .ref 0), (2, .ref 236), (3, .ref 259), (4, vi i)], [], hp_w h cr, b, c) Q := by
  obtain ⟨g, i11, r238, r241, gp0⟩ := I
  have r238e := r238.e0
  have r241e := r241.e0
  have b1 := gi_b (lo := 0) (hi := 6) g 238 98 rfl
  have b2 := gi_b (lo := 0) (hi := 6) g 238 99 rfl
  have b3 := gi_b (lo := 0) (hi := 6) g 238 100 rfl
  have b4 := gi_b (lo := 0) (hi := 6) g 238 101 rfl
  have b5 := gi_b (lo := 0) (hi := 3) g 238 102 rfl
  have b6 := gi_b (lo := 0) (hi := 12) g 238 106 rfl
  have b7 := gi_b (lo := 0) (hi := 12) g 238 73 rfl
  have b8 := gi_b (lo := 0) (hi := 12) g 238 2 rfl
  have b9 := gi_b (lo := 0) (hi := 9999) g 238 119 rfl
  have b10 := gi_b (lo := 0) (hi := 9999) g 238 67 rfl
  have b11 := gi_b (lo := 0) (hi := 9) g 238 69 rfl
  have b12 := gi_b (lo := 0) (hi := 9) g 238 5 rfl
  have b13 := gi_b (lo := 0) (hi := 6) g 241 98 rfl
  have b14 := gi_b (lo := 0) (hi := 6) g 241 99 rfl
  have b15 := gi_b (lo := 0) (hi := 6) g 241 100 rfl
  have b16 := gi_b (lo := 0) (hi := 6) g 241 101 rfl
  have b17 := gi_b (lo := 0) (hi := 3) g 241 102 rfl
  have b18 := gi_b (lo := 0) (hi := 12) g 241 106 rfl
  have b19 := gi_b (lo := 0) (hi := 12) g 241 73 rfl
  have b20 := gi_b (lo := 0) (hi := 12) g 241 2 rfl
  have b21 := gi_b (lo := 0) (hi := 9999) g 241 119 rfl
  have b22 := gi_b (lo := 0) (hi := 9999) g 241 67 rfl
  have b23 := gi_b (lo := 0) (hi := 9) g 241 69 rfl
  have b24 := gi_b (lo := 0) (hi := 9) g 241 5 rfl
  have b25 := gi_b (lo := 0) (hi := 800) g 1 1 rfl
  have b26 := gi_b (lo := 0) (hi := 800) g 236 2 rfl
  refine wi_aload_n (i := 1) (x := 0) (nx := 437) (r1 := 0) (r2 := 0) (r3 := 0) rfl rfl ?_
  refine wi_aload_n (i := 3) (x := 259) (nx := 438) (r1 := 0) (r2 := 0) (r3 := 0) rfl rfl ?_
  refine wi_S (rest := []) (as := [.ref 0, .ref 259]) (nx := 441) (r1 := 4) (r2 := 18) (r3 := 0) rfl rfl rfl (of_decide_eq_true rfl) rfl rfl (of_decide_eq_true rfl) (of_decide_eq_true rfl) ?_
  refine wi_aload_n (i := 1) (x := 259) (nx := 1) (r1 := 0) (r2 := 0) (r3 := 0) rfl rfl ?_
  refine wi_iconst (n := 0) (nx := 2) (r1 := 0) (r2 := 0) (r3 := 0) rfl ?_
  refine wi_aload_n (i := 0) (x := 0) (nx := 3) (r1 := 0) (r2 := 0) (r3 := 0) rfl rfl ?_
  refine wr_V (k0 := 0) (rest := [vi 0, .ref 259]) (as := [.ref 0]) (nx := 6) (r1 := 64) (r2 := 0) (r3 := 0) rfl rfl rfl (of_decide_eq_true rfl) rfl rfl (by decide) rfl rfl (of_decide_eq_true rfl) (of_decide_eq_true rfl) ?_
  refine ct_64_0 hcr hr  g    (fun h27 z28 g27 u27 (fz28 : 0 ≤ z28 ∧ z28 ≤ 100) (p27_0 : (h27 1 1) = 0) => ?_) (fun h27 g27 u27 (pe27_0 : (h27 1 1) = 0) => ?_)
  ·
    have b29 := gi_b (lo := 0) (hi := 800) g27 1 1 rfl
    refine wk_i ?_
    refine wi_i2l (nx := 7) (r1 := 0) (r2 := 0) (r3 := 0) rfl (by omega) ?_
    refine wr_ls (k0 := 259) (a := 0) (f := 0) (x := z28) (bl := -9223372036854775808) (bh := 9223372036854775807) (nx := 8) (r1 := 0) (r2 := 0) (r3 := 0) rfl (by decide) rfl (by omega) (by omega) (by decide) g27 rfl (by omega) (fun h30 g30 w30 u30 => ?_)
    refine wi_goto (nx := 11) (r1 := 14) (r2 := 0) (r3 := 0) rfl ?_
    refine wi_iconst (n := 0) (nx := 15) (r1 := 0) (r2 := 0) (r3 := 0) rfl ?_
    refine wi_ireturn (nx := 16) (r1 := 0) (r2 := 0) (r3 := 0) rfl rfl ?_
    refine wk_i ?_
    refine wi_istore (i := 5) (e := 0) (lo2 := [(5, vi 0), (0, .ref 1000000), (1, .ref 0), (2, .ref 236), (3, .ref 259), (4, vi i)]) (nx := 443) (r1 := 0) (r2 := 0) (r3 := 0) rfl rfl ?_
    refine wi_aload_n (i := 2) (x := 236) (nx := 444) (r1 := 0) (r2 := 0) (r3 := 0) rfl rfl ?_
    refine wr_V (k0 := 236) (rest := []) (as := [.ref 236]) (nx := 447) (r1 := 334) (r2 := 0) (r3 := 11) rfl rfl rfl (of_decide_eq_true rfl) rfl rfl (by decide) rfl rfl (of_decide_eq_true rfl) (of_decide_eq_true rfl) ?_
    have e32 : h30 238 98 = h 238 98 := ((u30 238 98 rfl).trans (u27 238 98 rfl))
    have e33 : h30 238 99 = h 238 99 := ((u30 238 99 rfl).trans (u27 238 99 rfl))
    have e34 : h30 238 100 = h 238 100 := ((u30 238 100 rfl).trans (u27 238 100 rfl))
    have e35 : h30 238 101 = h 238 101 := ((u30 238 101 rfl).trans (u27 238 101 rfl))
    have e36 : h30 238 102 = h 238 102 := ((u30 238 102 rfl).trans (u27 238 102 rfl))
    have e37 : h30 238 106 = h 238 106 := ((u30 238 106 rfl).trans (u27 238 106 rfl))
    have e38 : h30 238 73 = h 238 73 := ((u30 238 73 rfl).trans (u27 238 73 rfl))
    have e39 : h30 238 2 = h 238 2 := ((u30 238 2 rfl).trans (u27 238 2 rfl))
    have e40 : h30 238 119 = h 238 119 := ((u30 238 119 rfl).trans (u27 238 119 rfl))
    have e41 : h30 238 67 = h 238 67 := ((u30 238 67 rfl).trans (u27 238 67 rfl))
    have e42 : h30 238 69 = h 238 69 := ((u30 238 69 rfl).trans (u27 238 69 rfl))
    have e43 : h30 238 5 = h 238 5 := ((u30 238 5 rfl).trans (u27 238 5 rfl))
    have gp45 := GPH.fr u27 rfl gp0
    have gp46 := GPH.fr u30 rfl gp45
    refine ct_334_236 hcr  g30   (show (h30 238 98) + (h30 238 99) + (h30 238 100) + (h30 238 101) + (h30 238 102) + (h30 238 106) = (h30 238 73) by omega) (show (h30 238 73) ≤ (h30 238 2) by omega) (show (h30 238 119) ≤ (h30 238 67) by omega) (show (h30 238 69) ≤ (h30 238 5) by omega) (show (h30 238 2) ≤ 12 * (h30 238 5) by omega) gp46 (fun h31 z44 g31 u31 (fz44 : 0 ≤ z44 ∧ z44 ≤ 100) (p31_0 : (h31 238 98) + (h31 238 99) + (h31 238 100) + (h31 238 101) + (h31 238 102) + (h31 238 106) = (h31 238 73)) (p31_1 : (h31 238 73) ≤ (h31 238 2)) (p31_2 : (h31 238 119) ≤ (h31 238 67)) (p31_3 : (h31 238 69) ≤ (h31 238 5)) (p31_4 : (h31 238 2) ≤ 12 * (h31 238 5)) (p31_5 : (h31 236 2) = 0) y31_0 => ?_)
    have b47 := gi_b (lo := 0) (hi := 6) g31 238 98 rfl
    have b48 := gi_b (lo := 0) (hi := 6) g31 238 99 rfl
    have b49 := gi_b (lo := 0) (hi := 6) g31 238 100 rfl
    have b50 := gi_b (lo := 0) (hi := 6) g31 238 101 rfl
    have b51 := gi_b (lo := 0) (hi := 3) g31 238 102 rfl
    have b52 := gi_b (lo := 0) (hi := 12) g31 238 106 rfl
    have b53 := gi_b (lo := 0) (hi := 12) g31 238 73 rfl
    have e54 : h31 238 2 = h 238 2 := ((u31 238 2 rfl).trans ((u30 238 2 rfl).trans (u27 238 2 rfl)))
    have b55 := gi_b (lo := 0) (hi := 9999) g31 238 119 rfl
    have b56 := gi_b (lo := 0) (hi := 9999) g31 238 67 rfl
    have b57 := gi_b (lo := 0) (hi := 9) g31 238 69 rfl
    have e58 : h31 238 5 = h 238 5 := ((u31 238 5 rfl).trans ((u30 238 5 rfl).trans (u27 238 5 rfl)))
    have b59 := gi_b (lo := 0) (hi := 800) g31 236 2 rfl
    refine wk_i ?_
    refine wi_istore (i := 6) (e := z44) (lo2 := [(6, vi z44), (5, vi 0), (0, .ref 1000000), (1, .ref 0), (2, .ref 236), (3, .ref 259), (4, vi i)]) (nx := 449) (r1 := 0) (r2 := 0) (r3 := 0) rfl rfl ?_
    refine wi_goto (nx := 452) (r1 := 1529) (r2 := 0) (r3 := 0) rfl ?_
    refine wp.lo (lo := [(0, .ref 1000000), (1, .ref 0), (2, .ref 236), (3, .ref 259), (4, vi i)]) ⟨rfl, rfl, rfl, rfl, rfl, trivial⟩ rfl ?_
    have e60 : h31 241 98 = h 241 98 := ((u31 241 98 rfl).trans ((u30 241 98 rfl).trans (u27 241 98 rfl)))
    have e61 : h31 241 99 = h 241 99 := ((u31 241 99 rfl).trans ((u30 241 99 rfl).trans (u27 241 99 rfl)))
    have e62 : h31 241 100 = h 241 100 := ((u31 241 100 rfl).trans ((u30 241 100 rfl).trans (u27 241 100 rfl)))
    have e63 : h31 241 101 = h 241 101 := ((u31 241 101 rfl).trans ((u30 241 101 rfl).trans (u27 241 101 rfl)))
    have e64 : h31 241 102 = h 241 102 := ((u31 241 102 rfl).trans ((u30 241 102 rfl).trans (u27 241 102 rfl)))
    have e65 : h31 241 106 = h 241 106 := ((u31 241 106 rfl).trans ((u30 241 106 rfl).trans (u27 241 106 rfl)))
    have e66 : h31 241 73 = h 241 73 := ((u31 241 73 rfl).trans ((u30 241 73 rfl).trans (u27 241 73 rfl)))
    have e67 : h31 241 2 = h 241 2 := ((u31 241 2 rfl).trans ((u30 241 2 rfl).trans (u27 241 2 rfl)))
    have e68 : h31 241 119 = h 241 119 := ((u31 241 119 rfl).trans ((u30 241 119 rfl).trans (u27 241 119 rfl)))
    have e69 : h31 241 67 = h 241 67 := ((u31 241 67 rfl).trans ((u30 241 67 rfl).trans (u27 241 67 rfl)))
    have e70 : h31 241 69 = h 241 69 := ((u31 241 69 rfl).trans ((u30 241 69 rfl).trans (u27 241 69 rfl)))
    have e71 : h31 241 5 = h 241 5 := ((u31 241 5 rfl).trans ((u30 241 5 rfl).trans (u27 241 5 rfl)))
    have e72 : h31 1 1 = h27 1 1 := ((u31 1 1 rfl).trans (u30 1 1 rfl))
    exact k h31 b c ⟨g31, (show h31 1 1 = h31 236 2 by omega), (RS.i0 (f := h31 238) (by refine ⟨?_, ?_, ?_, ?_, ?_⟩ <;> omega)), (RS.i0 (f := h31 241) (by refine ⟨?_, ?_, ?_, ?_, ?_⟩ <;> omega)), y31_0⟩ (by omega) (by omega)
  ·
    have b29 := gi_b (lo := 0) (hi := 800) g27 1 1 rfl
    refine wk_h 11 (by decide) rfl ?_
    refine wr_astx (i := 2) (lo2 := [(2, .retAddr 0), (0, .ref 0), (1, .ref 259)]) (nx := 12) (r1 := 0) (r2 := 0) (r3 := 0) rfl rfl ?_
    refine wi_iconst (n := 1) (nx := 13) (r1 := 0) (r2 := 0) (r3 := 0) rfl ?_
    refine wi_ireturn (nx := 14) (r1 := 0) (r2 := 0) (r3 := 0) rfl rfl ?_
    refine wk_i ?_
    refine wi_istore (i := 5) (e := 1) (lo2 := [(5, vi 1), (0, .ref 1000000), (1, .ref 0), (2, .ref 236), (3, .ref 259), (4, vi i)]) (nx := 443) (r1 := 0) (r2 := 0) (r3 := 0) rfl rfl ?_
    refine wi_aload_n (i := 2) (x := 236) (nx := 444) (r1 := 0) (r2 := 0) (r3 := 0) rfl rfl ?_
    refine wr_V (k0 := 236) (rest := []) (as := [.ref 236]) (nx := 447) (r1 := 334) (r2 := 0) (r3 := 11) rfl rfl rfl (of_decide_eq_true rfl) rfl rfl (by decide) rfl rfl (of_decide_eq_true rfl) (of_decide_eq_true rfl) ?_
    have e31 : h27 238 98 = h 238 98 := (u27 238 98 rfl)
    have e32 : h27 238 99 = h 238 99 := (u27 238 99 rfl)
    have e33 : h27 238 100 = h 238 100 := (u27 238 100 rfl)
    have e34 : h27 238 101 = h 238 101 := (u27 238 101 rfl)
    have e35 : h27 238 102 = h 238 102 := (u27 238 102 rfl)
    have e36 : h27 238 106 = h 238 106 := (u27 238 106 rfl)
    have e37 : h27 238 73 = h 238 73 := (u27 238 73 rfl)
    have e38 : h27 238 2 = h 238 2 := (u27 238 2 rfl)
    have e39 : h27 238 119 = h 238 119 := (u27 238 119 rfl)
    have e40 : h27 238 67 = h 238 67 := (u27 238 67 rfl)
    have e41 : h27 238 69 = h 238 69 := (u27 238 69 rfl)
    have e42 : h27 238 5 = h 238 5 := (u27 238 5 rfl)
    have gp44 := GPH.fr u27 rfl gp0
    refine ct_334_236 hcr  g27   (show (h27 238 98) + (h27 238 99) + (h27 238 100) + (h27 238 101) + (h27 238 102) + (h27 238 106) = (h27 238 73) by omega) (show (h27 238 73) ≤ (h27 238 2) by omega) (show (h27 238 119) ≤ (h27 238 67) by omega) (show (h27 238 69) ≤ (h27 238 5) by omega) (show (h27 238 2) ≤ 12 * (h27 238 5) by omega) gp44 (fun h30 z43 g30 u30 (fz43 : 0 ≤ z43 ∧ z43 ≤ 100) (p30_0 : (h30 238 98) + (h30 238 99) + (h30 238 100) + (h30 238 101) + (h30 238 102) + (h30 238 106) = (h30 238 73)) (p30_1 : (h30 238 73) ≤ (h30 238 2)) (p30_2 : (h30 238 119) ≤ (h30 238 67)) (p30_3 : (h30 238 69) ≤ (h30 238 5)) (p30_4 : (h30 238 2) ≤ 12 * (h30 238 5)) (p30_5 : (h30 236 2) = 0) y30_0 => ?_)
    have b45 := gi_b (lo := 0) (hi := 6) g30 238 98 rfl
    have b46 := gi_b (lo := 0) (hi := 6) g30 238 99 rfl
    have b47 := gi_b (lo := 0) (hi := 6) g30 238 100 rfl
    have b48 := gi_b (lo := 0) (hi := 6) g30 238 101 rfl
    have b49 := gi_b (lo := 0) (hi := 3) g30 238 102 rfl
    have b50 := gi_b (lo := 0) (hi := 12) g30 238 106 rfl
    have b51 := gi_b (lo := 0) (hi := 12) g30 238 73 rfl
    have e52 : h30 238 2 = h 238 2 := ((u30 238 2 rfl).trans (u27 238 2 rfl))
    have b53 := gi_b (lo := 0) (hi := 9999) g30 238 119 rfl
    have b54 := gi_b (lo := 0) (hi := 9999) g30 238 67 rfl
    have b55 := gi_b (lo := 0) (hi := 9) g30 238 69 rfl
    have e56 : h30 238 5 = h 238 5 := ((u30 238 5 rfl).trans (u27 238 5 rfl))
    have b57 := gi_b (lo := 0) (hi := 800) g30 236 2 rfl
    refine wk_i ?_
    refine wi_istore (i := 6) (e := z43) (lo2 := [(6, vi z43), (5, vi 1), (0, .ref 1000000), (1, .ref 0), (2, .ref 236), (3, .ref 259), (4, vi i)]) (nx := 449) (r1 := 0) (r2 := 0) (r3 := 0) rfl rfl ?_
    refine wi_goto (nx := 452) (r1 := 1529) (r2 := 0) (r3 := 0) rfl ?_
    refine wp.lo (lo := [(0, .ref 1000000), (1, .ref 0), (2, .ref 236), (3, .ref 259), (4, vi i)]) ⟨rfl, rfl, rfl, rfl, rfl, trivial⟩ rfl ?_
    have e58 : h30 241 98 = h 241 98 := ((u30 241 98 rfl).trans (u27 241 98 rfl))
    have e59 : h30 241 99 = h 241 99 := ((u30 241 99 rfl).trans (u27 241 99 rfl))
    have e60 : h30 241 100 = h 241 100 := ((u30 241 100 rfl).trans (u27 241 100 rfl))
    have e61 : h30 241 101 = h 241 101 := ((u30 241 101 rfl).trans (u27 241 101 rfl))
    have e62 : h30 241 102 = h 241 102 := ((u30 241 102 rfl).trans (u27 241 102 rfl))
    have e63 : h30 241 106 = h 241 106 := ((u30 241 106 rfl).trans (u27 241 106 rfl))
    have e64 : h30 241 73 = h 241 73 := ((u30 241 73 rfl).trans (u27 241 73 rfl))
    have e65 : h30 241 2 = h 241 2 := ((u30 241 2 rfl).trans (u27 241 2 rfl))
    have e66 : h30 241 119 = h 241 119 := ((u30 241 119 rfl).trans (u27 241 119 rfl))
    have e67 : h30 241 67 = h 241 67 := ((u30 241 67 rfl).trans (u27 241 67 rfl))
    have e68 : h30 241 69 = h 241 69 := ((u30 241 69 rfl).trans (u27 241 69 rfl))
    have e69 : h30 241 5 = h 241 5 := ((u30 241 5 rfl).trans (u27 241 5 rfl))
    have e70 : h30 1 1 = h27 1 1 := (u30 1 1 rfl)
    exact k h30 (b - 1) (c - 6) ⟨g30, (show h30 1 1 = h30 236 2 by omega), (RS.i0 (f := h30 238) (by refine ⟨?_, ?_, ?_, ?_, ?_⟩ <;> omega)), (RS.i0 (f := h30 241) (by refine ⟨?_, ?_, ?_, ?_, ?_⟩ <;> omega)), y30_0⟩ (by omega) (by omega)
-- the law, case at 452
set_option maxRecDepth 100000 in
set_option maxHeartbeats 100000000 in
theorem lc_452 {L : Nat} {xs : Nat → Int32} {d b c : Nat} {h : hp} {cr : Nat → Nat → Option Nat} {Q : hp_Q} (hcr : CR cr) (hL : L ≤ 3072) (hr : 1 ≤ b ∧ 6 ≤ c) (I : LI h) (i : Int) (hi : 0 ≤ i ∧ i + 6 ≤ L) (k : ∀ (h2 : hp) (b2 c2 : Nat), LI h2 → b ≤ b2 + 1 → c ≤ c2 + 6 → wp (md_xa (L, xs)) (d + 107) 0 (1529, [(0, .ref 1000000), (1, .ref 0), (2, .ref 236), (3, .ref 259), (4, vi i)], [], hp_w h2 cr, b2, c2) Q) : wp (md_xa (L, xs)) (d + 107) 0 (452, [(0, .ref 1000000), (1, .ref 0), (2, .ref 236), (3, .ref 259), (4, vi i)], [], hp_w h cr, b, c) Q := by
  obtain ⟨g, i11, r238, r241, gp0⟩ := I
  have r238e := r238.e0
  have r241e := r241.e0
  have b1 := gi_b (lo := 0) (hi := 6) g 238 98 rfl
  have b2 := gi_b (lo := 0) (hi := 6) g 238 99 rfl
  have b3 := gi_b (lo := 0) (hi := 6) g 238 100 rfl
  have b4 := gi_b (lo := 0) (hi := 6) g 238 101 rfl
  have b5 := gi_b (lo := 0) (hi := 3) g 238 102 rfl
  have b6 := gi_b (lo := 0) (hi := 12) g 238 106 rfl
  have b7 := gi_b (lo := 0) (hi := 12) g 238 73 rfl
  have b8 := gi_b (lo := 0) (hi := 12) g 238 2 rfl
  have b9 := gi_b (lo := 0) (hi := 9999) g 238 119 rfl
  have b10 := gi_b (lo := 0) (hi := 9999) g 238 67 rfl
  have b11 := gi_b (lo := 0) (hi := 9) g 238 69 rfl
  have b12 := gi_b (lo := 0) (hi := 9) g 238 5 rfl
  have b13 := gi_b (lo := 0) (hi := 6) g 241 98 rfl
  have b14 := gi_b (lo := 0) (hi := 6) g 241 99 rfl
  have b15 := gi_b (lo := 0) (hi := 6) g 241 100 rfl
  have b16 := gi_b (lo := 0) (hi := 6) g 241 101 rfl
  have b17 := gi_b (lo := 0) (hi := 3) g 241 102 rfl
  have b18 := gi_b (lo := 0) (hi := 12) g 241 106 rfl
  have b19 := gi_b (lo := 0) (hi := 12) g 241 73 rfl
  have b20 := gi_b (lo := 0) (hi := 12) g 241 2 rfl
  have b21 := gi_b (lo := 0) (hi := 9999) g 241 119 rfl
  have b22 := gi_b (lo := 0) (hi := 9999) g 241 67 rfl
  have b23 := gi_b (lo := 0) (hi := 9) g 241 69 rfl
  have b24 := gi_b (lo := 0) (hi := 9) g 241 5 rfl
  have b25 := gi_b (lo := 0) (hi := 800) g 1 1 rfl
  have b26 := gi_b (lo := 0) (hi := 800) g 236 2 rfl
  refine wi_aload_n (i := 1) (x := 0) (nx := 453) (r1 := 0) (r2 := 0) (r3 := 0) rfl rfl ?_
  refine wr_V (k0 := 0) (rest := []) (as := [.ref 0]) (nx := 456) (r1 := 27) (r2 := 0) (r3 := 0) rfl rfl rfl (of_decide_eq_true rfl) rfl rfl (by decide) rfl rfl (of_decide_eq_true rfl) (of_decide_eq_true rfl) ?_
  refine ct_27_0 hcr  g    (fun z28  (fz28 : -2147483648 ≤ z28 ∧ z28 ≤ 2147483647) => ?_)
  refine wk_i ?_
  refine wi_pop (nx := 457) (r1 := 0) (r2 := 0) (r3 := 0) rfl rfl ?_
  refine wi_aload_n (i := 2) (x := 236) (nx := 458) (r1 := 0) (r2 := 0) (r3 := 0) rfl rfl ?_
  refine wr_V (k0 := 236) (rest := []) (as := [.ref 236]) (nx := 461) (r1 := 211) (r2 := 0) (r3 := 11) rfl rfl rfl (of_decide_eq_true rfl) rfl rfl (by decide) rfl rfl (of_decide_eq_true rfl) (of_decide_eq_true rfl) ?_
  refine ct_211_236 hcr  g    (fun h29 z30 g29 u29 (fz30 : -2147483648 ≤ z30 ∧ z30 ≤ 2147483647) => ?_)
  refine wk_i ?_
  refine wi_pop (nx := 462) (r1 := 0) (r2 := 0) (r3 := 0) rfl rfl ?_
  refine wi_goto (nx := 465) (r1 := 1529) (r2 := 0) (r3 := 0) rfl ?_
  have e31 : h29 238 98 = h 238 98 := (u29 238 98 rfl)
  have e32 : h29 238 99 = h 238 99 := (u29 238 99 rfl)
  have e33 : h29 238 100 = h 238 100 := (u29 238 100 rfl)
  have e34 : h29 238 101 = h 238 101 := (u29 238 101 rfl)
  have e35 : h29 238 102 = h 238 102 := (u29 238 102 rfl)
  have e36 : h29 238 106 = h 238 106 := (u29 238 106 rfl)
  have e37 : h29 238 73 = h 238 73 := (u29 238 73 rfl)
  have e38 : h29 238 2 = h 238 2 := (u29 238 2 rfl)
  have e39 : h29 238 119 = h 238 119 := (u29 238 119 rfl)
  have e40 : h29 238 67 = h 238 67 := (u29 238 67 rfl)
  have e41 : h29 238 69 = h 238 69 := (u29 238 69 rfl)
  have e42 : h29 238 5 = h 238 5 := (u29 238 5 rfl)
  have e43 : h29 241 98 = h 241 98 := (u29 241 98 rfl)
  have e44 : h29 241 99 = h 241 99 := (u29 241 99 rfl)
  have e45 : h29 241 100 = h 241 100 := (u29 241 100 rfl)
  have e46 : h29 241 101 = h 241 101 := (u29 241 101 rfl)
  have e47 : h29 241 102 = h 241 102 := (u29 241 102 rfl)
  have e48 : h29 241 106 = h 241 106 := (u29 241 106 rfl)
  have e49 : h29 241 73 = h 241 73 := (u29 241 73 rfl)
  have e50 : h29 241 2 = h 241 2 := (u29 241 2 rfl)
  have e51 : h29 241 119 = h 241 119 := (u29 241 119 rfl)
  have e52 : h29 241 67 = h 241 67 := (u29 241 67 rfl)
  have e53 : h29 241 69 = h 241 69 := (u29 241 69 rfl)
  have e54 : h29 241 5 = h 241 5 := (u29 241 5 rfl)
  have e55 : h29 1 1 = h 1 1 := (u29 1 1 rfl)
  have e56 : h29 236 2 = h 236 2 := (u29 236 2 rfl)
  have gp57 := GPH.fr u29 rfl gp0
  exact k h29 b c ⟨g29, (show h29 1 1 = h29 236 2 by omega), (RS.i0 (f := h29 238) (by refine ⟨?_, ?_, ?_, ?_, ?_⟩ <;> omega)), (RS.i0 (f := h29 241) (by refine ⟨?_, ?_, ?_, ?_, ?_⟩ <;> omega)), gp57⟩ (by omega) (by omega)
-- the law, case at 465
set_option maxRecDepth 100000 in
set_option maxHeartbeats 100000000 in
theorem lc_465 {L : Nat} {xs : Nat → Int32} {d b c : Nat} {h : hp} {cr : Nat → Nat → Option Nat} {Q : hp_Q} (hcr : CR cr) (hL : L ≤ 3072) (hr : 1 ≤ b ∧ 6 ≤ c) (I : LI h) (i : Int) (hi : 0 ≤ i ∧ i + 6 ≤ L) (k : ∀ (h2 : hp) (b2 c2 : Nat), LI h2 → b ≤ b2 + 1 → c ≤ c2 + 6 → wp (md_xa (L, xs)) (d + 107) 0 (1529, [(0, .ref 1000000), (1, .ref 0), (2, .ref 236), (3, .ref 259), (4, vi i)], [], hp_w h2 cr, b2, c2) Q) : wp (md_xa (L, xs)) (d + 107) 0 (465, [(0, .ref 1000000), (1, .ref 0), (2, .ref 236), (3, .ref 259), (4, vi i)], [], hp_w h cr, b, c) Q := by
  obtain ⟨g, i11, r238, r241, gp0⟩ := I
  have r238e := r238.e0
  have r241e := r241.e0
  have b1 := gi_b (lo := 0) (hi := 6) g 238 98 rfl
  have b2 := gi_b (lo := 0) (hi := 6) g 238 99 rfl
  have b3 := gi_b (lo := 0) (hi := 6) g 238 100 rfl
  have b4 := gi_b (lo := 0) (hi := 6) g 238 101 rfl
  have b5 := gi_b (lo := 0) (hi := 3) g 238 102 rfl
  have b6 := gi_b (lo := 0) (hi := 12) g 238 106 rfl
  have b7 := gi_b (lo := 0) (hi := 12) g 238 73 rfl
  have b8 := gi_b (lo := 0) (hi := 12) g 238 2 rfl
  have b9 := gi_b (lo := 0) (hi := 9999) g 238 119 rfl
  have b10 := gi_b (lo := 0) (hi := 9999) g 238 67 rfl
  have b11 := gi_b (lo := 0) (hi := 9) g 238 69 rfl
  have b12 := gi_b (lo := 0) (hi := 9) g 238 5 rfl
  have b13 := gi_b (lo := 0) (hi := 6) g 241 98 rfl
  have b14 := gi_b (lo := 0) (hi := 6) g 241 99 rfl
  have b15 := gi_b (lo := 0) (hi := 6) g 241 100 rfl
  have b16 := gi_b (lo := 0) (hi := 6) g 241 101 rfl
  have b17 := gi_b (lo := 0) (hi := 3) g 241 102 rfl
  have b18 := gi_b (lo := 0) (hi := 12) g 241 106 rfl
  have b19 := gi_b (lo := 0) (hi := 12) g 241 73 rfl
  have b20 := gi_b (lo := 0) (hi := 12) g 241 2 rfl
  have b21 := gi_b (lo := 0) (hi := 9999) g 241 119 rfl
  have b22 := gi_b (lo := 0) (hi := 9999) g 241 67 rfl
  have b23 := gi_b (lo := 0) (hi := 9) g 241 69 rfl
  have b24 := gi_b (lo := 0) (hi := 9) g 241 5 rfl
  have b25 := gi_b (lo := 0) (hi := 800) g 1 1 rfl
  have b26 := gi_b (lo := 0) (hi := 800) g 236 2 rfl
  refine wi_aload_n (i := 1) (x := 0) (nx := 466) (r1 := 0) (r2 := 0) (r3 := 0) rfl rfl ?_
  refine wr_V (k0 := 0) (rest := []) (as := [.ref 0]) (nx := 469) (r1 := 28) (r2 := 0) (r3 := 0) rfl rfl rfl (of_decide_eq_true rfl) rfl rfl (by decide) rfl rfl (of_decide_eq_true rfl) (of_decide_eq_true rfl) ?_
  refine ct_28_0 hcr  g    (fun z28  (fz28 : -2147483648 ≤ z28 ∧ z28 ≤ 2147483647) => ?_)
  refine wk_i ?_
  refine wi_pop (nx := 470) (r1 := 0) (r2 := 0) (r3 := 0) rfl rfl ?_
  refine wi_aload_n (i := 2) (x := 236) (nx := 471) (r1 := 0) (r2 := 0) (r3 := 0) rfl rfl ?_
  refine wr_V (k0 := 236) (rest := []) (as := [.ref 236]) (nx := 474) (r1 := 212) (r2 := 0) (r3 := 11) rfl rfl rfl (of_decide_eq_true rfl) rfl rfl (by decide) rfl rfl (of_decide_eq_true rfl) (of_decide_eq_true rfl) ?_
  refine ct_212_236 hcr  g    (fun h29 z30 g29 u29 (fz30 : -2147483648 ≤ z30 ∧ z30 ≤ 2147483647) => ?_)
  refine wk_i ?_
  refine wi_pop (nx := 475) (r1 := 0) (r2 := 0) (r3 := 0) rfl rfl ?_
  refine wi_goto (nx := 478) (r1 := 1529) (r2 := 0) (r3 := 0) rfl ?_
  have e31 : h29 238 98 = h 238 98 := (u29 238 98 rfl)
  have e32 : h29 238 99 = h 238 99 := (u29 238 99 rfl)
  have e33 : h29 238 100 = h 238 100 := (u29 238 100 rfl)
  have e34 : h29 238 101 = h 238 101 := (u29 238 101 rfl)
  have e35 : h29 238 102 = h 238 102 := (u29 238 102 rfl)
  have e36 : h29 238 106 = h 238 106 := (u29 238 106 rfl)
  have e37 : h29 238 73 = h 238 73 := (u29 238 73 rfl)
  have e38 : h29 238 2 = h 238 2 := (u29 238 2 rfl)
  have e39 : h29 238 119 = h 238 119 := (u29 238 119 rfl)
  have e40 : h29 238 67 = h 238 67 := (u29 238 67 rfl)
  have e41 : h29 238 69 = h 238 69 := (u29 238 69 rfl)
  have e42 : h29 238 5 = h 238 5 := (u29 238 5 rfl)
  have e43 : h29 241 98 = h 241 98 := (u29 241 98 rfl)
  have e44 : h29 241 99 = h 241 99 := (u29 241 99 rfl)
  have e45 : h29 241 100 = h 241 100 := (u29 241 100 rfl)
  have e46 : h29 241 101 = h 241 101 := (u29 241 101 rfl)
  have e47 : h29 241 102 = h 241 102 := (u29 241 102 rfl)
  have e48 : h29 241 106 = h 241 106 := (u29 241 106 rfl)
  have e49 : h29 241 73 = h 241 73 := (u29 241 73 rfl)
  have e50 : h29 241 2 = h 241 2 := (u29 241 2 rfl)
  have e51 : h29 241 119 = h 241 119 := (u29 241 119 rfl)
  have e52 : h29 241 67 = h 241 67 := (u29 241 67 rfl)
  have e53 : h29 241 69 = h 241 69 := (u29 241 69 rfl)
  have e54 : h29 241 5 = h 241 5 := (u29 241 5 rfl)
  have e55 : h29 1 1 = h 1 1 := (u29 1 1 rfl)
  have e56 : h29 236 2 = h 236 2 := (u29 236 2 rfl)
  have gp57 := GPH.fr u29 rfl gp0
  exact k h29 b c ⟨g29, (show h29 1 1 = h29 236 2 by omega), (RS.i0 (f := h29 238) (by refine ⟨?_, ?_, ?_, ?_, ?_⟩ <;> omega)), (RS.i0 (f := h29 241) (by refine ⟨?_, ?_, ?_, ?_, ?_⟩ <;> omega)), gp57⟩ (by omega) (by omega)
-- the law, case at 478
set_option maxRecDepth 100000 in
set_option maxHeartbeats 100000000 in
theorem lc_478 {L : Nat} {xs : Nat → Int32} {d b c : Nat} {h : hp} {cr : Nat → Nat → Option Nat} {Q : hp_Q} (hcr : CR cr) (hL : L ≤ 3072) (hr : 1 ≤ b ∧ 6 ≤ c) (I : LI h) (i : Int) (hi : 0 ≤ i ∧ i + 6 ≤ L) (k : ∀ (h2 : hp) (b2 c2 : Nat), LI h2 → b ≤ b2 + 1 → c ≤ c2 + 6 → wp (md_xa (L, xs)) (d + 107) 0 (1529, [(0, .ref 1000000), (1, .ref 0), (2, .ref 236), (3, .ref 259), (4, vi i)], [], hp_w h2 cr, b2, c2) Q) : wp (md_xa (L, xs)) (d + 107) 0 (478, [(0, .ref 1000000), (1, .ref 0), (2, .ref 236), (3, .ref 259), (4, vi i)], [], hp_w h cr, b, c) Q := by
  obtain ⟨g, i11, r238, r241, gp0⟩ := I
  have r238e := r238.e0
  have r241e := r241.e0
  have b1 := gi_b (lo := 0) (hi := 6) g 238 98 rfl
  have b2 := gi_b (lo := 0) (hi := 6) g 238 99 rfl
  have b3 := gi_b (lo := 0) (hi := 6) g 238 100 rfl
  have b4 := gi_b (lo := 0) (hi := 6) g 238 101 rfl
  have b5 := gi_b (lo := 0) (hi := 3) g 238 102 rfl
  have b6 := gi_b (lo := 0) (hi := 12) g 238 106 rfl
  have b7 := gi_b (lo := 0) (hi := 12) g 238 73 rfl
  have b8 := gi_b (lo := 0) (hi := 12) g 238 2 rfl
  have b9 := gi_b (lo := 0) (hi := 9999) g 238 119 rfl
  have b10 := gi_b (lo := 0) (hi := 9999) g 238 67 rfl
  have b11 := gi_b (lo := 0) (hi := 9) g 238 69 rfl
  have b12 := gi_b (lo := 0) (hi := 9) g 238 5 rfl
  have b13 := gi_b (lo := 0) (hi := 6) g 241 98 rfl
  have b14 := gi_b (lo := 0) (hi := 6) g 241 99 rfl
  have b15 := gi_b (lo := 0) (hi := 6) g 241 100 rfl
  have b16 := gi_b (lo := 0) (hi := 6) g 241 101 rfl
  have b17 := gi_b (lo := 0) (hi := 3) g 241 102 rfl
  have b18 := gi_b (lo := 0) (hi := 12) g 241 106 rfl
  have b19 := gi_b (lo := 0) (hi := 12) g 241 73 rfl
  have b20 := gi_b (lo := 0) (hi := 12) g 241 2 rfl
  have b21 := gi_b (lo := 0) (hi := 9999) g 241 119 rfl
  have b22 := gi_b (lo := 0) (hi := 9999) g 241 67 rfl
  have b23 := gi_b (lo := 0) (hi := 9) g 241 69 rfl
  have b24 := gi_b (lo := 0) (hi := 9) g 241 5 rfl
  have b25 := gi_b (lo := 0) (hi := 800) g 1 1 rfl
  have b26 := gi_b (lo := 0) (hi := 800) g 236 2 rfl
  refine wi_aload_n (i := 1) (x := 0) (nx := 479) (r1 := 0) (r2 := 0) (r3 := 0) rfl rfl ?_
  refine wi_aload_n (i := 0) (x := 1000000) (nx := 480) (r1 := 0) (r2 := 0) (r3 := 0) rfl rfl ?_
  refine wi_iload (i := 4) (e := i) (nx := 482) (r1 := 0) (r2 := 0) (r3 := 0) rfl rfl ?_
  refine wi_iconst (n := 1) (nx := 483) (r1 := 0) (r2 := 0) (r3 := 0) rfl ?_
  refine wr_add (nx := 484) (r1 := 0) (r2 := 0) (r3 := 0) rfl (fun e27 (fe27 : e27 = i + 1) => ?_)
  obtain ⟨i28, ei28⟩ : ∃ q : Nat, e27 = (q : Int) := ⟨(e27).toNat, by omega⟩
  have s29 := sc_b (xs i28)
  refine wr_sc (a := e27) (f := i28) (nx := 485) (r1 := 0) (r2 := 0) (r3 := 0) rfl (by omega) (by omega) hL ?_
  refine wi_aload_n (i := 3) (x := 259) (nx := 486) (r1 := 0) (r2 := 0) (r3 := 0) rfl rfl ?_
  refine wi_S (rest := []) (as := [.ref 0, vi ((xs i28).toInt), .ref 259]) (nx := 489) (r1 := 5) (r2 := 19) (r3 := 0) rfl rfl rfl (of_decide_eq_true rfl) rfl rfl (of_decide_eq_true rfl) (of_decide_eq_true rfl) ?_
  refine wi_aload_n (i := 2) (x := 259) (nx := 1) (r1 := 0) (r2 := 0) (r3 := 0) rfl rfl ?_
  refine wi_iconst (n := 0) (nx := 2) (r1 := 0) (r2 := 0) (r3 := 0) rfl ?_
  refine wi_aload_n (i := 0) (x := 0) (nx := 3) (r1 := 0) (r2 := 0) (r3 := 0) rfl rfl ?_
  refine wi_iload_n (i := 1) (e := (xs i28).toInt) (nx := 4) (r1 := 0) (r2 := 0) (r3 := 0) rfl rfl ?_
  refine wr_V (k0 := 0) (rest := [vi 0, .ref 259]) (as := [.ref 0, vi ((xs i28).toInt)]) (nx := 7) (r1 := 65) (r2 := 1) (r3 := 0) rfl rfl rfl (of_decide_eq_true rfl) rfl rfl (by decide) rfl rfl (of_decide_eq_true rfl) (of_decide_eq_true rfl) ?_
  refine ct_65_0 hcr hr  g ((xs i28).toInt) (by omega)  (fun z31  (fz31 : -2147483648 ≤ z31 ∧ z31 ≤ 2147483647) => ?_) ?_
  ·
    refine wk_i ?_
    refine wi_i2l (nx := 8) (r1 := 0) (r2 := 0) (r3 := 0) rfl (by omega) ?_
    refine wr_ls (k0 := 259) (a := 0) (f := 0) (x := z31) (bl := -9223372036854775808) (bh := 9223372036854775807) (nx := 9) (r1 := 0) (r2 := 0) (r3 := 0) rfl (by decide) rfl (by omega) (by omega) (by decide) g rfl (by omega) (fun h32 g32 w32 u32 => ?_)
    refine wi_goto (nx := 12) (r1 := 15) (r2 := 0) (r3 := 0) rfl ?_
    refine wi_iconst (n := 0) (nx := 16) (r1 := 0) (r2 := 0) (r3 := 0) rfl ?_
    refine wi_ireturn (nx := 17) (r1 := 0) (r2 := 0) (r3 := 0) rfl rfl ?_
    refine wk_i ?_
    refine wi_istore (i := 5) (e := 0) (lo2 := [(5, vi 0), (0, .ref 1000000), (1, .ref 0), (2, .ref 236), (3, .ref 259), (4, vi i)]) (nx := 491) (r1 := 0) (r2 := 0) (r3 := 0) rfl rfl ?_
    refine wi_aload_n (i := 2) (x := 236) (nx := 492) (r1 := 0) (r2 := 0) (r3 := 0) rfl rfl ?_
    refine wi_aload_n (i := 0) (x := 1000000) (nx := 493) (r1 := 0) (r2 := 0) (r3 := 0) rfl rfl ?_
    refine wi_iload (i := 4) (e := i) (nx := 495) (r1 := 0) (r2 := 0) (r3 := 0) rfl rfl ?_
    refine wi_iconst (n := 1) (nx := 496) (r1 := 0) (r2 := 0) (r3 := 0) rfl ?_
    refine wr_add (nx := 497) (r1 := 0) (r2 := 0) (r3 := 0) rfl (fun e33 (fe33 : e33 = i + 1) => ?_)
    refine wr_sc (a := e33) (f := i28) (nx := 498) (r1 := 0) (r2 := 0) (r3 := 0) rfl (by omega) (by omega) hL ?_
    refine wr_V (k0 := 236) (rest := []) (as := [.ref 236, vi ((xs i28).toInt)]) (nx := 501) (r1 := 239) (r2 := 1) (r3 := 11) rfl rfl rfl (of_decide_eq_true rfl) rfl rfl (by decide) rfl rfl (of_decide_eq_true rfl) (of_decide_eq_true rfl) ?_
    refine ct_239_236 hcr  g32 ((xs i28).toInt) (by omega)  (fun h34 z35 g34 u34 (fz35 : 0 ≤ z35 ∧ z35 ≤ 999) => ?_)
    refine wk_i ?_
    refine wi_istore (i := 6) (e := z35) (lo2 := [(6, vi z35), (5, vi 0), (0, .ref 1000000), (1, .ref 0), (2, .ref 236), (3, .ref 259), (4, vi i)]) (nx := 503) (r1 := 0) (r2 := 0) (r3 := 0) rfl rfl ?_
    refine wi_goto (nx := 506) (r1 := 1529) (r2 := 0) (r3 := 0) rfl ?_
    refine wp.lo (lo := [(0, .ref 1000000), (1, .ref 0), (2, .ref 236), (3, .ref 259), (4, vi i)]) ⟨rfl, rfl, rfl, rfl, rfl, trivial⟩ rfl ?_
    have e36 : h34 238 98 = h 238 98 := ((u34 238 98 rfl).trans (u32 238 98 rfl))
    have e37 : h34 238 99 = h 238 99 := ((u34 238 99 rfl).trans (u32 238 99 rfl))
    have e38 : h34 238 100 = h 238 100 := ((u34 238 100 rfl).trans (u32 238 100 rfl))
    have e39 : h34 238 101 = h 238 101 := ((u34 238 101 rfl).trans (u32 238 101 rfl))
    have e40 : h34 238 102 = h 238 102 := ((u34 238 102 rfl).trans (u32 238 102 rfl))
    have e41 : h34 238 106 = h 238 106 := ((u34 238 106 rfl).trans (u32 238 106 rfl))
    have e42 : h34 238 73 = h 238 73 := ((u34 238 73 rfl).trans (u32 238 73 rfl))
    have e43 : h34 238 2 = h 238 2 := ((u34 238 2 rfl).trans (u32 238 2 rfl))
    have e44 : h34 238 119 = h 238 119 := ((u34 238 119 rfl).trans (u32 238 119 rfl))
    have e45 : h34 238 67 = h 238 67 := ((u34 238 67 rfl).trans (u32 238 67 rfl))
    have e46 : h34 238 69 = h 238 69 := ((u34 238 69 rfl).trans (u32 238 69 rfl))
    have e47 : h34 238 5 = h 238 5 := ((u34 238 5 rfl).trans (u32 238 5 rfl))
    have e48 : h34 241 98 = h 241 98 := ((u34 241 98 rfl).trans (u32 241 98 rfl))
    have e49 : h34 241 99 = h 241 99 := ((u34 241 99 rfl).trans (u32 241 99 rfl))
    have e50 : h34 241 100 = h 241 100 := ((u34 241 100 rfl).trans (u32 241 100 rfl))
    have e51 : h34 241 101 = h 241 101 := ((u34 241 101 rfl).trans (u32 241 101 rfl))
    have e52 : h34 241 102 = h 241 102 := ((u34 241 102 rfl).trans (u32 241 102 rfl))
    have e53 : h34 241 106 = h 241 106 := ((u34 241 106 rfl).trans (u32 241 106 rfl))
    have e54 : h34 241 73 = h 241 73 := ((u34 241 73 rfl).trans (u32 241 73 rfl))
    have e55 : h34 241 2 = h 241 2 := ((u34 241 2 rfl).trans (u32 241 2 rfl))
    have e56 : h34 241 119 = h 241 119 := ((u34 241 119 rfl).trans (u32 241 119 rfl))
    have e57 : h34 241 67 = h 241 67 := ((u34 241 67 rfl).trans (u32 241 67 rfl))
    have e58 : h34 241 69 = h 241 69 := ((u34 241 69 rfl).trans (u32 241 69 rfl))
    have e59 : h34 241 5 = h 241 5 := ((u34 241 5 rfl).trans (u32 241 5 rfl))
    have e60 : h34 1 1 = h 1 1 := ((u34 1 1 rfl).trans (u32 1 1 rfl))
    have e61 : h34 236 2 = h 236 2 := ((u34 236 2 rfl).trans (u32 236 2 rfl))
    have gp62 := GPH.fr u32 rfl gp0
    have gp63 := GPH.fr u34 rfl gp62
    exact k h34 b c ⟨g34, (show h34 1 1 = h34 236 2 by omega), (RS.i0 (f := h34 238) (by refine ⟨?_, ?_, ?_, ?_, ?_⟩ <;> omega)), (RS.i0 (f := h34 241) (by refine ⟨?_, ?_, ?_, ?_, ?_⟩ <;> omega)), gp63⟩ (by omega) (by omega)
  ·
    refine wk_h 12 (by decide) rfl ?_
    refine wr_astx (i := 3) (lo2 := [(3, .retAddr 0), (0, .ref 0), (1, vi ((xs i28).toInt)), (2, .ref 259)]) (nx := 13) (r1 := 0) (r2 := 0) (r3 := 0) rfl rfl ?_
    refine wi_iconst (n := 1) (nx := 14) (r1 := 0) (r2 := 0) (r3 := 0) rfl ?_
    refine wi_ireturn (nx := 15) (r1 := 0) (r2 := 0) (r3 := 0) rfl rfl ?_
    refine wk_i ?_
    refine wi_istore (i := 5) (e := 1) (lo2 := [(5, vi 1), (0, .ref 1000000), (1, .ref 0), (2, .ref 236), (3, .ref 259), (4, vi i)]) (nx := 491) (r1 := 0) (r2 := 0) (r3 := 0) rfl rfl ?_
    refine wi_aload_n (i := 2) (x := 236) (nx := 492) (r1 := 0) (r2 := 0) (r3 := 0) rfl rfl ?_
    refine wi_aload_n (i := 0) (x := 1000000) (nx := 493) (r1 := 0) (r2 := 0) (r3 := 0) rfl rfl ?_
    refine wi_iload (i := 4) (e := i) (nx := 495) (r1 := 0) (r2 := 0) (r3 := 0) rfl rfl ?_
    refine wi_iconst (n := 1) (nx := 496) (r1 := 0) (r2 := 0) (r3 := 0) rfl ?_
    refine wr_add (nx := 497) (r1 := 0) (r2 := 0) (r3 := 0) rfl (fun e32 (fe32 : e32 = i + 1) => ?_)
    refine wr_sc (a := e32) (f := i28) (nx := 498) (r1 := 0) (r2 := 0) (r3 := 0) rfl (by omega) (by omega) hL ?_
    refine wr_V (k0 := 236) (rest := []) (as := [.ref 236, vi ((xs i28).toInt)]) (nx := 501) (r1 := 239) (r2 := 1) (r3 := 11) rfl rfl rfl (of_decide_eq_true rfl) rfl rfl (by decide) rfl rfl (of_decide_eq_true rfl) (of_decide_eq_true rfl) ?_
    refine ct_239_236 hcr  g ((xs i28).toInt) (by omega)  (fun h33 z34 g33 u33 (fz34 : 0 ≤ z34 ∧ z34 ≤ 999) => ?_)
    refine wk_i ?_
    refine wi_istore (i := 6) (e := z34) (lo2 := [(6, vi z34), (5, vi 1), (0, .ref 1000000), (1, .ref 0), (2, .ref 236), (3, .ref 259), (4, vi i)]) (nx := 503) (r1 := 0) (r2 := 0) (r3 := 0) rfl rfl ?_
    refine wi_goto (nx := 506) (r1 := 1529) (r2 := 0) (r3 := 0) rfl ?_
    refine wp.lo (lo := [(0, .ref 1000000), (1, .ref 0), (2, .ref 236), (3, .ref 259), (4, vi i)]) ⟨rfl, rfl, rfl, rfl, rfl, trivial⟩ rfl ?_
    have e35 : h33 238 98 = h 238 98 := (u33 238 98 rfl)
    have e36 : h33 238 99 = h 238 99 := (u33 238 99 rfl)
    have e37 : h33 238 100 = h 238 100 := (u33 238 100 rfl)
    have e38 : h33 238 101 = h 238 101 := (u33 238 101 rfl)
    have e39 : h33 238 102 = h 238 102 := (u33 238 102 rfl)
    have e40 : h33 238 106 = h 238 106 := (u33 238 106 rfl)
    have e41 : h33 238 73 = h 238 73 := (u33 238 73 rfl)
    have e42 : h33 238 2 = h 238 2 := (u33 238 2 rfl)
    have e43 : h33 238 119 = h 238 119 := (u33 238 119 rfl)
    have e44 : h33 238 67 = h 238 67 := (u33 238 67 rfl)
    have e45 : h33 238 69 = h 238 69 := (u33 238 69 rfl)
    have e46 : h33 238 5 = h 238 5 := (u33 238 5 rfl)
    have e47 : h33 241 98 = h 241 98 := (u33 241 98 rfl)
    have e48 : h33 241 99 = h 241 99 := (u33 241 99 rfl)
    have e49 : h33 241 100 = h 241 100 := (u33 241 100 rfl)
    have e50 : h33 241 101 = h 241 101 := (u33 241 101 rfl)
    have e51 : h33 241 102 = h 241 102 := (u33 241 102 rfl)
    have e52 : h33 241 106 = h 241 106 := (u33 241 106 rfl)
    have e53 : h33 241 73 = h 241 73 := (u33 241 73 rfl)
    have e54 : h33 241 2 = h 241 2 := (u33 241 2 rfl)
    have e55 : h33 241 119 = h 241 119 := (u33 241 119 rfl)
    have e56 : h33 241 67 = h 241 67 := (u33 241 67 rfl)
    have e57 : h33 241 69 = h 241 69 := (u33 241 69 rfl)
    have e58 : h33 241 5 = h 241 5 := (u33 241 5 rfl)
    have e59 : h33 1 1 = h 1 1 := (u33 1 1 rfl)
    have e60 : h33 236 2 = h 236 2 := (u33 236 2 rfl)
    have gp61 := GPH.fr u33 rfl gp0
    exact k h33 (b - 1) (c - 6) ⟨g33, (show h33 1 1 = h33 236 2 by omega), (RS.i0 (f := h33 238) (by refine ⟨?_, ?_, ?_, ?_, ?_⟩ <;> omega)), (RS.i0 (f := h33 241) (by refine ⟨?_, ?_, ?_, ?_, ?_⟩ <;> omega)), gp61⟩ (by omega) (by omega)
-- the law, case at 506
set_option maxRecDepth 100000 in
set_option maxHeartbeats 100000000 in
theorem lc_506 {L : Nat} {xs : Nat → Int32} {d b c : Nat} {h : hp} {cr : Nat → Nat → Option Nat} {Q : hp_Q} (hcr : CR cr) (hL : L ≤ 3072) (hr : 1 ≤ b ∧ 6 ≤ c) (I : LI h) (i : Int) (hi : 0 ≤ i ∧ i + 6 ≤ L) (k : ∀ (h2 : hp) (b2 c2 : Nat), LI h2 → b ≤ b2 + 1 → c ≤ c2 + 6 → wp (md_xa (L, xs)) (d + 107) 0 (1529, [(0, .ref 1000000), (1, .ref 0), (2, .ref 236), (3, .ref 259), (4, vi i)], [], hp_w h2 cr, b2, c2) Q) : wp (md_xa (L, xs)) (d + 107) 0 (506, [(0, .ref 1000000), (1, .ref 0), (2, .ref 236), (3, .ref 259), (4, vi i)], [], hp_w h cr, b, c) Q := by
  obtain ⟨g, i11, r238, r241, gp0⟩ := I
  have r238e := r238.e0
  have r241e := r241.e0
  have b1 := gi_b (lo := 0) (hi := 6) g 238 98 rfl
  have b2 := gi_b (lo := 0) (hi := 6) g 238 99 rfl
  have b3 := gi_b (lo := 0) (hi := 6) g 238 100 rfl
  have b4 := gi_b (lo := 0) (hi := 6) g 238 101 rfl
  have b5 := gi_b (lo := 0) (hi := 3) g 238 102 rfl
  have b6 := gi_b (lo := 0) (hi := 12) g 238 106 rfl
  have b7 := gi_b (lo := 0) (hi := 12) g 238 73 rfl
  have b8 := gi_b (lo := 0) (hi := 12) g 238 2 rfl
  have b9 := gi_b (lo := 0) (hi := 9999) g 238 119 rfl
  have b10 := gi_b (lo := 0) (hi := 9999) g 238 67 rfl
  have b11 := gi_b (lo := 0) (hi := 9) g 238 69 rfl
  have b12 := gi_b (lo := 0) (hi := 9) g 238 5 rfl
  have b13 := gi_b (lo := 0) (hi := 6) g 241 98 rfl
  have b14 := gi_b (lo := 0) (hi := 6) g 241 99 rfl
  have b15 := gi_b (lo := 0) (hi := 6) g 241 100 rfl
  have b16 := gi_b (lo := 0) (hi := 6) g 241 101 rfl
  have b17 := gi_b (lo := 0) (hi := 3) g 241 102 rfl
  have b18 := gi_b (lo := 0) (hi := 12) g 241 106 rfl
  have b19 := gi_b (lo := 0) (hi := 12) g 241 73 rfl
  have b20 := gi_b (lo := 0) (hi := 12) g 241 2 rfl
  have b21 := gi_b (lo := 0) (hi := 9999) g 241 119 rfl
  have b22 := gi_b (lo := 0) (hi := 9999) g 241 67 rfl
  have b23 := gi_b (lo := 0) (hi := 9) g 241 69 rfl
  have b24 := gi_b (lo := 0) (hi := 9) g 241 5 rfl
  have b25 := gi_b (lo := 0) (hi := 800) g 1 1 rfl
  have b26 := gi_b (lo := 0) (hi := 800) g 236 2 rfl
  refine wi_aload_n (i := 1) (x := 0) (nx := 507) (r1 := 0) (r2 := 0) (r3 := 0) rfl rfl ?_
  refine wi_aload_n (i := 0) (x := 1000000) (nx := 508) (r1 := 0) (r2 := 0) (r3 := 0) rfl rfl ?_
  refine wi_iload (i := 4) (e := i) (nx := 510) (r1 := 0) (r2 := 0) (r3 := 0) rfl rfl ?_
  refine wi_iconst (n := 1) (nx := 511) (r1 := 0) (r2 := 0) (r3 := 0) rfl ?_
  refine wr_add (nx := 512) (r1 := 0) (r2 := 0) (r3 := 0) rfl (fun e27 (fe27 : e27 = i + 1) => ?_)
  obtain ⟨i28, ei28⟩ : ∃ q : Nat, e27 = (q : Int) := ⟨(e27).toNat, by omega⟩
  have s29 := sc_b (xs i28)
  refine wr_sc (a := e27) (f := i28) (nx := 513) (r1 := 0) (r2 := 0) (r3 := 0) rfl (by omega) (by omega) hL ?_
  refine wi_aload_n (i := 3) (x := 259) (nx := 514) (r1 := 0) (r2 := 0) (r3 := 0) rfl rfl ?_
  refine wi_S (rest := []) (as := [.ref 0, vi ((xs i28).toInt), .ref 259]) (nx := 517) (r1 := 6) (r2 := 19) (r3 := 0) rfl rfl rfl (of_decide_eq_true rfl) rfl rfl (of_decide_eq_true rfl) (of_decide_eq_true rfl) ?_
  refine wi_aload_n (i := 2) (x := 259) (nx := 1) (r1 := 0) (r2 := 0) (r3 := 0) rfl rfl ?_
  refine wi_iconst (n := 0) (nx := 2) (r1 := 0) (r2 := 0) (r3 := 0) rfl ?_
  refine wi_aload_n (i := 0) (x := 0) (nx := 3) (r1 := 0) (r2 := 0) (r3 := 0) rfl rfl ?_
  refine wi_iload_n (i := 1) (e := (xs i28).toInt) (nx := 4) (r1 := 0) (r2 := 0) (r3 := 0) rfl rfl ?_
  refine wr_V (k0 := 0) (rest := [vi 0, .ref 259]) (as := [.ref 0, vi ((xs i28).toInt)]) (nx := 7) (r1 := 66) (r2 := 1) (r3 := 0) rfl rfl rfl (of_decide_eq_true rfl) rfl rfl (by decide) rfl rfl (of_decide_eq_true rfl) (of_decide_eq_true rfl) ?_
  refine ct_66_0 hcr hr  g ((xs i28).toInt) (by omega)  (fun z31  (fz31 : -2147483648 ≤ z31 ∧ z31 ≤ 2147483647) => ?_) ?_
  ·
    refine wk_i ?_
    refine wi_i2l (nx := 8) (r1 := 0) (r2 := 0) (r3 := 0) rfl (by omega) ?_
    refine wr_ls (k0 := 259) (a := 0) (f := 0) (x := z31) (bl := -9223372036854775808) (bh := 9223372036854775807) (nx := 9) (r1 := 0) (r2 := 0) (r3 := 0) rfl (by decide) rfl (by omega) (by omega) (by decide) g rfl (by omega) (fun h32 g32 w32 u32 => ?_)
    refine wi_goto (nx := 12) (r1 := 15) (r2 := 0) (r3 := 0) rfl ?_
    refine wi_iconst (n := 0) (nx := 16) (r1 := 0) (r2 := 0) (r3 := 0) rfl ?_
    refine wi_ireturn (nx := 17) (r1 := 0) (r2 := 0) (r3 := 0) rfl rfl ?_
    refine wk_i ?_
    refine wi_istore (i := 5) (e := 0) (lo2 := [(5, vi 0), (0, .ref 1000000), (1, .ref 0), (2, .ref 236), (3, .ref 259), (4, vi i)]) (nx := 519) (r1 := 0) (r2 := 0) (r3 := 0) rfl rfl ?_
    refine wi_aload_n (i := 2) (x := 236) (nx := 520) (r1 := 0) (r2 := 0) (r3 := 0) rfl rfl ?_
    refine wi_aload_n (i := 0) (x := 1000000) (nx := 521) (r1 := 0) (r2 := 0) (r3 := 0) rfl rfl ?_
    refine wi_iload (i := 4) (e := i) (nx := 523) (r1 := 0) (r2 := 0) (r3 := 0) rfl rfl ?_
    refine wi_iconst (n := 1) (nx := 524) (r1 := 0) (r2 := 0) (r3 := 0) rfl ?_
    refine wr_add (nx := 525) (r1 := 0) (r2 := 0) (r3 := 0) rfl (fun e33 (fe33 : e33 = i + 1) => ?_)
    refine wr_sc (a := e33) (f := i28) (nx := 526) (r1 := 0) (r2 := 0) (r3 := 0) rfl (by omega) (by omega) hL ?_
    refine wr_V (k0 := 236) (rest := []) (as := [.ref 236, vi ((xs i28).toInt)]) (nx := 529) (r1 := 240) (r2 := 1) (r3 := 11) rfl rfl rfl (of_decide_eq_true rfl) rfl rfl (by decide) rfl rfl (of_decide_eq_true rfl) (of_decide_eq_true rfl) ?_
    refine ct_240_236 hcr  g32 ((xs i28).toInt) (by omega)  (fun h34 z35 g34 u34 (fz35 : 0 ≤ z35 ∧ z35 ≤ 999) => ?_)
    refine wk_i ?_
    refine wi_istore (i := 6) (e := z35) (lo2 := [(6, vi z35), (5, vi 0), (0, .ref 1000000), (1, .ref 0), (2, .ref 236), (3, .ref 259), (4, vi i)]) (nx := 531) (r1 := 0) (r2 := 0) (r3 := 0) rfl rfl ?_
    refine wi_goto (nx := 534) (r1 := 1529) (r2 := 0) (r3 := 0) rfl ?_
    refine wp.lo (lo := [(0, .ref 1000000), (1, .ref 0), (2, .ref 236), (3, .ref 259), (4, vi i)]) ⟨rfl, rfl, rfl, rfl, rfl, trivial⟩ rfl ?_
    have e36 : h34 238 98 = h 238 98 := ((u34 238 98 rfl).trans (u32 238 98 rfl))
    have e37 : h34 238 99 = h 238 99 := ((u34 238 99 rfl).trans (u32 238 99 rfl))
    have e38 : h34 238 100 = h 238 100 := ((u34 238 100 rfl).trans (u32 238 100 rfl))
    have e39 : h34 238 101 = h 238 101 := ((u34 238 101 rfl).trans (u32 238 101 rfl))
    have e40 : h34 238 102 = h 238 102 := ((u34 238 102 rfl).trans (u32 238 102 rfl))
    have e41 : h34 238 106 = h 238 106 := ((u34 238 106 rfl).trans (u32 238 106 rfl))
    have e42 : h34 238 73 = h 238 73 := ((u34 238 73 rfl).trans (u32 238 73 rfl))
    have e43 : h34 238 2 = h 238 2 := ((u34 238 2 rfl).trans (u32 238 2 rfl))
    have e44 : h34 238 119 = h 238 119 := ((u34 238 119 rfl).trans (u32 238 119 rfl))
    have e45 : h34 238 67 = h 238 67 := ((u34 238 67 rfl).trans (u32 238 67 rfl))
    have e46 : h34 238 69 = h 238 69 := ((u34 238 69 rfl).trans (u32 238 69 rfl))
    have e47 : h34 238 5 = h 238 5 := ((u34 238 5 rfl).trans (u32 238 5 rfl))
    have e48 : h34 241 98 = h 241 98 := ((u34 241 98 rfl).trans (u32 241 98 rfl))
    have e49 : h34 241 99 = h 241 99 := ((u34 241 99 rfl).trans (u32 241 99 rfl))
    have e50 : h34 241 100 = h 241 100 := ((u34 241 100 rfl).trans (u32 241 100 rfl))
    have e51 : h34 241 101 = h 241 101 := ((u34 241 101 rfl).trans (u32 241 101 rfl))
    have e52 : h34 241 102 = h 241 102 := ((u34 241 102 rfl).trans (u32 241 102 rfl))
    have e53 : h34 241 106 = h 241 106 := ((u34 241 106 rfl).trans (u32 241 106 rfl))
    have e54 : h34 241 73 = h 241 73 := ((u34 241 73 rfl).trans (u32 241 73 rfl))
    have e55 : h34 241 2 = h 241 2 := ((u34 241 2 rfl).trans (u32 241 2 rfl))
    have e56 : h34 241 119 = h 241 119 := ((u34 241 119 rfl).trans (u32 241 119 rfl))
    have e57 : h34 241 67 = h 241 67 := ((u34 241 67 rfl).trans (u32 241 67 rfl))
    have e58 : h34 241 69 = h 241 69 := ((u34 241 69 rfl).trans (u32 241 69 rfl))
    have e59 : h34 241 5 = h 241 5 := ((u34 241 5 rfl).trans (u32 241 5 rfl))
    have e60 : h34 1 1 = h 1 1 := ((u34 1 1 rfl).trans (u32 1 1 rfl))
    have e61 : h34 236 2 = h 236 2 := ((u34 236 2 rfl).trans (u32 236 2 rfl))
    have gp62 := GPH.fr u32 rfl gp0
    have gp63 := GPH.fr u34 rfl gp62
    exact k h34 b c ⟨g34, (show h34 1 1 = h34 236 2 by omega), (RS.i0 (f := h34 238) (by refine ⟨?_, ?_, ?_, ?_, ?_⟩ <;> omega)), (RS.i0 (f := h34 241) (by refine ⟨?_, ?_, ?_, ?_, ?_⟩ <;> omega)), gp63⟩ (by omega) (by omega)
  ·
    refine wk_h 12 (by decide) rfl ?_
    refine wr_astx (i := 3) (lo2 := [(3, .retAddr 0), (0, .ref 0), (1, vi ((xs i28).toInt)), (2, .ref 259)]) (nx := 13) (r1 := 0) (r2 := 0) (r3 := 0) rfl rfl ?_
    refine wi_iconst (n := 1) (nx := 14) (r1 := 0) (r2 := 0) (r3 := 0) rfl ?_
    refine wi_ireturn (nx := 15) (r1 := 0) (r2 := 0) (r3 := 0) rfl rfl ?_
    refine wk_i ?_
    refine wi_istore (i := 5) (e := 1) (lo2 := [(5, vi 1), (0, .ref 1000000), (1, .ref 0), (2, .ref 236), (3, .ref 259), (4, vi i)]) (nx := 519) (r1 := 0) (r2 := 0) (r3 := 0) rfl rfl ?_
    refine wi_aload_n (i := 2) (x := 236) (nx := 520) (r1 := 0) (r2 := 0) (r3 := 0) rfl rfl ?_
    refine wi_aload_n (i := 0) (x := 1000000) (nx := 521) (r1 := 0) (r2 := 0) (r3 := 0) rfl rfl ?_
    refine wi_iload (i := 4) (e := i) (nx := 523) (r1 := 0) (r2 := 0) (r3 := 0) rfl rfl ?_
    refine wi_iconst (n := 1) (nx := 524) (r1 := 0) (r2 := 0) (r3 := 0) rfl ?_
    refine wr_add (nx := 525) (r1 := 0) (r2 := 0) (r3 := 0) rfl (fun e32 (fe32 : e32 = i + 1) => ?_)
    refine wr_sc (a := e32) (f := i28) (nx := 526) (r1 := 0) (r2 := 0) (r3 := 0) rfl (by omega) (by omega) hL ?_
    refine wr_V (k0 := 236) (rest := []) (as := [.ref 236, vi ((xs i28).toInt)]) (nx := 529) (r1 := 240) (r2 := 1) (r3 := 11) rfl rfl rfl (of_decide_eq_true rfl) rfl rfl (by decide) rfl rfl (of_decide_eq_true rfl) (of_decide_eq_true rfl) ?_
    refine ct_240_236 hcr  g ((xs i28).toInt) (by omega)  (fun h33 z34 g33 u33 (fz34 : 0 ≤ z34 ∧ z34 ≤ 999) => ?_)
    refine wk_i ?_
    refine wi_istore (i := 6) (e := z34) (lo2 := [(6, vi z34), (5, vi 1), (0, .ref 1000000), (1, .ref 0), (2, .ref 236), (3, .ref 259), (4, vi i)]) (nx := 531) (r1 := 0) (r2 := 0) (r3 := 0) rfl rfl ?_
    refine wi_goto (nx := 534) (r1 := 1529) (r2 := 0) (r3 := 0) rfl ?_
    refine wp.lo (lo := [(0, .ref 1000000), (1, .ref 0), (2, .ref 236), (3, .ref 259), (4, vi i)]) ⟨rfl, rfl, rfl, rfl, rfl, trivial⟩ rfl ?_
    have e35 : h33 238 98 = h 238 98 := (u33 238 98 rfl)
    have e36 : h33 238 99 = h 238 99 := (u33 238 99 rfl)
    have e37 : h33 238 100 = h 238 100 := (u33 238 100 rfl)
    have e38 : h33 238 101 = h 238 101 := (u33 238 101 rfl)
    have e39 : h33 238 102 = h 238 102 := (u33 238 102 rfl)
    have e40 : h33 238 106 = h 238 106 := (u33 238 106 rfl)
    have e41 : h33 238 73 = h 238 73 := (u33 238 73 rfl)
    have e42 : h33 238 2 = h 238 2 := (u33 238 2 rfl)
    have e43 : h33 238 119 = h 238 119 := (u33 238 119 rfl)
    have e44 : h33 238 67 = h 238 67 := (u33 238 67 rfl)
    have e45 : h33 238 69 = h 238 69 := (u33 238 69 rfl)
    have e46 : h33 238 5 = h 238 5 := (u33 238 5 rfl)
    have e47 : h33 241 98 = h 241 98 := (u33 241 98 rfl)
    have e48 : h33 241 99 = h 241 99 := (u33 241 99 rfl)
    have e49 : h33 241 100 = h 241 100 := (u33 241 100 rfl)
    have e50 : h33 241 101 = h 241 101 := (u33 241 101 rfl)
    have e51 : h33 241 102 = h 241 102 := (u33 241 102 rfl)
    have e52 : h33 241 106 = h 241 106 := (u33 241 106 rfl)
    have e53 : h33 241 73 = h 241 73 := (u33 241 73 rfl)
    have e54 : h33 241 2 = h 241 2 := (u33 241 2 rfl)
    have e55 : h33 241 119 = h 241 119 := (u33 241 119 rfl)
    have e56 : h33 241 67 = h 241 67 := (u33 241 67 rfl)
    have e57 : h33 241 69 = h 241 69 := (u33 241 69 rfl)
    have e58 : h33 241 5 = h 241 5 := (u33 241 5 rfl)
    have e59 : h33 1 1 = h 1 1 := (u33 1 1 rfl)
    have e60 : h33 236 2 = h 236 2 := (u33 236 2 rfl)
    have gp61 := GPH.fr u33 rfl gp0
    exact k h33 (b - 1) (c - 6) ⟨g33, (show h33 1 1 = h33 236 2 by omega), (RS.i0 (f := h33 238) (by refine ⟨?_, ?_, ?_, ?_, ?_⟩ <;> omega)), (RS.i0 (f := h33 241) (by refine ⟨?_, ?_, ?_, ?_, ?_⟩ <;> omega)), gp61⟩ (by omega) (by omega)
-- the law, case at 534
set_option maxRecDepth 100000 in
set_option maxHeartbeats 100000000 in
theorem lc_534 {L : Nat} {xs : Nat → Int32} {d b c : Nat} {h : hp} {cr : Nat → Nat → Option Nat} {Q : hp_Q} (hcr : CR cr) (hL : L ≤ 3072) (hr : 1 ≤ b ∧ 6 ≤ c) (I : LI h) (i : Int) (hi : 0 ≤ i ∧ i + 6 ≤ L) (k : ∀ (h2 : hp) (b2 c2 : Nat), LI h2 → b ≤ b2 + 1 → c ≤ c2 + 6 → wp (md_xa (L, xs)) (d + 107) 0 (1529, [(0, .ref 1000000), (1, .ref 0), (2, .ref 236), (3, .ref 259), (4, vi i)], [], hp_w h2 cr, b2, c2) Q) : wp (md_xa (L, xs)) (d + 107) 0 (534, [(0, .ref 1000000), (1, .ref 0), (2, .ref 236), (3, .ref 259), (4, vi i)], [], hp_w h cr, b, c) Q := by
  obtain ⟨g, i11, r238, r241, gp0⟩ := I
  have r238e := r238.e0
  have r241e := r241.e0
  have b1 := gi_b (lo := 0) (hi := 6) g 238 98 rfl
  have b2 := gi_b (lo := 0) (hi := 6) g 238 99 rfl
  have b3 := gi_b (lo := 0) (hi := 6) g 238 100 rfl
  have b4 := gi_b (lo := 0) (hi := 6) g 238 101 rfl
  have b5 := gi_b (lo := 0) (hi := 3) g 238 102 rfl
  have b6 := gi_b (lo := 0) (hi := 12) g 238 106 rfl
  have b7 := gi_b (lo := 0) (hi := 12) g 238 73 rfl
  have b8 := gi_b (lo := 0) (hi := 12) g 238 2 rfl
  have b9 := gi_b (lo := 0) (hi := 9999) g 238 119 rfl
  have b10 := gi_b (lo := 0) (hi := 9999) g 238 67 rfl
  have b11 := gi_b (lo := 0) (hi := 9) g 238 69 rfl
  have b12 := gi_b (lo := 0) (hi := 9) g 238 5 rfl
  have b13 := gi_b (lo := 0) (hi := 6) g 241 98 rfl
  have b14 := gi_b (lo := 0) (hi := 6) g 241 99 rfl
  have b15 := gi_b (lo := 0) (hi := 6) g 241 100 rfl
  have b16 := gi_b (lo := 0) (hi := 6) g 241 101 rfl
  have b17 := gi_b (lo := 0) (hi := 3) g 241 102 rfl
  have b18 := gi_b (lo := 0) (hi := 12) g 241 106 rfl
  have b19 := gi_b (lo := 0) (hi := 12) g 241 73 rfl
  have b20 := gi_b (lo := 0) (hi := 12) g 241 2 rfl
  have b21 := gi_b (lo := 0) (hi := 9999) g 241 119 rfl
  have b22 := gi_b (lo := 0) (hi := 9999) g 241 67 rfl
  have b23 := gi_b (lo := 0) (hi := 9) g 241 69 rfl
  have b24 := gi_b (lo := 0) (hi := 9) g 241 5 rfl
  have b25 := gi_b (lo := 0) (hi := 800) g 1 1 rfl
  have b26 := gi_b (lo := 0) (hi := 800) g 236 2 rfl
  refine wi_aload_n (i := 1) (x := 0) (nx := 535) (r1 := 0) (r2 := 0) (r3 := 0) rfl rfl ?_
  refine wi_aload_n (i := 0) (x := 1000000) (nx := 536) (r1 := 0) (r2 := 0) (r3 := 0) rfl rfl ?_
  refine wi_iload (i := 4) (e := i) (nx := 538) (r1 := 0) (r2 := 0) (r3 := 0) rfl rfl ?_
  refine wi_iconst (n := 1) (nx := 539) (r1 := 0) (r2 := 0) (r3 := 0) rfl ?_
  refine wr_add (nx := 540) (r1 := 0) (r2 := 0) (r3 := 0) rfl (fun e27 (fe27 : e27 = i + 1) => ?_)
  obtain ⟨i28, ei28⟩ : ∃ q : Nat, e27 = (q : Int) := ⟨(e27).toNat, by omega⟩
  have s29 := sc_b (xs i28)
  refine wr_sc (a := e27) (f := i28) (nx := 541) (r1 := 0) (r2 := 0) (r3 := 0) rfl (by omega) (by omega) hL ?_
  refine wi_aload_n (i := 3) (x := 259) (nx := 542) (r1 := 0) (r2 := 0) (r3 := 0) rfl rfl ?_
  refine wi_S (rest := []) (as := [.ref 0, vi ((xs i28).toInt), .ref 259]) (nx := 545) (r1 := 7) (r2 := 19) (r3 := 0) rfl rfl rfl (of_decide_eq_true rfl) rfl rfl (of_decide_eq_true rfl) (of_decide_eq_true rfl) ?_
  refine wi_aload_n (i := 2) (x := 259) (nx := 1) (r1 := 0) (r2 := 0) (r3 := 0) rfl rfl ?_
  refine wi_iconst (n := 0) (nx := 2) (r1 := 0) (r2 := 0) (r3 := 0) rfl ?_
  refine wi_aload_n (i := 0) (x := 0) (nx := 3) (r1 := 0) (r2 := 0) (r3 := 0) rfl rfl ?_
  refine wi_iload_n (i := 1) (e := (xs i28).toInt) (nx := 4) (r1 := 0) (r2 := 0) (r3 := 0) rfl rfl ?_
  refine wr_V (k0 := 0) (rest := [vi 0, .ref 259]) (as := [.ref 0, vi ((xs i28).toInt)]) (nx := 7) (r1 := 67) (r2 := 1) (r3 := 0) rfl rfl rfl (of_decide_eq_true rfl) rfl rfl (by decide) rfl rfl (of_decide_eq_true rfl) (of_decide_eq_true rfl) ?_
  refine ct_67_0 hcr hr  g ((xs i28).toInt) (by omega)  (fun z31  (fz31 : -2147483648 ≤ z31 ∧ z31 ≤ 2147483647) => ?_) ?_
  ·
    refine wk_i ?_
    refine wi_i2l (nx := 8) (r1 := 0) (r2 := 0) (r3 := 0) rfl (by omega) ?_
    refine wr_ls (k0 := 259) (a := 0) (f := 0) (x := z31) (bl := -9223372036854775808) (bh := 9223372036854775807) (nx := 9) (r1 := 0) (r2 := 0) (r3 := 0) rfl (by decide) rfl (by omega) (by omega) (by decide) g rfl (by omega) (fun h32 g32 w32 u32 => ?_)
    refine wi_goto (nx := 12) (r1 := 15) (r2 := 0) (r3 := 0) rfl ?_
    refine wi_iconst (n := 0) (nx := 16) (r1 := 0) (r2 := 0) (r3 := 0) rfl ?_
    refine wi_ireturn (nx := 17) (r1 := 0) (r2 := 0) (r3 := 0) rfl rfl ?_
    refine wk_i ?_
    refine wi_istore (i := 5) (e := 0) (lo2 := [(5, vi 0), (0, .ref 1000000), (1, .ref 0), (2, .ref 236), (3, .ref 259), (4, vi i)]) (nx := 547) (r1 := 0) (r2 := 0) (r3 := 0) rfl rfl ?_
    refine wi_aload_n (i := 2) (x := 236) (nx := 548) (r1 := 0) (r2 := 0) (r3 := 0) rfl rfl ?_
    refine wi_aload_n (i := 0) (x := 1000000) (nx := 549) (r1 := 0) (r2 := 0) (r3 := 0) rfl rfl ?_
    refine wi_iload (i := 4) (e := i) (nx := 551) (r1 := 0) (r2 := 0) (r3 := 0) rfl rfl ?_
    refine wi_iconst (n := 1) (nx := 552) (r1 := 0) (r2 := 0) (r3 := 0) rfl ?_
    refine wr_add (nx := 553) (r1 := 0) (r2 := 0) (r3 := 0) rfl (fun e33 (fe33 : e33 = i + 1) => ?_)
    refine wr_sc (a := e33) (f := i28) (nx := 554) (r1 := 0) (r2 := 0) (r3 := 0) rfl (by omega) (by omega) hL ?_
    refine wr_V (k0 := 236) (rest := []) (as := [.ref 236, vi ((xs i28).toInt)]) (nx := 557) (r1 := 241) (r2 := 1) (r3 := 11) rfl rfl rfl (of_decide_eq_true rfl) rfl rfl (by decide) rfl rfl (of_decide_eq_true rfl) (of_decide_eq_true rfl) ?_
    refine ct_241_236 hcr  g32 ((xs i28).toInt) (by omega)  (fun h34 z35 g34 u34 (fz35 : 0 ≤ z35 ∧ z35 ≤ 6) => ?_)
    refine wk_i ?_
    refine wi_istore (i := 6) (e := z35) (lo2 := [(6, vi z35), (5, vi 0), (0, .ref 1000000), (1, .ref 0), (2, .ref 236), (3, .ref 259), (4, vi i)]) (nx := 559) (r1 := 0) (r2 := 0) (r3 := 0) rfl rfl ?_
    refine wi_goto (nx := 562) (r1 := 1529) (r2 := 0) (r3 := 0) rfl ?_
    refine wp.lo (lo := [(0, .ref 1000000), (1, .ref 0), (2, .ref 236), (3, .ref 259), (4, vi i)]) ⟨rfl, rfl, rfl, rfl, rfl, trivial⟩ rfl ?_
    have e36 : h34 238 98 = h 238 98 := ((u34 238 98 rfl).trans (u32 238 98 rfl))
    have e37 : h34 238 99 = h 238 99 := ((u34 238 99 rfl).trans (u32 238 99 rfl))
    have e38 : h34 238 100 = h 238 100 := ((u34 238 100 rfl).trans (u32 238 100 rfl))
    have e39 : h34 238 101 = h 238 101 := ((u34 238 101 rfl).trans (u32 238 101 rfl))
    have e40 : h34 238 102 = h 238 102 := ((u34 238 102 rfl).trans (u32 238 102 rfl))
    have e41 : h34 238 106 = h 238 106 := ((u34 238 106 rfl).trans (u32 238 106 rfl))
    have e42 : h34 238 73 = h 238 73 := ((u34 238 73 rfl).trans (u32 238 73 rfl))
    have e43 : h34 238 2 = h 238 2 := ((u34 238 2 rfl).trans (u32 238 2 rfl))
    have e44 : h34 238 119 = h 238 119 := ((u34 238 119 rfl).trans (u32 238 119 rfl))
    have e45 : h34 238 67 = h 238 67 := ((u34 238 67 rfl).trans (u32 238 67 rfl))
    have e46 : h34 238 69 = h 238 69 := ((u34 238 69 rfl).trans (u32 238 69 rfl))
    have e47 : h34 238 5 = h 238 5 := ((u34 238 5 rfl).trans (u32 238 5 rfl))
    have e48 : h34 241 98 = h 241 98 := ((u34 241 98 rfl).trans (u32 241 98 rfl))
    have e49 : h34 241 99 = h 241 99 := ((u34 241 99 rfl).trans (u32 241 99 rfl))
    have e50 : h34 241 100 = h 241 100 := ((u34 241 100 rfl).trans (u32 241 100 rfl))
    have e51 : h34 241 101 = h 241 101 := ((u34 241 101 rfl).trans (u32 241 101 rfl))
    have e52 : h34 241 102 = h 241 102 := ((u34 241 102 rfl).trans (u32 241 102 rfl))
    have e53 : h34 241 106 = h 241 106 := ((u34 241 106 rfl).trans (u32 241 106 rfl))
    have e54 : h34 241 73 = h 241 73 := ((u34 241 73 rfl).trans (u32 241 73 rfl))
    have e55 : h34 241 2 = h 241 2 := ((u34 241 2 rfl).trans (u32 241 2 rfl))
    have e56 : h34 241 119 = h 241 119 := ((u34 241 119 rfl).trans (u32 241 119 rfl))
    have e57 : h34 241 67 = h 241 67 := ((u34 241 67 rfl).trans (u32 241 67 rfl))
    have e58 : h34 241 69 = h 241 69 := ((u34 241 69 rfl).trans (u32 241 69 rfl))
    have e59 : h34 241 5 = h 241 5 := ((u34 241 5 rfl).trans (u32 241 5 rfl))
    have e60 : h34 1 1 = h 1 1 := ((u34 1 1 rfl).trans (u32 1 1 rfl))
    have e61 : h34 236 2 = h 236 2 := ((u34 236 2 rfl).trans (u32 236 2 rfl))
    have gp62 := GPH.fr u32 rfl gp0
    have gp63 := GPH.fr u34 rfl gp62
    exact k h34 b c ⟨g34, (show h34 1 1 = h34 236 2 by omega), (RS.i0 (f := h34 238) (by refine ⟨?_, ?_, ?_, ?_, ?_⟩ <;> omega)), (RS.i0 (f := h34 241) (by refine ⟨?_, ?_, ?_, ?_, ?_⟩ <;> omega)), gp63⟩ (by omega) (by omega)
  ·
    refine wk_h 12 (by decide) rfl ?_
    refine wr_astx (i := 3) (lo2 := [(3, .retAddr 0), (0, .ref 0), (1, vi ((xs i28).toInt)), (2, .ref 259)]) (nx := 13) (r1 := 0) (r2 := 0) (r3 := 0) rfl rfl ?_
    refine wi_iconst (n := 1) (nx := 14) (r1 := 0) (r2 := 0) (r3 := 0) rfl ?_
    refine wi_ireturn (nx := 15) (r1 := 0) (r2 := 0) (r3 := 0) rfl rfl ?_
    refine wk_i ?_
    refine wi_istore (i := 5) (e := 1) (lo2 := [(5, vi 1), (0, .ref 1000000), (1, .ref 0), (2, .ref 236), (3, .ref 259), (4, vi i)]) (nx := 547) (r1 := 0) (r2 := 0) (r3 := 0) rfl rfl ?_
    refine wi_aload_n (i := 2) (x := 236) (nx := 548) (r1 := 0) (r2 := 0) (r3 := 0) rfl rfl ?_
    refine wi_aload_n (i := 0) (x := 1000000) (nx := 549) (r1 := 0) (r2 := 0) (r3 := 0) rfl rfl ?_
    refine wi_iload (i := 4) (e := i) (nx := 551) (r1 := 0) (r2 := 0) (r3 := 0) rfl rfl ?_
    refine wi_iconst (n := 1) (nx := 552) (r1 := 0) (r2 := 0) (r3 := 0) rfl ?_
    refine wr_add (nx := 553) (r1 := 0) (r2 := 0) (r3 := 0) rfl (fun e32 (fe32 : e32 = i + 1) => ?_)
    refine wr_sc (a := e32) (f := i28) (nx := 554) (r1 := 0) (r2 := 0) (r3 := 0) rfl (by omega) (by omega) hL ?_
    refine wr_V (k0 := 236) (rest := []) (as := [.ref 236, vi ((xs i28).toInt)]) (nx := 557) (r1 := 241) (r2 := 1) (r3 := 11) rfl rfl rfl (of_decide_eq_true rfl) rfl rfl (by decide) rfl rfl (of_decide_eq_true rfl) (of_decide_eq_true rfl) ?_
    refine ct_241_236 hcr  g ((xs i28).toInt) (by omega)  (fun h33 z34 g33 u33 (fz34 : 0 ≤ z34 ∧ z34 ≤ 6) => ?_)
    refine wk_i ?_
    refine wi_istore (i := 6) (e := z34) (lo2 := [(6, vi z34), (5, vi 1), (0, .ref 1000000), (1, .ref 0), (2, .ref 236), (3, .ref 259), (4, vi i)]) (nx := 559) (r1 := 0) (r2 := 0) (r3 := 0) rfl rfl ?_
    refine wi_goto (nx := 562) (r1 := 1529) (r2 := 0) (r3 := 0) rfl ?_
    refine wp.lo (lo := [(0, .ref 1000000), (1, .ref 0), (2, .ref 236), (3, .ref 259), (4, vi i)]) ⟨rfl, rfl, rfl, rfl, rfl, trivial⟩ rfl ?_
    have e35 : h33 238 98 = h 238 98 := (u33 238 98 rfl)
    have e36 : h33 238 99 = h 238 99 := (u33 238 99 rfl)
    have e37 : h33 238 100 = h 238 100 := (u33 238 100 rfl)
    have e38 : h33 238 101 = h 238 101 := (u33 238 101 rfl)
    have e39 : h33 238 102 = h 238 102 := (u33 238 102 rfl)
    have e40 : h33 238 106 = h 238 106 := (u33 238 106 rfl)
    have e41 : h33 238 73 = h 238 73 := (u33 238 73 rfl)
    have e42 : h33 238 2 = h 238 2 := (u33 238 2 rfl)
    have e43 : h33 238 119 = h 238 119 := (u33 238 119 rfl)
    have e44 : h33 238 67 = h 238 67 := (u33 238 67 rfl)
    have e45 : h33 238 69 = h 238 69 := (u33 238 69 rfl)
    have e46 : h33 238 5 = h 238 5 := (u33 238 5 rfl)
    have e47 : h33 241 98 = h 241 98 := (u33 241 98 rfl)
    have e48 : h33 241 99 = h 241 99 := (u33 241 99 rfl)
    have e49 : h33 241 100 = h 241 100 := (u33 241 100 rfl)
    have e50 : h33 241 101 = h 241 101 := (u33 241 101 rfl)
    have e51 : h33 241 102 = h 241 102 := (u33 241 102 rfl)
    have e52 : h33 241 106 = h 241 106 := (u33 241 106 rfl)
    have e53 : h33 241 73 = h 241 73 := (u33 241 73 rfl)
    have e54 : h33 241 2 = h 241 2 := (u33 241 2 rfl)
    have e55 : h33 241 119 = h 241 119 := (u33 241 119 rfl)
    have e56 : h33 241 67 = h 241 67 := (u33 241 67 rfl)
    have e57 : h33 241 69 = h 241 69 := (u33 241 69 rfl)
    have e58 : h33 241 5 = h 241 5 := (u33 241 5 rfl)
    have e59 : h33 1 1 = h 1 1 := (u33 1 1 rfl)
    have e60 : h33 236 2 = h 236 2 := (u33 236 2 rfl)
    have gp61 := GPH.fr u33 rfl gp0
    exact k h33 (b - 1) (c - 6) ⟨g33, (show h33 1 1 = h33 236 2 by omega), (RS.i0 (f := h33 238) (by refine ⟨?_, ?_, ?_, ?_, ?_⟩ <;> omega)), (RS.i0 (f := h33 241) (by refine ⟨?_, ?_, ?_, ?_, ?_⟩ <;> omega)), gp61⟩ (by omega) (by omega)
-- the law, case at 562
set_option maxRecDepth 100000 in
set_option maxHeartbeats 100000000 in
theorem lc_562 {L : Nat} {xs : Nat → Int32} {d b c : Nat} {h : hp} {cr : Nat → Nat → Option Nat} {Q : hp_Q} (hcr : CR cr) (hL : L ≤ 3072) (hr : 1 ≤ b ∧ 6 ≤ c) (I : LI h) (i : Int) (hi : 0 ≤ i ∧ i + 6 ≤ L) (k : ∀ (h2 : hp) (b2 c2 : Nat), LI h2 → b ≤ b2 + 1 → c ≤ c2 + 6 → wp (md_xa (L, xs)) (d + 107) 0 (1529, [(0, .ref 1000000), (1, .ref 0), (2, .ref 236), (3, .ref 259), (4, vi i)], [], hp_w h2 cr, b2, c2) Q) : wp (md_xa (L, xs)) (d + 107) 0 (562, [(0, .ref 1000000), (1, .ref 0), (2, .ref 236), (3, .ref 259), (4, vi i)], [], hp_w h cr, b, c) Q := by
  obtain ⟨g, i11, r238, r241, gp0⟩ := I
  have r238e := r238.e0
  have r241e := r241.e0
  have b1 := gi_b (lo := 0) (hi := 6) g 238 98 rfl
  have b2 := gi_b (lo := 0) (hi := 6) g 238 99 rfl
  have b3 := gi_b (lo := 0) (hi := 6) g 238 100 rfl
  have b4 := gi_b (lo := 0) (hi := 6) g 238 101 rfl
  have b5 := gi_b (lo := 0) (hi := 3) g 238 102 rfl
  have b6 := gi_b (lo := 0) (hi := 12) g 238 106 rfl
  have b7 := gi_b (lo := 0) (hi := 12) g 238 73 rfl
  have b8 := gi_b (lo := 0) (hi := 12) g 238 2 rfl
  have b9 := gi_b (lo := 0) (hi := 9999) g 238 119 rfl
  have b10 := gi_b (lo := 0) (hi := 9999) g 238 67 rfl
  have b11 := gi_b (lo := 0) (hi := 9) g 238 69 rfl
  have b12 := gi_b (lo := 0) (hi := 9) g 238 5 rfl
  have b13 := gi_b (lo := 0) (hi := 6) g 241 98 rfl
  have b14 := gi_b (lo := 0) (hi := 6) g 241 99 rfl
  have b15 := gi_b (lo := 0) (hi := 6) g 241 100 rfl
  have b16 := gi_b (lo := 0) (hi := 6) g 241 101 rfl
  have b17 := gi_b (lo := 0) (hi := 3) g 241 102 rfl
  have b18 := gi_b (lo := 0) (hi := 12) g 241 106 rfl
  have b19 := gi_b (lo := 0) (hi := 12) g 241 73 rfl
  have b20 := gi_b (lo := 0) (hi := 12) g 241 2 rfl
  have b21 := gi_b (lo := 0) (hi := 9999) g 241 119 rfl
  have b22 := gi_b (lo := 0) (hi := 9999) g 241 67 rfl
  have b23 := gi_b (lo := 0) (hi := 9) g 241 69 rfl
  have b24 := gi_b (lo := 0) (hi := 9) g 241 5 rfl
  have b25 := gi_b (lo := 0) (hi := 800) g 1 1 rfl
  have b26 := gi_b (lo := 0) (hi := 800) g 236 2 rfl
  refine wi_aload_n (i := 1) (x := 0) (nx := 563) (r1 := 0) (r2 := 0) (r3 := 0) rfl rfl ?_
  refine wi_aload_n (i := 0) (x := 1000000) (nx := 564) (r1 := 0) (r2 := 0) (r3 := 0) rfl rfl ?_
  refine wi_iload (i := 4) (e := i) (nx := 566) (r1 := 0) (r2 := 0) (r3 := 0) rfl rfl ?_
  refine wi_iconst (n := 1) (nx := 567) (r1 := 0) (r2 := 0) (r3 := 0) rfl ?_
  refine wr_add (nx := 568) (r1 := 0) (r2 := 0) (r3 := 0) rfl (fun e27 (fe27 : e27 = i + 1) => ?_)
  obtain ⟨i28, ei28⟩ : ∃ q : Nat, e27 = (q : Int) := ⟨(e27).toNat, by omega⟩
  have s29 := sc_b (xs i28)
  refine wr_sc (a := e27) (f := i28) (nx := 569) (r1 := 0) (r2 := 0) (r3 := 0) rfl (by omega) (by omega) hL ?_
  refine wi_aload_n (i := 3) (x := 259) (nx := 570) (r1 := 0) (r2 := 0) (r3 := 0) rfl rfl ?_
  refine wi_S (rest := []) (as := [.ref 0, vi ((xs i28).toInt), .ref 259]) (nx := 573) (r1 := 8) (r2 := 19) (r3 := 0) rfl rfl rfl (of_decide_eq_true rfl) rfl rfl (of_decide_eq_true rfl) (of_decide_eq_true rfl) ?_
  refine wi_aload_n (i := 2) (x := 259) (nx := 1) (r1 := 0) (r2 := 0) (r3 := 0) rfl rfl ?_
  refine wi_iconst (n := 0) (nx := 2) (r1 := 0) (r2 := 0) (r3 := 0) rfl ?_
  refine wi_aload_n (i := 0) (x := 0) (nx := 3) (r1 := 0) (r2 := 0) (r3 := 0) rfl rfl ?_
  refine wi_iload_n (i := 1) (e := (xs i28).toInt) (nx := 4) (r1 := 0) (r2 := 0) (r3 := 0) rfl rfl ?_
  refine wr_V (k0 := 0) (rest := [vi 0, .ref 259]) (as := [.ref 0, vi ((xs i28).toInt)]) (nx := 7) (r1 := 69) (r2 := 1) (r3 := 0) rfl rfl rfl (of_decide_eq_true rfl) rfl rfl (by decide) rfl rfl (of_decide_eq_true rfl) (of_decide_eq_true rfl) ?_
  refine ct_69_0 hcr hr  g ((xs i28).toInt) (by omega)  (fun z31  (fz31 : -2147483648 ≤ z31 ∧ z31 ≤ 2147483647) => ?_) ?_
  ·
    refine wk_i ?_
    refine wi_i2l (nx := 8) (r1 := 0) (r2 := 0) (r3 := 0) rfl (by omega) ?_
    refine wr_ls (k0 := 259) (a := 0) (f := 0) (x := z31) (bl := -9223372036854775808) (bh := 9223372036854775807) (nx := 9) (r1 := 0) (r2 := 0) (r3 := 0) rfl (by decide) rfl (by omega) (by omega) (by decide) g rfl (by omega) (fun h32 g32 w32 u32 => ?_)
    refine wi_goto (nx := 12) (r1 := 15) (r2 := 0) (r3 := 0) rfl ?_
    refine wi_iconst (n := 0) (nx := 16) (r1 := 0) (r2 := 0) (r3 := 0) rfl ?_
    refine wi_ireturn (nx := 17) (r1 := 0) (r2 := 0) (r3 := 0) rfl rfl ?_
    refine wk_i ?_
    refine wi_istore (i := 5) (e := 0) (lo2 := [(5, vi 0), (0, .ref 1000000), (1, .ref 0), (2, .ref 236), (3, .ref 259), (4, vi i)]) (nx := 575) (r1 := 0) (r2 := 0) (r3 := 0) rfl rfl ?_
    refine wi_aload_n (i := 2) (x := 236) (nx := 576) (r1 := 0) (r2 := 0) (r3 := 0) rfl rfl ?_
    refine wi_aload_n (i := 0) (x := 1000000) (nx := 577) (r1 := 0) (r2 := 0) (r3 := 0) rfl rfl ?_
    refine wi_iload (i := 4) (e := i) (nx := 579) (r1 := 0) (r2 := 0) (r3 := 0) rfl rfl ?_
    refine wi_iconst (n := 1) (nx := 580) (r1 := 0) (r2 := 0) (r3 := 0) rfl ?_
    refine wr_add (nx := 581) (r1 := 0) (r2 := 0) (r3 := 0) rfl (fun e33 (fe33 : e33 = i + 1) => ?_)
    refine wr_sc (a := e33) (f := i28) (nx := 582) (r1 := 0) (r2 := 0) (r3 := 0) rfl (by omega) (by omega) hL ?_
    refine wr_V (k0 := 236) (rest := []) (as := [.ref 236, vi ((xs i28).toInt)]) (nx := 585) (r1 := 243) (r2 := 1) (r3 := 11) rfl rfl rfl (of_decide_eq_true rfl) rfl rfl (by decide) rfl rfl (of_decide_eq_true rfl) (of_decide_eq_true rfl) ?_
    refine ct_243_236 hcr  g32 ((xs i28).toInt) (by omega)  (fun h34 z35 g34 u34 (fz35 : 0 ≤ z35 ∧ z35 ≤ 999) => ?_)
    refine wk_i ?_
    refine wi_istore (i := 6) (e := z35) (lo2 := [(6, vi z35), (5, vi 0), (0, .ref 1000000), (1, .ref 0), (2, .ref 236), (3, .ref 259), (4, vi i)]) (nx := 587) (r1 := 0) (r2 := 0) (r3 := 0) rfl rfl ?_
    refine wi_goto (nx := 590) (r1 := 1529) (r2 := 0) (r3 := 0) rfl ?_
    refine wp.lo (lo := [(0, .ref 1000000), (1, .ref 0), (2, .ref 236), (3, .ref 259), (4, vi i)]) ⟨rfl, rfl, rfl, rfl, rfl, trivial⟩ rfl ?_
    have e36 : h34 238 98 = h 238 98 := ((u34 238 98 rfl).trans (u32 238 98 rfl))
    have e37 : h34 238 99 = h 238 99 := ((u34 238 99 rfl).trans (u32 238 99 rfl))
    have e38 : h34 238 100 = h 238 100 := ((u34 238 100 rfl).trans (u32 238 100 rfl))
    have e39 : h34 238 101 = h 238 101 := ((u34 238 101 rfl).trans (u32 238 101 rfl))
    have e40 : h34 238 102 = h 238 102 := ((u34 238 102 rfl).trans (u32 238 102 rfl))
    have e41 : h34 238 106 = h 238 106 := ((u34 238 106 rfl).trans (u32 238 106 rfl))
    have e42 : h34 238 73 = h 238 73 := ((u34 238 73 rfl).trans (u32 238 73 rfl))
    have e43 : h34 238 2 = h 238 2 := ((u34 238 2 rfl).trans (u32 238 2 rfl))
    have e44 : h34 238 119 = h 238 119 := ((u34 238 119 rfl).trans (u32 238 119 rfl))
    have e45 : h34 238 67 = h 238 67 := ((u34 238 67 rfl).trans (u32 238 67 rfl))
    have e46 : h34 238 69 = h 238 69 := ((u34 238 69 rfl).trans (u32 238 69 rfl))
    have e47 : h34 238 5 = h 238 5 := ((u34 238 5 rfl).trans (u32 238 5 rfl))
    have e48 : h34 241 98 = h 241 98 := ((u34 241 98 rfl).trans (u32 241 98 rfl))
    have e49 : h34 241 99 = h 241 99 := ((u34 241 99 rfl).trans (u32 241 99 rfl))
    have e50 : h34 241 100 = h 241 100 := ((u34 241 100 rfl).trans (u32 241 100 rfl))
    have e51 : h34 241 101 = h 241 101 := ((u34 241 101 rfl).trans (u32 241 101 rfl))
    have e52 : h34 241 102 = h 241 102 := ((u34 241 102 rfl).trans (u32 241 102 rfl))
    have e53 : h34 241 106 = h 241 106 := ((u34 241 106 rfl).trans (u32 241 106 rfl))
    have e54 : h34 241 73 = h 241 73 := ((u34 241 73 rfl).trans (u32 241 73 rfl))
    have e55 : h34 241 2 = h 241 2 := ((u34 241 2 rfl).trans (u32 241 2 rfl))
    have e56 : h34 241 119 = h 241 119 := ((u34 241 119 rfl).trans (u32 241 119 rfl))
    have e57 : h34 241 67 = h 241 67 := ((u34 241 67 rfl).trans (u32 241 67 rfl))
    have e58 : h34 241 69 = h 241 69 := ((u34 241 69 rfl).trans (u32 241 69 rfl))
    have e59 : h34 241 5 = h 241 5 := ((u34 241 5 rfl).trans (u32 241 5 rfl))
    have e60 : h34 1 1 = h 1 1 := ((u34 1 1 rfl).trans (u32 1 1 rfl))
    have e61 : h34 236 2 = h 236 2 := ((u34 236 2 rfl).trans (u32 236 2 rfl))
    have gp62 := GPH.fr u32 rfl gp0
    have gp63 := GPH.fr u34 rfl gp62
    exact k h34 b c ⟨g34, (show h34 1 1 = h34 236 2 by omega), (RS.i0 (f := h34 238) (by refine ⟨?_, ?_, ?_, ?_, ?_⟩ <;> omega)), (RS.i0 (f := h34 241) (by refine ⟨?_, ?_, ?_, ?_, ?_⟩ <;> omega)), gp63⟩ (by omega) (by omega)
  ·
    refine wk_h 12 (by decide) rfl ?_
    refine wr_astx (i := 3) (lo2 := [(3, .retAddr 0), (0, .ref 0), (1, vi ((xs i28).toInt)), (2, .ref 259)]) (nx := 13) (r1 := 0) (r2 := 0) (r3 := 0) rfl rfl ?_
    refine wi_iconst (n := 1) (nx := 14) (r1 := 0) (r2 := 0) (r3 := 0) rfl ?_
    refine wi_ireturn (nx := 15) (r1 := 0) (r2 := 0) (r3 := 0) rfl rfl ?_
    refine wk_i ?_
    refine wi_istore (i := 5) (e := 1) (lo2 := [(5, vi 1), (0, .ref 1000000), (1, .ref 0), (2, .ref 236), (3, .ref 259), (4, vi i)]) (nx := 575) (r1 := 0) (r2 := 0) (r3 := 0) rfl rfl ?_
    refine wi_aload_n (i := 2) (x := 236) (nx := 576) (r1 := 0) (r2 := 0) (r3 := 0) rfl rfl ?_
    refine wi_aload_n (i := 0) (x := 1000000) (nx := 577) (r1 := 0) (r2 := 0) (r3 := 0) rfl rfl ?_
    refine wi_iload (i := 4) (e := i) (nx := 579) (r1 := 0) (r2 := 0) (r3 := 0) rfl rfl ?_
    refine wi_iconst (n := 1) (nx := 580) (r1 := 0) (r2 := 0) (r3 := 0) rfl ?_
    refine wr_add (nx := 581) (r1 := 0) (r2 := 0) (r3 := 0) rfl (fun e32 (fe32 : e32 = i + 1) => ?_)
    refine wr_sc (a := e32) (f := i28) (nx := 582) (r1 := 0) (r2 := 0) (r3 := 0) rfl (by omega) (by omega) hL ?_
    refine wr_V (k0 := 236) (rest := []) (as := [.ref 236, vi ((xs i28).toInt)]) (nx := 585) (r1 := 243) (r2 := 1) (r3 := 11) rfl rfl rfl (of_decide_eq_true rfl) rfl rfl (by decide) rfl rfl (of_decide_eq_true rfl) (of_decide_eq_true rfl) ?_
    refine ct_243_236 hcr  g ((xs i28).toInt) (by omega)  (fun h33 z34 g33 u33 (fz34 : 0 ≤ z34 ∧ z34 ≤ 999) => ?_)
    refine wk_i ?_
    refine wi_istore (i := 6) (e := z34) (lo2 := [(6, vi z34), (5, vi 1), (0, .ref 1000000), (1, .ref 0), (2, .ref 236), (3, .ref 259), (4, vi i)]) (nx := 587) (r1 := 0) (r2 := 0) (r3 := 0) rfl rfl ?_
    refine wi_goto (nx := 590) (r1 := 1529) (r2 := 0) (r3 := 0) rfl ?_
    refine wp.lo (lo := [(0, .ref 1000000), (1, .ref 0), (2, .ref 236), (3, .ref 259), (4, vi i)]) ⟨rfl, rfl, rfl, rfl, rfl, trivial⟩ rfl ?_
    have e35 : h33 238 98 = h 238 98 := (u33 238 98 rfl)
    have e36 : h33 238 99 = h 238 99 := (u33 238 99 rfl)
    have e37 : h33 238 100 = h 238 100 := (u33 238 100 rfl)
    have e38 : h33 238 101 = h 238 101 := (u33 238 101 rfl)
    have e39 : h33 238 102 = h 238 102 := (u33 238 102 rfl)
    have e40 : h33 238 106 = h 238 106 := (u33 238 106 rfl)
    have e41 : h33 238 73 = h 238 73 := (u33 238 73 rfl)
    have e42 : h33 238 2 = h 238 2 := (u33 238 2 rfl)
    have e43 : h33 238 119 = h 238 119 := (u33 238 119 rfl)
    have e44 : h33 238 67 = h 238 67 := (u33 238 67 rfl)
    have e45 : h33 238 69 = h 238 69 := (u33 238 69 rfl)
    have e46 : h33 238 5 = h 238 5 := (u33 238 5 rfl)
    have e47 : h33 241 98 = h 241 98 := (u33 241 98 rfl)
    have e48 : h33 241 99 = h 241 99 := (u33 241 99 rfl)
    have e49 : h33 241 100 = h 241 100 := (u33 241 100 rfl)
    have e50 : h33 241 101 = h 241 101 := (u33 241 101 rfl)
    have e51 : h33 241 102 = h 241 102 := (u33 241 102 rfl)
    have e52 : h33 241 106 = h 241 106 := (u33 241 106 rfl)
    have e53 : h33 241 73 = h 241 73 := (u33 241 73 rfl)
    have e54 : h33 241 2 = h 241 2 := (u33 241 2 rfl)
    have e55 : h33 241 119 = h 241 119 := (u33 241 119 rfl)
    have e56 : h33 241 67 = h 241 67 := (u33 241 67 rfl)
    have e57 : h33 241 69 = h 241 69 := (u33 241 69 rfl)
    have e58 : h33 241 5 = h 241 5 := (u33 241 5 rfl)
    have e59 : h33 1 1 = h 1 1 := (u33 1 1 rfl)
    have e60 : h33 236 2 = h 236 2 := (u33 236 2 rfl)
    have gp61 := GPH.fr u33 rfl gp0
    exact k h33 (b - 1) (c - 6) ⟨g33, (show h33 1 1 = h33 236 2 by omega), (RS.i0 (f := h33 238) (by refine ⟨?_, ?_, ?_, ?_, ?_⟩ <;> omega)), (RS.i0 (f := h33 241) (by refine ⟨?_, ?_, ?_, ?_, ?_⟩ <;> omega)), gp61⟩ (by omega) (by omega)
-- the law, case at 590
set_option maxRecDepth 100000 in
set_option maxHeartbeats 100000000 in
theorem lc_590 {L : Nat} {xs : Nat → Int32} {d b c : Nat} {h : hp} {cr : Nat → Nat → Option Nat} {Q : hp_Q} (hcr : CR cr) (hL : L ≤ 3072) (hr : 1 ≤ b ∧ 6 ≤ c) (I : LI h) (i : Int) (hi : 0 ≤ i ∧ i + 6 ≤ L) (k : ∀ (h2 : hp) (b2 c2 : Nat), LI h2 → b ≤ b2 + 1 → c ≤ c2 + 6 → wp (md_xa (L, xs)) (d + 107) 0 (1529, [(0, .ref 1000000), (1, .ref 0), (2, .ref 236), (3, .ref 259), (4, vi i)], [], hp_w h2 cr, b2, c2) Q) : wp (md_xa (L, xs)) (d + 107) 0 (590, [(0, .ref 1000000), (1, .ref 0), (2, .ref 236), (3, .ref 259), (4, vi i)], [], hp_w h cr, b, c) Q := by
  obtain ⟨g, i11, r238, r241, gp0⟩ := I
  have r238e := r238.e0
  have r241e := r241.e0
  have b1 := gi_b (lo := 0) (hi := 6) g 238 98 rfl
  have b2 := gi_b (lo := 0) (hi := 6) g 238 99 rfl
  have b3 := gi_b (lo := 0) (hi := 6) g 238 100 rfl
  have b4 := gi_b (lo := 0) (hi := 6) g 238 101 rfl
  have b5 := gi_b (lo := 0) (hi := 3) g 238 102 rfl
  have b6 := gi_b (lo := 0) (hi := 12) g 238 106 rfl
  have b7 := gi_b (lo := 0) (hi := 12) g 238 73 rfl
  have b8 := gi_b (lo := 0) (hi := 12) g 238 2 rfl
  have b9 := gi_b (lo := 0) (hi := 9999) g 238 119 rfl
  have b10 := gi_b (lo := 0) (hi := 9999) g 238 67 rfl
  have b11 := gi_b (lo := 0) (hi := 9) g 238 69 rfl
  have b12 := gi_b (lo := 0) (hi := 9) g 238 5 rfl
  have b13 := gi_b (lo := 0) (hi := 6) g 241 98 rfl
  have b14 := gi_b (lo := 0) (hi := 6) g 241 99 rfl
  have b15 := gi_b (lo := 0) (hi := 6) g 241 100 rfl
  have b16 := gi_b (lo := 0) (hi := 6) g 241 101 rfl
  have b17 := gi_b (lo := 0) (hi := 3) g 241 102 rfl
  have b18 := gi_b (lo := 0) (hi := 12) g 241 106 rfl
  have b19 := gi_b (lo := 0) (hi := 12) g 241 73 rfl
  have b20 := gi_b (lo := 0) (hi := 12) g 241 2 rfl
  have b21 := gi_b (lo := 0) (hi := 9999) g 241 119 rfl
  have b22 := gi_b (lo := 0) (hi := 9999) g 241 67 rfl
  have b23 := gi_b (lo := 0) (hi := 9) g 241 69 rfl
  have b24 := gi_b (lo := 0) (hi := 9) g 241 5 rfl
  have b25 := gi_b (lo := 0) (hi := 800) g 1 1 rfl
  have b26 := gi_b (lo := 0) (hi := 800) g 236 2 rfl
  refine wi_aload_n (i := 1) (x := 0) (nx := 591) (r1 := 0) (r2 := 0) (r3 := 0) rfl rfl ?_
  refine wi_aload_n (i := 0) (x := 1000000) (nx := 592) (r1 := 0) (r2 := 0) (r3 := 0) rfl rfl ?_
  refine wi_iload (i := 4) (e := i) (nx := 594) (r1 := 0) (r2 := 0) (r3 := 0) rfl rfl ?_
  refine wi_iconst (n := 1) (nx := 595) (r1 := 0) (r2 := 0) (r3 := 0) rfl ?_
  refine wr_add (nx := 596) (r1 := 0) (r2 := 0) (r3 := 0) rfl (fun e27 (fe27 : e27 = i + 1) => ?_)
  obtain ⟨i28, ei28⟩ : ∃ q : Nat, e27 = (q : Int) := ⟨(e27).toNat, by omega⟩
  have s29 := sc_b (xs i28)
  refine wr_sc (a := e27) (f := i28) (nx := 597) (r1 := 0) (r2 := 0) (r3 := 0) rfl (by omega) (by omega) hL ?_
  refine wi_aload_n (i := 3) (x := 259) (nx := 598) (r1 := 0) (r2 := 0) (r3 := 0) rfl rfl ?_
  refine wi_S (rest := []) (as := [.ref 0, vi ((xs i28).toInt), .ref 259]) (nx := 601) (r1 := 9) (r2 := 19) (r3 := 0) rfl rfl rfl (of_decide_eq_true rfl) rfl rfl (of_decide_eq_true rfl) (of_decide_eq_true rfl) ?_
  refine wi_aload_n (i := 2) (x := 259) (nx := 1) (r1 := 0) (r2 := 0) (r3 := 0) rfl rfl ?_
  refine wi_iconst (n := 0) (nx := 2) (r1 := 0) (r2 := 0) (r3 := 0) rfl ?_
  refine wi_aload_n (i := 0) (x := 0) (nx := 3) (r1 := 0) (r2 := 0) (r3 := 0) rfl rfl ?_
  refine wi_iload_n (i := 1) (e := (xs i28).toInt) (nx := 4) (r1 := 0) (r2 := 0) (r3 := 0) rfl rfl ?_
  refine wr_V (k0 := 0) (rest := [vi 0, .ref 259]) (as := [.ref 0, vi ((xs i28).toInt)]) (nx := 7) (r1 := 71) (r2 := 1) (r3 := 0) rfl rfl rfl (of_decide_eq_true rfl) rfl rfl (by decide) rfl rfl (of_decide_eq_true rfl) (of_decide_eq_true rfl) ?_
  refine ct_71_0 hcr hr  g ((xs i28).toInt) (by omega)  (fun z31  (fz31 : -2147483648 ≤ z31 ∧ z31 ≤ 2147483647) => ?_) ?_
  ·
    refine wk_i ?_
    refine wi_i2l (nx := 8) (r1 := 0) (r2 := 0) (r3 := 0) rfl (by omega) ?_
    refine wr_ls (k0 := 259) (a := 0) (f := 0) (x := z31) (bl := -9223372036854775808) (bh := 9223372036854775807) (nx := 9) (r1 := 0) (r2 := 0) (r3 := 0) rfl (by decide) rfl (by omega) (by omega) (by decide) g rfl (by omega) (fun h32 g32 w32 u32 => ?_)
    refine wi_goto (nx := 12) (r1 := 15) (r2 := 0) (r3 := 0) rfl ?_
    refine wi_iconst (n := 0) (nx := 16) (r1 := 0) (r2 := 0) (r3 := 0) rfl ?_
    refine wi_ireturn (nx := 17) (r1 := 0) (r2 := 0) (r3 := 0) rfl rfl ?_
    refine wk_i ?_
    refine wi_istore (i := 5) (e := 0) (lo2 := [(5, vi 0), (0, .ref 1000000), (1, .ref 0), (2, .ref 236), (3, .ref 259), (4, vi i)]) (nx := 603) (r1 := 0) (r2 := 0) (r3 := 0) rfl rfl ?_
    refine wi_aload_n (i := 2) (x := 236) (nx := 604) (r1 := 0) (r2 := 0) (r3 := 0) rfl rfl ?_
    refine wi_aload_n (i := 0) (x := 1000000) (nx := 605) (r1 := 0) (r2 := 0) (r3 := 0) rfl rfl ?_
    refine wi_iload (i := 4) (e := i) (nx := 607) (r1 := 0) (r2 := 0) (r3 := 0) rfl rfl ?_
    refine wi_iconst (n := 1) (nx := 608) (r1 := 0) (r2 := 0) (r3 := 0) rfl ?_
    refine wr_add (nx := 609) (r1 := 0) (r2 := 0) (r3 := 0) rfl (fun e33 (fe33 : e33 = i + 1) => ?_)
    refine wr_sc (a := e33) (f := i28) (nx := 610) (r1 := 0) (r2 := 0) (r3 := 0) rfl (by omega) (by omega) hL ?_
    refine wr_V (k0 := 236) (rest := []) (as := [.ref 236, vi ((xs i28).toInt)]) (nx := 613) (r1 := 245) (r2 := 1) (r3 := 11) rfl rfl rfl (of_decide_eq_true rfl) rfl rfl (by decide) rfl rfl (of_decide_eq_true rfl) (of_decide_eq_true rfl) ?_
    refine ct_245_236 hcr  g32 ((xs i28).toInt) (by omega)  (fun h34 z35 g34 u34 (fz35 : 0 ≤ z35 ∧ z35 ≤ 4) => ?_)
    refine wk_i ?_
    refine wi_istore (i := 6) (e := z35) (lo2 := [(6, vi z35), (5, vi 0), (0, .ref 1000000), (1, .ref 0), (2, .ref 236), (3, .ref 259), (4, vi i)]) (nx := 615) (r1 := 0) (r2 := 0) (r3 := 0) rfl rfl ?_
    refine wi_goto (nx := 618) (r1 := 1529) (r2 := 0) (r3 := 0) rfl ?_
    refine wp.lo (lo := [(0, .ref 1000000), (1, .ref 0), (2, .ref 236), (3, .ref 259), (4, vi i)]) ⟨rfl, rfl, rfl, rfl, rfl, trivial⟩ rfl ?_
    have e36 : h34 238 98 = h 238 98 := ((u34 238 98 rfl).trans (u32 238 98 rfl))
    have e37 : h34 238 99 = h 238 99 := ((u34 238 99 rfl).trans (u32 238 99 rfl))
    have e38 : h34 238 100 = h 238 100 := ((u34 238 100 rfl).trans (u32 238 100 rfl))
    have e39 : h34 238 101 = h 238 101 := ((u34 238 101 rfl).trans (u32 238 101 rfl))
    have e40 : h34 238 102 = h 238 102 := ((u34 238 102 rfl).trans (u32 238 102 rfl))
    have e41 : h34 238 106 = h 238 106 := ((u34 238 106 rfl).trans (u32 238 106 rfl))
    have e42 : h34 238 73 = h 238 73 := ((u34 238 73 rfl).trans (u32 238 73 rfl))
    have e43 : h34 238 2 = h 238 2 := ((u34 238 2 rfl).trans (u32 238 2 rfl))
    have e44 : h34 238 119 = h 238 119 := ((u34 238 119 rfl).trans (u32 238 119 rfl))
    have e45 : h34 238 67 = h 238 67 := ((u34 238 67 rfl).trans (u32 238 67 rfl))
    have e46 : h34 238 69 = h 238 69 := ((u34 238 69 rfl).trans (u32 238 69 rfl))
    have e47 : h34 238 5 = h 238 5 := ((u34 238 5 rfl).trans (u32 238 5 rfl))
    have e48 : h34 241 98 = h 241 98 := ((u34 241 98 rfl).trans (u32 241 98 rfl))
    have e49 : h34 241 99 = h 241 99 := ((u34 241 99 rfl).trans (u32 241 99 rfl))
    have e50 : h34 241 100 = h 241 100 := ((u34 241 100 rfl).trans (u32 241 100 rfl))
    have e51 : h34 241 101 = h 241 101 := ((u34 241 101 rfl).trans (u32 241 101 rfl))
    have e52 : h34 241 102 = h 241 102 := ((u34 241 102 rfl).trans (u32 241 102 rfl))
    have e53 : h34 241 106 = h 241 106 := ((u34 241 106 rfl).trans (u32 241 106 rfl))
    have e54 : h34 241 73 = h 241 73 := ((u34 241 73 rfl).trans (u32 241 73 rfl))
    have e55 : h34 241 2 = h 241 2 := ((u34 241 2 rfl).trans (u32 241 2 rfl))
    have e56 : h34 241 119 = h 241 119 := ((u34 241 119 rfl).trans (u32 241 119 rfl))
    have e57 : h34 241 67 = h 241 67 := ((u34 241 67 rfl).trans (u32 241 67 rfl))
    have e58 : h34 241 69 = h 241 69 := ((u34 241 69 rfl).trans (u32 241 69 rfl))
    have e59 : h34 241 5 = h 241 5 := ((u34 241 5 rfl).trans (u32 241 5 rfl))
    have e60 : h34 1 1 = h 1 1 := ((u34 1 1 rfl).trans (u32 1 1 rfl))
    have e61 : h34 236 2 = h 236 2 := ((u34 236 2 rfl).trans (u32 236 2 rfl))
    have gp62 := GPH.fr u32 rfl gp0
    have gp63 := GPH.fr u34 rfl gp62
    exact k h34 b c ⟨g34, (show h34 1 1 = h34 236 2 by omega), (RS.i0 (f := h34 238) (by refine ⟨?_, ?_, ?_, ?_, ?_⟩ <;> omega)), (RS.i0 (f := h34 241) (by refine ⟨?_, ?_, ?_, ?_, ?_⟩ <;> omega)), gp63⟩ (by omega) (by omega)
  ·
    refine wk_h 12 (by decide) rfl ?_
    refine wr_astx (i := 3) (lo2 := [(3, .retAddr 0), (0, .ref 0), (1, vi ((xs i28).toInt)), (2, .ref 259)]) (nx := 13) (r1 := 0) (r2 := 0) (r3 := 0) rfl rfl ?_
    refine wi_iconst (n := 1) (nx := 14) (r1 := 0) (r2 := 0) (r3 := 0) rfl ?_
    refine wi_ireturn (nx := 15) (r1 := 0) (r2 := 0) (r3 := 0) rfl rfl ?_
    refine wk_i ?_
    refine wi_istore (i := 5) (e := 1) (lo2 := [(5, vi 1), (0, .ref 1000000), (1, .ref 0), (2, .ref 236), (3, .ref 259), (4, vi i)]) (nx := 603) (r1 := 0) (r2 := 0) (r3 := 0) rfl rfl ?_
    refine wi_aload_n (i := 2) (x := 236) (nx := 604) (r1 := 0) (r2 := 0) (r3 := 0) rfl rfl ?_
    refine wi_aload_n (i := 0) (x := 1000000) (nx := 605) (r1 := 0) (r2 := 0) (r3 := 0) rfl rfl ?_
    refine wi_iload (i := 4) (e := i) (nx := 607) (r1 := 0) (r2 := 0) (r3 := 0) rfl rfl ?_
    refine wi_iconst (n := 1) (nx := 608) (r1 := 0) (r2 := 0) (r3 := 0) rfl ?_
    refine wr_add (nx := 609) (r1 := 0) (r2 := 0) (r3 := 0) rfl (fun e32 (fe32 : e32 = i + 1) => ?_)
    refine wr_sc (a := e32) (f := i28) (nx := 610) (r1 := 0) (r2 := 0) (r3 := 0) rfl (by omega) (by omega) hL ?_
    refine wr_V (k0 := 236) (rest := []) (as := [.ref 236, vi ((xs i28).toInt)]) (nx := 613) (r1 := 245) (r2 := 1) (r3 := 11) rfl rfl rfl (of_decide_eq_true rfl) rfl rfl (by decide) rfl rfl (of_decide_eq_true rfl) (of_decide_eq_true rfl) ?_
    refine ct_245_236 hcr  g ((xs i28).toInt) (by omega)  (fun h33 z34 g33 u33 (fz34 : 0 ≤ z34 ∧ z34 ≤ 4) => ?_)
    refine wk_i ?_
    refine wi_istore (i := 6) (e := z34) (lo2 := [(6, vi z34), (5, vi 1), (0, .ref 1000000), (1, .ref 0), (2, .ref 236), (3, .ref 259), (4, vi i)]) (nx := 615) (r1 := 0) (r2 := 0) (r3 := 0) rfl rfl ?_
    refine wi_goto (nx := 618) (r1 := 1529) (r2 := 0) (r3 := 0) rfl ?_
    refine wp.lo (lo := [(0, .ref 1000000), (1, .ref 0), (2, .ref 236), (3, .ref 259), (4, vi i)]) ⟨rfl, rfl, rfl, rfl, rfl, trivial⟩ rfl ?_
    have e35 : h33 238 98 = h 238 98 := (u33 238 98 rfl)
    have e36 : h33 238 99 = h 238 99 := (u33 238 99 rfl)
    have e37 : h33 238 100 = h 238 100 := (u33 238 100 rfl)
    have e38 : h33 238 101 = h 238 101 := (u33 238 101 rfl)
    have e39 : h33 238 102 = h 238 102 := (u33 238 102 rfl)
    have e40 : h33 238 106 = h 238 106 := (u33 238 106 rfl)
    have e41 : h33 238 73 = h 238 73 := (u33 238 73 rfl)
    have e42 : h33 238 2 = h 238 2 := (u33 238 2 rfl)
    have e43 : h33 238 119 = h 238 119 := (u33 238 119 rfl)
    have e44 : h33 238 67 = h 238 67 := (u33 238 67 rfl)
    have e45 : h33 238 69 = h 238 69 := (u33 238 69 rfl)
    have e46 : h33 238 5 = h 238 5 := (u33 238 5 rfl)
    have e47 : h33 241 98 = h 241 98 := (u33 241 98 rfl)
    have e48 : h33 241 99 = h 241 99 := (u33 241 99 rfl)
    have e49 : h33 241 100 = h 241 100 := (u33 241 100 rfl)
    have e50 : h33 241 101 = h 241 101 := (u33 241 101 rfl)
    have e51 : h33 241 102 = h 241 102 := (u33 241 102 rfl)
    have e52 : h33 241 106 = h 241 106 := (u33 241 106 rfl)
    have e53 : h33 241 73 = h 241 73 := (u33 241 73 rfl)
    have e54 : h33 241 2 = h 241 2 := (u33 241 2 rfl)
    have e55 : h33 241 119 = h 241 119 := (u33 241 119 rfl)
    have e56 : h33 241 67 = h 241 67 := (u33 241 67 rfl)
    have e57 : h33 241 69 = h 241 69 := (u33 241 69 rfl)
    have e58 : h33 241 5 = h 241 5 := (u33 241 5 rfl)
    have e59 : h33 1 1 = h 1 1 := (u33 1 1 rfl)
    have e60 : h33 236 2 = h 236 2 := (u33 236 2 rfl)
    have gp61 := GPH.fr u33 rfl gp0
    exact k h33 (b - 1) (c - 6) ⟨g33, (show h33 1 1 = h33 236 2 by omega), (RS.i0 (f := h33 238) (by refine ⟨?_, ?_, ?_, ?_, ?_⟩ <;> omega)), (RS.i0 (f := h33 241) (by refine ⟨?_, ?_, ?_, ?_, ?_⟩ <;> omega)), gp61⟩ (by omega) (by omega)
-- the law, case at 618
set_option maxRecDepth 100000 in
set_option maxHeartbeats 100000000 in
theorem lc_618 {L : Nat} {xs : Nat → Int32} {d b c : Nat} {h : hp} {cr : Nat → Nat → Option Nat} {Q : hp_Q} (hcr : CR cr) (hL : L ≤ 3072) (hr : 1 ≤ b ∧ 6 ≤ c) (I : LI h) (i : Int) (hi : 0 ≤ i ∧ i + 6 ≤ L) (k : ∀ (h2 : hp) (b2 c2 : Nat), LI h2 → b ≤ b2 + 1 → c ≤ c2 + 6 → wp (md_xa (L, xs)) (d + 107) 0 (1529, [(0, .ref 1000000), (1, .ref 0), (2, .ref 236), (3, .ref 259), (4, vi i)], [], hp_w h2 cr, b2, c2) Q) : wp (md_xa (L, xs)) (d + 107) 0 (618, [(0, .ref 1000000), (1, .ref 0), (2, .ref 236), (3, .ref 259), (4, vi i)], [], hp_w h cr, b, c) Q := by
  obtain ⟨g, i11, r238, r241, gp0⟩ := I
  have r238e := r238.e0
  have r241e := r241.e0
  have b1 := gi_b (lo := 0) (hi := 6) g 238 98 rfl
  have b2 := gi_b (lo := 0) (hi := 6) g 238 99 rfl
  have b3 := gi_b (lo := 0) (hi := 6) g 238 100 rfl
  have b4 := gi_b (lo := 0) (hi := 6) g 238 101 rfl
  have b5 := gi_b (lo := 0) (hi := 3) g 238 102 rfl
  have b6 := gi_b (lo := 0) (hi := 12) g 238 106 rfl
  have b7 := gi_b (lo := 0) (hi := 12) g 238 73 rfl
  have b8 := gi_b (lo := 0) (hi := 12) g 238 2 rfl
  have b9 := gi_b (lo := 0) (hi := 9999) g 238 119 rfl
  have b10 := gi_b (lo := 0) (hi := 9999) g 238 67 rfl
  have b11 := gi_b (lo := 0) (hi := 9) g 238 69 rfl
  have b12 := gi_b (lo := 0) (hi := 9) g 238 5 rfl
  have b13 := gi_b (lo := 0) (hi := 6) g 241 98 rfl
  have b14 := gi_b (lo := 0) (hi := 6) g 241 99 rfl
  have b15 := gi_b (lo := 0) (hi := 6) g 241 100 rfl
  have b16 := gi_b (lo := 0) (hi := 6) g 241 101 rfl
  have b17 := gi_b (lo := 0) (hi := 3) g 241 102 rfl
  have b18 := gi_b (lo := 0) (hi := 12) g 241 106 rfl
  have b19 := gi_b (lo := 0) (hi := 12) g 241 73 rfl
  have b20 := gi_b (lo := 0) (hi := 12) g 241 2 rfl
  have b21 := gi_b (lo := 0) (hi := 9999) g 241 119 rfl
  have b22 := gi_b (lo := 0) (hi := 9999) g 241 67 rfl
  have b23 := gi_b (lo := 0) (hi := 9) g 241 69 rfl
  have b24 := gi_b (lo := 0) (hi := 9) g 241 5 rfl
  have b25 := gi_b (lo := 0) (hi := 800) g 1 1 rfl
  have b26 := gi_b (lo := 0) (hi := 800) g 236 2 rfl
  refine wi_aload_n (i := 1) (x := 0) (nx := 619) (r1 := 0) (r2 := 0) (r3 := 0) rfl rfl ?_
  refine wi_aload_n (i := 0) (x := 1000000) (nx := 620) (r1 := 0) (r2 := 0) (r3 := 0) rfl rfl ?_
  refine wi_iload (i := 4) (e := i) (nx := 622) (r1 := 0) (r2 := 0) (r3 := 0) rfl rfl ?_
  refine wi_iconst (n := 1) (nx := 623) (r1 := 0) (r2 := 0) (r3 := 0) rfl ?_
  refine wr_add (nx := 624) (r1 := 0) (r2 := 0) (r3 := 0) rfl (fun e27 (fe27 : e27 = i + 1) => ?_)
  obtain ⟨i28, ei28⟩ : ∃ q : Nat, e27 = (q : Int) := ⟨(e27).toNat, by omega⟩
  have s29 := sc_b (xs i28)
  refine wr_sc (a := e27) (f := i28) (nx := 625) (r1 := 0) (r2 := 0) (r3 := 0) rfl (by omega) (by omega) hL ?_
  refine wi_aload_n (i := 3) (x := 259) (nx := 626) (r1 := 0) (r2 := 0) (r3 := 0) rfl rfl ?_
  refine wi_S (rest := []) (as := [.ref 0, vi ((xs i28).toInt), .ref 259]) (nx := 629) (r1 := 10) (r2 := 19) (r3 := 0) rfl rfl rfl (of_decide_eq_true rfl) rfl rfl (of_decide_eq_true rfl) (of_decide_eq_true rfl) ?_
  refine wi_aload_n (i := 2) (x := 259) (nx := 1) (r1 := 0) (r2 := 0) (r3 := 0) rfl rfl ?_
  refine wi_iconst (n := 0) (nx := 2) (r1 := 0) (r2 := 0) (r3 := 0) rfl ?_
  refine wi_aload_n (i := 0) (x := 0) (nx := 3) (r1 := 0) (r2 := 0) (r3 := 0) rfl rfl ?_
  refine wi_iload_n (i := 1) (e := (xs i28).toInt) (nx := 4) (r1 := 0) (r2 := 0) (r3 := 0) rfl rfl ?_
  refine wr_V (k0 := 0) (rest := [vi 0, .ref 259]) (as := [.ref 0, vi ((xs i28).toInt)]) (nx := 7) (r1 := 72) (r2 := 1) (r3 := 0) rfl rfl rfl (of_decide_eq_true rfl) rfl rfl (by decide) rfl rfl (of_decide_eq_true rfl) (of_decide_eq_true rfl) ?_
  refine ct_72_0 hcr hr  g ((xs i28).toInt) (by omega)  (fun z31  (fz31 : -2147483648 ≤ z31 ∧ z31 ≤ 2147483647) => ?_) ?_
  ·
    refine wk_i ?_
    refine wi_i2l (nx := 8) (r1 := 0) (r2 := 0) (r3 := 0) rfl (by omega) ?_
    refine wr_ls (k0 := 259) (a := 0) (f := 0) (x := z31) (bl := -9223372036854775808) (bh := 9223372036854775807) (nx := 9) (r1 := 0) (r2 := 0) (r3 := 0) rfl (by decide) rfl (by omega) (by omega) (by decide) g rfl (by omega) (fun h32 g32 w32 u32 => ?_)
    refine wi_goto (nx := 12) (r1 := 15) (r2 := 0) (r3 := 0) rfl ?_
    refine wi_iconst (n := 0) (nx := 16) (r1 := 0) (r2 := 0) (r3 := 0) rfl ?_
    refine wi_ireturn (nx := 17) (r1 := 0) (r2 := 0) (r3 := 0) rfl rfl ?_
    refine wk_i ?_
    refine wi_istore (i := 5) (e := 0) (lo2 := [(5, vi 0), (0, .ref 1000000), (1, .ref 0), (2, .ref 236), (3, .ref 259), (4, vi i)]) (nx := 631) (r1 := 0) (r2 := 0) (r3 := 0) rfl rfl ?_
    refine wi_aload_n (i := 2) (x := 236) (nx := 632) (r1 := 0) (r2 := 0) (r3 := 0) rfl rfl ?_
    refine wi_aload_n (i := 0) (x := 1000000) (nx := 633) (r1 := 0) (r2 := 0) (r3 := 0) rfl rfl ?_
    refine wi_iload (i := 4) (e := i) (nx := 635) (r1 := 0) (r2 := 0) (r3 := 0) rfl rfl ?_
    refine wi_iconst (n := 1) (nx := 636) (r1 := 0) (r2 := 0) (r3 := 0) rfl ?_
    refine wr_add (nx := 637) (r1 := 0) (r2 := 0) (r3 := 0) rfl (fun e33 (fe33 : e33 = i + 1) => ?_)
    refine wr_sc (a := e33) (f := i28) (nx := 638) (r1 := 0) (r2 := 0) (r3 := 0) rfl (by omega) (by omega) hL ?_
    refine wr_V (k0 := 236) (rest := []) (as := [.ref 236, vi ((xs i28).toInt)]) (nx := 641) (r1 := 246) (r2 := 1) (r3 := 11) rfl rfl rfl (of_decide_eq_true rfl) rfl rfl (by decide) rfl rfl (of_decide_eq_true rfl) (of_decide_eq_true rfl) ?_
    refine ct_246_236 hcr  g32 ((xs i28).toInt) (by omega)  (fun h34 z35 g34 u34 (fz35 : 0 ≤ z35 ∧ z35 ≤ 999) => ?_)
    refine wk_i ?_
    refine wi_istore (i := 6) (e := z35) (lo2 := [(6, vi z35), (5, vi 0), (0, .ref 1000000), (1, .ref 0), (2, .ref 236), (3, .ref 259), (4, vi i)]) (nx := 643) (r1 := 0) (r2 := 0) (r3 := 0) rfl rfl ?_
    refine wi_goto (nx := 646) (r1 := 1529) (r2 := 0) (r3 := 0) rfl ?_
    refine wp.lo (lo := [(0, .ref 1000000), (1, .ref 0), (2, .ref 236), (3, .ref 259), (4, vi i)]) ⟨rfl, rfl, rfl, rfl, rfl, trivial⟩ rfl ?_
    have e36 : h34 238 98 = h 238 98 := ((u34 238 98 rfl).trans (u32 238 98 rfl))
    have e37 : h34 238 99 = h 238 99 := ((u34 238 99 rfl).trans (u32 238 99 rfl))
    have e38 : h34 238 100 = h 238 100 := ((u34 238 100 rfl).trans (u32 238 100 rfl))
    have e39 : h34 238 101 = h 238 101 := ((u34 238 101 rfl).trans (u32 238 101 rfl))
    have e40 : h34 238 102 = h 238 102 := ((u34 238 102 rfl).trans (u32 238 102 rfl))
    have e41 : h34 238 106 = h 238 106 := ((u34 238 106 rfl).trans (u32 238 106 rfl))
    have e42 : h34 238 73 = h 238 73 := ((u34 238 73 rfl).trans (u32 238 73 rfl))
    have e43 : h34 238 2 = h 238 2 := ((u34 238 2 rfl).trans (u32 238 2 rfl))
    have e44 : h34 238 119 = h 238 119 := ((u34 238 119 rfl).trans (u32 238 119 rfl))
    have e45 : h34 238 67 = h 238 67 := ((u34 238 67 rfl).trans (u32 238 67 rfl))
    have e46 : h34 238 69 = h 238 69 := ((u34 238 69 rfl).trans (u32 238 69 rfl))
    have e47 : h34 238 5 = h 238 5 := ((u34 238 5 rfl).trans (u32 238 5 rfl))
    have e48 : h34 241 98 = h 241 98 := ((u34 241 98 rfl).trans (u32 241 98 rfl))
    have e49 : h34 241 99 = h 241 99 := ((u34 241 99 rfl).trans (u32 241 99 rfl))
    have e50 : h34 241 100 = h 241 100 := ((u34 241 100 rfl).trans (u32 241 100 rfl))
    have e51 : h34 241 101 = h 241 101 := ((u34 241 101 rfl).trans (u32 241 101 rfl))
    have e52 : h34 241 102 = h 241 102 := ((u34 241 102 rfl).trans (u32 241 102 rfl))
    have e53 : h34 241 106 = h 241 106 := ((u34 241 106 rfl).trans (u32 241 106 rfl))
    have e54 : h34 241 73 = h 241 73 := ((u34 241 73 rfl).trans (u32 241 73 rfl))
    have e55 : h34 241 2 = h 241 2 := ((u34 241 2 rfl).trans (u32 241 2 rfl))
    have e56 : h34 241 119 = h 241 119 := ((u34 241 119 rfl).trans (u32 241 119 rfl))
    have e57 : h34 241 67 = h 241 67 := ((u34 241 67 rfl).trans (u32 241 67 rfl))
    have e58 : h34 241 69 = h 241 69 := ((u34 241 69 rfl).trans (u32 241 69 rfl))
    have e59 : h34 241 5 = h 241 5 := ((u34 241 5 rfl).trans (u32 241 5 rfl))
    have e60 : h34 1 1 = h 1 1 := ((u34 1 1 rfl).trans (u32 1 1 rfl))
    have e61 : h34 236 2 = h 236 2 := ((u34 236 2 rfl).trans (u32 236 2 rfl))
    have gp62 := GPH.fr u32 rfl gp0
    have gp63 := GPH.fr u34 rfl gp62
    exact k h34 b c ⟨g34, (show h34 1 1 = h34 236 2 by omega), (RS.i0 (f := h34 238) (by refine ⟨?_, ?_, ?_, ?_, ?_⟩ <;> omega)), (RS.i0 (f := h34 241) (by refine ⟨?_, ?_, ?_, ?_, ?_⟩ <;> omega)), gp63⟩ (by omega) (by omega)
  ·
    refine wk_h 12 (by decide) rfl ?_
    refine wr_astx (i := 3) (lo2 := [(3, .retAddr 0), (0, .ref 0), (1, vi ((xs i28).toInt)), (2, .ref 259)]) (nx := 13) (r1 := 0) (r2 := 0) (r3 := 0) rfl rfl ?_
    refine wi_iconst (n := 1) (nx := 14) (r1 := 0) (r2 := 0) (r3 := 0) rfl ?_
    refine wi_ireturn (nx := 15) (r1 := 0) (r2 := 0) (r3 := 0) rfl rfl ?_
    refine wk_i ?_
    refine wi_istore (i := 5) (e := 1) (lo2 := [(5, vi 1), (0, .ref 1000000), (1, .ref 0), (2, .ref 236), (3, .ref 259), (4, vi i)]) (nx := 631) (r1 := 0) (r2 := 0) (r3 := 0) rfl rfl ?_
    refine wi_aload_n (i := 2) (x := 236) (nx := 632) (r1 := 0) (r2 := 0) (r3 := 0) rfl rfl ?_
    refine wi_aload_n (i := 0) (x := 1000000) (nx := 633) (r1 := 0) (r2 := 0) (r3 := 0) rfl rfl ?_
    refine wi_iload (i := 4) (e := i) (nx := 635) (r1 := 0) (r2 := 0) (r3 := 0) rfl rfl ?_
    refine wi_iconst (n := 1) (nx := 636) (r1 := 0) (r2 := 0) (r3 := 0) rfl ?_
    refine wr_add (nx := 637) (r1 := 0) (r2 := 0) (r3 := 0) rfl (fun e32 (fe32 : e32 = i + 1) => ?_)
    refine wr_sc (a := e32) (f := i28) (nx := 638) (r1 := 0) (r2 := 0) (r3 := 0) rfl (by omega) (by omega) hL ?_
    refine wr_V (k0 := 236) (rest := []) (as := [.ref 236, vi ((xs i28).toInt)]) (nx := 641) (r1 := 246) (r2 := 1) (r3 := 11) rfl rfl rfl (of_decide_eq_true rfl) rfl rfl (by decide) rfl rfl (of_decide_eq_true rfl) (of_decide_eq_true rfl) ?_
    refine ct_246_236 hcr  g ((xs i28).toInt) (by omega)  (fun h33 z34 g33 u33 (fz34 : 0 ≤ z34 ∧ z34 ≤ 999) => ?_)
    refine wk_i ?_
    refine wi_istore (i := 6) (e := z34) (lo2 := [(6, vi z34), (5, vi 1), (0, .ref 1000000), (1, .ref 0), (2, .ref 236), (3, .ref 259), (4, vi i)]) (nx := 643) (r1 := 0) (r2 := 0) (r3 := 0) rfl rfl ?_
    refine wi_goto (nx := 646) (r1 := 1529) (r2 := 0) (r3 := 0) rfl ?_
    refine wp.lo (lo := [(0, .ref 1000000), (1, .ref 0), (2, .ref 236), (3, .ref 259), (4, vi i)]) ⟨rfl, rfl, rfl, rfl, rfl, trivial⟩ rfl ?_
    have e35 : h33 238 98 = h 238 98 := (u33 238 98 rfl)
    have e36 : h33 238 99 = h 238 99 := (u33 238 99 rfl)
    have e37 : h33 238 100 = h 238 100 := (u33 238 100 rfl)
    have e38 : h33 238 101 = h 238 101 := (u33 238 101 rfl)
    have e39 : h33 238 102 = h 238 102 := (u33 238 102 rfl)
    have e40 : h33 238 106 = h 238 106 := (u33 238 106 rfl)
    have e41 : h33 238 73 = h 238 73 := (u33 238 73 rfl)
    have e42 : h33 238 2 = h 238 2 := (u33 238 2 rfl)
    have e43 : h33 238 119 = h 238 119 := (u33 238 119 rfl)
    have e44 : h33 238 67 = h 238 67 := (u33 238 67 rfl)
    have e45 : h33 238 69 = h 238 69 := (u33 238 69 rfl)
    have e46 : h33 238 5 = h 238 5 := (u33 238 5 rfl)
    have e47 : h33 241 98 = h 241 98 := (u33 241 98 rfl)
    have e48 : h33 241 99 = h 241 99 := (u33 241 99 rfl)
    have e49 : h33 241 100 = h 241 100 := (u33 241 100 rfl)
    have e50 : h33 241 101 = h 241 101 := (u33 241 101 rfl)
    have e51 : h33 241 102 = h 241 102 := (u33 241 102 rfl)
    have e52 : h33 241 106 = h 241 106 := (u33 241 106 rfl)
    have e53 : h33 241 73 = h 241 73 := (u33 241 73 rfl)
    have e54 : h33 241 2 = h 241 2 := (u33 241 2 rfl)
    have e55 : h33 241 119 = h 241 119 := (u33 241 119 rfl)
    have e56 : h33 241 67 = h 241 67 := (u33 241 67 rfl)
    have e57 : h33 241 69 = h 241 69 := (u33 241 69 rfl)
    have e58 : h33 241 5 = h 241 5 := (u33 241 5 rfl)
    have e59 : h33 1 1 = h 1 1 := (u33 1 1 rfl)
    have e60 : h33 236 2 = h 236 2 := (u33 236 2 rfl)
    have gp61 := GPH.fr u33 rfl gp0
    exact k h33 (b - 1) (c - 6) ⟨g33, (show h33 1 1 = h33 236 2 by omega), (RS.i0 (f := h33 238) (by refine ⟨?_, ?_, ?_, ?_, ?_⟩ <;> omega)), (RS.i0 (f := h33 241) (by refine ⟨?_, ?_, ?_, ?_, ?_⟩ <;> omega)), gp61⟩ (by omega) (by omega)
-- the law, case at 646
set_option maxRecDepth 100000 in
set_option maxHeartbeats 100000000 in
theorem lc_646 {L : Nat} {xs : Nat → Int32} {d b c : Nat} {h : hp} {cr : Nat → Nat → Option Nat} {Q : hp_Q} (hcr : CR cr) (hL : L ≤ 3072) (hr : 1 ≤ b ∧ 6 ≤ c) (I : LI h) (i : Int) (hi : 0 ≤ i ∧ i + 6 ≤ L) (k : ∀ (h2 : hp) (b2 c2 : Nat), LI h2 → b ≤ b2 + 1 → c ≤ c2 + 6 → wp (md_xa (L, xs)) (d + 107) 0 (1529, [(0, .ref 1000000), (1, .ref 0), (2, .ref 236), (3, .ref 259), (4, vi i)], [], hp_w h2 cr, b2, c2) Q) : wp (md_xa (L, xs)) (d + 107) 0 (646, [(0, .ref 1000000), (1, .ref 0), (2, .ref 236), (3, .ref 259), (4, vi i)], [], hp_w h cr, b, c) Q := by
  obtain ⟨g, i11, r238, r241, gp0⟩ := I
  have r238e := r238.e0
  have r241e := r241.e0
  have b1 := gi_b (lo := 0) (hi := 6) g 238 98 rfl
  have b2 := gi_b (lo := 0) (hi := 6) g 238 99 rfl
  have b3 := gi_b (lo := 0) (hi := 6) g 238 100 rfl
  have b4 := gi_b (lo := 0) (hi := 6) g 238 101 rfl
  have b5 := gi_b (lo := 0) (hi := 3) g 238 102 rfl
  have b6 := gi_b (lo := 0) (hi := 12) g 238 106 rfl
  have b7 := gi_b (lo := 0) (hi := 12) g 238 73 rfl
  have b8 := gi_b (lo := 0) (hi := 12) g 238 2 rfl
  have b9 := gi_b (lo := 0) (hi := 9999) g 238 119 rfl
  have b10 := gi_b (lo := 0) (hi := 9999) g 238 67 rfl
  have b11 := gi_b (lo := 0) (hi := 9) g 238 69 rfl
  have b12 := gi_b (lo := 0) (hi := 9) g 238 5 rfl
  have b13 := gi_b (lo := 0) (hi := 6) g 241 98 rfl
  have b14 := gi_b (lo := 0) (hi := 6) g 241 99 rfl
  have b15 := gi_b (lo := 0) (hi := 6) g 241 100 rfl
  have b16 := gi_b (lo := 0) (hi := 6) g 241 101 rfl
  have b17 := gi_b (lo := 0) (hi := 3) g 241 102 rfl
  have b18 := gi_b (lo := 0) (hi := 12) g 241 106 rfl
  have b19 := gi_b (lo := 0) (hi := 12) g 241 73 rfl
  have b20 := gi_b (lo := 0) (hi := 12) g 241 2 rfl
  have b21 := gi_b (lo := 0) (hi := 9999) g 241 119 rfl
  have b22 := gi_b (lo := 0) (hi := 9999) g 241 67 rfl
  have b23 := gi_b (lo := 0) (hi := 9) g 241 69 rfl
  have b24 := gi_b (lo := 0) (hi := 9) g 241 5 rfl
  have b25 := gi_b (lo := 0) (hi := 800) g 1 1 rfl
  have b26 := gi_b (lo := 0) (hi := 800) g 236 2 rfl
  refine wi_aload_n (i := 1) (x := 0) (nx := 647) (r1 := 0) (r2 := 0) (r3 := 0) rfl rfl ?_
  refine wr_V (k0 := 0) (rest := []) (as := [.ref 0]) (nx := 650) (r1 := 29) (r2 := 0) (r3 := 0) rfl rfl rfl (of_decide_eq_true rfl) rfl rfl (by decide) rfl rfl (of_decide_eq_true rfl) (of_decide_eq_true rfl) ?_
  refine ct_29_0 hcr  g    (fun z28  (fz28 : -2147483648 ≤ z28 ∧ z28 ≤ 2147483647) => ?_)
  refine wk_i ?_
  refine wi_pop (nx := 651) (r1 := 0) (r2 := 0) (r3 := 0) rfl rfl ?_
  refine wi_aload_n (i := 2) (x := 236) (nx := 652) (r1 := 0) (r2 := 0) (r3 := 0) rfl rfl ?_
  refine wr_V (k0 := 236) (rest := []) (as := [.ref 236]) (nx := 655) (r1 := 247) (r2 := 0) (r3 := 11) rfl rfl rfl (of_decide_eq_true rfl) rfl rfl (by decide) rfl rfl (of_decide_eq_true rfl) (of_decide_eq_true rfl) ?_
  refine ct_247_236 hcr  g    (fun h29 z30 g29 u29 (fz30 : -2147483648 ≤ z30 ∧ z30 ≤ 2147483647) => ?_)
  refine wk_i ?_
  refine wi_pop (nx := 656) (r1 := 0) (r2 := 0) (r3 := 0) rfl rfl ?_
  refine wi_goto (nx := 659) (r1 := 1529) (r2 := 0) (r3 := 0) rfl ?_
  have e31 : h29 238 98 = h 238 98 := (u29 238 98 rfl)
  have e32 : h29 238 99 = h 238 99 := (u29 238 99 rfl)
  have e33 : h29 238 100 = h 238 100 := (u29 238 100 rfl)
  have e34 : h29 238 101 = h 238 101 := (u29 238 101 rfl)
  have e35 : h29 238 102 = h 238 102 := (u29 238 102 rfl)
  have e36 : h29 238 106 = h 238 106 := (u29 238 106 rfl)
  have e37 : h29 238 73 = h 238 73 := (u29 238 73 rfl)
  have e38 : h29 238 2 = h 238 2 := (u29 238 2 rfl)
  have e39 : h29 238 119 = h 238 119 := (u29 238 119 rfl)
  have e40 : h29 238 67 = h 238 67 := (u29 238 67 rfl)
  have e41 : h29 238 69 = h 238 69 := (u29 238 69 rfl)
  have e42 : h29 238 5 = h 238 5 := (u29 238 5 rfl)
  have e43 : h29 241 98 = h 241 98 := (u29 241 98 rfl)
  have e44 : h29 241 99 = h 241 99 := (u29 241 99 rfl)
  have e45 : h29 241 100 = h 241 100 := (u29 241 100 rfl)
  have e46 : h29 241 101 = h 241 101 := (u29 241 101 rfl)
  have e47 : h29 241 102 = h 241 102 := (u29 241 102 rfl)
  have e48 : h29 241 106 = h 241 106 := (u29 241 106 rfl)
  have e49 : h29 241 73 = h 241 73 := (u29 241 73 rfl)
  have e50 : h29 241 2 = h 241 2 := (u29 241 2 rfl)
  have e51 : h29 241 119 = h 241 119 := (u29 241 119 rfl)
  have e52 : h29 241 67 = h 241 67 := (u29 241 67 rfl)
  have e53 : h29 241 69 = h 241 69 := (u29 241 69 rfl)
  have e54 : h29 241 5 = h 241 5 := (u29 241 5 rfl)
  have e55 : h29 1 1 = h 1 1 := (u29 1 1 rfl)
  have e56 : h29 236 2 = h 236 2 := (u29 236 2 rfl)
  have gp57 := GPH.fr u29 rfl gp0
  exact k h29 b c ⟨g29, (show h29 1 1 = h29 236 2 by omega), (RS.i0 (f := h29 238) (by refine ⟨?_, ?_, ?_, ?_, ?_⟩ <;> omega)), (RS.i0 (f := h29 241) (by refine ⟨?_, ?_, ?_, ?_, ?_⟩ <;> omega)), gp57⟩ (by omega) (by omega)
-- the law, case at 659
set_option maxRecDepth 100000 in
set_option maxHeartbeats 100000000 in
theorem lc_659 {L : Nat} {xs : Nat → Int32} {d b c : Nat} {h : hp} {cr : Nat → Nat → Option Nat} {Q : hp_Q} (hcr : CR cr) (hL : L ≤ 3072) (hr : 1 ≤ b ∧ 6 ≤ c) (I : LI h) (i : Int) (hi : 0 ≤ i ∧ i + 6 ≤ L) (k : ∀ (h2 : hp) (b2 c2 : Nat), LI h2 → b ≤ b2 + 1 → c ≤ c2 + 6 → wp (md_xa (L, xs)) (d + 107) 0 (1529, [(0, .ref 1000000), (1, .ref 0), (2, .ref 236), (3, .ref 259), (4, vi i)], [], hp_w h2 cr, b2, c2) Q) : wp (md_xa (L, xs)) (d + 107) 0 (659, [(0, .ref 1000000), (1, .ref 0), (2, .ref 236), (3, .ref 259), (4, vi i)], [], hp_w h cr, b, c) Q := by
  obtain ⟨g, i11, r238, r241, gp0⟩ := I
  have r238e := r238.e0
  have r241e := r241.e0
  have b1 := gi_b (lo := 0) (hi := 6) g 238 98 rfl
  have b2 := gi_b (lo := 0) (hi := 6) g 238 99 rfl
  have b3 := gi_b (lo := 0) (hi := 6) g 238 100 rfl
  have b4 := gi_b (lo := 0) (hi := 6) g 238 101 rfl
  have b5 := gi_b (lo := 0) (hi := 3) g 238 102 rfl
  have b6 := gi_b (lo := 0) (hi := 12) g 238 106 rfl
  have b7 := gi_b (lo := 0) (hi := 12) g 238 73 rfl
  have b8 := gi_b (lo := 0) (hi := 12) g 238 2 rfl
  have b9 := gi_b (lo := 0) (hi := 9999) g 238 119 rfl
  have b10 := gi_b (lo := 0) (hi := 9999) g 238 67 rfl
  have b11 := gi_b (lo := 0) (hi := 9) g 238 69 rfl
  have b12 := gi_b (lo := 0) (hi := 9) g 238 5 rfl
  have b13 := gi_b (lo := 0) (hi := 6) g 241 98 rfl
  have b14 := gi_b (lo := 0) (hi := 6) g 241 99 rfl
  have b15 := gi_b (lo := 0) (hi := 6) g 241 100 rfl
  have b16 := gi_b (lo := 0) (hi := 6) g 241 101 rfl
  have b17 := gi_b (lo := 0) (hi := 3) g 241 102 rfl
  have b18 := gi_b (lo := 0) (hi := 12) g 241 106 rfl
  have b19 := gi_b (lo := 0) (hi := 12) g 241 73 rfl
  have b20 := gi_b (lo := 0) (hi := 12) g 241 2 rfl
  have b21 := gi_b (lo := 0) (hi := 9999) g 241 119 rfl
  have b22 := gi_b (lo := 0) (hi := 9999) g 241 67 rfl
  have b23 := gi_b (lo := 0) (hi := 9) g 241 69 rfl
  have b24 := gi_b (lo := 0) (hi := 9) g 241 5 rfl
  have b25 := gi_b (lo := 0) (hi := 800) g 1 1 rfl
  have b26 := gi_b (lo := 0) (hi := 800) g 236 2 rfl
  refine wi_aload_n (i := 1) (x := 0) (nx := 660) (r1 := 0) (r2 := 0) (r3 := 0) rfl rfl ?_
  refine wr_V (k0 := 0) (rest := []) (as := [.ref 0]) (nx := 663) (r1 := 30) (r2 := 0) (r3 := 0) rfl rfl rfl (of_decide_eq_true rfl) rfl rfl (by decide) rfl rfl (of_decide_eq_true rfl) (of_decide_eq_true rfl) ?_
  refine ct_30_0 hcr  g    (fun z28  (fz28 : 0 ≤ z28 ∧ z28 ≤ 2147483647) => ?_)
  refine wk_i ?_
  refine wi_pop (nx := 664) (r1 := 0) (r2 := 0) (r3 := 0) rfl rfl ?_
  refine wi_aload_n (i := 2) (x := 236) (nx := 665) (r1 := 0) (r2 := 0) (r3 := 0) rfl rfl ?_
  refine wr_V (k0 := 236) (rest := []) (as := [.ref 236]) (nx := 668) (r1 := 248) (r2 := 0) (r3 := 11) rfl rfl rfl (of_decide_eq_true rfl) rfl rfl (by decide) rfl rfl (of_decide_eq_true rfl) (of_decide_eq_true rfl) ?_
  refine ct_248_236 hcr  g    (fun h29 z30 g29 u29 (fz30 : 0 ≤ z30 ∧ z30 ≤ 2147483647) => ?_)
  refine wk_i ?_
  refine wi_pop (nx := 669) (r1 := 0) (r2 := 0) (r3 := 0) rfl rfl ?_
  refine wi_goto (nx := 672) (r1 := 1529) (r2 := 0) (r3 := 0) rfl ?_
  have e31 : h29 238 98 = h 238 98 := (u29 238 98 rfl)
  have e32 : h29 238 99 = h 238 99 := (u29 238 99 rfl)
  have e33 : h29 238 100 = h 238 100 := (u29 238 100 rfl)
  have e34 : h29 238 101 = h 238 101 := (u29 238 101 rfl)
  have e35 : h29 238 102 = h 238 102 := (u29 238 102 rfl)
  have e36 : h29 238 106 = h 238 106 := (u29 238 106 rfl)
  have e37 : h29 238 73 = h 238 73 := (u29 238 73 rfl)
  have e38 : h29 238 2 = h 238 2 := (u29 238 2 rfl)
  have e39 : h29 238 119 = h 238 119 := (u29 238 119 rfl)
  have e40 : h29 238 67 = h 238 67 := (u29 238 67 rfl)
  have e41 : h29 238 69 = h 238 69 := (u29 238 69 rfl)
  have e42 : h29 238 5 = h 238 5 := (u29 238 5 rfl)
  have e43 : h29 241 98 = h 241 98 := (u29 241 98 rfl)
  have e44 : h29 241 99 = h 241 99 := (u29 241 99 rfl)
  have e45 : h29 241 100 = h 241 100 := (u29 241 100 rfl)
  have e46 : h29 241 101 = h 241 101 := (u29 241 101 rfl)
  have e47 : h29 241 102 = h 241 102 := (u29 241 102 rfl)
  have e48 : h29 241 106 = h 241 106 := (u29 241 106 rfl)
  have e49 : h29 241 73 = h 241 73 := (u29 241 73 rfl)
  have e50 : h29 241 2 = h 241 2 := (u29 241 2 rfl)
  have e51 : h29 241 119 = h 241 119 := (u29 241 119 rfl)
  have e52 : h29 241 67 = h 241 67 := (u29 241 67 rfl)
  have e53 : h29 241 69 = h 241 69 := (u29 241 69 rfl)
  have e54 : h29 241 5 = h 241 5 := (u29 241 5 rfl)
  have e55 : h29 1 1 = h 1 1 := (u29 1 1 rfl)
  have e56 : h29 236 2 = h 236 2 := (u29 236 2 rfl)
  have gp57 := GPH.fr u29 rfl gp0
  exact k h29 b c ⟨g29, (show h29 1 1 = h29 236 2 by omega), (RS.i0 (f := h29 238) (by refine ⟨?_, ?_, ?_, ?_, ?_⟩ <;> omega)), (RS.i0 (f := h29 241) (by refine ⟨?_, ?_, ?_, ?_, ?_⟩ <;> omega)), gp57⟩ (by omega) (by omega)
