-- the law, case at 1045
set_option maxRecDepth 100000 in
set_option maxHeartbeats 100000000 in
theorem lc_1045 {L : Nat} {xs : Nat → Int32} {d b c : Nat} {h : hp} {cr : Nat → Nat → Option Nat} {Q : hp_Q} (hcr : CR cr) (hL : L ≤ 3072) (hr : 1 ≤ b ∧ 6 ≤ c) (I : LI h) (i : Int) (hi : 0 ≤ i ∧ i + 6 ≤ L) (k : ∀ (h2 : hp) (b2 c2 : Nat), LI h2 → b ≤ b2 + 1 → c ≤ c2 + 6 → wp (md_xa (L, xs)) (d + 107) 0 (1529, [(0, .ref 1000000), (1, .ref 0), (2, .ref 236), (3, .ref 259), (4, vi i)], [], hp_w h2 cr, b2, c2) Q) : wp (md_xa (L, xs)) (d + 107) 0 (1045, [(0, .ref 1000000), (1, .ref 0), (2, .ref 236), (3, .ref 259), (4, vi i)], [], hp_w h cr, b, c) Q := by
  obtain ⟨g, i11, r238, r241, gp0⟩ := I
  have r238e := r238.e0
  have r241e := r241.e0
  have b1 := gi_b (lo := 0) (hi := 6) g 238 98 rfl
  have b2 := gi_b (lo := 0) (hi := 6) g 238 99 rfl
  have b3 := gi_b (lo := 0) (hi := 6) g 238 100 rfl
  have b4 := gi_b (lo := 0) (hi := 6) g 238 101 rfl
  have b5 := gi_b (lo := 0) (hi := 3) g 238 102 rfl
  have b6 := gi_b (lo := 0) (hi := 12) g 238 106 rfl
  have b7 := gi_b (lo := 0) (hi := 12) g 238 73 rfl
  have b8 := gi_b (lo := 0) (hi := 12) g 238 2 rfl
  have b9 := gi_b (lo := 0) (hi := 9999) g 238 119 rfl
  have b10 := gi_b (lo := 0) (hi := 9999) g 238 67 rfl
  have b11 := gi_b (lo := 0) (hi := 9) g 238 69 rfl
  have b12 := gi_b (lo := 0) (hi := 9) g 238 5 rfl
  have b13 := gi_b (lo := 0) (hi := 6) g 241 98 rfl
  have b14 := gi_b (lo := 0) (hi := 6) g 241 99 rfl
  have b15 := gi_b (lo := 0) (hi := 6) g 241 100 rfl
  have b16 := gi_b (lo := 0) (hi := 6) g 241 101 rfl
  have b17 := gi_b (lo := 0) (hi := 3) g 241 102 rfl
  have b18 := gi_b (lo := 0) (hi := 12) g 241 106 rfl
  have b19 := gi_b (lo := 0) (hi := 12) g 241 73 rfl
  have b20 := gi_b (lo := 0) (hi := 12) g 241 2 rfl
  have b21 := gi_b (lo := 0) (hi := 9999) g 241 119 rfl
  have b22 := gi_b (lo := 0) (hi := 9999) g 241 67 rfl
  have b23 := gi_b (lo := 0) (hi := 9) g 241 69 rfl
  have b24 := gi_b (lo := 0) (hi := 9) g 241 5 rfl
  have b25 := gi_b (lo := 0) (hi := 800) g 1 1 rfl
  have b26 := gi_b (lo := 0) (hi := 800) g 236 2 rfl
  refine wi_aload_n (i := 1) (x := 0) (nx := 1046) (r1 := 0) (r2 := 0) (r3 := 0) rfl rfl ?_
  refine wi_aload_n (i := 0) (x := 1000000) (nx := 1047) (r1 := 0) (r2 := 0) (r3 := 0) rfl rfl ?_
  refine wi_iload (i := 4) (e := i) (nx := 1049) (r1 := 0) (r2 := 0) (r3 := 0) rfl rfl ?_
  refine wi_iconst (n := 1) (nx := 1050) (r1 := 0) (r2 := 0) (r3 := 0) rfl ?_
  refine wr_add (nx := 1051) (r1 := 0) (r2 := 0) (r3 := 0) rfl (fun e27 (fe27 : e27 = i + 1) => ?_)
  obtain ⟨i28, ei28⟩ : ∃ q : Nat, e27 = (q : Int) := ⟨(e27).toNat, by omega⟩
  have s29 := sc_b (xs i28)
  refine wr_sc (a := e27) (f := i28) (nx := 1052) (r1 := 0) (r2 := 0) (r3 := 0) rfl (by omega) (by omega) hL ?_
  refine wi_aload_n (i := 3) (x := 259) (nx := 1053) (r1 := 0) (r2 := 0) (r3 := 0) rfl rfl ?_
  refine wi_S (rest := []) (as := [.ref 0, vi ((xs i28).toInt), .ref 259]) (nx := 1056) (r1 := 17) (r2 := 19) (r3 := 0) rfl rfl rfl (of_decide_eq_true rfl) rfl rfl (of_decide_eq_true rfl) (of_decide_eq_true rfl) ?_
  refine wi_aload_n (i := 2) (x := 259) (nx := 1) (r1 := 0) (r2 := 0) (r3 := 0) rfl rfl ?_
  refine wi_iconst (n := 0) (nx := 2) (r1 := 0) (r2 := 0) (r3 := 0) rfl ?_
  refine wi_aload_n (i := 0) (x := 0) (nx := 3) (r1 := 0) (r2 := 0) (r3 := 0) rfl rfl ?_
  refine wi_iload_n (i := 1) (e := (xs i28).toInt) (nx := 4) (r1 := 0) (r2 := 0) (r3 := 0) rfl rfl ?_
  refine wr_V (k0 := 0) (rest := [vi 0, .ref 259]) (as := [.ref 0, vi ((xs i28).toInt)]) (nx := 7) (r1 := 79) (r2 := 1) (r3 := 0) rfl rfl rfl (of_decide_eq_true rfl) rfl rfl (by decide) rfl rfl (of_decide_eq_true rfl) (of_decide_eq_true rfl) ?_
  refine ct_79_0 hcr hr  g ((xs i28).toInt) (by omega)  (fun h30 z31 g30 u30 (fz31 : -2147483648 ≤ z31 ∧ z31 ≤ 2147483647) => ?_) (fun h30 g30 u30 => ?_)
  ·
    refine wk_i ?_
    refine wi_i2l (nx := 8) (r1 := 0) (r2 := 0) (r3 := 0) rfl (by omega) ?_
    refine wr_ls (k0 := 259) (a := 0) (f := 0) (x := z31) (bl := -9223372036854775808) (bh := 9223372036854775807) (nx := 9) (r1 := 0) (r2 := 0) (r3 := 0) rfl (by decide) rfl (by omega) (by omega) (by decide) g30 rfl (by omega) (fun h32 g32 w32 u32 => ?_)
    refine wi_goto (nx := 12) (r1 := 15) (r2 := 0) (r3 := 0) rfl ?_
    refine wi_iconst (n := 0) (nx := 16) (r1 := 0) (r2 := 0) (r3 := 0) rfl ?_
    refine wi_ireturn (nx := 17) (r1 := 0) (r2 := 0) (r3 := 0) rfl rfl ?_
    refine wk_i ?_
    refine wi_istore (i := 5) (e := 0) (lo2 := [(5, vi 0), (0, .ref 1000000), (1, .ref 0), (2, .ref 236), (3, .ref 259), (4, vi i)]) (nx := 1058) (r1 := 0) (r2 := 0) (r3 := 0) rfl rfl ?_
    refine wi_aload_n (i := 2) (x := 236) (nx := 1059) (r1 := 0) (r2 := 0) (r3 := 0) rfl rfl ?_
    refine wi_aload_n (i := 0) (x := 1000000) (nx := 1060) (r1 := 0) (r2 := 0) (r3 := 0) rfl rfl ?_
    refine wi_iload (i := 4) (e := i) (nx := 1062) (r1 := 0) (r2 := 0) (r3 := 0) rfl rfl ?_
    refine wi_iconst (n := 1) (nx := 1063) (r1 := 0) (r2 := 0) (r3 := 0) rfl ?_
    refine wr_add (nx := 1064) (r1 := 0) (r2 := 0) (r3 := 0) rfl (fun e33 (fe33 : e33 = i + 1) => ?_)
    refine wr_sc (a := e33) (f := i28) (nx := 1065) (r1 := 0) (r2 := 0) (r3 := 0) rfl (by omega) (by omega) hL ?_
    refine wr_V (k0 := 236) (rest := []) (as := [.ref 236, vi ((xs i28).toInt)]) (nx := 1068) (r1 := 281) (r2 := 1) (r3 := 11) rfl rfl rfl (of_decide_eq_true rfl) rfl rfl (by decide) rfl rfl (of_decide_eq_true rfl) (of_decide_eq_true rfl) ?_
    have e35 : h32 238 98 = h 238 98 := ((u32 238 98 rfl).trans (u30 238 98 rfl))
    have e36 : h32 238 99 = h 238 99 := ((u32 238 99 rfl).trans (u30 238 99 rfl))
    have e37 : h32 238 100 = h 238 100 := ((u32 238 100 rfl).trans (u30 238 100 rfl))
    have e38 : h32 238 101 = h 238 101 := ((u32 238 101 rfl).trans (u30 238 101 rfl))
    have e39 : h32 238 102 = h 238 102 := ((u32 238 102 rfl).trans (u30 238 102 rfl))
    have e40 : h32 238 106 = h 238 106 := ((u32 238 106 rfl).trans (u30 238 106 rfl))
    have e41 : h32 238 73 = h 238 73 := ((u32 238 73 rfl).trans (u30 238 73 rfl))
    have e42 : h32 238 2 = h 238 2 := ((u32 238 2 rfl).trans (u30 238 2 rfl))
    have e43 : h32 238 119 = h 238 119 := ((u32 238 119 rfl).trans (u30 238 119 rfl))
    have e44 : h32 238 67 = h 238 67 := ((u32 238 67 rfl).trans (u30 238 67 rfl))
    have e45 : h32 238 69 = h 238 69 := ((u32 238 69 rfl).trans (u30 238 69 rfl))
    have e46 : h32 238 5 = h 238 5 := ((u32 238 5 rfl).trans (u30 238 5 rfl))
    have gp48 := GPH.fr u30 rfl gp0
    have gp49 := GPH.fr u32 rfl gp48
    refine ct_281_236 hcr  g32 ((xs i28).toInt) (by omega) (show (h32 238 98) + (h32 238 99) + (h32 238 100) + (h32 238 101) + (h32 238 102) + (h32 238 106) = (h32 238 73) by omega) (show (h32 238 73) ≤ (h32 238 2) by omega) (show (h32 238 119) ≤ (h32 238 67) by omega) (show (h32 238 69) ≤ (h32 238 5) by omega) (show (h32 238 2) ≤ 12 * (h32 238 5) by omega) gp49 (fun h34 z47 g34 u34 (fz47 : -1 ≤ z47 ∧ z47 ≤ 11) (p34_0 : (h34 238 98) + (h34 238 99) + (h34 238 100) + (h34 238 101) + (h34 238 102) + (h34 238 106) = (h34 238 73)) (p34_1 : (h34 238 73) ≤ (h34 238 2)) (p34_2 : (h34 238 119) ≤ (h34 238 67)) (p34_3 : (h34 238 69) ≤ (h34 238 5)) (p34_4 : (h34 238 2) ≤ 12 * (h34 238 5)) y34_0 => ?_)
    have b50 := gi_b (lo := 0) (hi := 6) g34 238 98 rfl
    have b51 := gi_b (lo := 0) (hi := 6) g34 238 99 rfl
    have b52 := gi_b (lo := 0) (hi := 6) g34 238 100 rfl
    have b53 := gi_b (lo := 0) (hi := 6) g34 238 101 rfl
    have b54 := gi_b (lo := 0) (hi := 3) g34 238 102 rfl
    have b55 := gi_b (lo := 0) (hi := 12) g34 238 106 rfl
    have e56 : h34 238 73 = h 238 73 := ((u34 238 73 rfl).trans ((u32 238 73 rfl).trans (u30 238 73 rfl)))
    have e57 : h34 238 2 = h 238 2 := ((u34 238 2 rfl).trans ((u32 238 2 rfl).trans (u30 238 2 rfl)))
    have b58 := gi_b (lo := 0) (hi := 9999) g34 238 119 rfl
    have b59 := gi_b (lo := 0) (hi := 9999) g34 238 67 rfl
    have b60 := gi_b (lo := 0) (hi := 9) g34 238 69 rfl
    have e61 : h34 238 5 = h 238 5 := ((u34 238 5 rfl).trans ((u32 238 5 rfl).trans (u30 238 5 rfl)))
    refine wk_i ?_
    refine wi_istore (i := 6) (e := z47) (lo2 := [(6, vi z47), (5, vi 0), (0, .ref 1000000), (1, .ref 0), (2, .ref 236), (3, .ref 259), (4, vi i)]) (nx := 1070) (r1 := 0) (r2 := 0) (r3 := 0) rfl rfl ?_
    refine wi_goto (nx := 1073) (r1 := 1529) (r2 := 0) (r3 := 0) rfl ?_
    refine wp.lo (lo := [(0, .ref 1000000), (1, .ref 0), (2, .ref 236), (3, .ref 259), (4, vi i)]) ⟨rfl, rfl, rfl, rfl, rfl, trivial⟩ rfl ?_
    have e62 : h34 241 98 = h 241 98 := ((u34 241 98 rfl).trans ((u32 241 98 rfl).trans (u30 241 98 rfl)))
    have e63 : h34 241 99 = h 241 99 := ((u34 241 99 rfl).trans ((u32 241 99 rfl).trans (u30 241 99 rfl)))
    have e64 : h34 241 100 = h 241 100 := ((u34 241 100 rfl).trans ((u32 241 100 rfl).trans (u30 241 100 rfl)))
    have e65 : h34 241 101 = h 241 101 := ((u34 241 101 rfl).trans ((u32 241 101 rfl).trans (u30 241 101 rfl)))
    have e66 : h34 241 102 = h 241 102 := ((u34 241 102 rfl).trans ((u32 241 102 rfl).trans (u30 241 102 rfl)))
    have e67 : h34 241 106 = h 241 106 := ((u34 241 106 rfl).trans ((u32 241 106 rfl).trans (u30 241 106 rfl)))
    have e68 : h34 241 73 = h 241 73 := ((u34 241 73 rfl).trans ((u32 241 73 rfl).trans (u30 241 73 rfl)))
    have e69 : h34 241 2 = h 241 2 := ((u34 241 2 rfl).trans ((u32 241 2 rfl).trans (u30 241 2 rfl)))
    have e70 : h34 241 119 = h 241 119 := ((u34 241 119 rfl).trans ((u32 241 119 rfl).trans (u30 241 119 rfl)))
    have e71 : h34 241 67 = h 241 67 := ((u34 241 67 rfl).trans ((u32 241 67 rfl).trans (u30 241 67 rfl)))
    have e72 : h34 241 69 = h 241 69 := ((u34 241 69 rfl).trans ((u32 241 69 rfl).trans (u30 241 69 rfl)))
    have e73 : h34 241 5 = h 241 5 := ((u34 241 5 rfl).trans ((u32 241 5 rfl).trans (u30 241 5 rfl)))
    have e74 : h34 1 1 = h 1 1 := ((u34 1 1 rfl).trans ((u32 1 1 rfl).trans (u30 1 1 rfl)))
    have e75 : h34 236 2 = h 236 2 := ((u34 236 2 rfl).trans ((u32 236 2 rfl).trans (u30 236 2 rfl)))
    exact k h34 b c ⟨g34, (show h34 1 1 = h34 236 2 by omega), (RS.i0 (f := h34 238) (by refine ⟨?_, ?_, ?_, ?_, ?_⟩ <;> omega)), (RS.i0 (f := h34 241) (by refine ⟨?_, ?_, ?_, ?_, ?_⟩ <;> omega)), y34_0⟩ (by omega) (by omega)
  ·
    refine wk_h 12 (by decide) rfl ?_
    refine wr_astx (i := 3) (lo2 := [(3, .retAddr 0), (0, .ref 0), (1, vi ((xs i28).toInt)), (2, .ref 259)]) (nx := 13) (r1 := 0) (r2 := 0) (r3 := 0) rfl rfl ?_
    refine wi_iconst (n := 1) (nx := 14) (r1 := 0) (r2 := 0) (r3 := 0) rfl ?_
    refine wi_ireturn (nx := 15) (r1 := 0) (r2 := 0) (r3 := 0) rfl rfl ?_
    refine wk_i ?_
    refine wi_istore (i := 5) (e := 1) (lo2 := [(5, vi 1), (0, .ref 1000000), (1, .ref 0), (2, .ref 236), (3, .ref 259), (4, vi i)]) (nx := 1058) (r1 := 0) (r2 := 0) (r3 := 0) rfl rfl ?_
    refine wi_aload_n (i := 2) (x := 236) (nx := 1059) (r1 := 0) (r2 := 0) (r3 := 0) rfl rfl ?_
    refine wi_aload_n (i := 0) (x := 1000000) (nx := 1060) (r1 := 0) (r2 := 0) (r3 := 0) rfl rfl ?_
    refine wi_iload (i := 4) (e := i) (nx := 1062) (r1 := 0) (r2 := 0) (r3 := 0) rfl rfl ?_
    refine wi_iconst (n := 1) (nx := 1063) (r1 := 0) (r2 := 0) (r3 := 0) rfl ?_
    refine wr_add (nx := 1064) (r1 := 0) (r2 := 0) (r3 := 0) rfl (fun e32 (fe32 : e32 = i + 1) => ?_)
    refine wr_sc (a := e32) (f := i28) (nx := 1065) (r1 := 0) (r2 := 0) (r3 := 0) rfl (by omega) (by omega) hL ?_
    refine wr_V (k0 := 236) (rest := []) (as := [.ref 236, vi ((xs i28).toInt)]) (nx := 1068) (r1 := 281) (r2 := 1) (r3 := 11) rfl rfl rfl (of_decide_eq_true rfl) rfl rfl (by decide) rfl rfl (of_decide_eq_true rfl) (of_decide_eq_true rfl) ?_
    have e34 : h30 238 98 = h 238 98 := (u30 238 98 rfl)
    have e35 : h30 238 99 = h 238 99 := (u30 238 99 rfl)
    have e36 : h30 238 100 = h 238 100 := (u30 238 100 rfl)
    have e37 : h30 238 101 = h 238 101 := (u30 238 101 rfl)
    have e38 : h30 238 102 = h 238 102 := (u30 238 102 rfl)
    have e39 : h30 238 106 = h 238 106 := (u30 238 106 rfl)
    have e40 : h30 238 73 = h 238 73 := (u30 238 73 rfl)
    have e41 : h30 238 2 = h 238 2 := (u30 238 2 rfl)
    have e42 : h30 238 119 = h 238 119 := (u30 238 119 rfl)
    have e43 : h30 238 67 = h 238 67 := (u30 238 67 rfl)
    have e44 : h30 238 69 = h 238 69 := (u30 238 69 rfl)
    have e45 : h30 238 5 = h 238 5 := (u30 238 5 rfl)
    have gp47 := GPH.fr u30 rfl gp0
    refine ct_281_236 hcr  g30 ((xs i28).toInt) (by omega) (show (h30 238 98) + (h30 238 99) + (h30 238 100) + (h30 238 101) + (h30 238 102) + (h30 238 106) = (h30 238 73) by omega) (show (h30 238 73) ≤ (h30 238 2) by omega) (show (h30 238 119) ≤ (h30 238 67) by omega) (show (h30 238 69) ≤ (h30 238 5) by omega) (show (h30 238 2) ≤ 12 * (h30 238 5) by omega) gp47 (fun h33 z46 g33 u33 (fz46 : -1 ≤ z46 ∧ z46 ≤ 11) (p33_0 : (h33 238 98) + (h33 238 99) + (h33 238 100) + (h33 238 101) + (h33 238 102) + (h33 238 106) = (h33 238 73)) (p33_1 : (h33 238 73) ≤ (h33 238 2)) (p33_2 : (h33 238 119) ≤ (h33 238 67)) (p33_3 : (h33 238 69) ≤ (h33 238 5)) (p33_4 : (h33 238 2) ≤ 12 * (h33 238 5)) y33_0 => ?_)
    have b48 := gi_b (lo := 0) (hi := 6) g33 238 98 rfl
    have b49 := gi_b (lo := 0) (hi := 6) g33 238 99 rfl
    have b50 := gi_b (lo := 0) (hi := 6) g33 238 100 rfl
    have b51 := gi_b (lo := 0) (hi := 6) g33 238 101 rfl
    have b52 := gi_b (lo := 0) (hi := 3) g33 238 102 rfl
    have b53 := gi_b (lo := 0) (hi := 12) g33 238 106 rfl
    have e54 : h33 238 73 = h 238 73 := ((u33 238 73 rfl).trans (u30 238 73 rfl))
    have e55 : h33 238 2 = h 238 2 := ((u33 238 2 rfl).trans (u30 238 2 rfl))
    have b56 := gi_b (lo := 0) (hi := 9999) g33 238 119 rfl
    have b57 := gi_b (lo := 0) (hi := 9999) g33 238 67 rfl
    have b58 := gi_b (lo := 0) (hi := 9) g33 238 69 rfl
    have e59 : h33 238 5 = h 238 5 := ((u33 238 5 rfl).trans (u30 238 5 rfl))
    refine wk_i ?_
    refine wi_istore (i := 6) (e := z46) (lo2 := [(6, vi z46), (5, vi 1), (0, .ref 1000000), (1, .ref 0), (2, .ref 236), (3, .ref 259), (4, vi i)]) (nx := 1070) (r1 := 0) (r2 := 0) (r3 := 0) rfl rfl ?_
    refine wi_goto (nx := 1073) (r1 := 1529) (r2 := 0) (r3 := 0) rfl ?_
    refine wp.lo (lo := [(0, .ref 1000000), (1, .ref 0), (2, .ref 236), (3, .ref 259), (4, vi i)]) ⟨rfl, rfl, rfl, rfl, rfl, trivial⟩ rfl ?_
    have e60 : h33 241 98 = h 241 98 := ((u33 241 98 rfl).trans (u30 241 98 rfl))
    have e61 : h33 241 99 = h 241 99 := ((u33 241 99 rfl).trans (u30 241 99 rfl))
    have e62 : h33 241 100 = h 241 100 := ((u33 241 100 rfl).trans (u30 241 100 rfl))
    have e63 : h33 241 101 = h 241 101 := ((u33 241 101 rfl).trans (u30 241 101 rfl))
    have e64 : h33 241 102 = h 241 102 := ((u33 241 102 rfl).trans (u30 241 102 rfl))
    have e65 : h33 241 106 = h 241 106 := ((u33 241 106 rfl).trans (u30 241 106 rfl))
    have e66 : h33 241 73 = h 241 73 := ((u33 241 73 rfl).trans (u30 241 73 rfl))
    have e67 : h33 241 2 = h 241 2 := ((u33 241 2 rfl).trans (u30 241 2 rfl))
    have e68 : h33 241 119 = h 241 119 := ((u33 241 119 rfl).trans (u30 241 119 rfl))
    have e69 : h33 241 67 = h 241 67 := ((u33 241 67 rfl).trans (u30 241 67 rfl))
    have e70 : h33 241 69 = h 241 69 := ((u33 241 69 rfl).trans (u30 241 69 rfl))
    have e71 : h33 241 5 = h 241 5 := ((u33 241 5 rfl).trans (u30 241 5 rfl))
    have e72 : h33 1 1 = h 1 1 := ((u33 1 1 rfl).trans (u30 1 1 rfl))
    have e73 : h33 236 2 = h 236 2 := ((u33 236 2 rfl).trans (u30 236 2 rfl))
    exact k h33 (b - 1) (c - 6) ⟨g33, (show h33 1 1 = h33 236 2 by omega), (RS.i0 (f := h33 238) (by refine ⟨?_, ?_, ?_, ?_, ?_⟩ <;> omega)), (RS.i0 (f := h33 241) (by refine ⟨?_, ?_, ?_, ?_, ?_⟩ <;> omega)), y33_0⟩ (by omega) (by omega)
-- the law, case at 1073
set_option maxRecDepth 100000 in
set_option maxHeartbeats 100000000 in
theorem lc_1073 {L : Nat} {xs : Nat → Int32} {d b c : Nat} {h : hp} {cr : Nat → Nat → Option Nat} {Q : hp_Q} (hcr : CR cr) (hL : L ≤ 3072) (hr : 1 ≤ b ∧ 6 ≤ c) (I : LI h) (i : Int) (hi : 0 ≤ i ∧ i + 6 ≤ L) (k : ∀ (h2 : hp) (b2 c2 : Nat), LI h2 → b ≤ b2 + 1 → c ≤ c2 + 6 → wp (md_xa (L, xs)) (d + 107) 0 (1529, [(0, .ref 1000000), (1, .ref 0), (2, .ref 236), (3, .ref 259), (4, vi i)], [], hp_w h2 cr, b2, c2) Q) : wp (md_xa (L, xs)) (d + 107) 0 (1073, [(0, .ref 1000000), (1, .ref 0), (2, .ref 236), (3, .ref 259), (4, vi i)], [], hp_w h cr, b, c) Q := by
  obtain ⟨g, i11, r238, r241, gp0⟩ := I
  have r238e := r238.e0
  have r241e := r241.e0
  have b1 := gi_b (lo := 0) (hi := 6) g 238 98 rfl
  have b2 := gi_b (lo := 0) (hi := 6) g 238 99 rfl
  have b3 := gi_b (lo := 0) (hi := 6) g 238 100 rfl
  have b4 := gi_b (lo := 0) (hi := 6) g 238 101 rfl
  have b5 := gi_b (lo := 0) (hi := 3) g 238 102 rfl
  have b6 := gi_b (lo := 0) (hi := 12) g 238 106 rfl
  have b7 := gi_b (lo := 0) (hi := 12) g 238 73 rfl
  have b8 := gi_b (lo := 0) (hi := 12) g 238 2 rfl
  have b9 := gi_b (lo := 0) (hi := 9999) g 238 119 rfl
  have b10 := gi_b (lo := 0) (hi := 9999) g 238 67 rfl
  have b11 := gi_b (lo := 0) (hi := 9) g 238 69 rfl
  have b12 := gi_b (lo := 0) (hi := 9) g 238 5 rfl
  have b13 := gi_b (lo := 0) (hi := 6) g 241 98 rfl
  have b14 := gi_b (lo := 0) (hi := 6) g 241 99 rfl
  have b15 := gi_b (lo := 0) (hi := 6) g 241 100 rfl
  have b16 := gi_b (lo := 0) (hi := 6) g 241 101 rfl
  have b17 := gi_b (lo := 0) (hi := 3) g 241 102 rfl
  have b18 := gi_b (lo := 0) (hi := 12) g 241 106 rfl
  have b19 := gi_b (lo := 0) (hi := 12) g 241 73 rfl
  have b20 := gi_b (lo := 0) (hi := 12) g 241 2 rfl
  have b21 := gi_b (lo := 0) (hi := 9999) g 241 119 rfl
  have b22 := gi_b (lo := 0) (hi := 9999) g 241 67 rfl
  have b23 := gi_b (lo := 0) (hi := 9) g 241 69 rfl
  have b24 := gi_b (lo := 0) (hi := 9) g 241 5 rfl
  have b25 := gi_b (lo := 0) (hi := 800) g 1 1 rfl
  have b26 := gi_b (lo := 0) (hi := 800) g 236 2 rfl
  refine wi_aload_n (i := 1) (x := 0) (nx := 1074) (r1 := 0) (r2 := 0) (r3 := 0) rfl rfl ?_
  refine wi_aload_n (i := 0) (x := 1000000) (nx := 1075) (r1 := 0) (r2 := 0) (r3 := 0) rfl rfl ?_
  refine wi_iload (i := 4) (e := i) (nx := 1077) (r1 := 0) (r2 := 0) (r3 := 0) rfl rfl ?_
  refine wi_iconst (n := 1) (nx := 1078) (r1 := 0) (r2 := 0) (r3 := 0) rfl ?_
  refine wr_add (nx := 1079) (r1 := 0) (r2 := 0) (r3 := 0) rfl (fun e27 (fe27 : e27 = i + 1) => ?_)
  obtain ⟨i28, ei28⟩ : ∃ q : Nat, e27 = (q : Int) := ⟨(e27).toNat, by omega⟩
  have s29 := sc_b (xs i28)
  refine wr_sc (a := e27) (f := i28) (nx := 1080) (r1 := 0) (r2 := 0) (r3 := 0) rfl (by omega) (by omega) hL ?_
  refine wi_aload_n (i := 3) (x := 259) (nx := 1081) (r1 := 0) (r2 := 0) (r3 := 0) rfl rfl ?_
  refine wi_S (rest := []) (as := [.ref 0, vi ((xs i28).toInt), .ref 259]) (nx := 1084) (r1 := 18) (r2 := 19) (r3 := 0) rfl rfl rfl (of_decide_eq_true rfl) rfl rfl (of_decide_eq_true rfl) (of_decide_eq_true rfl) ?_
  refine wi_aload_n (i := 2) (x := 259) (nx := 1) (r1 := 0) (r2 := 0) (r3 := 0) rfl rfl ?_
  refine wi_iconst (n := 0) (nx := 2) (r1 := 0) (r2 := 0) (r3 := 0) rfl ?_
  refine wi_aload_n (i := 0) (x := 0) (nx := 3) (r1 := 0) (r2 := 0) (r3 := 0) rfl rfl ?_
  refine wi_iload_n (i := 1) (e := (xs i28).toInt) (nx := 4) (r1 := 0) (r2 := 0) (r3 := 0) rfl rfl ?_
  refine wr_V (k0 := 0) (rest := [vi 0, .ref 259]) (as := [.ref 0, vi ((xs i28).toInt)]) (nx := 7) (r1 := 80) (r2 := 1) (r3 := 0) rfl rfl rfl (of_decide_eq_true rfl) rfl rfl (by decide) rfl rfl (of_decide_eq_true rfl) (of_decide_eq_true rfl) ?_
  refine ct_80_0 hcr hr  g ((xs i28).toInt) (by omega)  (fun h30 z31 g30 u30 (fz31 : -2147483648 ≤ z31 ∧ z31 ≤ 2147483647) => ?_) (fun h30 g30 u30 => ?_)
  ·
    refine wk_i ?_
    refine wi_i2l (nx := 8) (r1 := 0) (r2 := 0) (r3 := 0) rfl (by omega) ?_
    refine wr_ls (k0 := 259) (a := 0) (f := 0) (x := z31) (bl := -9223372036854775808) (bh := 9223372036854775807) (nx := 9) (r1 := 0) (r2 := 0) (r3 := 0) rfl (by decide) rfl (by omega) (by omega) (by decide) g30 rfl (by omega) (fun h32 g32 w32 u32 => ?_)
    refine wi_goto (nx := 12) (r1 := 15) (r2 := 0) (r3 := 0) rfl ?_
    refine wi_iconst (n := 0) (nx := 16) (r1 := 0) (r2 := 0) (r3 := 0) rfl ?_
    refine wi_ireturn (nx := 17) (r1 := 0) (r2 := 0) (r3 := 0) rfl rfl ?_
    refine wk_i ?_
    refine wi_istore (i := 5) (e := 0) (lo2 := [(5, vi 0), (0, .ref 1000000), (1, .ref 0), (2, .ref 236), (3, .ref 259), (4, vi i)]) (nx := 1086) (r1 := 0) (r2 := 0) (r3 := 0) rfl rfl ?_
    refine wi_aload_n (i := 2) (x := 236) (nx := 1087) (r1 := 0) (r2 := 0) (r3 := 0) rfl rfl ?_
    refine wi_aload_n (i := 0) (x := 1000000) (nx := 1088) (r1 := 0) (r2 := 0) (r3 := 0) rfl rfl ?_
    refine wi_iload (i := 4) (e := i) (nx := 1090) (r1 := 0) (r2 := 0) (r3 := 0) rfl rfl ?_
    refine wi_iconst (n := 1) (nx := 1091) (r1 := 0) (r2 := 0) (r3 := 0) rfl ?_
    refine wr_add (nx := 1092) (r1 := 0) (r2 := 0) (r3 := 0) rfl (fun e33 (fe33 : e33 = i + 1) => ?_)
    refine wr_sc (a := e33) (f := i28) (nx := 1093) (r1 := 0) (r2 := 0) (r3 := 0) rfl (by omega) (by omega) hL ?_
    refine wr_V (k0 := 236) (rest := []) (as := [.ref 236, vi ((xs i28).toInt)]) (nx := 1096) (r1 := 284) (r2 := 1) (r3 := 11) rfl rfl rfl (of_decide_eq_true rfl) rfl rfl (by decide) rfl rfl (of_decide_eq_true rfl) (of_decide_eq_true rfl) ?_
    have e35 : h32 238 98 = h 238 98 := ((u32 238 98 rfl).trans (u30 238 98 rfl))
    have e36 : h32 238 99 = h 238 99 := ((u32 238 99 rfl).trans (u30 238 99 rfl))
    have e37 : h32 238 100 = h 238 100 := ((u32 238 100 rfl).trans (u30 238 100 rfl))
    have e38 : h32 238 101 = h 238 101 := ((u32 238 101 rfl).trans (u30 238 101 rfl))
    have e39 : h32 238 102 = h 238 102 := ((u32 238 102 rfl).trans (u30 238 102 rfl))
    have e40 : h32 238 106 = h 238 106 := ((u32 238 106 rfl).trans (u30 238 106 rfl))
    have e41 : h32 238 73 = h 238 73 := ((u32 238 73 rfl).trans (u30 238 73 rfl))
    have e42 : h32 238 2 = h 238 2 := ((u32 238 2 rfl).trans (u30 238 2 rfl))
    have e43 : h32 238 119 = h 238 119 := ((u32 238 119 rfl).trans (u30 238 119 rfl))
    have e44 : h32 238 67 = h 238 67 := ((u32 238 67 rfl).trans (u30 238 67 rfl))
    have e45 : h32 238 69 = h 238 69 := ((u32 238 69 rfl).trans (u30 238 69 rfl))
    have e46 : h32 238 5 = h 238 5 := ((u32 238 5 rfl).trans (u30 238 5 rfl))
    have gp48 := GPH.fr u30 rfl gp0
    have gp49 := GPH.fr u32 rfl gp48
    refine ct_284_236 hcr  g32 ((xs i28).toInt) (by omega) (show (h32 238 98) + (h32 238 99) + (h32 238 100) + (h32 238 101) + (h32 238 102) + (h32 238 106) = (h32 238 73) by omega) (show (h32 238 73) ≤ (h32 238 2) by omega) (show (h32 238 119) ≤ (h32 238 67) by omega) (show (h32 238 69) ≤ (h32 238 5) by omega) (show (h32 238 2) ≤ 12 * (h32 238 5) by omega) gp49 (fun h34 z47 g34 u34 (fz47 : -1 ≤ z47 ∧ z47 ≤ 11) (p34_0 : (h34 238 98) + (h34 238 99) + (h34 238 100) + (h34 238 101) + (h34 238 102) + (h34 238 106) = (h34 238 73)) (p34_1 : (h34 238 73) ≤ (h34 238 2)) (p34_2 : (h34 238 119) ≤ (h34 238 67)) (p34_3 : (h34 238 69) ≤ (h34 238 5)) (p34_4 : (h34 238 2) ≤ 12 * (h34 238 5)) y34_0 => ?_)
    have b50 := gi_b (lo := 0) (hi := 6) g34 238 98 rfl
    have b51 := gi_b (lo := 0) (hi := 6) g34 238 99 rfl
    have b52 := gi_b (lo := 0) (hi := 6) g34 238 100 rfl
    have b53 := gi_b (lo := 0) (hi := 6) g34 238 101 rfl
    have b54 := gi_b (lo := 0) (hi := 3) g34 238 102 rfl
    have e55 : h34 238 106 = h 238 106 := ((u34 238 106 rfl).trans ((u32 238 106 rfl).trans (u30 238 106 rfl)))
    have e56 : h34 238 73 = h 238 73 := ((u34 238 73 rfl).trans ((u32 238 73 rfl).trans (u30 238 73 rfl)))
    have e57 : h34 238 2 = h 238 2 := ((u34 238 2 rfl).trans ((u32 238 2 rfl).trans (u30 238 2 rfl)))
    have e58 : h34 238 119 = h 238 119 := ((u34 238 119 rfl).trans ((u32 238 119 rfl).trans (u30 238 119 rfl)))
    have e59 : h34 238 67 = h 238 67 := ((u34 238 67 rfl).trans ((u32 238 67 rfl).trans (u30 238 67 rfl)))
    have e60 : h34 238 69 = h 238 69 := ((u34 238 69 rfl).trans ((u32 238 69 rfl).trans (u30 238 69 rfl)))
    have e61 : h34 238 5 = h 238 5 := ((u34 238 5 rfl).trans ((u32 238 5 rfl).trans (u30 238 5 rfl)))
    refine wk_i ?_
    refine wi_istore (i := 6) (e := z47) (lo2 := [(6, vi z47), (5, vi 0), (0, .ref 1000000), (1, .ref 0), (2, .ref 236), (3, .ref 259), (4, vi i)]) (nx := 1098) (r1 := 0) (r2 := 0) (r3 := 0) rfl rfl ?_
    refine wi_goto (nx := 1101) (r1 := 1529) (r2 := 0) (r3 := 0) rfl ?_
    refine wp.lo (lo := [(0, .ref 1000000), (1, .ref 0), (2, .ref 236), (3, .ref 259), (4, vi i)]) ⟨rfl, rfl, rfl, rfl, rfl, trivial⟩ rfl ?_
    have e62 : h34 241 98 = h 241 98 := ((u34 241 98 rfl).trans ((u32 241 98 rfl).trans (u30 241 98 rfl)))
    have e63 : h34 241 99 = h 241 99 := ((u34 241 99 rfl).trans ((u32 241 99 rfl).trans (u30 241 99 rfl)))
    have e64 : h34 241 100 = h 241 100 := ((u34 241 100 rfl).trans ((u32 241 100 rfl).trans (u30 241 100 rfl)))
    have e65 : h34 241 101 = h 241 101 := ((u34 241 101 rfl).trans ((u32 241 101 rfl).trans (u30 241 101 rfl)))
    have e66 : h34 241 102 = h 241 102 := ((u34 241 102 rfl).trans ((u32 241 102 rfl).trans (u30 241 102 rfl)))
    have e67 : h34 241 106 = h 241 106 := ((u34 241 106 rfl).trans ((u32 241 106 rfl).trans (u30 241 106 rfl)))
    have e68 : h34 241 73 = h 241 73 := ((u34 241 73 rfl).trans ((u32 241 73 rfl).trans (u30 241 73 rfl)))
    have e69 : h34 241 2 = h 241 2 := ((u34 241 2 rfl).trans ((u32 241 2 rfl).trans (u30 241 2 rfl)))
    have e70 : h34 241 119 = h 241 119 := ((u34 241 119 rfl).trans ((u32 241 119 rfl).trans (u30 241 119 rfl)))
    have e71 : h34 241 67 = h 241 67 := ((u34 241 67 rfl).trans ((u32 241 67 rfl).trans (u30 241 67 rfl)))
    have e72 : h34 241 69 = h 241 69 := ((u34 241 69 rfl).trans ((u32 241 69 rfl).trans (u30 241 69 rfl)))
    have e73 : h34 241 5 = h 241 5 := ((u34 241 5 rfl).trans ((u32 241 5 rfl).trans (u30 241 5 rfl)))
    have e74 : h34 1 1 = h 1 1 := ((u34 1 1 rfl).trans ((u32 1 1 rfl).trans (u30 1 1 rfl)))
    have e75 : h34 236 2 = h 236 2 := ((u34 236 2 rfl).trans ((u32 236 2 rfl).trans (u30 236 2 rfl)))
    exact k h34 b c ⟨g34, (show h34 1 1 = h34 236 2 by omega), (RS.i0 (f := h34 238) (by refine ⟨?_, ?_, ?_, ?_, ?_⟩ <;> omega)), (RS.i0 (f := h34 241) (by refine ⟨?_, ?_, ?_, ?_, ?_⟩ <;> omega)), y34_0⟩ (by omega) (by omega)
  ·
    refine wk_h 12 (by decide) rfl ?_
    refine wr_astx (i := 3) (lo2 := [(3, .retAddr 0), (0, .ref 0), (1, vi ((xs i28).toInt)), (2, .ref 259)]) (nx := 13) (r1 := 0) (r2 := 0) (r3 := 0) rfl rfl ?_
    refine wi_iconst (n := 1) (nx := 14) (r1 := 0) (r2 := 0) (r3 := 0) rfl ?_
    refine wi_ireturn (nx := 15) (r1 := 0) (r2 := 0) (r3 := 0) rfl rfl ?_
    refine wk_i ?_
    refine wi_istore (i := 5) (e := 1) (lo2 := [(5, vi 1), (0, .ref 1000000), (1, .ref 0), (2, .ref 236), (3, .ref 259), (4, vi i)]) (nx := 1086) (r1 := 0) (r2 := 0) (r3 := 0) rfl rfl ?_
    refine wi_aload_n (i := 2) (x := 236) (nx := 1087) (r1 := 0) (r2 := 0) (r3 := 0) rfl rfl ?_
    refine wi_aload_n (i := 0) (x := 1000000) (nx := 1088) (r1 := 0) (r2 := 0) (r3 := 0) rfl rfl ?_
    refine wi_iload (i := 4) (e := i) (nx := 1090) (r1 := 0) (r2 := 0) (r3 := 0) rfl rfl ?_
    refine wi_iconst (n := 1) (nx := 1091) (r1 := 0) (r2 := 0) (r3 := 0) rfl ?_
    refine wr_add (nx := 1092) (r1 := 0) (r2 := 0) (r3 := 0) rfl (fun e32 (fe32 : e32 = i + 1) => ?_)
    refine wr_sc (a := e32) (f := i28) (nx := 1093) (r1 := 0) (r2 := 0) (r3 := 0) rfl (by omega) (by omega) hL ?_
    refine wr_V (k0 := 236) (rest := []) (as := [.ref 236, vi ((xs i28).toInt)]) (nx := 1096) (r1 := 284) (r2 := 1) (r3 := 11) rfl rfl rfl (of_decide_eq_true rfl) rfl rfl (by decide) rfl rfl (of_decide_eq_true rfl) (of_decide_eq_true rfl) ?_
    have e34 : h30 238 98 = h 238 98 := (u30 238 98 rfl)
    have e35 : h30 238 99 = h 238 99 := (u30 238 99 rfl)
    have e36 : h30 238 100 = h 238 100 := (u30 238 100 rfl)
    have e37 : h30 238 101 = h 238 101 := (u30 238 101 rfl)
    have e38 : h30 238 102 = h 238 102 := (u30 238 102 rfl)
    have e39 : h30 238 106 = h 238 106 := (u30 238 106 rfl)
    have e40 : h30 238 73 = h 238 73 := (u30 238 73 rfl)
    have e41 : h30 238 2 = h 238 2 := (u30 238 2 rfl)
    have e42 : h30 238 119 = h 238 119 := (u30 238 119 rfl)
    have e43 : h30 238 67 = h 238 67 := (u30 238 67 rfl)
    have e44 : h30 238 69 = h 238 69 := (u30 238 69 rfl)
    have e45 : h30 238 5 = h 238 5 := (u30 238 5 rfl)
    have gp47 := GPH.fr u30 rfl gp0
    refine ct_284_236 hcr  g30 ((xs i28).toInt) (by omega) (show (h30 238 98) + (h30 238 99) + (h30 238 100) + (h30 238 101) + (h30 238 102) + (h30 238 106) = (h30 238 73) by omega) (show (h30 238 73) ≤ (h30 238 2) by omega) (show (h30 238 119) ≤ (h30 238 67) by omega) (show (h30 238 69) ≤ (h30 238 5) by omega) (show (h30 238 2) ≤ 12 * (h30 238 5) by omega) gp47 (fun h33 z46 g33 u33 (fz46 : -1 ≤ z46 ∧ z46 ≤ 11) (p33_0 : (h33 238 98) + (h33 238 99) + (h33 238 100) + (h33 238 101) + (h33 238 102) + (h33 238 106) = (h33 238 73)) (p33_1 : (h33 238 73) ≤ (h33 238 2)) (p33_2 : (h33 238 119) ≤ (h33 238 67)) (p33_3 : (h33 238 69) ≤ (h33 238 5)) (p33_4 : (h33 238 2) ≤ 12 * (h33 238 5)) y33_0 => ?_)
    have b48 := gi_b (lo := 0) (hi := 6) g33 238 98 rfl
    have b49 := gi_b (lo := 0) (hi := 6) g33 238 99 rfl
    have b50 := gi_b (lo := 0) (hi := 6) g33 238 100 rfl
    have b51 := gi_b (lo := 0) (hi := 6) g33 238 101 rfl
    have b52 := gi_b (lo := 0) (hi := 3) g33 238 102 rfl
    have e53 : h33 238 106 = h 238 106 := ((u33 238 106 rfl).trans (u30 238 106 rfl))
    have e54 : h33 238 73 = h 238 73 := ((u33 238 73 rfl).trans (u30 238 73 rfl))
    have e55 : h33 238 2 = h 238 2 := ((u33 238 2 rfl).trans (u30 238 2 rfl))
    have e56 : h33 238 119 = h 238 119 := ((u33 238 119 rfl).trans (u30 238 119 rfl))
    have e57 : h33 238 67 = h 238 67 := ((u33 238 67 rfl).trans (u30 238 67 rfl))
    have e58 : h33 238 69 = h 238 69 := ((u33 238 69 rfl).trans (u30 238 69 rfl))
    have e59 : h33 238 5 = h 238 5 := ((u33 238 5 rfl).trans (u30 238 5 rfl))
    refine wk_i ?_
    refine wi_istore (i := 6) (e := z46) (lo2 := [(6, vi z46), (5, vi 1), (0, .ref 1000000), (1, .ref 0), (2, .ref 236), (3, .ref 259), (4, vi i)]) (nx := 1098) (r1 := 0) (r2 := 0) (r3 := 0) rfl rfl ?_
    refine wi_goto (nx := 1101) (r1 := 1529) (r2 := 0) (r3 := 0) rfl ?_
    refine wp.lo (lo := [(0, .ref 1000000), (1, .ref 0), (2, .ref 236), (3, .ref 259), (4, vi i)]) ⟨rfl, rfl, rfl, rfl, rfl, trivial⟩ rfl ?_
    have e60 : h33 241 98 = h 241 98 := ((u33 241 98 rfl).trans (u30 241 98 rfl))
    have e61 : h33 241 99 = h 241 99 := ((u33 241 99 rfl).trans (u30 241 99 rfl))
    have e62 : h33 241 100 = h 241 100 := ((u33 241 100 rfl).trans (u30 241 100 rfl))
    have e63 : h33 241 101 = h 241 101 := ((u33 241 101 rfl).trans (u30 241 101 rfl))
    have e64 : h33 241 102 = h 241 102 := ((u33 241 102 rfl).trans (u30 241 102 rfl))
    have e65 : h33 241 106 = h 241 106 := ((u33 241 106 rfl).trans (u30 241 106 rfl))
    have e66 : h33 241 73 = h 241 73 := ((u33 241 73 rfl).trans (u30 241 73 rfl))
    have e67 : h33 241 2 = h 241 2 := ((u33 241 2 rfl).trans (u30 241 2 rfl))
    have e68 : h33 241 119 = h 241 119 := ((u33 241 119 rfl).trans (u30 241 119 rfl))
    have e69 : h33 241 67 = h 241 67 := ((u33 241 67 rfl).trans (u30 241 67 rfl))
    have e70 : h33 241 69 = h 241 69 := ((u33 241 69 rfl).trans (u30 241 69 rfl))
    have e71 : h33 241 5 = h 241 5 := ((u33 241 5 rfl).trans (u30 241 5 rfl))
    have e72 : h33 1 1 = h 1 1 := ((u33 1 1 rfl).trans (u30 1 1 rfl))
    have e73 : h33 236 2 = h 236 2 := ((u33 236 2 rfl).trans (u30 236 2 rfl))
    exact k h33 (b - 1) (c - 6) ⟨g33, (show h33 1 1 = h33 236 2 by omega), (RS.i0 (f := h33 238) (by refine ⟨?_, ?_, ?_, ?_, ?_⟩ <;> omega)), (RS.i0 (f := h33 241) (by refine ⟨?_, ?_, ?_, ?_, ?_⟩ <;> omega)), y33_0⟩ (by omega) (by omega)
-- the law, case at 1101
set_option maxRecDepth 100000 in
set_option maxHeartbeats 100000000 in
theorem lc_1101 {L : Nat} {xs : Nat → Int32} {d b c : Nat} {h : hp} {cr : Nat → Nat → Option Nat} {Q : hp_Q} (hcr : CR cr) (hL : L ≤ 3072) (hr : 1 ≤ b ∧ 6 ≤ c) (I : LI h) (i : Int) (hi : 0 ≤ i ∧ i + 6 ≤ L) (k : ∀ (h2 : hp) (b2 c2 : Nat), LI h2 → b ≤ b2 + 1 → c ≤ c2 + 6 → wp (md_xa (L, xs)) (d + 107) 0 (1529, [(0, .ref 1000000), (1, .ref 0), (2, .ref 236), (3, .ref 259), (4, vi i)], [], hp_w h2 cr, b2, c2) Q) : wp (md_xa (L, xs)) (d + 107) 0 (1101, [(0, .ref 1000000), (1, .ref 0), (2, .ref 236), (3, .ref 259), (4, vi i)], [], hp_w h cr, b, c) Q := by
  obtain ⟨g, i11, r238, r241, gp0⟩ := I
  have r238e := r238.e0
  have r241e := r241.e0
  have b1 := gi_b (lo := 0) (hi := 6) g 238 98 rfl
  have b2 := gi_b (lo := 0) (hi := 6) g 238 99 rfl
  have b3 := gi_b (lo := 0) (hi := 6) g 238 100 rfl
  have b4 := gi_b (lo := 0) (hi := 6) g 238 101 rfl
  have b5 := gi_b (lo := 0) (hi := 3) g 238 102 rfl
  have b6 := gi_b (lo := 0) (hi := 12) g 238 106 rfl
  have b7 := gi_b (lo := 0) (hi := 12) g 238 73 rfl
  have b8 := gi_b (lo := 0) (hi := 12) g 238 2 rfl
  have b9 := gi_b (lo := 0) (hi := 9999) g 238 119 rfl
  have b10 := gi_b (lo := 0) (hi := 9999) g 238 67 rfl
  have b11 := gi_b (lo := 0) (hi := 9) g 238 69 rfl
  have b12 := gi_b (lo := 0) (hi := 9) g 238 5 rfl
  have b13 := gi_b (lo := 0) (hi := 6) g 241 98 rfl
  have b14 := gi_b (lo := 0) (hi := 6) g 241 99 rfl
  have b15 := gi_b (lo := 0) (hi := 6) g 241 100 rfl
  have b16 := gi_b (lo := 0) (hi := 6) g 241 101 rfl
  have b17 := gi_b (lo := 0) (hi := 3) g 241 102 rfl
  have b18 := gi_b (lo := 0) (hi := 12) g 241 106 rfl
  have b19 := gi_b (lo := 0) (hi := 12) g 241 73 rfl
  have b20 := gi_b (lo := 0) (hi := 12) g 241 2 rfl
  have b21 := gi_b (lo := 0) (hi := 9999) g 241 119 rfl
  have b22 := gi_b (lo := 0) (hi := 9999) g 241 67 rfl
  have b23 := gi_b (lo := 0) (hi := 9) g 241 69 rfl
  have b24 := gi_b (lo := 0) (hi := 9) g 241 5 rfl
  have b25 := gi_b (lo := 0) (hi := 800) g 1 1 rfl
  have b26 := gi_b (lo := 0) (hi := 800) g 236 2 rfl
  refine wi_aload_n (i := 1) (x := 0) (nx := 1102) (r1 := 0) (r2 := 0) (r3 := 0) rfl rfl ?_
  refine wr_V (k0 := 0) (rest := []) (as := [.ref 0]) (nx := 1105) (r1 := 44) (r2 := 0) (r3 := 0) rfl rfl rfl (of_decide_eq_true rfl) rfl rfl (by decide) rfl rfl (of_decide_eq_true rfl) (of_decide_eq_true rfl) ?_
  refine ct_44_0 hcr  g    (fun h27 z28 g27 u27 (fz28 : -2147483648 ≤ z28 ∧ z28 ≤ 2147483647) => ?_)
  refine wk_i ?_
  refine wi_pop (nx := 1106) (r1 := 0) (r2 := 0) (r3 := 0) rfl rfl ?_
  refine wi_aload_n (i := 2) (x := 236) (nx := 1107) (r1 := 0) (r2 := 0) (r3 := 0) rfl rfl ?_
  refine wr_V (k0 := 236) (rest := []) (as := [.ref 236]) (nx := 1110) (r1 := 287) (r2 := 0) (r3 := 11) rfl rfl rfl (of_decide_eq_true rfl) rfl rfl (by decide) rfl rfl (of_decide_eq_true rfl) (of_decide_eq_true rfl) ?_
  have e30 : h27 238 98 = h 238 98 := (u27 238 98 rfl)
  have e31 : h27 238 99 = h 238 99 := (u27 238 99 rfl)
  have e32 : h27 238 100 = h 238 100 := (u27 238 100 rfl)
  have e33 : h27 238 101 = h 238 101 := (u27 238 101 rfl)
  have e34 : h27 238 102 = h 238 102 := (u27 238 102 rfl)
  have e35 : h27 238 106 = h 238 106 := (u27 238 106 rfl)
  have e36 : h27 238 73 = h 238 73 := (u27 238 73 rfl)
  have e37 : h27 238 2 = h 238 2 := (u27 238 2 rfl)
  have e38 : h27 238 119 = h 238 119 := (u27 238 119 rfl)
  have e39 : h27 238 67 = h 238 67 := (u27 238 67 rfl)
  have e40 : h27 238 69 = h 238 69 := (u27 238 69 rfl)
  have e41 : h27 238 5 = h 238 5 := (u27 238 5 rfl)
  have gp43 := GPH.fr u27 rfl gp0
  refine ct_287_236 hcr  g27   (show (h27 238 98) + (h27 238 99) + (h27 238 100) + (h27 238 101) + (h27 238 102) + (h27 238 106) = (h27 238 73) by omega) (show (h27 238 73) ≤ (h27 238 2) by omega) (show (h27 238 119) ≤ (h27 238 67) by omega) (show (h27 238 69) ≤ (h27 238 5) by omega) (show (h27 238 2) ≤ 12 * (h27 238 5) by omega) gp43 (fun h29 z42 g29 u29 (fz42 : -1 ≤ z42 ∧ z42 ≤ 9999) (p29_0 : (h29 238 98) + (h29 238 99) + (h29 238 100) + (h29 238 101) + (h29 238 102) + (h29 238 106) = (h29 238 73)) (p29_1 : (h29 238 73) ≤ (h29 238 2)) (p29_2 : (h29 238 119) ≤ (h29 238 67)) (p29_3 : (h29 238 69) ≤ (h29 238 5)) (p29_4 : (h29 238 2) ≤ 12 * (h29 238 5)) y29_0 => ?_)
  have e44 : h29 238 98 = h 238 98 := ((u29 238 98 rfl).trans (u27 238 98 rfl))
  have e45 : h29 238 99 = h 238 99 := ((u29 238 99 rfl).trans (u27 238 99 rfl))
  have e46 : h29 238 100 = h 238 100 := ((u29 238 100 rfl).trans (u27 238 100 rfl))
  have e47 : h29 238 101 = h 238 101 := ((u29 238 101 rfl).trans (u27 238 101 rfl))
  have e48 : h29 238 102 = h 238 102 := ((u29 238 102 rfl).trans (u27 238 102 rfl))
  have e49 : h29 238 106 = h 238 106 := ((u29 238 106 rfl).trans (u27 238 106 rfl))
  have e50 : h29 238 73 = h 238 73 := ((u29 238 73 rfl).trans (u27 238 73 rfl))
  have e51 : h29 238 2 = h 238 2 := ((u29 238 2 rfl).trans (u27 238 2 rfl))
  have e52 : h29 238 119 = h 238 119 := ((u29 238 119 rfl).trans (u27 238 119 rfl))
  have b53 := gi_b (lo := 0) (hi := 9999) g29 238 67 rfl
  have e54 : h29 238 69 = h 238 69 := ((u29 238 69 rfl).trans (u27 238 69 rfl))
  have e55 : h29 238 5 = h 238 5 := ((u29 238 5 rfl).trans (u27 238 5 rfl))
  refine wk_i ?_
  refine wi_pop (nx := 1111) (r1 := 0) (r2 := 0) (r3 := 0) rfl rfl ?_
  refine wi_goto (nx := 1114) (r1 := 1529) (r2 := 0) (r3 := 0) rfl ?_
  have e56 : h29 241 98 = h 241 98 := ((u29 241 98 rfl).trans (u27 241 98 rfl))
  have e57 : h29 241 99 = h 241 99 := ((u29 241 99 rfl).trans (u27 241 99 rfl))
  have e58 : h29 241 100 = h 241 100 := ((u29 241 100 rfl).trans (u27 241 100 rfl))
  have e59 : h29 241 101 = h 241 101 := ((u29 241 101 rfl).trans (u27 241 101 rfl))
  have e60 : h29 241 102 = h 241 102 := ((u29 241 102 rfl).trans (u27 241 102 rfl))
  have e61 : h29 241 106 = h 241 106 := ((u29 241 106 rfl).trans (u27 241 106 rfl))
  have e62 : h29 241 73 = h 241 73 := ((u29 241 73 rfl).trans (u27 241 73 rfl))
  have e63 : h29 241 2 = h 241 2 := ((u29 241 2 rfl).trans (u27 241 2 rfl))
  have e64 : h29 241 119 = h 241 119 := ((u29 241 119 rfl).trans (u27 241 119 rfl))
  have e65 : h29 241 67 = h 241 67 := ((u29 241 67 rfl).trans (u27 241 67 rfl))
  have e66 : h29 241 69 = h 241 69 := ((u29 241 69 rfl).trans (u27 241 69 rfl))
  have e67 : h29 241 5 = h 241 5 := ((u29 241 5 rfl).trans (u27 241 5 rfl))
  have e68 : h29 1 1 = h 1 1 := ((u29 1 1 rfl).trans (u27 1 1 rfl))
  have e69 : h29 236 2 = h 236 2 := ((u29 236 2 rfl).trans (u27 236 2 rfl))
  exact k h29 b c ⟨g29, (show h29 1 1 = h29 236 2 by omega), (RS.i0 (f := h29 238) (by refine ⟨?_, ?_, ?_, ?_, ?_⟩ <;> omega)), (RS.i0 (f := h29 241) (by refine ⟨?_, ?_, ?_, ?_, ?_⟩ <;> omega)), y29_0⟩ (by omega) (by omega)
-- the law, case at 1114
set_option maxRecDepth 100000 in
set_option maxHeartbeats 100000000 in
theorem lc_1114 {L : Nat} {xs : Nat → Int32} {d b c : Nat} {h : hp} {cr : Nat → Nat → Option Nat} {Q : hp_Q} (hcr : CR cr) (hL : L ≤ 3072) (hr : 1 ≤ b ∧ 6 ≤ c) (I : LI h) (i : Int) (hi : 0 ≤ i ∧ i + 6 ≤ L) (k : ∀ (h2 : hp) (b2 c2 : Nat), LI h2 → b ≤ b2 + 1 → c ≤ c2 + 6 → wp (md_xa (L, xs)) (d + 107) 0 (1529, [(0, .ref 1000000), (1, .ref 0), (2, .ref 236), (3, .ref 259), (4, vi i)], [], hp_w h2 cr, b2, c2) Q) : wp (md_xa (L, xs)) (d + 107) 0 (1114, [(0, .ref 1000000), (1, .ref 0), (2, .ref 236), (3, .ref 259), (4, vi i)], [], hp_w h cr, b, c) Q := by
  obtain ⟨g, i11, r238, r241, gp0⟩ := I
  have r238e := r238.e0
  have r241e := r241.e0
  have b1 := gi_b (lo := 0) (hi := 6) g 238 98 rfl
  have b2 := gi_b (lo := 0) (hi := 6) g 238 99 rfl
  have b3 := gi_b (lo := 0) (hi := 6) g 238 100 rfl
  have b4 := gi_b (lo := 0) (hi := 6) g 238 101 rfl
  have b5 := gi_b (lo := 0) (hi := 3) g 238 102 rfl
  have b6 := gi_b (lo := 0) (hi := 12) g 238 106 rfl
  have b7 := gi_b (lo := 0) (hi := 12) g 238 73 rfl
  have b8 := gi_b (lo := 0) (hi := 12) g 238 2 rfl
  have b9 := gi_b (lo := 0) (hi := 9999) g 238 119 rfl
  have b10 := gi_b (lo := 0) (hi := 9999) g 238 67 rfl
  have b11 := gi_b (lo := 0) (hi := 9) g 238 69 rfl
  have b12 := gi_b (lo := 0) (hi := 9) g 238 5 rfl
  have b13 := gi_b (lo := 0) (hi := 6) g 241 98 rfl
  have b14 := gi_b (lo := 0) (hi := 6) g 241 99 rfl
  have b15 := gi_b (lo := 0) (hi := 6) g 241 100 rfl
  have b16 := gi_b (lo := 0) (hi := 6) g 241 101 rfl
  have b17 := gi_b (lo := 0) (hi := 3) g 241 102 rfl
  have b18 := gi_b (lo := 0) (hi := 12) g 241 106 rfl
  have b19 := gi_b (lo := 0) (hi := 12) g 241 73 rfl
  have b20 := gi_b (lo := 0) (hi := 12) g 241 2 rfl
  have b21 := gi_b (lo := 0) (hi := 9999) g 241 119 rfl
  have b22 := gi_b (lo := 0) (hi := 9999) g 241 67 rfl
  have b23 := gi_b (lo := 0) (hi := 9) g 241 69 rfl
  have b24 := gi_b (lo := 0) (hi := 9) g 241 5 rfl
  have b25 := gi_b (lo := 0) (hi := 800) g 1 1 rfl
  have b26 := gi_b (lo := 0) (hi := 800) g 236 2 rfl
  refine wi_aload_n (i := 1) (x := 0) (nx := 1115) (r1 := 0) (r2 := 0) (r3 := 0) rfl rfl ?_
  refine wr_V (k0 := 0) (rest := []) (as := [.ref 0]) (nx := 1118) (r1 := 46) (r2 := 0) (r3 := 0) rfl rfl rfl (of_decide_eq_true rfl) rfl rfl (by decide) rfl rfl (of_decide_eq_true rfl) (of_decide_eq_true rfl) ?_
  refine ct_46_0 hcr  g    (fun h27 z28 g27 u27 (fz28 : -2147483648 ≤ z28 ∧ z28 ≤ 2147483647) => ?_)
  refine wk_i ?_
  refine wi_pop (nx := 1119) (r1 := 0) (r2 := 0) (r3 := 0) rfl rfl ?_
  refine wi_aload_n (i := 2) (x := 236) (nx := 1120) (r1 := 0) (r2 := 0) (r3 := 0) rfl rfl ?_
  refine wr_V (k0 := 236) (rest := []) (as := [.ref 236]) (nx := 1123) (r1 := 288) (r2 := 0) (r3 := 11) rfl rfl rfl (of_decide_eq_true rfl) rfl rfl (by decide) rfl rfl (of_decide_eq_true rfl) (of_decide_eq_true rfl) ?_
  have e30 : h27 238 98 = h 238 98 := (u27 238 98 rfl)
  have e31 : h27 238 99 = h 238 99 := (u27 238 99 rfl)
  have e32 : h27 238 100 = h 238 100 := (u27 238 100 rfl)
  have e33 : h27 238 101 = h 238 101 := (u27 238 101 rfl)
  have e34 : h27 238 102 = h 238 102 := (u27 238 102 rfl)
  have e35 : h27 238 106 = h 238 106 := (u27 238 106 rfl)
  have e36 : h27 238 73 = h 238 73 := (u27 238 73 rfl)
  have e37 : h27 238 2 = h 238 2 := (u27 238 2 rfl)
  have e38 : h27 238 119 = h 238 119 := (u27 238 119 rfl)
  have e39 : h27 238 67 = h 238 67 := (u27 238 67 rfl)
  have e40 : h27 238 69 = h 238 69 := (u27 238 69 rfl)
  have e41 : h27 238 5 = h 238 5 := (u27 238 5 rfl)
  have gp43 := GPH.fr u27 rfl gp0
  refine ct_288_236 hcr  g27   (show (h27 238 98) + (h27 238 99) + (h27 238 100) + (h27 238 101) + (h27 238 102) + (h27 238 106) = (h27 238 73) by omega) (show (h27 238 73) ≤ (h27 238 2) by omega) (show (h27 238 119) ≤ (h27 238 67) by omega) (show (h27 238 69) ≤ (h27 238 5) by omega) (show (h27 238 2) ≤ 12 * (h27 238 5) by omega) gp43 (fun h29 z42 g29 u29 (fz42 : -1 ≤ z42 ∧ z42 ≤ 3) (p29_0 : (h29 238 98) + (h29 238 99) + (h29 238 100) + (h29 238 101) + (h29 238 102) + (h29 238 106) = (h29 238 73)) (p29_1 : (h29 238 73) ≤ (h29 238 2)) (p29_2 : (h29 238 119) ≤ (h29 238 67)) (p29_3 : (h29 238 69) ≤ (h29 238 5)) (p29_4 : (h29 238 2) ≤ 12 * (h29 238 5)) y29_0 => ?_)
  have b44 := gi_b (lo := 0) (hi := 6) g29 238 98 rfl
  have b45 := gi_b (lo := 0) (hi := 6) g29 238 99 rfl
  have b46 := gi_b (lo := 0) (hi := 6) g29 238 100 rfl
  have b47 := gi_b (lo := 0) (hi := 6) g29 238 101 rfl
  have b48 := gi_b (lo := 0) (hi := 3) g29 238 102 rfl
  have b49 := gi_b (lo := 0) (hi := 12) g29 238 106 rfl
  have b50 := gi_b (lo := 0) (hi := 12) g29 238 73 rfl
  have e51 : h29 238 2 = h 238 2 := ((u29 238 2 rfl).trans (u27 238 2 rfl))
  have b52 := gi_b (lo := 0) (hi := 9999) g29 238 119 rfl
  have b53 := gi_b (lo := 0) (hi := 9999) g29 238 67 rfl
  have b54 := gi_b (lo := 0) (hi := 9) g29 238 69 rfl
  have e55 : h29 238 5 = h 238 5 := ((u29 238 5 rfl).trans (u27 238 5 rfl))
  refine wk_i ?_
  refine wi_pop (nx := 1124) (r1 := 0) (r2 := 0) (r3 := 0) rfl rfl ?_
  refine wi_goto (nx := 1127) (r1 := 1529) (r2 := 0) (r3 := 0) rfl ?_
  have e56 : h29 241 98 = h 241 98 := ((u29 241 98 rfl).trans (u27 241 98 rfl))
  have e57 : h29 241 99 = h 241 99 := ((u29 241 99 rfl).trans (u27 241 99 rfl))
  have e58 : h29 241 100 = h 241 100 := ((u29 241 100 rfl).trans (u27 241 100 rfl))
  have e59 : h29 241 101 = h 241 101 := ((u29 241 101 rfl).trans (u27 241 101 rfl))
  have e60 : h29 241 102 = h 241 102 := ((u29 241 102 rfl).trans (u27 241 102 rfl))
  have e61 : h29 241 106 = h 241 106 := ((u29 241 106 rfl).trans (u27 241 106 rfl))
  have e62 : h29 241 73 = h 241 73 := ((u29 241 73 rfl).trans (u27 241 73 rfl))
  have e63 : h29 241 2 = h 241 2 := ((u29 241 2 rfl).trans (u27 241 2 rfl))
  have e64 : h29 241 119 = h 241 119 := ((u29 241 119 rfl).trans (u27 241 119 rfl))
  have e65 : h29 241 67 = h 241 67 := ((u29 241 67 rfl).trans (u27 241 67 rfl))
  have e66 : h29 241 69 = h 241 69 := ((u29 241 69 rfl).trans (u27 241 69 rfl))
  have e67 : h29 241 5 = h 241 5 := ((u29 241 5 rfl).trans (u27 241 5 rfl))
  have e68 : h29 1 1 = h 1 1 := ((u29 1 1 rfl).trans (u27 1 1 rfl))
  have e69 : h29 236 2 = h 236 2 := ((u29 236 2 rfl).trans (u27 236 2 rfl))
  exact k h29 b c ⟨g29, (show h29 1 1 = h29 236 2 by omega), (RS.i0 (f := h29 238) (by refine ⟨?_, ?_, ?_, ?_, ?_⟩ <;> omega)), (RS.i0 (f := h29 241) (by refine ⟨?_, ?_, ?_, ?_, ?_⟩ <;> omega)), y29_0⟩ (by omega) (by omega)
-- the law, case at 1127
set_option maxRecDepth 100000 in
set_option maxHeartbeats 100000000 in
theorem lc_1127 {L : Nat} {xs : Nat → Int32} {d b c : Nat} {h : hp} {cr : Nat → Nat → Option Nat} {Q : hp_Q} (hcr : CR cr) (hL : L ≤ 3072) (hr : 1 ≤ b ∧ 6 ≤ c) (I : LI h) (i : Int) (hi : 0 ≤ i ∧ i + 6 ≤ L) (k : ∀ (h2 : hp) (b2 c2 : Nat), LI h2 → b ≤ b2 + 1 → c ≤ c2 + 6 → wp (md_xa (L, xs)) (d + 107) 0 (1529, [(0, .ref 1000000), (1, .ref 0), (2, .ref 236), (3, .ref 259), (4, vi i)], [], hp_w h2 cr, b2, c2) Q) : wp (md_xa (L, xs)) (d + 107) 0 (1127, [(0, .ref 1000000), (1, .ref 0), (2, .ref 236), (3, .ref 259), (4, vi i)], [], hp_w h cr, b, c) Q := by
  obtain ⟨g, i11, r238, r241, gp0⟩ := I
  have r238e := r238.e0
  have r241e := r241.e0
  have b1 := gi_b (lo := 0) (hi := 6) g 238 98 rfl
  have b2 := gi_b (lo := 0) (hi := 6) g 238 99 rfl
  have b3 := gi_b (lo := 0) (hi := 6) g 238 100 rfl
  have b4 := gi_b (lo := 0) (hi := 6) g 238 101 rfl
  have b5 := gi_b (lo := 0) (hi := 3) g 238 102 rfl
  have b6 := gi_b (lo := 0) (hi := 12) g 238 106 rfl
  have b7 := gi_b (lo := 0) (hi := 12) g 238 73 rfl
  have b8 := gi_b (lo := 0) (hi := 12) g 238 2 rfl
  have b9 := gi_b (lo := 0) (hi := 9999) g 238 119 rfl
  have b10 := gi_b (lo := 0) (hi := 9999) g 238 67 rfl
  have b11 := gi_b (lo := 0) (hi := 9) g 238 69 rfl
  have b12 := gi_b (lo := 0) (hi := 9) g 238 5 rfl
  have b13 := gi_b (lo := 0) (hi := 6) g 241 98 rfl
  have b14 := gi_b (lo := 0) (hi := 6) g 241 99 rfl
  have b15 := gi_b (lo := 0) (hi := 6) g 241 100 rfl
  have b16 := gi_b (lo := 0) (hi := 6) g 241 101 rfl
  have b17 := gi_b (lo := 0) (hi := 3) g 241 102 rfl
  have b18 := gi_b (lo := 0) (hi := 12) g 241 106 rfl
  have b19 := gi_b (lo := 0) (hi := 12) g 241 73 rfl
  have b20 := gi_b (lo := 0) (hi := 12) g 241 2 rfl
  have b21 := gi_b (lo := 0) (hi := 9999) g 241 119 rfl
  have b22 := gi_b (lo := 0) (hi := 9999) g 241 67 rfl
  have b23 := gi_b (lo := 0) (hi := 9) g 241 69 rfl
  have b24 := gi_b (lo := 0) (hi := 9) g 241 5 rfl
  have b25 := gi_b (lo := 0) (hi := 800) g 1 1 rfl
  have b26 := gi_b (lo := 0) (hi := 800) g 236 2 rfl
  refine wi_aload_n (i := 1) (x := 0) (nx := 1128) (r1 := 0) (r2 := 0) (r3 := 0) rfl rfl ?_
  refine wr_V (k0 := 0) (rest := []) (as := [.ref 0]) (nx := 1131) (r1 := 47) (r2 := 0) (r3 := 0) rfl rfl rfl (of_decide_eq_true rfl) rfl rfl (by decide) rfl rfl (of_decide_eq_true rfl) (of_decide_eq_true rfl) ?_
  refine ct_47_0 hcr  g    (fun h27 z28 g27 u27 (fz28 : -2147483648 ≤ z28 ∧ z28 ≤ 2147483647) => ?_)
  refine wk_i ?_
  refine wi_pop (nx := 1132) (r1 := 0) (r2 := 0) (r3 := 0) rfl rfl ?_
  refine wi_aload_n (i := 2) (x := 236) (nx := 1133) (r1 := 0) (r2 := 0) (r3 := 0) rfl rfl ?_
  refine wr_V (k0 := 236) (rest := []) (as := [.ref 236]) (nx := 1136) (r1 := 313) (r2 := 0) (r3 := 11) rfl rfl rfl (of_decide_eq_true rfl) rfl rfl (by decide) rfl rfl (of_decide_eq_true rfl) (of_decide_eq_true rfl) ?_
  have e30 : h27 238 98 = h 238 98 := (u27 238 98 rfl)
  have e31 : h27 238 99 = h 238 99 := (u27 238 99 rfl)
  have e32 : h27 238 100 = h 238 100 := (u27 238 100 rfl)
  have e33 : h27 238 101 = h 238 101 := (u27 238 101 rfl)
  have e34 : h27 238 102 = h 238 102 := (u27 238 102 rfl)
  have e35 : h27 238 106 = h 238 106 := (u27 238 106 rfl)
  have e36 : h27 238 73 = h 238 73 := (u27 238 73 rfl)
  have e37 : h27 238 2 = h 238 2 := (u27 238 2 rfl)
  have e38 : h27 238 119 = h 238 119 := (u27 238 119 rfl)
  have e39 : h27 238 67 = h 238 67 := (u27 238 67 rfl)
  have e40 : h27 238 69 = h 238 69 := (u27 238 69 rfl)
  have e41 : h27 238 5 = h 238 5 := (u27 238 5 rfl)
  have gp43 := GPH.fr u27 rfl gp0
  refine ct_313_236 hcr  g27   (show (h27 238 98) + (h27 238 99) + (h27 238 100) + (h27 238 101) + (h27 238 102) + (h27 238 106) = (h27 238 73) by omega) (show (h27 238 73) ≤ (h27 238 2) by omega) (show (h27 238 119) ≤ (h27 238 67) by omega) (show (h27 238 69) ≤ (h27 238 5) by omega) (show (h27 238 2) ≤ 12 * (h27 238 5) by omega) gp43 (fun h29 z42 g29 u29 (fz42 : -1 ≤ z42 ∧ z42 ≤ 12) (p29_0 : (h29 238 98) + (h29 238 99) + (h29 238 100) + (h29 238 101) + (h29 238 102) + (h29 238 106) = (h29 238 73)) (p29_1 : (h29 238 73) ≤ (h29 238 2)) (p29_2 : (h29 238 119) ≤ (h29 238 67)) (p29_3 : (h29 238 69) ≤ (h29 238 5)) (p29_4 : (h29 238 2) ≤ 12 * (h29 238 5)) y29_0 => ?_)
  have b44 := gi_b (lo := 0) (hi := 6) g29 238 98 rfl
  have b45 := gi_b (lo := 0) (hi := 6) g29 238 99 rfl
  have b46 := gi_b (lo := 0) (hi := 6) g29 238 100 rfl
  have b47 := gi_b (lo := 0) (hi := 6) g29 238 101 rfl
  have b48 := gi_b (lo := 0) (hi := 3) g29 238 102 rfl
  have b49 := gi_b (lo := 0) (hi := 12) g29 238 106 rfl
  have e50 : h29 238 73 = h 238 73 := ((u29 238 73 rfl).trans (u27 238 73 rfl))
  have e51 : h29 238 2 = h 238 2 := ((u29 238 2 rfl).trans (u27 238 2 rfl))
  have b52 := gi_b (lo := 0) (hi := 9999) g29 238 119 rfl
  have b53 := gi_b (lo := 0) (hi := 9999) g29 238 67 rfl
  have b54 := gi_b (lo := 0) (hi := 9) g29 238 69 rfl
  have e55 : h29 238 5 = h 238 5 := ((u29 238 5 rfl).trans (u27 238 5 rfl))
  refine wk_i ?_
  refine wi_pop (nx := 1137) (r1 := 0) (r2 := 0) (r3 := 0) rfl rfl ?_
  refine wi_goto (nx := 1140) (r1 := 1529) (r2 := 0) (r3 := 0) rfl ?_
  have e56 : h29 241 98 = h 241 98 := ((u29 241 98 rfl).trans (u27 241 98 rfl))
  have e57 : h29 241 99 = h 241 99 := ((u29 241 99 rfl).trans (u27 241 99 rfl))
  have e58 : h29 241 100 = h 241 100 := ((u29 241 100 rfl).trans (u27 241 100 rfl))
  have e59 : h29 241 101 = h 241 101 := ((u29 241 101 rfl).trans (u27 241 101 rfl))
  have e60 : h29 241 102 = h 241 102 := ((u29 241 102 rfl).trans (u27 241 102 rfl))
  have e61 : h29 241 106 = h 241 106 := ((u29 241 106 rfl).trans (u27 241 106 rfl))
  have e62 : h29 241 73 = h 241 73 := ((u29 241 73 rfl).trans (u27 241 73 rfl))
  have e63 : h29 241 2 = h 241 2 := ((u29 241 2 rfl).trans (u27 241 2 rfl))
  have e64 : h29 241 119 = h 241 119 := ((u29 241 119 rfl).trans (u27 241 119 rfl))
  have e65 : h29 241 67 = h 241 67 := ((u29 241 67 rfl).trans (u27 241 67 rfl))
  have e66 : h29 241 69 = h 241 69 := ((u29 241 69 rfl).trans (u27 241 69 rfl))
  have e67 : h29 241 5 = h 241 5 := ((u29 241 5 rfl).trans (u27 241 5 rfl))
  have e68 : h29 1 1 = h 1 1 := ((u29 1 1 rfl).trans (u27 1 1 rfl))
  have e69 : h29 236 2 = h 236 2 := ((u29 236 2 rfl).trans (u27 236 2 rfl))
  exact k h29 b c ⟨g29, (show h29 1 1 = h29 236 2 by omega), (RS.i0 (f := h29 238) (by refine ⟨?_, ?_, ?_, ?_, ?_⟩ <;> omega)), (RS.i0 (f := h29 241) (by refine ⟨?_, ?_, ?_, ?_, ?_⟩ <;> omega)), y29_0⟩ (by omega) (by omega)
-- the law, case at 1140
set_option maxRecDepth 100000 in
set_option maxHeartbeats 100000000 in
theorem lc_1140 {L : Nat} {xs : Nat → Int32} {d b c : Nat} {h : hp} {cr : Nat → Nat → Option Nat} {Q : hp_Q} (hcr : CR cr) (hL : L ≤ 3072) (hr : 1 ≤ b ∧ 6 ≤ c) (I : LI h) (i : Int) (hi : 0 ≤ i ∧ i + 6 ≤ L) (k : ∀ (h2 : hp) (b2 c2 : Nat), LI h2 → b ≤ b2 + 1 → c ≤ c2 + 6 → wp (md_xa (L, xs)) (d + 107) 0 (1529, [(0, .ref 1000000), (1, .ref 0), (2, .ref 236), (3, .ref 259), (4, vi i)], [], hp_w h2 cr, b2, c2) Q) : wp (md_xa (L, xs)) (d + 107) 0 (1140, [(0, .ref 1000000), (1, .ref 0), (2, .ref 236), (3, .ref 259), (4, vi i)], [], hp_w h cr, b, c) Q := by
  obtain ⟨g, i11, r238, r241, gp0⟩ := I
  have r238e := r238.e0
  have r241e := r241.e0
  have b1 := gi_b (lo := 0) (hi := 6) g 238 98 rfl
  have b2 := gi_b (lo := 0) (hi := 6) g 238 99 rfl
  have b3 := gi_b (lo := 0) (hi := 6) g 238 100 rfl
  have b4 := gi_b (lo := 0) (hi := 6) g 238 101 rfl
  have b5 := gi_b (lo := 0) (hi := 3) g 238 102 rfl
  have b6 := gi_b (lo := 0) (hi := 12) g 238 106 rfl
  have b7 := gi_b (lo := 0) (hi := 12) g 238 73 rfl
  have b8 := gi_b (lo := 0) (hi := 12) g 238 2 rfl
  have b9 := gi_b (lo := 0) (hi := 9999) g 238 119 rfl
  have b10 := gi_b (lo := 0) (hi := 9999) g 238 67 rfl
  have b11 := gi_b (lo := 0) (hi := 9) g 238 69 rfl
  have b12 := gi_b (lo := 0) (hi := 9) g 238 5 rfl
  have b13 := gi_b (lo := 0) (hi := 6) g 241 98 rfl
  have b14 := gi_b (lo := 0) (hi := 6) g 241 99 rfl
  have b15 := gi_b (lo := 0) (hi := 6) g 241 100 rfl
  have b16 := gi_b (lo := 0) (hi := 6) g 241 101 rfl
  have b17 := gi_b (lo := 0) (hi := 3) g 241 102 rfl
  have b18 := gi_b (lo := 0) (hi := 12) g 241 106 rfl
  have b19 := gi_b (lo := 0) (hi := 12) g 241 73 rfl
  have b20 := gi_b (lo := 0) (hi := 12) g 241 2 rfl
  have b21 := gi_b (lo := 0) (hi := 9999) g 241 119 rfl
  have b22 := gi_b (lo := 0) (hi := 9999) g 241 67 rfl
  have b23 := gi_b (lo := 0) (hi := 9) g 241 69 rfl
  have b24 := gi_b (lo := 0) (hi := 9) g 241 5 rfl
  have b25 := gi_b (lo := 0) (hi := 800) g 1 1 rfl
  have b26 := gi_b (lo := 0) (hi := 800) g 236 2 rfl
  refine wi_aload_n (i := 1) (x := 0) (nx := 1141) (r1 := 0) (r2 := 0) (r3 := 0) rfl rfl ?_
  refine wr_V (k0 := 0) (rest := []) (as := [.ref 0]) (nx := 1144) (r1 := 48) (r2 := 0) (r3 := 0) rfl rfl rfl (of_decide_eq_true rfl) rfl rfl (by decide) rfl rfl (of_decide_eq_true rfl) (of_decide_eq_true rfl) ?_
  refine ct_48_0 hcr  g    (fun h27 z28 g27 u27 (fz28 : -2147483648 ≤ z28 ∧ z28 ≤ 2147483647) => ?_)
  refine wk_i ?_
  refine wi_pop (nx := 1145) (r1 := 0) (r2 := 0) (r3 := 0) rfl rfl ?_
  refine wi_aload_n (i := 2) (x := 236) (nx := 1146) (r1 := 0) (r2 := 0) (r3 := 0) rfl rfl ?_
  refine wr_V (k0 := 236) (rest := []) (as := [.ref 236]) (nx := 1149) (r1 := 332) (r2 := 0) (r3 := 11) rfl rfl rfl (of_decide_eq_true rfl) rfl rfl (by decide) rfl rfl (of_decide_eq_true rfl) (of_decide_eq_true rfl) ?_
  have e30 : h27 238 98 = h 238 98 := (u27 238 98 rfl)
  have e31 : h27 238 99 = h 238 99 := (u27 238 99 rfl)
  have e32 : h27 238 100 = h 238 100 := (u27 238 100 rfl)
  have e33 : h27 238 101 = h 238 101 := (u27 238 101 rfl)
  have e34 : h27 238 102 = h 238 102 := (u27 238 102 rfl)
  have e35 : h27 238 106 = h 238 106 := (u27 238 106 rfl)
  have e36 : h27 238 73 = h 238 73 := (u27 238 73 rfl)
  have e37 : h27 238 2 = h 238 2 := (u27 238 2 rfl)
  have e38 : h27 238 119 = h 238 119 := (u27 238 119 rfl)
  have e39 : h27 238 67 = h 238 67 := (u27 238 67 rfl)
  have e40 : h27 238 69 = h 238 69 := (u27 238 69 rfl)
  have e41 : h27 238 5 = h 238 5 := (u27 238 5 rfl)
  have gp43 := GPH.fr u27 rfl gp0
  refine ct_332_236 hcr  g27   (show (h27 238 98) + (h27 238 99) + (h27 238 100) + (h27 238 101) + (h27 238 102) + (h27 238 106) = (h27 238 73) by omega) (show (h27 238 73) ≤ (h27 238 2) by omega) (show (h27 238 119) ≤ (h27 238 67) by omega) (show (h27 238 69) ≤ (h27 238 5) by omega) (show (h27 238 2) ≤ 12 * (h27 238 5) by omega) gp43 (fun h29 z42 g29 u29 (fz42 : -2147483648 ≤ z42 ∧ z42 ≤ 2147483647) (p29_0 : (h29 238 98) + (h29 238 99) + (h29 238 100) + (h29 238 101) + (h29 238 102) + (h29 238 106) = (h29 238 73)) (p29_1 : (h29 238 73) ≤ (h29 238 2)) (p29_2 : (h29 238 119) ≤ (h29 238 67)) (p29_3 : (h29 238 69) ≤ (h29 238 5)) (p29_4 : (h29 238 2) ≤ 12 * (h29 238 5)) y29_0 => ?_)
  have e44 : h29 238 98 = h 238 98 := ((u29 238 98 rfl).trans (u27 238 98 rfl))
  have e45 : h29 238 99 = h 238 99 := ((u29 238 99 rfl).trans (u27 238 99 rfl))
  have e46 : h29 238 100 = h 238 100 := ((u29 238 100 rfl).trans (u27 238 100 rfl))
  have e47 : h29 238 101 = h 238 101 := ((u29 238 101 rfl).trans (u27 238 101 rfl))
  have e48 : h29 238 102 = h 238 102 := ((u29 238 102 rfl).trans (u27 238 102 rfl))
  have e49 : h29 238 106 = h 238 106 := ((u29 238 106 rfl).trans (u27 238 106 rfl))
  have e50 : h29 238 73 = h 238 73 := ((u29 238 73 rfl).trans (u27 238 73 rfl))
  have e51 : h29 238 2 = h 238 2 := ((u29 238 2 rfl).trans (u27 238 2 rfl))
  have e52 : h29 238 119 = h 238 119 := ((u29 238 119 rfl).trans (u27 238 119 rfl))
  have e53 : h29 238 67 = h 238 67 := ((u29 238 67 rfl).trans (u27 238 67 rfl))
  have e54 : h29 238 69 = h 238 69 := ((u29 238 69 rfl).trans (u27 238 69 rfl))
  have e55 : h29 238 5 = h 238 5 := ((u29 238 5 rfl).trans (u27 238 5 rfl))
  refine wk_i ?_
  refine wi_pop (nx := 1150) (r1 := 0) (r2 := 0) (r3 := 0) rfl rfl ?_
  refine wi_goto (nx := 1153) (r1 := 1529) (r2 := 0) (r3 := 0) rfl ?_
  have e56 : h29 241 98 = h 241 98 := ((u29 241 98 rfl).trans (u27 241 98 rfl))
  have e57 : h29 241 99 = h 241 99 := ((u29 241 99 rfl).trans (u27 241 99 rfl))
  have e58 : h29 241 100 = h 241 100 := ((u29 241 100 rfl).trans (u27 241 100 rfl))
  have e59 : h29 241 101 = h 241 101 := ((u29 241 101 rfl).trans (u27 241 101 rfl))
  have e60 : h29 241 102 = h 241 102 := ((u29 241 102 rfl).trans (u27 241 102 rfl))
  have e61 : h29 241 106 = h 241 106 := ((u29 241 106 rfl).trans (u27 241 106 rfl))
  have e62 : h29 241 73 = h 241 73 := ((u29 241 73 rfl).trans (u27 241 73 rfl))
  have e63 : h29 241 2 = h 241 2 := ((u29 241 2 rfl).trans (u27 241 2 rfl))
  have e64 : h29 241 119 = h 241 119 := ((u29 241 119 rfl).trans (u27 241 119 rfl))
  have e65 : h29 241 67 = h 241 67 := ((u29 241 67 rfl).trans (u27 241 67 rfl))
  have e66 : h29 241 69 = h 241 69 := ((u29 241 69 rfl).trans (u27 241 69 rfl))
  have e67 : h29 241 5 = h 241 5 := ((u29 241 5 rfl).trans (u27 241 5 rfl))
  have e68 : h29 1 1 = h 1 1 := ((u29 1 1 rfl).trans (u27 1 1 rfl))
  have e69 : h29 236 2 = h 236 2 := ((u29 236 2 rfl).trans (u27 236 2 rfl))
  exact k h29 b c ⟨g29, (show h29 1 1 = h29 236 2 by omega), (RS.i0 (f := h29 238) (by refine ⟨?_, ?_, ?_, ?_, ?_⟩ <;> omega)), (RS.i0 (f := h29 241) (by refine ⟨?_, ?_, ?_, ?_, ?_⟩ <;> omega)), y29_0⟩ (by omega) (by omega)
-- the law, case at 1153
set_option maxRecDepth 100000 in
set_option maxHeartbeats 100000000 in
theorem lc_1153 {L : Nat} {xs : Nat → Int32} {d b c : Nat} {h : hp} {cr : Nat → Nat → Option Nat} {Q : hp_Q} (hcr : CR cr) (hL : L ≤ 3072) (hr : 1 ≤ b ∧ 6 ≤ c) (I : LI h) (i : Int) (hi : 0 ≤ i ∧ i + 6 ≤ L) (k : ∀ (h2 : hp) (b2 c2 : Nat), LI h2 → b ≤ b2 + 1 → c ≤ c2 + 6 → wp (md_xa (L, xs)) (d + 107) 0 (1529, [(0, .ref 1000000), (1, .ref 0), (2, .ref 236), (3, .ref 259), (4, vi i)], [], hp_w h2 cr, b2, c2) Q) : wp (md_xa (L, xs)) (d + 107) 0 (1153, [(0, .ref 1000000), (1, .ref 0), (2, .ref 236), (3, .ref 259), (4, vi i)], [], hp_w h cr, b, c) Q := by
  obtain ⟨g, i11, r238, r241, gp0⟩ := I
  have r238e := r238.e0
  have r241e := r241.e0
  have b1 := gi_b (lo := 0) (hi := 6) g 238 98 rfl
  have b2 := gi_b (lo := 0) (hi := 6) g 238 99 rfl
  have b3 := gi_b (lo := 0) (hi := 6) g 238 100 rfl
  have b4 := gi_b (lo := 0) (hi := 6) g 238 101 rfl
  have b5 := gi_b (lo := 0) (hi := 3) g 238 102 rfl
  have b6 := gi_b (lo := 0) (hi := 12) g 238 106 rfl
  have b7 := gi_b (lo := 0) (hi := 12) g 238 73 rfl
  have b8 := gi_b (lo := 0) (hi := 12) g 238 2 rfl
  have b9 := gi_b (lo := 0) (hi := 9999) g 238 119 rfl
  have b10 := gi_b (lo := 0) (hi := 9999) g 238 67 rfl
  have b11 := gi_b (lo := 0) (hi := 9) g 238 69 rfl
  have b12 := gi_b (lo := 0) (hi := 9) g 238 5 rfl
  have b13 := gi_b (lo := 0) (hi := 6) g 241 98 rfl
  have b14 := gi_b (lo := 0) (hi := 6) g 241 99 rfl
  have b15 := gi_b (lo := 0) (hi := 6) g 241 100 rfl
  have b16 := gi_b (lo := 0) (hi := 6) g 241 101 rfl
  have b17 := gi_b (lo := 0) (hi := 3) g 241 102 rfl
  have b18 := gi_b (lo := 0) (hi := 12) g 241 106 rfl
  have b19 := gi_b (lo := 0) (hi := 12) g 241 73 rfl
  have b20 := gi_b (lo := 0) (hi := 12) g 241 2 rfl
  have b21 := gi_b (lo := 0) (hi := 9999) g 241 119 rfl
  have b22 := gi_b (lo := 0) (hi := 9999) g 241 67 rfl
  have b23 := gi_b (lo := 0) (hi := 9) g 241 69 rfl
  have b24 := gi_b (lo := 0) (hi := 9) g 241 5 rfl
  have b25 := gi_b (lo := 0) (hi := 800) g 1 1 rfl
  have b26 := gi_b (lo := 0) (hi := 800) g 236 2 rfl
  refine wi_aload_n (i := 1) (x := 0) (nx := 1154) (r1 := 0) (r2 := 0) (r3 := 0) rfl rfl ?_
  refine wi_aload_n (i := 0) (x := 1000000) (nx := 1155) (r1 := 0) (r2 := 0) (r3 := 0) rfl rfl ?_
  refine wi_iload (i := 4) (e := i) (nx := 1157) (r1 := 0) (r2 := 0) (r3 := 0) rfl rfl ?_
  refine wi_iconst (n := 1) (nx := 1158) (r1 := 0) (r2 := 0) (r3 := 0) rfl ?_
  refine wr_add (nx := 1159) (r1 := 0) (r2 := 0) (r3 := 0) rfl (fun e27 (fe27 : e27 = i + 1) => ?_)
  obtain ⟨i28, ei28⟩ : ∃ q : Nat, e27 = (q : Int) := ⟨(e27).toNat, by omega⟩
  have s29 := sc_b (xs i28)
  refine wr_sc (a := e27) (f := i28) (nx := 1160) (r1 := 0) (r2 := 0) (r3 := 0) rfl (by omega) (by omega) hL ?_
  refine wi_aload_n (i := 3) (x := 259) (nx := 1161) (r1 := 0) (r2 := 0) (r3 := 0) rfl rfl ?_
  refine wi_S (rest := []) (as := [.ref 0, vi ((xs i28).toInt), .ref 259]) (nx := 1164) (r1 := 19) (r2 := 19) (r3 := 0) rfl rfl rfl (of_decide_eq_true rfl) rfl rfl (of_decide_eq_true rfl) (of_decide_eq_true rfl) ?_
  refine wi_aload_n (i := 2) (x := 259) (nx := 1) (r1 := 0) (r2 := 0) (r3 := 0) rfl rfl ?_
  refine wi_iconst (n := 0) (nx := 2) (r1 := 0) (r2 := 0) (r3 := 0) rfl ?_
  refine wi_aload_n (i := 0) (x := 0) (nx := 3) (r1 := 0) (r2 := 0) (r3 := 0) rfl rfl ?_
  refine wi_iload_n (i := 1) (e := (xs i28).toInt) (nx := 4) (r1 := 0) (r2 := 0) (r3 := 0) rfl rfl ?_
  refine wr_V (k0 := 0) (rest := [vi 0, .ref 259]) (as := [.ref 0, vi ((xs i28).toInt)]) (nx := 7) (r1 := 81) (r2 := 1) (r3 := 0) rfl rfl rfl (of_decide_eq_true rfl) rfl rfl (by decide) rfl rfl (of_decide_eq_true rfl) (of_decide_eq_true rfl) ?_
  refine ct_81_0 hcr hr  g ((xs i28).toInt) (by omega)  (fun h30 z31 g30 u30 (fz31 : -2147483648 ≤ z31 ∧ z31 ≤ 2147483647) => ?_) (fun h30 g30 u30 => ?_)
  ·
    refine wk_i ?_
    refine wi_i2l (nx := 8) (r1 := 0) (r2 := 0) (r3 := 0) rfl (by omega) ?_
    refine wr_ls (k0 := 259) (a := 0) (f := 0) (x := z31) (bl := -9223372036854775808) (bh := 9223372036854775807) (nx := 9) (r1 := 0) (r2 := 0) (r3 := 0) rfl (by decide) rfl (by omega) (by omega) (by decide) g30 rfl (by omega) (fun h32 g32 w32 u32 => ?_)
    refine wi_goto (nx := 12) (r1 := 15) (r2 := 0) (r3 := 0) rfl ?_
    refine wi_iconst (n := 0) (nx := 16) (r1 := 0) (r2 := 0) (r3 := 0) rfl ?_
    refine wi_ireturn (nx := 17) (r1 := 0) (r2 := 0) (r3 := 0) rfl rfl ?_
    refine wk_i ?_
    refine wi_istore (i := 5) (e := 0) (lo2 := [(5, vi 0), (0, .ref 1000000), (1, .ref 0), (2, .ref 236), (3, .ref 259), (4, vi i)]) (nx := 1166) (r1 := 0) (r2 := 0) (r3 := 0) rfl rfl ?_
    refine wi_aload_n (i := 2) (x := 236) (nx := 1167) (r1 := 0) (r2 := 0) (r3 := 0) rfl rfl ?_
    refine wi_aload_n (i := 0) (x := 1000000) (nx := 1168) (r1 := 0) (r2 := 0) (r3 := 0) rfl rfl ?_
    refine wi_iload (i := 4) (e := i) (nx := 1170) (r1 := 0) (r2 := 0) (r3 := 0) rfl rfl ?_
    refine wi_iconst (n := 1) (nx := 1171) (r1 := 0) (r2 := 0) (r3 := 0) rfl ?_
    refine wr_add (nx := 1172) (r1 := 0) (r2 := 0) (r3 := 0) rfl (fun e33 (fe33 : e33 = i + 1) => ?_)
    refine wr_sc (a := e33) (f := i28) (nx := 1173) (r1 := 0) (r2 := 0) (r3 := 0) rfl (by omega) (by omega) hL ?_
    refine wr_V (k0 := 236) (rest := []) (as := [.ref 236, vi ((xs i28).toInt)]) (nx := 1176) (r1 := 293) (r2 := 1) (r3 := 11) rfl rfl rfl (of_decide_eq_true rfl) rfl rfl (by decide) rfl rfl (of_decide_eq_true rfl) (of_decide_eq_true rfl) ?_
    have e35 : h32 238 98 = h 238 98 := ((u32 238 98 rfl).trans (u30 238 98 rfl))
    have e36 : h32 238 99 = h 238 99 := ((u32 238 99 rfl).trans (u30 238 99 rfl))
    have e37 : h32 238 100 = h 238 100 := ((u32 238 100 rfl).trans (u30 238 100 rfl))
    have e38 : h32 238 101 = h 238 101 := ((u32 238 101 rfl).trans (u30 238 101 rfl))
    have e39 : h32 238 102 = h 238 102 := ((u32 238 102 rfl).trans (u30 238 102 rfl))
    have e40 : h32 238 106 = h 238 106 := ((u32 238 106 rfl).trans (u30 238 106 rfl))
    have e41 : h32 238 73 = h 238 73 := ((u32 238 73 rfl).trans (u30 238 73 rfl))
    have e42 : h32 238 2 = h 238 2 := ((u32 238 2 rfl).trans (u30 238 2 rfl))
    have e43 : h32 238 119 = h 238 119 := ((u32 238 119 rfl).trans (u30 238 119 rfl))
    have e44 : h32 238 67 = h 238 67 := ((u32 238 67 rfl).trans (u30 238 67 rfl))
    have e45 : h32 238 69 = h 238 69 := ((u32 238 69 rfl).trans (u30 238 69 rfl))
    have e46 : h32 238 5 = h 238 5 := ((u32 238 5 rfl).trans (u30 238 5 rfl))
    refine ct_293_236 hcr  g32 ((xs i28).toInt) (by omega) (show (h32 238 98) + (h32 238 99) + (h32 238 100) + (h32 238 101) + (h32 238 102) + (h32 238 106) = (h32 238 73) by omega) (show (h32 238 73) ≤ (h32 238 2) by omega) (show (h32 238 119) ≤ (h32 238 67) by omega) (show (h32 238 69) ≤ (h32 238 5) by omega) (show (h32 238 2) ≤ 12 * (h32 238 5) by omega) (fun h34 z47 g34 u34 (fz47 : -2147483648 ≤ z47 ∧ z47 ≤ 2147483647) (p34_0 : (h34 238 98) + (h34 238 99) + (h34 238 100) + (h34 238 101) + (h34 238 102) + (h34 238 106) = (h34 238 73)) (p34_1 : (h34 238 73) ≤ (h34 238 2)) (p34_2 : (h34 238 119) ≤ (h34 238 67)) (p34_3 : (h34 238 69) ≤ (h34 238 5)) (p34_4 : (h34 238 2) ≤ 12 * (h34 238 5)) => ?_)
    have b48 := gi_b (lo := 0) (hi := 6) g34 238 98 rfl
    have b49 := gi_b (lo := 0) (hi := 6) g34 238 99 rfl
    have b50 := gi_b (lo := 0) (hi := 6) g34 238 100 rfl
    have b51 := gi_b (lo := 0) (hi := 6) g34 238 101 rfl
    have b52 := gi_b (lo := 0) (hi := 3) g34 238 102 rfl
    have b53 := gi_b (lo := 0) (hi := 12) g34 238 106 rfl
    have b54 := gi_b (lo := 0) (hi := 12) g34 238 73 rfl
    have b55 := gi_b (lo := 0) (hi := 12) g34 238 2 rfl
    have b56 := gi_b (lo := 0) (hi := 9999) g34 238 119 rfl
    have b57 := gi_b (lo := 0) (hi := 9999) g34 238 67 rfl
    have b58 := gi_b (lo := 0) (hi := 9) g34 238 69 rfl
    have b59 := gi_b (lo := 0) (hi := 9) g34 238 5 rfl
    refine wk_i ?_
    refine wi_istore (i := 6) (e := z47) (lo2 := [(6, vi z47), (5, vi 0), (0, .ref 1000000), (1, .ref 0), (2, .ref 236), (3, .ref 259), (4, vi i)]) (nx := 1178) (r1 := 0) (r2 := 0) (r3 := 0) rfl rfl ?_
    refine wi_goto (nx := 1181) (r1 := 1529) (r2 := 0) (r3 := 0) rfl ?_
    refine wp.lo (lo := [(0, .ref 1000000), (1, .ref 0), (2, .ref 236), (3, .ref 259), (4, vi i)]) ⟨rfl, rfl, rfl, rfl, rfl, trivial⟩ rfl ?_
    have e60 : h34 241 98 = h 241 98 := ((u34 241 98 rfl).trans ((u32 241 98 rfl).trans (u30 241 98 rfl)))
    have e61 : h34 241 99 = h 241 99 := ((u34 241 99 rfl).trans ((u32 241 99 rfl).trans (u30 241 99 rfl)))
    have e62 : h34 241 100 = h 241 100 := ((u34 241 100 rfl).trans ((u32 241 100 rfl).trans (u30 241 100 rfl)))
    have e63 : h34 241 101 = h 241 101 := ((u34 241 101 rfl).trans ((u32 241 101 rfl).trans (u30 241 101 rfl)))
    have e64 : h34 241 102 = h 241 102 := ((u34 241 102 rfl).trans ((u32 241 102 rfl).trans (u30 241 102 rfl)))
    have e65 : h34 241 106 = h 241 106 := ((u34 241 106 rfl).trans ((u32 241 106 rfl).trans (u30 241 106 rfl)))
    have e66 : h34 241 73 = h 241 73 := ((u34 241 73 rfl).trans ((u32 241 73 rfl).trans (u30 241 73 rfl)))
    have e67 : h34 241 2 = h 241 2 := ((u34 241 2 rfl).trans ((u32 241 2 rfl).trans (u30 241 2 rfl)))
    have e68 : h34 241 119 = h 241 119 := ((u34 241 119 rfl).trans ((u32 241 119 rfl).trans (u30 241 119 rfl)))
    have e69 : h34 241 67 = h 241 67 := ((u34 241 67 rfl).trans ((u32 241 67 rfl).trans (u30 241 67 rfl)))
    have e70 : h34 241 69 = h 241 69 := ((u34 241 69 rfl).trans ((u32 241 69 rfl).trans (u30 241 69 rfl)))
    have e71 : h34 241 5 = h 241 5 := ((u34 241 5 rfl).trans ((u32 241 5 rfl).trans (u30 241 5 rfl)))
    have e72 : h34 1 1 = h 1 1 := ((u34 1 1 rfl).trans ((u32 1 1 rfl).trans (u30 1 1 rfl)))
    have e73 : h34 236 2 = h 236 2 := ((u34 236 2 rfl).trans ((u32 236 2 rfl).trans (u30 236 2 rfl)))
    have gp74 := GPH.fr u30 rfl gp0
    have gp75 := GPH.fr u32 rfl gp74
    have gp76 := GPH.fr u34 rfl gp75
    exact k h34 b c ⟨g34, (show h34 1 1 = h34 236 2 by omega), (RS.i0 (f := h34 238) (by refine ⟨?_, ?_, ?_, ?_, ?_⟩ <;> omega)), (RS.i0 (f := h34 241) (by refine ⟨?_, ?_, ?_, ?_, ?_⟩ <;> omega)), gp76⟩ (by omega) (by omega)
  ·
    refine wk_h 12 (by decide) rfl ?_
    refine wr_astx (i := 3) (lo2 := [(3, .retAddr 0), (0, .ref 0), (1, vi ((xs i28).toInt)), (2, .ref 259)]) (nx := 13) (r1 := 0) (r2 := 0) (r3 := 0) rfl rfl ?_
    refine wi_iconst (n := 1) (nx := 14) (r1 := 0) (r2 := 0) (r3 := 0) rfl ?_
    refine wi_ireturn (nx := 15) (r1 := 0) (r2 := 0) (r3 := 0) rfl rfl ?_
    refine wk_i ?_
    refine wi_istore (i := 5) (e := 1) (lo2 := [(5, vi 1), (0, .ref 1000000), (1, .ref 0), (2, .ref 236), (3, .ref 259), (4, vi i)]) (nx := 1166) (r1 := 0) (r2 := 0) (r3 := 0) rfl rfl ?_
    refine wi_aload_n (i := 2) (x := 236) (nx := 1167) (r1 := 0) (r2 := 0) (r3 := 0) rfl rfl ?_
    refine wi_aload_n (i := 0) (x := 1000000) (nx := 1168) (r1 := 0) (r2 := 0) (r3 := 0) rfl rfl ?_
    refine wi_iload (i := 4) (e := i) (nx := 1170) (r1 := 0) (r2 := 0) (r3 := 0) rfl rfl ?_
    refine wi_iconst (n := 1) (nx := 1171) (r1 := 0) (r2 := 0) (r3 := 0) rfl ?_
    refine wr_add (nx := 1172) (r1 := 0) (r2 := 0) (r3 := 0) rfl (fun e32 (fe32 : e32 = i + 1) => ?_)
    refine wr_sc (a := e32) (f := i28) (nx := 1173) (r1 := 0) (r2 := 0) (r3 := 0) rfl (by omega) (by omega) hL ?_
    refine wr_V (k0 := 236) (rest := []) (as := [.ref 236, vi ((xs i28).toInt)]) (nx := 1176) (r1 := 293) (r2 := 1) (r3 := 11) rfl rfl rfl (of_decide_eq_true rfl) rfl rfl (by decide) rfl rfl (of_decide_eq_true rfl) (of_decide_eq_true rfl) ?_
    have e34 : h30 238 98 = h 238 98 := (u30 238 98 rfl)
    have e35 : h30 238 99 = h 238 99 := (u30 238 99 rfl)
    have e36 : h30 238 100 = h 238 100 := (u30 238 100 rfl)
    have e37 : h30 238 101 = h 238 101 := (u30 238 101 rfl)
    have e38 : h30 238 102 = h 238 102 := (u30 238 102 rfl)
    have e39 : h30 238 106 = h 238 106 := (u30 238 106 rfl)
    have e40 : h30 238 73 = h 238 73 := (u30 238 73 rfl)
    have e41 : h30 238 2 = h 238 2 := (u30 238 2 rfl)
    have e42 : h30 238 119 = h 238 119 := (u30 238 119 rfl)
    have e43 : h30 238 67 = h 238 67 := (u30 238 67 rfl)
    have e44 : h30 238 69 = h 238 69 := (u30 238 69 rfl)
    have e45 : h30 238 5 = h 238 5 := (u30 238 5 rfl)
    refine ct_293_236 hcr  g30 ((xs i28).toInt) (by omega) (show (h30 238 98) + (h30 238 99) + (h30 238 100) + (h30 238 101) + (h30 238 102) + (h30 238 106) = (h30 238 73) by omega) (show (h30 238 73) ≤ (h30 238 2) by omega) (show (h30 238 119) ≤ (h30 238 67) by omega) (show (h30 238 69) ≤ (h30 238 5) by omega) (show (h30 238 2) ≤ 12 * (h30 238 5) by omega) (fun h33 z46 g33 u33 (fz46 : -2147483648 ≤ z46 ∧ z46 ≤ 2147483647) (p33_0 : (h33 238 98) + (h33 238 99) + (h33 238 100) + (h33 238 101) + (h33 238 102) + (h33 238 106) = (h33 238 73)) (p33_1 : (h33 238 73) ≤ (h33 238 2)) (p33_2 : (h33 238 119) ≤ (h33 238 67)) (p33_3 : (h33 238 69) ≤ (h33 238 5)) (p33_4 : (h33 238 2) ≤ 12 * (h33 238 5)) => ?_)
    have b47 := gi_b (lo := 0) (hi := 6) g33 238 98 rfl
    have b48 := gi_b (lo := 0) (hi := 6) g33 238 99 rfl
    have b49 := gi_b (lo := 0) (hi := 6) g33 238 100 rfl
    have b50 := gi_b (lo := 0) (hi := 6) g33 238 101 rfl
    have b51 := gi_b (lo := 0) (hi := 3) g33 238 102 rfl
    have b52 := gi_b (lo := 0) (hi := 12) g33 238 106 rfl
    have b53 := gi_b (lo := 0) (hi := 12) g33 238 73 rfl
    have b54 := gi_b (lo := 0) (hi := 12) g33 238 2 rfl
    have b55 := gi_b (lo := 0) (hi := 9999) g33 238 119 rfl
    have b56 := gi_b (lo := 0) (hi := 9999) g33 238 67 rfl
    have b57 := gi_b (lo := 0) (hi := 9) g33 238 69 rfl
    have b58 := gi_b (lo := 0) (hi := 9) g33 238 5 rfl
    refine wk_i ?_
    refine wi_istore (i := 6) (e := z46) (lo2 := [(6, vi z46), (5, vi 1), (0, .ref 1000000), (1, .ref 0), (2, .ref 236), (3, .ref 259), (4, vi i)]) (nx := 1178) (r1 := 0) (r2 := 0) (r3 := 0) rfl rfl ?_
    refine wi_goto (nx := 1181) (r1 := 1529) (r2 := 0) (r3 := 0) rfl ?_
    refine wp.lo (lo := [(0, .ref 1000000), (1, .ref 0), (2, .ref 236), (3, .ref 259), (4, vi i)]) ⟨rfl, rfl, rfl, rfl, rfl, trivial⟩ rfl ?_
    have e59 : h33 241 98 = h 241 98 := ((u33 241 98 rfl).trans (u30 241 98 rfl))
    have e60 : h33 241 99 = h 241 99 := ((u33 241 99 rfl).trans (u30 241 99 rfl))
    have e61 : h33 241 100 = h 241 100 := ((u33 241 100 rfl).trans (u30 241 100 rfl))
    have e62 : h33 241 101 = h 241 101 := ((u33 241 101 rfl).trans (u30 241 101 rfl))
    have e63 : h33 241 102 = h 241 102 := ((u33 241 102 rfl).trans (u30 241 102 rfl))
    have e64 : h33 241 106 = h 241 106 := ((u33 241 106 rfl).trans (u30 241 106 rfl))
    have e65 : h33 241 73 = h 241 73 := ((u33 241 73 rfl).trans (u30 241 73 rfl))
    have e66 : h33 241 2 = h 241 2 := ((u33 241 2 rfl).trans (u30 241 2 rfl))
    have e67 : h33 241 119 = h 241 119 := ((u33 241 119 rfl).trans (u30 241 119 rfl))
    have e68 : h33 241 67 = h 241 67 := ((u33 241 67 rfl).trans (u30 241 67 rfl))
    have e69 : h33 241 69 = h 241 69 := ((u33 241 69 rfl).trans (u30 241 69 rfl))
    have e70 : h33 241 5 = h 241 5 := ((u33 241 5 rfl).trans (u30 241 5 rfl))
    have e71 : h33 1 1 = h 1 1 := ((u33 1 1 rfl).trans (u30 1 1 rfl))
    have e72 : h33 236 2 = h 236 2 := ((u33 236 2 rfl).trans (u30 236 2 rfl))
    have gp73 := GPH.fr u30 rfl gp0
    have gp74 := GPH.fr u33 rfl gp73
    exact k h33 (b - 1) (c - 6) ⟨g33, (show h33 1 1 = h33 236 2 by omega), (RS.i0 (f := h33 238) (by refine ⟨?_, ?_, ?_, ?_, ?_⟩ <;> omega)), (RS.i0 (f := h33 241) (by refine ⟨?_, ?_, ?_, ?_, ?_⟩ <;> omega)), gp74⟩ (by omega) (by omega)
-- the law, case at 1181
set_option maxRecDepth 100000 in
set_option maxHeartbeats 100000000 in
theorem lc_1181 {L : Nat} {xs : Nat → Int32} {d b c : Nat} {h : hp} {cr : Nat → Nat → Option Nat} {Q : hp_Q} (hcr : CR cr) (hL : L ≤ 3072) (hr : 1 ≤ b ∧ 6 ≤ c) (I : LI h) (i : Int) (hi : 0 ≤ i ∧ i + 6 ≤ L) (k : ∀ (h2 : hp) (b2 c2 : Nat), LI h2 → b ≤ b2 + 1 → c ≤ c2 + 6 → wp (md_xa (L, xs)) (d + 107) 0 (1529, [(0, .ref 1000000), (1, .ref 0), (2, .ref 236), (3, .ref 259), (4, vi i)], [], hp_w h2 cr, b2, c2) Q) : wp (md_xa (L, xs)) (d + 107) 0 (1181, [(0, .ref 1000000), (1, .ref 0), (2, .ref 236), (3, .ref 259), (4, vi i)], [], hp_w h cr, b, c) Q := by
  obtain ⟨g, i11, r238, r241, gp0⟩ := I
  have r238e := r238.e0
  have r241e := r241.e0
  have b1 := gi_b (lo := 0) (hi := 6) g 238 98 rfl
  have b2 := gi_b (lo := 0) (hi := 6) g 238 99 rfl
  have b3 := gi_b (lo := 0) (hi := 6) g 238 100 rfl
  have b4 := gi_b (lo := 0) (hi := 6) g 238 101 rfl
  have b5 := gi_b (lo := 0) (hi := 3) g 238 102 rfl
  have b6 := gi_b (lo := 0) (hi := 12) g 238 106 rfl
  have b7 := gi_b (lo := 0) (hi := 12) g 238 73 rfl
  have b8 := gi_b (lo := 0) (hi := 12) g 238 2 rfl
  have b9 := gi_b (lo := 0) (hi := 9999) g 238 119 rfl
  have b10 := gi_b (lo := 0) (hi := 9999) g 238 67 rfl
  have b11 := gi_b (lo := 0) (hi := 9) g 238 69 rfl
  have b12 := gi_b (lo := 0) (hi := 9) g 238 5 rfl
  have b13 := gi_b (lo := 0) (hi := 6) g 241 98 rfl
  have b14 := gi_b (lo := 0) (hi := 6) g 241 99 rfl
  have b15 := gi_b (lo := 0) (hi := 6) g 241 100 rfl
  have b16 := gi_b (lo := 0) (hi := 6) g 241 101 rfl
  have b17 := gi_b (lo := 0) (hi := 3) g 241 102 rfl
  have b18 := gi_b (lo := 0) (hi := 12) g 241 106 rfl
  have b19 := gi_b (lo := 0) (hi := 12) g 241 73 rfl
  have b20 := gi_b (lo := 0) (hi := 12) g 241 2 rfl
  have b21 := gi_b (lo := 0) (hi := 9999) g 241 119 rfl
  have b22 := gi_b (lo := 0) (hi := 9999) g 241 67 rfl
  have b23 := gi_b (lo := 0) (hi := 9) g 241 69 rfl
  have b24 := gi_b (lo := 0) (hi := 9) g 241 5 rfl
  have b25 := gi_b (lo := 0) (hi := 800) g 1 1 rfl
  have b26 := gi_b (lo := 0) (hi := 800) g 236 2 rfl
  refine wi_aload_n (i := 1) (x := 0) (nx := 1182) (r1 := 0) (r2 := 0) (r3 := 0) rfl rfl ?_
  refine wi_aload_n (i := 0) (x := 1000000) (nx := 1183) (r1 := 0) (r2 := 0) (r3 := 0) rfl rfl ?_
  refine wi_iload (i := 4) (e := i) (nx := 1185) (r1 := 0) (r2 := 0) (r3 := 0) rfl rfl ?_
  refine wi_iconst (n := 1) (nx := 1186) (r1 := 0) (r2 := 0) (r3 := 0) rfl ?_
  refine wr_add (nx := 1187) (r1 := 0) (r2 := 0) (r3 := 0) rfl (fun e27 (fe27 : e27 = i + 1) => ?_)
  obtain ⟨i28, ei28⟩ : ∃ q : Nat, e27 = (q : Int) := ⟨(e27).toNat, by omega⟩
  have s29 := sc_b (xs i28)
  refine wr_sc (a := e27) (f := i28) (nx := 1188) (r1 := 0) (r2 := 0) (r3 := 0) rfl (by omega) (by omega) hL ?_
  refine wi_aload_n (i := 3) (x := 259) (nx := 1189) (r1 := 0) (r2 := 0) (r3 := 0) rfl rfl ?_
  refine wi_S (rest := []) (as := [.ref 0, vi ((xs i28).toInt), .ref 259]) (nx := 1192) (r1 := 20) (r2 := 19) (r3 := 0) rfl rfl rfl (of_decide_eq_true rfl) rfl rfl (of_decide_eq_true rfl) (of_decide_eq_true rfl) ?_
  refine wi_aload_n (i := 2) (x := 259) (nx := 1) (r1 := 0) (r2 := 0) (r3 := 0) rfl rfl ?_
  refine wi_iconst (n := 0) (nx := 2) (r1 := 0) (r2 := 0) (r3 := 0) rfl ?_
  refine wi_aload_n (i := 0) (x := 0) (nx := 3) (r1 := 0) (r2 := 0) (r3 := 0) rfl rfl ?_
  refine wi_iload_n (i := 1) (e := (xs i28).toInt) (nx := 4) (r1 := 0) (r2 := 0) (r3 := 0) rfl rfl ?_
  refine wr_V (k0 := 0) (rest := [vi 0, .ref 259]) (as := [.ref 0, vi ((xs i28).toInt)]) (nx := 7) (r1 := 84) (r2 := 1) (r3 := 0) rfl rfl rfl (of_decide_eq_true rfl) rfl rfl (by decide) rfl rfl (of_decide_eq_true rfl) (of_decide_eq_true rfl) ?_
  refine ct_84_0 hcr hr  g ((xs i28).toInt) (by omega)  (fun h30 z31 g30 u30 (fz31 : 0 ≤ z31 ∧ z31 ≤ 12) => ?_) (fun h30 g30 u30 => ?_)
  ·
    refine wk_i ?_
    refine wi_i2l (nx := 8) (r1 := 0) (r2 := 0) (r3 := 0) rfl (by omega) ?_
    refine wr_ls (k0 := 259) (a := 0) (f := 0) (x := z31) (bl := -9223372036854775808) (bh := 9223372036854775807) (nx := 9) (r1 := 0) (r2 := 0) (r3 := 0) rfl (by decide) rfl (by omega) (by omega) (by decide) g30 rfl (by omega) (fun h32 g32 w32 u32 => ?_)
    refine wi_goto (nx := 12) (r1 := 15) (r2 := 0) (r3 := 0) rfl ?_
    refine wi_iconst (n := 0) (nx := 16) (r1 := 0) (r2 := 0) (r3 := 0) rfl ?_
    refine wi_ireturn (nx := 17) (r1 := 0) (r2 := 0) (r3 := 0) rfl rfl ?_
    refine wk_i ?_
    refine wi_istore (i := 5) (e := 0) (lo2 := [(5, vi 0), (0, .ref 1000000), (1, .ref 0), (2, .ref 236), (3, .ref 259), (4, vi i)]) (nx := 1194) (r1 := 0) (r2 := 0) (r3 := 0) rfl rfl ?_
    refine wi_aload_n (i := 2) (x := 236) (nx := 1195) (r1 := 0) (r2 := 0) (r3 := 0) rfl rfl ?_
    refine wi_aload_n (i := 0) (x := 1000000) (nx := 1196) (r1 := 0) (r2 := 0) (r3 := 0) rfl rfl ?_
    refine wi_iload (i := 4) (e := i) (nx := 1198) (r1 := 0) (r2 := 0) (r3 := 0) rfl rfl ?_
    refine wi_iconst (n := 1) (nx := 1199) (r1 := 0) (r2 := 0) (r3 := 0) rfl ?_
    refine wr_add (nx := 1200) (r1 := 0) (r2 := 0) (r3 := 0) rfl (fun e33 (fe33 : e33 = i + 1) => ?_)
    refine wr_sc (a := e33) (f := i28) (nx := 1201) (r1 := 0) (r2 := 0) (r3 := 0) rfl (by omega) (by omega) hL ?_
    refine wr_V (k0 := 236) (rest := []) (as := [.ref 236, vi ((xs i28).toInt)]) (nx := 1204) (r1 := 295) (r2 := 1) (r3 := 11) rfl rfl rfl (of_decide_eq_true rfl) rfl rfl (by decide) rfl rfl (of_decide_eq_true rfl) (of_decide_eq_true rfl) ?_
    have e35 : h32 238 98 = h 238 98 := ((u32 238 98 rfl).trans (u30 238 98 rfl))
    have e36 : h32 238 99 = h 238 99 := ((u32 238 99 rfl).trans (u30 238 99 rfl))
    have e37 : h32 238 100 = h 238 100 := ((u32 238 100 rfl).trans (u30 238 100 rfl))
    have e38 : h32 238 101 = h 238 101 := ((u32 238 101 rfl).trans (u30 238 101 rfl))
    have e39 : h32 238 102 = h 238 102 := ((u32 238 102 rfl).trans (u30 238 102 rfl))
    have e40 : h32 238 106 = h 238 106 := ((u32 238 106 rfl).trans (u30 238 106 rfl))
    have e41 : h32 238 73 = h 238 73 := ((u32 238 73 rfl).trans (u30 238 73 rfl))
    have e42 : h32 238 2 = h 238 2 := ((u32 238 2 rfl).trans (u30 238 2 rfl))
    have e43 : h32 238 119 = h 238 119 := ((u32 238 119 rfl).trans (u30 238 119 rfl))
    have e44 : h32 238 67 = h 238 67 := ((u32 238 67 rfl).trans (u30 238 67 rfl))
    have e45 : h32 238 69 = h 238 69 := ((u32 238 69 rfl).trans (u30 238 69 rfl))
    have e46 : h32 238 5 = h 238 5 := ((u32 238 5 rfl).trans (u30 238 5 rfl))
    refine ct_295_236 hcr  g32 ((xs i28).toInt) (by omega) (show (h32 238 98) + (h32 238 99) + (h32 238 100) + (h32 238 101) + (h32 238 102) + (h32 238 106) = (h32 238 73) by omega) (show (h32 238 73) ≤ (h32 238 2) by omega) (show (h32 238 119) ≤ (h32 238 67) by omega) (show (h32 238 69) ≤ (h32 238 5) by omega) (show (h32 238 2) ≤ 12 * (h32 238 5) by omega) (fun h34 z47 g34 u34 (fz47 : 0 ≤ z47 ∧ z47 ≤ 12) (p34_0 : (h34 238 98) + (h34 238 99) + (h34 238 100) + (h34 238 101) + (h34 238 102) + (h34 238 106) = (h34 238 73)) (p34_1 : (h34 238 73) ≤ (h34 238 2)) (p34_2 : (h34 238 119) ≤ (h34 238 67)) (p34_3 : (h34 238 69) ≤ (h34 238 5)) (p34_4 : (h34 238 2) ≤ 12 * (h34 238 5)) => ?_)
    have b48 := gi_b (lo := 0) (hi := 6) g34 238 98 rfl
    have b49 := gi_b (lo := 0) (hi := 6) g34 238 99 rfl
    have b50 := gi_b (lo := 0) (hi := 6) g34 238 100 rfl
    have b51 := gi_b (lo := 0) (hi := 6) g34 238 101 rfl
    have b52 := gi_b (lo := 0) (hi := 3) g34 238 102 rfl
    have b53 := gi_b (lo := 0) (hi := 12) g34 238 106 rfl
    have b54 := gi_b (lo := 0) (hi := 12) g34 238 73 rfl
    have b55 := gi_b (lo := 0) (hi := 12) g34 238 2 rfl
    have b56 := gi_b (lo := 0) (hi := 9999) g34 238 119 rfl
    have b57 := gi_b (lo := 0) (hi := 9999) g34 238 67 rfl
    have b58 := gi_b (lo := 0) (hi := 9) g34 238 69 rfl
    have b59 := gi_b (lo := 0) (hi := 9) g34 238 5 rfl
    refine wk_i ?_
    refine wi_istore (i := 6) (e := z47) (lo2 := [(6, vi z47), (5, vi 0), (0, .ref 1000000), (1, .ref 0), (2, .ref 236), (3, .ref 259), (4, vi i)]) (nx := 1206) (r1 := 0) (r2 := 0) (r3 := 0) rfl rfl ?_
    refine wi_goto (nx := 1209) (r1 := 1529) (r2 := 0) (r3 := 0) rfl ?_
    refine wp.lo (lo := [(0, .ref 1000000), (1, .ref 0), (2, .ref 236), (3, .ref 259), (4, vi i)]) ⟨rfl, rfl, rfl, rfl, rfl, trivial⟩ rfl ?_
    have e60 : h34 241 98 = h 241 98 := ((u34 241 98 rfl).trans ((u32 241 98 rfl).trans (u30 241 98 rfl)))
    have e61 : h34 241 99 = h 241 99 := ((u34 241 99 rfl).trans ((u32 241 99 rfl).trans (u30 241 99 rfl)))
    have e62 : h34 241 100 = h 241 100 := ((u34 241 100 rfl).trans ((u32 241 100 rfl).trans (u30 241 100 rfl)))
    have e63 : h34 241 101 = h 241 101 := ((u34 241 101 rfl).trans ((u32 241 101 rfl).trans (u30 241 101 rfl)))
    have e64 : h34 241 102 = h 241 102 := ((u34 241 102 rfl).trans ((u32 241 102 rfl).trans (u30 241 102 rfl)))
    have e65 : h34 241 106 = h 241 106 := ((u34 241 106 rfl).trans ((u32 241 106 rfl).trans (u30 241 106 rfl)))
    have e66 : h34 241 73 = h 241 73 := ((u34 241 73 rfl).trans ((u32 241 73 rfl).trans (u30 241 73 rfl)))
    have e67 : h34 241 2 = h 241 2 := ((u34 241 2 rfl).trans ((u32 241 2 rfl).trans (u30 241 2 rfl)))
    have e68 : h34 241 119 = h 241 119 := ((u34 241 119 rfl).trans ((u32 241 119 rfl).trans (u30 241 119 rfl)))
    have e69 : h34 241 67 = h 241 67 := ((u34 241 67 rfl).trans ((u32 241 67 rfl).trans (u30 241 67 rfl)))
    have e70 : h34 241 69 = h 241 69 := ((u34 241 69 rfl).trans ((u32 241 69 rfl).trans (u30 241 69 rfl)))
    have e71 : h34 241 5 = h 241 5 := ((u34 241 5 rfl).trans ((u32 241 5 rfl).trans (u30 241 5 rfl)))
    have e72 : h34 1 1 = h 1 1 := ((u34 1 1 rfl).trans ((u32 1 1 rfl).trans (u30 1 1 rfl)))
    have e73 : h34 236 2 = h 236 2 := ((u34 236 2 rfl).trans ((u32 236 2 rfl).trans (u30 236 2 rfl)))
    have gp74 := GPH.fr u30 rfl gp0
    have gp75 := GPH.fr u32 rfl gp74
    have gp76 := GPH.fr u34 rfl gp75
    exact k h34 b c ⟨g34, (show h34 1 1 = h34 236 2 by omega), (RS.i0 (f := h34 238) (by refine ⟨?_, ?_, ?_, ?_, ?_⟩ <;> omega)), (RS.i0 (f := h34 241) (by refine ⟨?_, ?_, ?_, ?_, ?_⟩ <;> omega)), gp76⟩ (by omega) (by omega)
  ·
    refine wk_h 12 (by decide) rfl ?_
    refine wr_astx (i := 3) (lo2 := [(3, .retAddr 0), (0, .ref 0), (1, vi ((xs i28).toInt)), (2, .ref 259)]) (nx := 13) (r1 := 0) (r2 := 0) (r3 := 0) rfl rfl ?_
    refine wi_iconst (n := 1) (nx := 14) (r1 := 0) (r2 := 0) (r3 := 0) rfl ?_
    refine wi_ireturn (nx := 15) (r1 := 0) (r2 := 0) (r3 := 0) rfl rfl ?_
    refine wk_i ?_
    refine wi_istore (i := 5) (e := 1) (lo2 := [(5, vi 1), (0, .ref 1000000), (1, .ref 0), (2, .ref 236), (3, .ref 259), (4, vi i)]) (nx := 1194) (r1 := 0) (r2 := 0) (r3 := 0) rfl rfl ?_
    refine wi_aload_n (i := 2) (x := 236) (nx := 1195) (r1 := 0) (r2 := 0) (r3 := 0) rfl rfl ?_
    refine wi_aload_n (i := 0) (x := 1000000) (nx := 1196) (r1 := 0) (r2 := 0) (r3 := 0) rfl rfl ?_
    refine wi_iload (i := 4) (e := i) (nx := 1198) (r1 := 0) (r2 := 0) (r3 := 0) rfl rfl ?_
    refine wi_iconst (n := 1) (nx := 1199) (r1 := 0) (r2 := 0) (r3 := 0) rfl ?_
    refine wr_add (nx := 1200) (r1 := 0) (r2 := 0) (r3 := 0) rfl (fun e32 (fe32 : e32 = i + 1) => ?_)
    refine wr_sc (a := e32) (f := i28) (nx := 1201) (r1 := 0) (r2 := 0) (r3 := 0) rfl (by omega) (by omega) hL ?_
    refine wr_V (k0 := 236) (rest := []) (as := [.ref 236, vi ((xs i28).toInt)]) (nx := 1204) (r1 := 295) (r2 := 1) (r3 := 11) rfl rfl rfl (of_decide_eq_true rfl) rfl rfl (by decide) rfl rfl (of_decide_eq_true rfl) (of_decide_eq_true rfl) ?_
    have e34 : h30 238 98 = h 238 98 := (u30 238 98 rfl)
    have e35 : h30 238 99 = h 238 99 := (u30 238 99 rfl)
    have e36 : h30 238 100 = h 238 100 := (u30 238 100 rfl)
    have e37 : h30 238 101 = h 238 101 := (u30 238 101 rfl)
    have e38 : h30 238 102 = h 238 102 := (u30 238 102 rfl)
    have e39 : h30 238 106 = h 238 106 := (u30 238 106 rfl)
    have e40 : h30 238 73 = h 238 73 := (u30 238 73 rfl)
    have e41 : h30 238 2 = h 238 2 := (u30 238 2 rfl)
    have e42 : h30 238 119 = h 238 119 := (u30 238 119 rfl)
    have e43 : h30 238 67 = h 238 67 := (u30 238 67 rfl)
    have e44 : h30 238 69 = h 238 69 := (u30 238 69 rfl)
    have e45 : h30 238 5 = h 238 5 := (u30 238 5 rfl)
    refine ct_295_236 hcr  g30 ((xs i28).toInt) (by omega) (show (h30 238 98) + (h30 238 99) + (h30 238 100) + (h30 238 101) + (h30 238 102) + (h30 238 106) = (h30 238 73) by omega) (show (h30 238 73) ≤ (h30 238 2) by omega) (show (h30 238 119) ≤ (h30 238 67) by omega) (show (h30 238 69) ≤ (h30 238 5) by omega) (show (h30 238 2) ≤ 12 * (h30 238 5) by omega) (fun h33 z46 g33 u33 (fz46 : 0 ≤ z46 ∧ z46 ≤ 12) (p33_0 : (h33 238 98) + (h33 238 99) + (h33 238 100) + (h33 238 101) + (h33 238 102) + (h33 238 106) = (h33 238 73)) (p33_1 : (h33 238 73) ≤ (h33 238 2)) (p33_2 : (h33 238 119) ≤ (h33 238 67)) (p33_3 : (h33 238 69) ≤ (h33 238 5)) (p33_4 : (h33 238 2) ≤ 12 * (h33 238 5)) => ?_)
    have b47 := gi_b (lo := 0) (hi := 6) g33 238 98 rfl
    have b48 := gi_b (lo := 0) (hi := 6) g33 238 99 rfl
    have b49 := gi_b (lo := 0) (hi := 6) g33 238 100 rfl
    have b50 := gi_b (lo := 0) (hi := 6) g33 238 101 rfl
    have b51 := gi_b (lo := 0) (hi := 3) g33 238 102 rfl
    have b52 := gi_b (lo := 0) (hi := 12) g33 238 106 rfl
    have b53 := gi_b (lo := 0) (hi := 12) g33 238 73 rfl
    have b54 := gi_b (lo := 0) (hi := 12) g33 238 2 rfl
    have b55 := gi_b (lo := 0) (hi := 9999) g33 238 119 rfl
    have b56 := gi_b (lo := 0) (hi := 9999) g33 238 67 rfl
    have b57 := gi_b (lo := 0) (hi := 9) g33 238 69 rfl
    have b58 := gi_b (lo := 0) (hi := 9) g33 238 5 rfl
    refine wk_i ?_
    refine wi_istore (i := 6) (e := z46) (lo2 := [(6, vi z46), (5, vi 1), (0, .ref 1000000), (1, .ref 0), (2, .ref 236), (3, .ref 259), (4, vi i)]) (nx := 1206) (r1 := 0) (r2 := 0) (r3 := 0) rfl rfl ?_
    refine wi_goto (nx := 1209) (r1 := 1529) (r2 := 0) (r3 := 0) rfl ?_
    refine wp.lo (lo := [(0, .ref 1000000), (1, .ref 0), (2, .ref 236), (3, .ref 259), (4, vi i)]) ⟨rfl, rfl, rfl, rfl, rfl, trivial⟩ rfl ?_
    have e59 : h33 241 98 = h 241 98 := ((u33 241 98 rfl).trans (u30 241 98 rfl))
    have e60 : h33 241 99 = h 241 99 := ((u33 241 99 rfl).trans (u30 241 99 rfl))
    have e61 : h33 241 100 = h 241 100 := ((u33 241 100 rfl).trans (u30 241 100 rfl))
    have e62 : h33 241 101 = h 241 101 := ((u33 241 101 rfl).trans (u30 241 101 rfl))
    have e63 : h33 241 102 = h 241 102 := ((u33 241 102 rfl).trans (u30 241 102 rfl))
    have e64 : h33 241 106 = h 241 106 := ((u33 241 106 rfl).trans (u30 241 106 rfl))
    have e65 : h33 241 73 = h 241 73 := ((u33 241 73 rfl).trans (u30 241 73 rfl))
    have e66 : h33 241 2 = h 241 2 := ((u33 241 2 rfl).trans (u30 241 2 rfl))
    have e67 : h33 241 119 = h 241 119 := ((u33 241 119 rfl).trans (u30 241 119 rfl))
    have e68 : h33 241 67 = h 241 67 := ((u33 241 67 rfl).trans (u30 241 67 rfl))
    have e69 : h33 241 69 = h 241 69 := ((u33 241 69 rfl).trans (u30 241 69 rfl))
    have e70 : h33 241 5 = h 241 5 := ((u33 241 5 rfl).trans (u30 241 5 rfl))
    have e71 : h33 1 1 = h 1 1 := ((u33 1 1 rfl).trans (u30 1 1 rfl))
    have e72 : h33 236 2 = h 236 2 := ((u33 236 2 rfl).trans (u30 236 2 rfl))
    have gp73 := GPH.fr u30 rfl gp0
    have gp74 := GPH.fr u33 rfl gp73
    exact k h33 (b - 1) (c - 6) ⟨g33, (show h33 1 1 = h33 236 2 by omega), (RS.i0 (f := h33 238) (by refine ⟨?_, ?_, ?_, ?_, ?_⟩ <;> omega)), (RS.i0 (f := h33 241) (by refine ⟨?_, ?_, ?_, ?_, ?_⟩ <;> omega)), gp74⟩ (by omega) (by omega)
-- the law, case at 1209
set_option maxRecDepth 100000 in
set_option maxHeartbeats 100000000 in
theorem lc_1209 {L : Nat} {xs : Nat → Int32} {d b c : Nat} {h : hp} {cr : Nat → Nat → Option Nat} {Q : hp_Q} (hcr : CR cr) (hL : L ≤ 3072) (hr : 1 ≤ b ∧ 6 ≤ c) (I : LI h) (i : Int) (hi : 0 ≤ i ∧ i + 6 ≤ L) (k : ∀ (h2 : hp) (b2 c2 : Nat), LI h2 → b ≤ b2 + 1 → c ≤ c2 + 6 → wp (md_xa (L, xs)) (d + 107) 0 (1529, [(0, .ref 1000000), (1, .ref 0), (2, .ref 236), (3, .ref 259), (4, vi i)], [], hp_w h2 cr, b2, c2) Q) : wp (md_xa (L, xs)) (d + 107) 0 (1209, [(0, .ref 1000000), (1, .ref 0), (2, .ref 236), (3, .ref 259), (4, vi i)], [], hp_w h cr, b, c) Q := by
  obtain ⟨g, i11, r238, r241, gp0⟩ := I
  have r238e := r238.e0
  have r241e := r241.e0
  have b1 := gi_b (lo := 0) (hi := 6) g 238 98 rfl
  have b2 := gi_b (lo := 0) (hi := 6) g 238 99 rfl
  have b3 := gi_b (lo := 0) (hi := 6) g 238 100 rfl
  have b4 := gi_b (lo := 0) (hi := 6) g 238 101 rfl
  have b5 := gi_b (lo := 0) (hi := 3) g 238 102 rfl
  have b6 := gi_b (lo := 0) (hi := 12) g 238 106 rfl
  have b7 := gi_b (lo := 0) (hi := 12) g 238 73 rfl
  have b8 := gi_b (lo := 0) (hi := 12) g 238 2 rfl
  have b9 := gi_b (lo := 0) (hi := 9999) g 238 119 rfl
  have b10 := gi_b (lo := 0) (hi := 9999) g 238 67 rfl
  have b11 := gi_b (lo := 0) (hi := 9) g 238 69 rfl
  have b12 := gi_b (lo := 0) (hi := 9) g 238 5 rfl
  have b13 := gi_b (lo := 0) (hi := 6) g 241 98 rfl
  have b14 := gi_b (lo := 0) (hi := 6) g 241 99 rfl
  have b15 := gi_b (lo := 0) (hi := 6) g 241 100 rfl
  have b16 := gi_b (lo := 0) (hi := 6) g 241 101 rfl
  have b17 := gi_b (lo := 0) (hi := 3) g 241 102 rfl
  have b18 := gi_b (lo := 0) (hi := 12) g 241 106 rfl
  have b19 := gi_b (lo := 0) (hi := 12) g 241 73 rfl
  have b20 := gi_b (lo := 0) (hi := 12) g 241 2 rfl
  have b21 := gi_b (lo := 0) (hi := 9999) g 241 119 rfl
  have b22 := gi_b (lo := 0) (hi := 9999) g 241 67 rfl
  have b23 := gi_b (lo := 0) (hi := 9) g 241 69 rfl
  have b24 := gi_b (lo := 0) (hi := 9) g 241 5 rfl
  have b25 := gi_b (lo := 0) (hi := 800) g 1 1 rfl
  have b26 := gi_b (lo := 0) (hi := 800) g 236 2 rfl
  refine wi_aload_n (i := 1) (x := 0) (nx := 1210) (r1 := 0) (r2 := 0) (r3 := 0) rfl rfl ?_
  refine wi_aload_n (i := 0) (x := 1000000) (nx := 1211) (r1 := 0) (r2 := 0) (r3 := 0) rfl rfl ?_
  refine wi_iload (i := 4) (e := i) (nx := 1213) (r1 := 0) (r2 := 0) (r3 := 0) rfl rfl ?_
  refine wi_iconst (n := 1) (nx := 1214) (r1 := 0) (r2 := 0) (r3 := 0) rfl ?_
  refine wr_add (nx := 1215) (r1 := 0) (r2 := 0) (r3 := 0) rfl (fun e27 (fe27 : e27 = i + 1) => ?_)
  obtain ⟨i28, ei28⟩ : ∃ q : Nat, e27 = (q : Int) := ⟨(e27).toNat, by omega⟩
  have s29 := sc_b (xs i28)
  refine wr_sc (a := e27) (f := i28) (nx := 1216) (r1 := 0) (r2 := 0) (r3 := 0) rfl (by omega) (by omega) hL ?_
  refine wi_aload_n (i := 3) (x := 259) (nx := 1217) (r1 := 0) (r2 := 0) (r3 := 0) rfl rfl ?_
  refine wi_S (rest := []) (as := [.ref 0, vi ((xs i28).toInt), .ref 259]) (nx := 1220) (r1 := 21) (r2 := 19) (r3 := 0) rfl rfl rfl (of_decide_eq_true rfl) rfl rfl (of_decide_eq_true rfl) (of_decide_eq_true rfl) ?_
  refine wi_aload_n (i := 2) (x := 259) (nx := 1) (r1 := 0) (r2 := 0) (r3 := 0) rfl rfl ?_
  refine wi_iconst (n := 0) (nx := 2) (r1 := 0) (r2 := 0) (r3 := 0) rfl ?_
  refine wi_aload_n (i := 0) (x := 0) (nx := 3) (r1 := 0) (r2 := 0) (r3 := 0) rfl rfl ?_
  refine wi_iload_n (i := 1) (e := (xs i28).toInt) (nx := 4) (r1 := 0) (r2 := 0) (r3 := 0) rfl rfl ?_
  refine wr_V (k0 := 0) (rest := [vi 0, .ref 259]) (as := [.ref 0, vi ((xs i28).toInt)]) (nx := 7) (r1 := 85) (r2 := 1) (r3 := 0) rfl rfl rfl (of_decide_eq_true rfl) rfl rfl (by decide) rfl rfl (of_decide_eq_true rfl) (of_decide_eq_true rfl) ?_
  refine ct_85_0 hcr hr  g ((xs i28).toInt) (by omega)  (fun h30 z31 g30 u30 (fz31 : -2147483648 ≤ z31 ∧ z31 ≤ 2147483647) => ?_) (fun h30 g30 u30 => ?_)
  ·
    refine wk_i ?_
    refine wi_i2l (nx := 8) (r1 := 0) (r2 := 0) (r3 := 0) rfl (by omega) ?_
    refine wr_ls (k0 := 259) (a := 0) (f := 0) (x := z31) (bl := -9223372036854775808) (bh := 9223372036854775807) (nx := 9) (r1 := 0) (r2 := 0) (r3 := 0) rfl (by decide) rfl (by omega) (by omega) (by decide) g30 rfl (by omega) (fun h32 g32 w32 u32 => ?_)
    refine wi_goto (nx := 12) (r1 := 15) (r2 := 0) (r3 := 0) rfl ?_
    refine wi_iconst (n := 0) (nx := 16) (r1 := 0) (r2 := 0) (r3 := 0) rfl ?_
    refine wi_ireturn (nx := 17) (r1 := 0) (r2 := 0) (r3 := 0) rfl rfl ?_
    refine wk_i ?_
    refine wi_istore (i := 5) (e := 0) (lo2 := [(5, vi 0), (0, .ref 1000000), (1, .ref 0), (2, .ref 236), (3, .ref 259), (4, vi i)]) (nx := 1222) (r1 := 0) (r2 := 0) (r3 := 0) rfl rfl ?_
    refine wi_aload_n (i := 2) (x := 236) (nx := 1223) (r1 := 0) (r2 := 0) (r3 := 0) rfl rfl ?_
    refine wi_aload_n (i := 0) (x := 1000000) (nx := 1224) (r1 := 0) (r2 := 0) (r3 := 0) rfl rfl ?_
    refine wi_iload (i := 4) (e := i) (nx := 1226) (r1 := 0) (r2 := 0) (r3 := 0) rfl rfl ?_
    refine wi_iconst (n := 1) (nx := 1227) (r1 := 0) (r2 := 0) (r3 := 0) rfl ?_
    refine wr_add (nx := 1228) (r1 := 0) (r2 := 0) (r3 := 0) rfl (fun e33 (fe33 : e33 = i + 1) => ?_)
    refine wr_sc (a := e33) (f := i28) (nx := 1229) (r1 := 0) (r2 := 0) (r3 := 0) rfl (by omega) (by omega) hL ?_
    refine wr_V (k0 := 236) (rest := []) (as := [.ref 236, vi ((xs i28).toInt)]) (nx := 1232) (r1 := 296) (r2 := 1) (r3 := 11) rfl rfl rfl (of_decide_eq_true rfl) rfl rfl (by decide) rfl rfl (of_decide_eq_true rfl) (of_decide_eq_true rfl) ?_
    have e35 : h32 238 98 = h 238 98 := ((u32 238 98 rfl).trans (u30 238 98 rfl))
    have e36 : h32 238 99 = h 238 99 := ((u32 238 99 rfl).trans (u30 238 99 rfl))
    have e37 : h32 238 100 = h 238 100 := ((u32 238 100 rfl).trans (u30 238 100 rfl))
    have e38 : h32 238 101 = h 238 101 := ((u32 238 101 rfl).trans (u30 238 101 rfl))
    have e39 : h32 238 102 = h 238 102 := ((u32 238 102 rfl).trans (u30 238 102 rfl))
    have e40 : h32 238 106 = h 238 106 := ((u32 238 106 rfl).trans (u30 238 106 rfl))
    have e41 : h32 238 73 = h 238 73 := ((u32 238 73 rfl).trans (u30 238 73 rfl))
    have e42 : h32 238 2 = h 238 2 := ((u32 238 2 rfl).trans (u30 238 2 rfl))
    have e43 : h32 238 119 = h 238 119 := ((u32 238 119 rfl).trans (u30 238 119 rfl))
    have e44 : h32 238 67 = h 238 67 := ((u32 238 67 rfl).trans (u30 238 67 rfl))
    have e45 : h32 238 69 = h 238 69 := ((u32 238 69 rfl).trans (u30 238 69 rfl))
    have e46 : h32 238 5 = h 238 5 := ((u32 238 5 rfl).trans (u30 238 5 rfl))
    refine ct_296_236 hcr  g32 ((xs i28).toInt) (by omega) (show (h32 238 98) + (h32 238 99) + (h32 238 100) + (h32 238 101) + (h32 238 102) + (h32 238 106) = (h32 238 73) by omega) (show (h32 238 73) ≤ (h32 238 2) by omega) (show (h32 238 119) ≤ (h32 238 67) by omega) (show (h32 238 69) ≤ (h32 238 5) by omega) (show (h32 238 2) ≤ 12 * (h32 238 5) by omega) (fun h34 z47 g34 u34 (fz47 : -1 ≤ z47 ∧ z47 ≤ 300) (p34_0 : (h34 238 98) + (h34 238 99) + (h34 238 100) + (h34 238 101) + (h34 238 102) + (h34 238 106) = (h34 238 73)) (p34_1 : (h34 238 73) ≤ (h34 238 2)) (p34_2 : (h34 238 119) ≤ (h34 238 67)) (p34_3 : (h34 238 69) ≤ (h34 238 5)) (p34_4 : (h34 238 2) ≤ 12 * (h34 238 5)) => ?_)
    have b48 := gi_b (lo := 0) (hi := 6) g34 238 98 rfl
    have b49 := gi_b (lo := 0) (hi := 6) g34 238 99 rfl
    have b50 := gi_b (lo := 0) (hi := 6) g34 238 100 rfl
    have b51 := gi_b (lo := 0) (hi := 6) g34 238 101 rfl
    have b52 := gi_b (lo := 0) (hi := 3) g34 238 102 rfl
    have b53 := gi_b (lo := 0) (hi := 12) g34 238 106 rfl
    have b54 := gi_b (lo := 0) (hi := 12) g34 238 73 rfl
    have b55 := gi_b (lo := 0) (hi := 12) g34 238 2 rfl
    have b56 := gi_b (lo := 0) (hi := 9999) g34 238 119 rfl
    have b57 := gi_b (lo := 0) (hi := 9999) g34 238 67 rfl
    have b58 := gi_b (lo := 0) (hi := 9) g34 238 69 rfl
    have b59 := gi_b (lo := 0) (hi := 9) g34 238 5 rfl
    refine wk_i ?_
    refine wi_istore (i := 6) (e := z47) (lo2 := [(6, vi z47), (5, vi 0), (0, .ref 1000000), (1, .ref 0), (2, .ref 236), (3, .ref 259), (4, vi i)]) (nx := 1234) (r1 := 0) (r2 := 0) (r3 := 0) rfl rfl ?_
    refine wi_goto (nx := 1237) (r1 := 1529) (r2 := 0) (r3 := 0) rfl ?_
    refine wp.lo (lo := [(0, .ref 1000000), (1, .ref 0), (2, .ref 236), (3, .ref 259), (4, vi i)]) ⟨rfl, rfl, rfl, rfl, rfl, trivial⟩ rfl ?_
    have e60 : h34 241 98 = h 241 98 := ((u34 241 98 rfl).trans ((u32 241 98 rfl).trans (u30 241 98 rfl)))
    have e61 : h34 241 99 = h 241 99 := ((u34 241 99 rfl).trans ((u32 241 99 rfl).trans (u30 241 99 rfl)))
    have e62 : h34 241 100 = h 241 100 := ((u34 241 100 rfl).trans ((u32 241 100 rfl).trans (u30 241 100 rfl)))
    have e63 : h34 241 101 = h 241 101 := ((u34 241 101 rfl).trans ((u32 241 101 rfl).trans (u30 241 101 rfl)))
    have e64 : h34 241 102 = h 241 102 := ((u34 241 102 rfl).trans ((u32 241 102 rfl).trans (u30 241 102 rfl)))
    have e65 : h34 241 106 = h 241 106 := ((u34 241 106 rfl).trans ((u32 241 106 rfl).trans (u30 241 106 rfl)))
    have e66 : h34 241 73 = h 241 73 := ((u34 241 73 rfl).trans ((u32 241 73 rfl).trans (u30 241 73 rfl)))
    have e67 : h34 241 2 = h 241 2 := ((u34 241 2 rfl).trans ((u32 241 2 rfl).trans (u30 241 2 rfl)))
    have e68 : h34 241 119 = h 241 119 := ((u34 241 119 rfl).trans ((u32 241 119 rfl).trans (u30 241 119 rfl)))
    have e69 : h34 241 67 = h 241 67 := ((u34 241 67 rfl).trans ((u32 241 67 rfl).trans (u30 241 67 rfl)))
    have e70 : h34 241 69 = h 241 69 := ((u34 241 69 rfl).trans ((u32 241 69 rfl).trans (u30 241 69 rfl)))
    have e71 : h34 241 5 = h 241 5 := ((u34 241 5 rfl).trans ((u32 241 5 rfl).trans (u30 241 5 rfl)))
    have e72 : h34 1 1 = h 1 1 := ((u34 1 1 rfl).trans ((u32 1 1 rfl).trans (u30 1 1 rfl)))
    have e73 : h34 236 2 = h 236 2 := ((u34 236 2 rfl).trans ((u32 236 2 rfl).trans (u30 236 2 rfl)))
    have gp74 := GPH.fr u30 rfl gp0
    have gp75 := GPH.fr u32 rfl gp74
    have gp76 := GPH.fr u34 rfl gp75
    exact k h34 b c ⟨g34, (show h34 1 1 = h34 236 2 by omega), (RS.i0 (f := h34 238) (by refine ⟨?_, ?_, ?_, ?_, ?_⟩ <;> omega)), (RS.i0 (f := h34 241) (by refine ⟨?_, ?_, ?_, ?_, ?_⟩ <;> omega)), gp76⟩ (by omega) (by omega)
  ·
    refine wk_h 12 (by decide) rfl ?_
    refine wr_astx (i := 3) (lo2 := [(3, .retAddr 0), (0, .ref 0), (1, vi ((xs i28).toInt)), (2, .ref 259)]) (nx := 13) (r1 := 0) (r2 := 0) (r3 := 0) rfl rfl ?_
    refine wi_iconst (n := 1) (nx := 14) (r1 := 0) (r2 := 0) (r3 := 0) rfl ?_
    refine wi_ireturn (nx := 15) (r1 := 0) (r2 := 0) (r3 := 0) rfl rfl ?_
    refine wk_i ?_
    refine wi_istore (i := 5) (e := 1) (lo2 := [(5, vi 1), (0, .ref 1000000), (1, .ref 0), (2, .ref 236), (3, .ref 259), (4, vi i)]) (nx := 1222) (r1 := 0) (r2 := 0) (r3 := 0) rfl rfl ?_
    refine wi_aload_n (i := 2) (x := 236) (nx := 1223) (r1 := 0) (r2 := 0) (r3 := 0) rfl rfl ?_
    refine wi_aload_n (i := 0) (x := 1000000) (nx := 1224) (r1 := 0) (r2 := 0) (r3 := 0) rfl rfl ?_
    refine wi_iload (i := 4) (e := i) (nx := 1226) (r1 := 0) (r2 := 0) (r3 := 0) rfl rfl ?_
    refine wi_iconst (n := 1) (nx := 1227) (r1 := 0) (r2 := 0) (r3 := 0) rfl ?_
    refine wr_add (nx := 1228) (r1 := 0) (r2 := 0) (r3 := 0) rfl (fun e32 (fe32 : e32 = i + 1) => ?_)
    refine wr_sc (a := e32) (f := i28) (nx := 1229) (r1 := 0) (r2 := 0) (r3 := 0) rfl (by omega) (by omega) hL ?_
    refine wr_V (k0 := 236) (rest := []) (as := [.ref 236, vi ((xs i28).toInt)]) (nx := 1232) (r1 := 296) (r2 := 1) (r3 := 11) rfl rfl rfl (of_decide_eq_true rfl) rfl rfl (by decide) rfl rfl (of_decide_eq_true rfl) (of_decide_eq_true rfl) ?_
    have e34 : h30 238 98 = h 238 98 := (u30 238 98 rfl)
    have e35 : h30 238 99 = h 238 99 := (u30 238 99 rfl)
    have e36 : h30 238 100 = h 238 100 := (u30 238 100 rfl)
    have e37 : h30 238 101 = h 238 101 := (u30 238 101 rfl)
    have e38 : h30 238 102 = h 238 102 := (u30 238 102 rfl)
    have e39 : h30 238 106 = h 238 106 := (u30 238 106 rfl)
    have e40 : h30 238 73 = h 238 73 := (u30 238 73 rfl)
    have e41 : h30 238 2 = h 238 2 := (u30 238 2 rfl)
    have e42 : h30 238 119 = h 238 119 := (u30 238 119 rfl)
    have e43 : h30 238 67 = h 238 67 := (u30 238 67 rfl)
    have e44 : h30 238 69 = h 238 69 := (u30 238 69 rfl)
    have e45 : h30 238 5 = h 238 5 := (u30 238 5 rfl)
    refine ct_296_236 hcr  g30 ((xs i28).toInt) (by omega) (show (h30 238 98) + (h30 238 99) + (h30 238 100) + (h30 238 101) + (h30 238 102) + (h30 238 106) = (h30 238 73) by omega) (show (h30 238 73) ≤ (h30 238 2) by omega) (show (h30 238 119) ≤ (h30 238 67) by omega) (show (h30 238 69) ≤ (h30 238 5) by omega) (show (h30 238 2) ≤ 12 * (h30 238 5) by omega) (fun h33 z46 g33 u33 (fz46 : -1 ≤ z46 ∧ z46 ≤ 300) (p33_0 : (h33 238 98) + (h33 238 99) + (h33 238 100) + (h33 238 101) + (h33 238 102) + (h33 238 106) = (h33 238 73)) (p33_1 : (h33 238 73) ≤ (h33 238 2)) (p33_2 : (h33 238 119) ≤ (h33 238 67)) (p33_3 : (h33 238 69) ≤ (h33 238 5)) (p33_4 : (h33 238 2) ≤ 12 * (h33 238 5)) => ?_)
    have b47 := gi_b (lo := 0) (hi := 6) g33 238 98 rfl
    have b48 := gi_b (lo := 0) (hi := 6) g33 238 99 rfl
    have b49 := gi_b (lo := 0) (hi := 6) g33 238 100 rfl
    have b50 := gi_b (lo := 0) (hi := 6) g33 238 101 rfl
    have b51 := gi_b (lo := 0) (hi := 3) g33 238 102 rfl
    have b52 := gi_b (lo := 0) (hi := 12) g33 238 106 rfl
    have b53 := gi_b (lo := 0) (hi := 12) g33 238 73 rfl
    have b54 := gi_b (lo := 0) (hi := 12) g33 238 2 rfl
    have b55 := gi_b (lo := 0) (hi := 9999) g33 238 119 rfl
    have b56 := gi_b (lo := 0) (hi := 9999) g33 238 67 rfl
    have b57 := gi_b (lo := 0) (hi := 9) g33 238 69 rfl
    have b58 := gi_b (lo := 0) (hi := 9) g33 238 5 rfl
    refine wk_i ?_
    refine wi_istore (i := 6) (e := z46) (lo2 := [(6, vi z46), (5, vi 1), (0, .ref 1000000), (1, .ref 0), (2, .ref 236), (3, .ref 259), (4, vi i)]) (nx := 1234) (r1 := 0) (r2 := 0) (r3 := 0) rfl rfl ?_
    refine wi_goto (nx := 1237) (r1 := 1529) (r2 := 0) (r3 := 0) rfl ?_
    refine wp.lo (lo := [(0, .ref 1000000), (1, .ref 0), (2, .ref 236), (3, .ref 259), (4, vi i)]) ⟨rfl, rfl, rfl, rfl, rfl, trivial⟩ rfl ?_
    have e59 : h33 241 98 = h 241 98 := ((u33 241 98 rfl).trans (u30 241 98 rfl))
    have e60 : h33 241 99 = h 241 99 := ((u33 241 99 rfl).trans (u30 241 99 rfl))
    have e61 : h33 241 100 = h 241 100 := ((u33 241 100 rfl).trans (u30 241 100 rfl))
    have e62 : h33 241 101 = h 241 101 := ((u33 241 101 rfl).trans (u30 241 101 rfl))
    have e63 : h33 241 102 = h 241 102 := ((u33 241 102 rfl).trans (u30 241 102 rfl))
    have e64 : h33 241 106 = h 241 106 := ((u33 241 106 rfl).trans (u30 241 106 rfl))
    have e65 : h33 241 73 = h 241 73 := ((u33 241 73 rfl).trans (u30 241 73 rfl))
    have e66 : h33 241 2 = h 241 2 := ((u33 241 2 rfl).trans (u30 241 2 rfl))
    have e67 : h33 241 119 = h 241 119 := ((u33 241 119 rfl).trans (u30 241 119 rfl))
    have e68 : h33 241 67 = h 241 67 := ((u33 241 67 rfl).trans (u30 241 67 rfl))
    have e69 : h33 241 69 = h 241 69 := ((u33 241 69 rfl).trans (u30 241 69 rfl))
    have e70 : h33 241 5 = h 241 5 := ((u33 241 5 rfl).trans (u30 241 5 rfl))
    have e71 : h33 1 1 = h 1 1 := ((u33 1 1 rfl).trans (u30 1 1 rfl))
    have e72 : h33 236 2 = h 236 2 := ((u33 236 2 rfl).trans (u30 236 2 rfl))
    have gp73 := GPH.fr u30 rfl gp0
    have gp74 := GPH.fr u33 rfl gp73
    exact k h33 (b - 1) (c - 6) ⟨g33, (show h33 1 1 = h33 236 2 by omega), (RS.i0 (f := h33 238) (by refine ⟨?_, ?_, ?_, ?_, ?_⟩ <;> omega)), (RS.i0 (f := h33 241) (by refine ⟨?_, ?_, ?_, ?_, ?_⟩ <;> omega)), gp74⟩ (by omega) (by omega)
-- the law, case at 1237
set_option maxRecDepth 100000 in
set_option maxHeartbeats 100000000 in
theorem lc_1237 {L : Nat} {xs : Nat → Int32} {d b c : Nat} {h : hp} {cr : Nat → Nat → Option Nat} {Q : hp_Q} (hcr : CR cr) (hL : L ≤ 3072) (hr : 1 ≤ b ∧ 6 ≤ c) (I : LI h) (i : Int) (hi : 0 ≤ i ∧ i + 6 ≤ L) (k : ∀ (h2 : hp) (b2 c2 : Nat), LI h2 → b ≤ b2 + 1 → c ≤ c2 + 6 → wp (md_xa (L, xs)) (d + 107) 0 (1529, [(0, .ref 1000000), (1, .ref 0), (2, .ref 236), (3, .ref 259), (4, vi i)], [], hp_w h2 cr, b2, c2) Q) : wp (md_xa (L, xs)) (d + 107) 0 (1237, [(0, .ref 1000000), (1, .ref 0), (2, .ref 236), (3, .ref 259), (4, vi i)], [], hp_w h cr, b, c) Q := by
  obtain ⟨g, i11, r238, r241, gp0⟩ := I
  have r238e := r238.e0
  have r241e := r241.e0
  have b1 := gi_b (lo := 0) (hi := 6) g 238 98 rfl
  have b2 := gi_b (lo := 0) (hi := 6) g 238 99 rfl
  have b3 := gi_b (lo := 0) (hi := 6) g 238 100 rfl
  have b4 := gi_b (lo := 0) (hi := 6) g 238 101 rfl
  have b5 := gi_b (lo := 0) (hi := 3) g 238 102 rfl
  have b6 := gi_b (lo := 0) (hi := 12) g 238 106 rfl
  have b7 := gi_b (lo := 0) (hi := 12) g 238 73 rfl
  have b8 := gi_b (lo := 0) (hi := 12) g 238 2 rfl
  have b9 := gi_b (lo := 0) (hi := 9999) g 238 119 rfl
  have b10 := gi_b (lo := 0) (hi := 9999) g 238 67 rfl
  have b11 := gi_b (lo := 0) (hi := 9) g 238 69 rfl
  have b12 := gi_b (lo := 0) (hi := 9) g 238 5 rfl
  have b13 := gi_b (lo := 0) (hi := 6) g 241 98 rfl
  have b14 := gi_b (lo := 0) (hi := 6) g 241 99 rfl
  have b15 := gi_b (lo := 0) (hi := 6) g 241 100 rfl
  have b16 := gi_b (lo := 0) (hi := 6) g 241 101 rfl
  have b17 := gi_b (lo := 0) (hi := 3) g 241 102 rfl
  have b18 := gi_b (lo := 0) (hi := 12) g 241 106 rfl
  have b19 := gi_b (lo := 0) (hi := 12) g 241 73 rfl
  have b20 := gi_b (lo := 0) (hi := 12) g 241 2 rfl
  have b21 := gi_b (lo := 0) (hi := 9999) g 241 119 rfl
  have b22 := gi_b (lo := 0) (hi := 9999) g 241 67 rfl
  have b23 := gi_b (lo := 0) (hi := 9) g 241 69 rfl
  have b24 := gi_b (lo := 0) (hi := 9) g 241 5 rfl
  have b25 := gi_b (lo := 0) (hi := 800) g 1 1 rfl
  have b26 := gi_b (lo := 0) (hi := 800) g 236 2 rfl
  refine wi_aload_n (i := 1) (x := 0) (nx := 1238) (r1 := 0) (r2 := 0) (r3 := 0) rfl rfl ?_
  refine wi_aload_n (i := 0) (x := 1000000) (nx := 1239) (r1 := 0) (r2 := 0) (r3 := 0) rfl rfl ?_
  refine wi_iload (i := 4) (e := i) (nx := 1241) (r1 := 0) (r2 := 0) (r3 := 0) rfl rfl ?_
  refine wi_iconst (n := 1) (nx := 1242) (r1 := 0) (r2 := 0) (r3 := 0) rfl ?_
  refine wr_add (nx := 1243) (r1 := 0) (r2 := 0) (r3 := 0) rfl (fun e27 (fe27 : e27 = i + 1) => ?_)
  obtain ⟨i28, ei28⟩ : ∃ q : Nat, e27 = (q : Int) := ⟨(e27).toNat, by omega⟩
  have s29 := sc_b (xs i28)
  refine wr_sc (a := e27) (f := i28) (nx := 1244) (r1 := 0) (r2 := 0) (r3 := 0) rfl (by omega) (by omega) hL ?_
  refine wi_aload_n (i := 3) (x := 259) (nx := 1245) (r1 := 0) (r2 := 0) (r3 := 0) rfl rfl ?_
  refine wi_S (rest := []) (as := [.ref 0, vi ((xs i28).toInt), .ref 259]) (nx := 1248) (r1 := 22) (r2 := 19) (r3 := 0) rfl rfl rfl (of_decide_eq_true rfl) rfl rfl (of_decide_eq_true rfl) (of_decide_eq_true rfl) ?_
  refine wi_aload_n (i := 2) (x := 259) (nx := 1) (r1 := 0) (r2 := 0) (r3 := 0) rfl rfl ?_
  refine wi_iconst (n := 0) (nx := 2) (r1 := 0) (r2 := 0) (r3 := 0) rfl ?_
  refine wi_aload_n (i := 0) (x := 0) (nx := 3) (r1 := 0) (r2 := 0) (r3 := 0) rfl rfl ?_
  refine wi_iload_n (i := 1) (e := (xs i28).toInt) (nx := 4) (r1 := 0) (r2 := 0) (r3 := 0) rfl rfl ?_
  refine wr_V (k0 := 0) (rest := [vi 0, .ref 259]) (as := [.ref 0, vi ((xs i28).toInt)]) (nx := 7) (r1 := 86) (r2 := 1) (r3 := 0) rfl rfl rfl (of_decide_eq_true rfl) rfl rfl (by decide) rfl rfl (of_decide_eq_true rfl) (of_decide_eq_true rfl) ?_
  refine ct_86_0 hcr hr  g ((xs i28).toInt) (by omega)  (fun z31  (fz31 : -1 ≤ z31 ∧ z31 ≤ 3) => ?_) ?_
  ·
    refine wk_i ?_
    refine wi_i2l (nx := 8) (r1 := 0) (r2 := 0) (r3 := 0) rfl (by omega) ?_
    refine wr_ls (k0 := 259) (a := 0) (f := 0) (x := z31) (bl := -9223372036854775808) (bh := 9223372036854775807) (nx := 9) (r1 := 0) (r2 := 0) (r3 := 0) rfl (by decide) rfl (by omega) (by omega) (by decide) g rfl (by omega) (fun h32 g32 w32 u32 => ?_)
    refine wi_goto (nx := 12) (r1 := 15) (r2 := 0) (r3 := 0) rfl ?_
    refine wi_iconst (n := 0) (nx := 16) (r1 := 0) (r2 := 0) (r3 := 0) rfl ?_
    refine wi_ireturn (nx := 17) (r1 := 0) (r2 := 0) (r3 := 0) rfl rfl ?_
    refine wk_i ?_
    refine wi_istore (i := 5) (e := 0) (lo2 := [(5, vi 0), (0, .ref 1000000), (1, .ref 0), (2, .ref 236), (3, .ref 259), (4, vi i)]) (nx := 1250) (r1 := 0) (r2 := 0) (r3 := 0) rfl rfl ?_
    refine wi_aload_n (i := 2) (x := 236) (nx := 1251) (r1 := 0) (r2 := 0) (r3 := 0) rfl rfl ?_
    refine wi_aload_n (i := 0) (x := 1000000) (nx := 1252) (r1 := 0) (r2 := 0) (r3 := 0) rfl rfl ?_
    refine wi_iload (i := 4) (e := i) (nx := 1254) (r1 := 0) (r2 := 0) (r3 := 0) rfl rfl ?_
    refine wi_iconst (n := 1) (nx := 1255) (r1 := 0) (r2 := 0) (r3 := 0) rfl ?_
    refine wr_add (nx := 1256) (r1 := 0) (r2 := 0) (r3 := 0) rfl (fun e33 (fe33 : e33 = i + 1) => ?_)
    refine wr_sc (a := e33) (f := i28) (nx := 1257) (r1 := 0) (r2 := 0) (r3 := 0) rfl (by omega) (by omega) hL ?_
    refine wr_V (k0 := 236) (rest := []) (as := [.ref 236, vi ((xs i28).toInt)]) (nx := 1260) (r1 := 297) (r2 := 1) (r3 := 11) rfl rfl rfl (of_decide_eq_true rfl) rfl rfl (by decide) rfl rfl (of_decide_eq_true rfl) (of_decide_eq_true rfl) ?_
    refine ct_297_236 hcr  g32 ((xs i28).toInt) (by omega)  (fun h34 z35 g34 u34 (fz35 : -1 ≤ z35 ∧ z35 ≤ 3) => ?_)
    refine wk_i ?_
    refine wi_istore (i := 6) (e := z35) (lo2 := [(6, vi z35), (5, vi 0), (0, .ref 1000000), (1, .ref 0), (2, .ref 236), (3, .ref 259), (4, vi i)]) (nx := 1262) (r1 := 0) (r2 := 0) (r3 := 0) rfl rfl ?_
    refine wi_goto (nx := 1265) (r1 := 1529) (r2 := 0) (r3 := 0) rfl ?_
    refine wp.lo (lo := [(0, .ref 1000000), (1, .ref 0), (2, .ref 236), (3, .ref 259), (4, vi i)]) ⟨rfl, rfl, rfl, rfl, rfl, trivial⟩ rfl ?_
    have e36 : h34 238 98 = h 238 98 := ((u34 238 98 rfl).trans (u32 238 98 rfl))
    have e37 : h34 238 99 = h 238 99 := ((u34 238 99 rfl).trans (u32 238 99 rfl))
    have e38 : h34 238 100 = h 238 100 := ((u34 238 100 rfl).trans (u32 238 100 rfl))
    have e39 : h34 238 101 = h 238 101 := ((u34 238 101 rfl).trans (u32 238 101 rfl))
    have e40 : h34 238 102 = h 238 102 := ((u34 238 102 rfl).trans (u32 238 102 rfl))
    have e41 : h34 238 106 = h 238 106 := ((u34 238 106 rfl).trans (u32 238 106 rfl))
    have e42 : h34 238 73 = h 238 73 := ((u34 238 73 rfl).trans (u32 238 73 rfl))
    have e43 : h34 238 2 = h 238 2 := ((u34 238 2 rfl).trans (u32 238 2 rfl))
    have e44 : h34 238 119 = h 238 119 := ((u34 238 119 rfl).trans (u32 238 119 rfl))
    have e45 : h34 238 67 = h 238 67 := ((u34 238 67 rfl).trans (u32 238 67 rfl))
    have e46 : h34 238 69 = h 238 69 := ((u34 238 69 rfl).trans (u32 238 69 rfl))
    have e47 : h34 238 5 = h 238 5 := ((u34 238 5 rfl).trans (u32 238 5 rfl))
    have e48 : h34 241 98 = h 241 98 := ((u34 241 98 rfl).trans (u32 241 98 rfl))
    have e49 : h34 241 99 = h 241 99 := ((u34 241 99 rfl).trans (u32 241 99 rfl))
    have e50 : h34 241 100 = h 241 100 := ((u34 241 100 rfl).trans (u32 241 100 rfl))
    have e51 : h34 241 101 = h 241 101 := ((u34 241 101 rfl).trans (u32 241 101 rfl))
    have e52 : h34 241 102 = h 241 102 := ((u34 241 102 rfl).trans (u32 241 102 rfl))
    have e53 : h34 241 106 = h 241 106 := ((u34 241 106 rfl).trans (u32 241 106 rfl))
    have e54 : h34 241 73 = h 241 73 := ((u34 241 73 rfl).trans (u32 241 73 rfl))
    have e55 : h34 241 2 = h 241 2 := ((u34 241 2 rfl).trans (u32 241 2 rfl))
    have e56 : h34 241 119 = h 241 119 := ((u34 241 119 rfl).trans (u32 241 119 rfl))
    have e57 : h34 241 67 = h 241 67 := ((u34 241 67 rfl).trans (u32 241 67 rfl))
    have e58 : h34 241 69 = h 241 69 := ((u34 241 69 rfl).trans (u32 241 69 rfl))
    have e59 : h34 241 5 = h 241 5 := ((u34 241 5 rfl).trans (u32 241 5 rfl))
    have e60 : h34 1 1 = h 1 1 := ((u34 1 1 rfl).trans (u32 1 1 rfl))
    have e61 : h34 236 2 = h 236 2 := ((u34 236 2 rfl).trans (u32 236 2 rfl))
    have gp62 := GPH.fr u32 rfl gp0
    have gp63 := GPH.fr u34 rfl gp62
    exact k h34 b c ⟨g34, (show h34 1 1 = h34 236 2 by omega), (RS.i0 (f := h34 238) (by refine ⟨?_, ?_, ?_, ?_, ?_⟩ <;> omega)), (RS.i0 (f := h34 241) (by refine ⟨?_, ?_, ?_, ?_, ?_⟩ <;> omega)), gp63⟩ (by omega) (by omega)
  ·
    refine wk_h 12 (by decide) rfl ?_
    refine wr_astx (i := 3) (lo2 := [(3, .retAddr 0), (0, .ref 0), (1, vi ((xs i28).toInt)), (2, .ref 259)]) (nx := 13) (r1 := 0) (r2 := 0) (r3 := 0) rfl rfl ?_
    refine wi_iconst (n := 1) (nx := 14) (r1 := 0) (r2 := 0) (r3 := 0) rfl ?_
    refine wi_ireturn (nx := 15) (r1 := 0) (r2 := 0) (r3 := 0) rfl rfl ?_
    refine wk_i ?_
    refine wi_istore (i := 5) (e := 1) (lo2 := [(5, vi 1), (0, .ref 1000000), (1, .ref 0), (2, .ref 236), (3, .ref 259), (4, vi i)]) (nx := 1250) (r1 := 0) (r2 := 0) (r3 := 0) rfl rfl ?_
    refine wi_aload_n (i := 2) (x := 236) (nx := 1251) (r1 := 0) (r2 := 0) (r3 := 0) rfl rfl ?_
    refine wi_aload_n (i := 0) (x := 1000000) (nx := 1252) (r1 := 0) (r2 := 0) (r3 := 0) rfl rfl ?_
    refine wi_iload (i := 4) (e := i) (nx := 1254) (r1 := 0) (r2 := 0) (r3 := 0) rfl rfl ?_
    refine wi_iconst (n := 1) (nx := 1255) (r1 := 0) (r2 := 0) (r3 := 0) rfl ?_
    refine wr_add (nx := 1256) (r1 := 0) (r2 := 0) (r3 := 0) rfl (fun e32 (fe32 : e32 = i + 1) => ?_)
    refine wr_sc (a := e32) (f := i28) (nx := 1257) (r1 := 0) (r2 := 0) (r3 := 0) rfl (by omega) (by omega) hL ?_
    refine wr_V (k0 := 236) (rest := []) (as := [.ref 236, vi ((xs i28).toInt)]) (nx := 1260) (r1 := 297) (r2 := 1) (r3 := 11) rfl rfl rfl (of_decide_eq_true rfl) rfl rfl (by decide) rfl rfl (of_decide_eq_true rfl) (of_decide_eq_true rfl) ?_
    refine ct_297_236 hcr  g ((xs i28).toInt) (by omega)  (fun h33 z34 g33 u33 (fz34 : -1 ≤ z34 ∧ z34 ≤ 3) => ?_)
    refine wk_i ?_
    refine wi_istore (i := 6) (e := z34) (lo2 := [(6, vi z34), (5, vi 1), (0, .ref 1000000), (1, .ref 0), (2, .ref 236), (3, .ref 259), (4, vi i)]) (nx := 1262) (r1 := 0) (r2 := 0) (r3 := 0) rfl rfl ?_
    refine wi_goto (nx := 1265) (r1 := 1529) (r2 := 0) (r3 := 0) rfl ?_
    refine wp.lo (lo := [(0, .ref 1000000), (1, .ref 0), (2, .ref 236), (3, .ref 259), (4, vi i)]) ⟨rfl, rfl, rfl, rfl, rfl, trivial⟩ rfl ?_
    have e35 : h33 238 98 = h 238 98 := (u33 238 98 rfl)
    have e36 : h33 238 99 = h 238 99 := (u33 238 99 rfl)
    have e37 : h33 238 100 = h 238 100 := (u33 238 100 rfl)
    have e38 : h33 238 101 = h 238 101 := (u33 238 101 rfl)
    have e39 : h33 238 102 = h 238 102 := (u33 238 102 rfl)
    have e40 : h33 238 106 = h 238 106 := (u33 238 106 rfl)
    have e41 : h33 238 73 = h 238 73 := (u33 238 73 rfl)
    have e42 : h33 238 2 = h 238 2 := (u33 238 2 rfl)
    have e43 : h33 238 119 = h 238 119 := (u33 238 119 rfl)
    have e44 : h33 238 67 = h 238 67 := (u33 238 67 rfl)
    have e45 : h33 238 69 = h 238 69 := (u33 238 69 rfl)
    have e46 : h33 238 5 = h 238 5 := (u33 238 5 rfl)
    have e47 : h33 241 98 = h 241 98 := (u33 241 98 rfl)
    have e48 : h33 241 99 = h 241 99 := (u33 241 99 rfl)
    have e49 : h33 241 100 = h 241 100 := (u33 241 100 rfl)
    have e50 : h33 241 101 = h 241 101 := (u33 241 101 rfl)
    have e51 : h33 241 102 = h 241 102 := (u33 241 102 rfl)
    have e52 : h33 241 106 = h 241 106 := (u33 241 106 rfl)
    have e53 : h33 241 73 = h 241 73 := (u33 241 73 rfl)
    have e54 : h33 241 2 = h 241 2 := (u33 241 2 rfl)
    have e55 : h33 241 119 = h 241 119 := (u33 241 119 rfl)
    have e56 : h33 241 67 = h 241 67 := (u33 241 67 rfl)
    have e57 : h33 241 69 = h 241 69 := (u33 241 69 rfl)
    have e58 : h33 241 5 = h 241 5 := (u33 241 5 rfl)
    have e59 : h33 1 1 = h 1 1 := (u33 1 1 rfl)
    have e60 : h33 236 2 = h 236 2 := (u33 236 2 rfl)
    have gp61 := GPH.fr u33 rfl gp0
    exact k h33 (b - 1) (c - 6) ⟨g33, (show h33 1 1 = h33 236 2 by omega), (RS.i0 (f := h33 238) (by refine ⟨?_, ?_, ?_, ?_, ?_⟩ <;> omega)), (RS.i0 (f := h33 241) (by refine ⟨?_, ?_, ?_, ?_, ?_⟩ <;> omega)), gp61⟩ (by omega) (by omega)
-- the law, case at 1265
set_option maxRecDepth 100000 in
set_option maxHeartbeats 100000000 in
theorem lc_1265 {L : Nat} {xs : Nat → Int32} {d b c : Nat} {h : hp} {cr : Nat → Nat → Option Nat} {Q : hp_Q} (hcr : CR cr) (hL : L ≤ 3072) (hr : 1 ≤ b ∧ 6 ≤ c) (I : LI h) (i : Int) (hi : 0 ≤ i ∧ i + 6 ≤ L) (k : ∀ (h2 : hp) (b2 c2 : Nat), LI h2 → b ≤ b2 + 1 → c ≤ c2 + 6 → wp (md_xa (L, xs)) (d + 107) 0 (1529, [(0, .ref 1000000), (1, .ref 0), (2, .ref 236), (3, .ref 259), (4, vi i)], [], hp_w h2 cr, b2, c2) Q) : wp (md_xa (L, xs)) (d + 107) 0 (1265, [(0, .ref 1000000), (1, .ref 0), (2, .ref 236), (3, .ref 259), (4, vi i)], [], hp_w h cr, b, c) Q := by
  obtain ⟨g, i11, r238, r241, gp0⟩ := I
  have r238e := r238.e0
  have r241e := r241.e0
  have b1 := gi_b (lo := 0) (hi := 6) g 238 98 rfl
  have b2 := gi_b (lo := 0) (hi := 6) g 238 99 rfl
  have b3 := gi_b (lo := 0) (hi := 6) g 238 100 rfl
  have b4 := gi_b (lo := 0) (hi := 6) g 238 101 rfl
  have b5 := gi_b (lo := 0) (hi := 3) g 238 102 rfl
  have b6 := gi_b (lo := 0) (hi := 12) g 238 106 rfl
  have b7 := gi_b (lo := 0) (hi := 12) g 238 73 rfl
  have b8 := gi_b (lo := 0) (hi := 12) g 238 2 rfl
  have b9 := gi_b (lo := 0) (hi := 9999) g 238 119 rfl
  have b10 := gi_b (lo := 0) (hi := 9999) g 238 67 rfl
  have b11 := gi_b (lo := 0) (hi := 9) g 238 69 rfl
  have b12 := gi_b (lo := 0) (hi := 9) g 238 5 rfl
  have b13 := gi_b (lo := 0) (hi := 6) g 241 98 rfl
  have b14 := gi_b (lo := 0) (hi := 6) g 241 99 rfl
  have b15 := gi_b (lo := 0) (hi := 6) g 241 100 rfl
  have b16 := gi_b (lo := 0) (hi := 6) g 241 101 rfl
  have b17 := gi_b (lo := 0) (hi := 3) g 241 102 rfl
  have b18 := gi_b (lo := 0) (hi := 12) g 241 106 rfl
  have b19 := gi_b (lo := 0) (hi := 12) g 241 73 rfl
  have b20 := gi_b (lo := 0) (hi := 12) g 241 2 rfl
  have b21 := gi_b (lo := 0) (hi := 9999) g 241 119 rfl
  have b22 := gi_b (lo := 0) (hi := 9999) g 241 67 rfl
  have b23 := gi_b (lo := 0) (hi := 9) g 241 69 rfl
  have b24 := gi_b (lo := 0) (hi := 9) g 241 5 rfl
  have b25 := gi_b (lo := 0) (hi := 800) g 1 1 rfl
  have b26 := gi_b (lo := 0) (hi := 800) g 236 2 rfl
  refine wi_aload_n (i := 1) (x := 0) (nx := 1266) (r1 := 0) (r2 := 0) (r3 := 0) rfl rfl ?_
  refine wr_V (k0 := 0) (rest := []) (as := [.ref 0]) (nx := 1269) (r1 := 49) (r2 := 0) (r3 := 0) rfl rfl rfl (of_decide_eq_true rfl) rfl rfl (by decide) rfl rfl (of_decide_eq_true rfl) (of_decide_eq_true rfl) ?_
  refine ct_49_0 hcr  g    (fun h27 z28 g27 u27 (fz28 : -2147483648 ≤ z28 ∧ z28 ≤ 2147483647) => ?_)
  refine wk_i ?_
  refine wi_pop (nx := 1270) (r1 := 0) (r2 := 0) (r3 := 0) rfl rfl ?_
  refine wi_aload_n (i := 2) (x := 236) (nx := 1271) (r1 := 0) (r2 := 0) (r3 := 0) rfl rfl ?_
  refine wr_V (k0 := 236) (rest := []) (as := [.ref 236]) (nx := 1274) (r1 := 298) (r2 := 0) (r3 := 11) rfl rfl rfl (of_decide_eq_true rfl) rfl rfl (by decide) rfl rfl (of_decide_eq_true rfl) (of_decide_eq_true rfl) ?_
  have e30 : h27 238 98 = h 238 98 := (u27 238 98 rfl)
  have e31 : h27 238 99 = h 238 99 := (u27 238 99 rfl)
  have e32 : h27 238 100 = h 238 100 := (u27 238 100 rfl)
  have e33 : h27 238 101 = h 238 101 := (u27 238 101 rfl)
  have e34 : h27 238 102 = h 238 102 := (u27 238 102 rfl)
  have e35 : h27 238 106 = h 238 106 := (u27 238 106 rfl)
  have e36 : h27 238 73 = h 238 73 := (u27 238 73 rfl)
  have e37 : h27 238 2 = h 238 2 := (u27 238 2 rfl)
  have e38 : h27 238 119 = h 238 119 := (u27 238 119 rfl)
  have e39 : h27 238 67 = h 238 67 := (u27 238 67 rfl)
  have e40 : h27 238 69 = h 238 69 := (u27 238 69 rfl)
  have e41 : h27 238 5 = h 238 5 := (u27 238 5 rfl)
  refine ct_298_236 hcr  g27   (show (h27 238 98) + (h27 238 99) + (h27 238 100) + (h27 238 101) + (h27 238 102) + (h27 238 106) = (h27 238 73) by omega) (show (h27 238 73) ≤ (h27 238 2) by omega) (show (h27 238 119) ≤ (h27 238 67) by omega) (show (h27 238 69) ≤ (h27 238 5) by omega) (show (h27 238 2) ≤ 12 * (h27 238 5) by omega) (fun h29 z42 g29 u29 (fz42 : -1 ≤ z42 ∧ z42 ≤ 9999) => ?_)
  refine wk_i ?_
  refine wi_pop (nx := 1275) (r1 := 0) (r2 := 0) (r3 := 0) rfl rfl ?_
  refine wi_goto (nx := 1278) (r1 := 1529) (r2 := 0) (r3 := 0) rfl ?_
  have e43 : h29 238 98 = h 238 98 := ((u29 238 98 rfl).trans (u27 238 98 rfl))
  have e44 : h29 238 99 = h 238 99 := ((u29 238 99 rfl).trans (u27 238 99 rfl))
  have e45 : h29 238 100 = h 238 100 := ((u29 238 100 rfl).trans (u27 238 100 rfl))
  have e46 : h29 238 101 = h 238 101 := ((u29 238 101 rfl).trans (u27 238 101 rfl))
  have e47 : h29 238 102 = h 238 102 := ((u29 238 102 rfl).trans (u27 238 102 rfl))
  have e48 : h29 238 106 = h 238 106 := ((u29 238 106 rfl).trans (u27 238 106 rfl))
  have e49 : h29 238 73 = h 238 73 := ((u29 238 73 rfl).trans (u27 238 73 rfl))
  have e50 : h29 238 2 = h 238 2 := ((u29 238 2 rfl).trans (u27 238 2 rfl))
  have e51 : h29 238 119 = h 238 119 := ((u29 238 119 rfl).trans (u27 238 119 rfl))
  have e52 : h29 238 67 = h 238 67 := ((u29 238 67 rfl).trans (u27 238 67 rfl))
  have e53 : h29 238 69 = h 238 69 := ((u29 238 69 rfl).trans (u27 238 69 rfl))
  have e54 : h29 238 5 = h 238 5 := ((u29 238 5 rfl).trans (u27 238 5 rfl))
  have e55 : h29 241 98 = h 241 98 := ((u29 241 98 rfl).trans (u27 241 98 rfl))
  have e56 : h29 241 99 = h 241 99 := ((u29 241 99 rfl).trans (u27 241 99 rfl))
  have e57 : h29 241 100 = h 241 100 := ((u29 241 100 rfl).trans (u27 241 100 rfl))
  have e58 : h29 241 101 = h 241 101 := ((u29 241 101 rfl).trans (u27 241 101 rfl))
  have e59 : h29 241 102 = h 241 102 := ((u29 241 102 rfl).trans (u27 241 102 rfl))
  have e60 : h29 241 106 = h 241 106 := ((u29 241 106 rfl).trans (u27 241 106 rfl))
  have e61 : h29 241 73 = h 241 73 := ((u29 241 73 rfl).trans (u27 241 73 rfl))
  have e62 : h29 241 2 = h 241 2 := ((u29 241 2 rfl).trans (u27 241 2 rfl))
  have e63 : h29 241 119 = h 241 119 := ((u29 241 119 rfl).trans (u27 241 119 rfl))
  have e64 : h29 241 67 = h 241 67 := ((u29 241 67 rfl).trans (u27 241 67 rfl))
  have e65 : h29 241 69 = h 241 69 := ((u29 241 69 rfl).trans (u27 241 69 rfl))
  have e66 : h29 241 5 = h 241 5 := ((u29 241 5 rfl).trans (u27 241 5 rfl))
  have e67 : h29 1 1 = h 1 1 := ((u29 1 1 rfl).trans (u27 1 1 rfl))
  have e68 : h29 236 2 = h 236 2 := ((u29 236 2 rfl).trans (u27 236 2 rfl))
  have gp69 := GPH.fr u27 rfl gp0
  have gp70 := GPH.fr u29 rfl gp69
  exact k h29 b c ⟨g29, (show h29 1 1 = h29 236 2 by omega), (RS.i0 (f := h29 238) (by refine ⟨?_, ?_, ?_, ?_, ?_⟩ <;> omega)), (RS.i0 (f := h29 241) (by refine ⟨?_, ?_, ?_, ?_, ?_⟩ <;> omega)), gp70⟩ (by omega) (by omega)
-- the law, case at 1278
set_option maxRecDepth 100000 in
set_option maxHeartbeats 100000000 in
theorem lc_1278 {L : Nat} {xs : Nat → Int32} {d b c : Nat} {h : hp} {cr : Nat → Nat → Option Nat} {Q : hp_Q} (hcr : CR cr) (hL : L ≤ 3072) (hr : 1 ≤ b ∧ 6 ≤ c) (I : LI h) (i : Int) (hi : 0 ≤ i ∧ i + 6 ≤ L) (k : ∀ (h2 : hp) (b2 c2 : Nat), LI h2 → b ≤ b2 + 1 → c ≤ c2 + 6 → wp (md_xa (L, xs)) (d + 107) 0 (1529, [(0, .ref 1000000), (1, .ref 0), (2, .ref 236), (3, .ref 259), (4, vi i)], [], hp_w h2 cr, b2, c2) Q) : wp (md_xa (L, xs)) (d + 107) 0 (1278, [(0, .ref 1000000), (1, .ref 0), (2, .ref 236), (3, .ref 259), (4, vi i)], [], hp_w h cr, b, c) Q := by
  obtain ⟨g, i11, r238, r241, gp0⟩ := I
  have r238e := r238.e0
  have r241e := r241.e0
  have b1 := gi_b (lo := 0) (hi := 6) g 238 98 rfl
  have b2 := gi_b (lo := 0) (hi := 6) g 238 99 rfl
  have b3 := gi_b (lo := 0) (hi := 6) g 238 100 rfl
  have b4 := gi_b (lo := 0) (hi := 6) g 238 101 rfl
  have b5 := gi_b (lo := 0) (hi := 3) g 238 102 rfl
  have b6 := gi_b (lo := 0) (hi := 12) g 238 106 rfl
  have b7 := gi_b (lo := 0) (hi := 12) g 238 73 rfl
  have b8 := gi_b (lo := 0) (hi := 12) g 238 2 rfl
  have b9 := gi_b (lo := 0) (hi := 9999) g 238 119 rfl
  have b10 := gi_b (lo := 0) (hi := 9999) g 238 67 rfl
  have b11 := gi_b (lo := 0) (hi := 9) g 238 69 rfl
  have b12 := gi_b (lo := 0) (hi := 9) g 238 5 rfl
  have b13 := gi_b (lo := 0) (hi := 6) g 241 98 rfl
  have b14 := gi_b (lo := 0) (hi := 6) g 241 99 rfl
  have b15 := gi_b (lo := 0) (hi := 6) g 241 100 rfl
  have b16 := gi_b (lo := 0) (hi := 6) g 241 101 rfl
  have b17 := gi_b (lo := 0) (hi := 3) g 241 102 rfl
  have b18 := gi_b (lo := 0) (hi := 12) g 241 106 rfl
  have b19 := gi_b (lo := 0) (hi := 12) g 241 73 rfl
  have b20 := gi_b (lo := 0) (hi := 12) g 241 2 rfl
  have b21 := gi_b (lo := 0) (hi := 9999) g 241 119 rfl
  have b22 := gi_b (lo := 0) (hi := 9999) g 241 67 rfl
  have b23 := gi_b (lo := 0) (hi := 9) g 241 69 rfl
  have b24 := gi_b (lo := 0) (hi := 9) g 241 5 rfl
  have b25 := gi_b (lo := 0) (hi := 800) g 1 1 rfl
  have b26 := gi_b (lo := 0) (hi := 800) g 236 2 rfl
  refine wi_aload_n (i := 1) (x := 0) (nx := 1279) (r1 := 0) (r2 := 0) (r3 := 0) rfl rfl ?_
  refine wr_V (k0 := 0) (rest := []) (as := [.ref 0]) (nx := 1282) (r1 := 50) (r2 := 0) (r3 := 0) rfl rfl rfl (of_decide_eq_true rfl) rfl rfl (by decide) rfl rfl (of_decide_eq_true rfl) (of_decide_eq_true rfl) ?_
  refine ct_50_0 hcr  g    (fun h27 z28 g27 u27 (fz28 : -2147483648 ≤ z28 ∧ z28 ≤ 2147483647) => ?_)
  refine wk_i ?_
  refine wi_pop (nx := 1283) (r1 := 0) (r2 := 0) (r3 := 0) rfl rfl ?_
  refine wi_aload_n (i := 2) (x := 236) (nx := 1284) (r1 := 0) (r2 := 0) (r3 := 0) rfl rfl ?_
  refine wr_V (k0 := 236) (rest := []) (as := [.ref 236]) (nx := 1287) (r1 := 311) (r2 := 0) (r3 := 11) rfl rfl rfl (of_decide_eq_true rfl) rfl rfl (by decide) rfl rfl (of_decide_eq_true rfl) (of_decide_eq_true rfl) ?_
  have e30 : h27 238 98 = h 238 98 := (u27 238 98 rfl)
  have e31 : h27 238 99 = h 238 99 := (u27 238 99 rfl)
  have e32 : h27 238 100 = h 238 100 := (u27 238 100 rfl)
  have e33 : h27 238 101 = h 238 101 := (u27 238 101 rfl)
  have e34 : h27 238 102 = h 238 102 := (u27 238 102 rfl)
  have e35 : h27 238 106 = h 238 106 := (u27 238 106 rfl)
  have e36 : h27 238 73 = h 238 73 := (u27 238 73 rfl)
  have e37 : h27 238 2 = h 238 2 := (u27 238 2 rfl)
  have e38 : h27 238 119 = h 238 119 := (u27 238 119 rfl)
  have e39 : h27 238 67 = h 238 67 := (u27 238 67 rfl)
  have e40 : h27 238 69 = h 238 69 := (u27 238 69 rfl)
  have e41 : h27 238 5 = h 238 5 := (u27 238 5 rfl)
  refine ct_311_236 hcr  g27   (show (h27 238 98) + (h27 238 99) + (h27 238 100) + (h27 238 101) + (h27 238 102) + (h27 238 106) = (h27 238 73) by omega) (show (h27 238 73) ≤ (h27 238 2) by omega) (show (h27 238 119) ≤ (h27 238 67) by omega) (show (h27 238 69) ≤ (h27 238 5) by omega) (show (h27 238 2) ≤ 12 * (h27 238 5) by omega) (fun h29 z42 g29 u29 (fz42 : -1 ≤ z42 ∧ z42 ≤ 99) => ?_)
  refine wk_i ?_
  refine wi_pop (nx := 1288) (r1 := 0) (r2 := 0) (r3 := 0) rfl rfl ?_
  refine wi_goto (nx := 1291) (r1 := 1529) (r2 := 0) (r3 := 0) rfl ?_
  have e43 : h29 238 98 = h 238 98 := ((u29 238 98 rfl).trans (u27 238 98 rfl))
  have e44 : h29 238 99 = h 238 99 := ((u29 238 99 rfl).trans (u27 238 99 rfl))
  have e45 : h29 238 100 = h 238 100 := ((u29 238 100 rfl).trans (u27 238 100 rfl))
  have e46 : h29 238 101 = h 238 101 := ((u29 238 101 rfl).trans (u27 238 101 rfl))
  have e47 : h29 238 102 = h 238 102 := ((u29 238 102 rfl).trans (u27 238 102 rfl))
  have e48 : h29 238 106 = h 238 106 := ((u29 238 106 rfl).trans (u27 238 106 rfl))
  have e49 : h29 238 73 = h 238 73 := ((u29 238 73 rfl).trans (u27 238 73 rfl))
  have e50 : h29 238 2 = h 238 2 := ((u29 238 2 rfl).trans (u27 238 2 rfl))
  have e51 : h29 238 119 = h 238 119 := ((u29 238 119 rfl).trans (u27 238 119 rfl))
  have e52 : h29 238 67 = h 238 67 := ((u29 238 67 rfl).trans (u27 238 67 rfl))
  have e53 : h29 238 69 = h 238 69 := ((u29 238 69 rfl).trans (u27 238 69 rfl))
  have e54 : h29 238 5 = h 238 5 := ((u29 238 5 rfl).trans (u27 238 5 rfl))
  have e55 : h29 241 98 = h 241 98 := ((u29 241 98 rfl).trans (u27 241 98 rfl))
  have e56 : h29 241 99 = h 241 99 := ((u29 241 99 rfl).trans (u27 241 99 rfl))
  have e57 : h29 241 100 = h 241 100 := ((u29 241 100 rfl).trans (u27 241 100 rfl))
  have e58 : h29 241 101 = h 241 101 := ((u29 241 101 rfl).trans (u27 241 101 rfl))
  have e59 : h29 241 102 = h 241 102 := ((u29 241 102 rfl).trans (u27 241 102 rfl))
  have e60 : h29 241 106 = h 241 106 := ((u29 241 106 rfl).trans (u27 241 106 rfl))
  have e61 : h29 241 73 = h 241 73 := ((u29 241 73 rfl).trans (u27 241 73 rfl))
  have e62 : h29 241 2 = h 241 2 := ((u29 241 2 rfl).trans (u27 241 2 rfl))
  have e63 : h29 241 119 = h 241 119 := ((u29 241 119 rfl).trans (u27 241 119 rfl))
  have e64 : h29 241 67 = h 241 67 := ((u29 241 67 rfl).trans (u27 241 67 rfl))
  have e65 : h29 241 69 = h 241 69 := ((u29 241 69 rfl).trans (u27 241 69 rfl))
  have e66 : h29 241 5 = h 241 5 := ((u29 241 5 rfl).trans (u27 241 5 rfl))
  have e67 : h29 1 1 = h 1 1 := ((u29 1 1 rfl).trans (u27 1 1 rfl))
  have e68 : h29 236 2 = h 236 2 := ((u29 236 2 rfl).trans (u27 236 2 rfl))
  have gp69 := GPH.fr u27 rfl gp0
  have gp70 := GPH.fr u29 rfl gp69
  exact k h29 b c ⟨g29, (show h29 1 1 = h29 236 2 by omega), (RS.i0 (f := h29 238) (by refine ⟨?_, ?_, ?_, ?_, ?_⟩ <;> omega)), (RS.i0 (f := h29 241) (by refine ⟨?_, ?_, ?_, ?_, ?_⟩ <;> omega)), gp70⟩ (by omega) (by omega)
-- the law, case at 1291
set_option maxRecDepth 100000 in
set_option maxHeartbeats 100000000 in
theorem lc_1291 {L : Nat} {xs : Nat → Int32} {d b c : Nat} {h : hp} {cr : Nat → Nat → Option Nat} {Q : hp_Q} (hcr : CR cr) (hL : L ≤ 3072) (hr : 1 ≤ b ∧ 6 ≤ c) (I : LI h) (i : Int) (hi : 0 ≤ i ∧ i + 6 ≤ L) (k : ∀ (h2 : hp) (b2 c2 : Nat), LI h2 → b ≤ b2 + 1 → c ≤ c2 + 6 → wp (md_xa (L, xs)) (d + 107) 0 (1529, [(0, .ref 1000000), (1, .ref 0), (2, .ref 236), (3, .ref 259), (4, vi i)], [], hp_w h2 cr, b2, c2) Q) : wp (md_xa (L, xs)) (d + 107) 0 (1291, [(0, .ref 1000000), (1, .ref 0), (2, .ref 236), (3, .ref 259), (4, vi i)], [], hp_w h cr, b, c) Q := by
  obtain ⟨g, i11, r238, r241, gp0⟩ := I
  have r238e := r238.e0
  have r241e := r241.e0
  have b1 := gi_b (lo := 0) (hi := 6) g 238 98 rfl
  have b2 := gi_b (lo := 0) (hi := 6) g 238 99 rfl
  have b3 := gi_b (lo := 0) (hi := 6) g 238 100 rfl
  have b4 := gi_b (lo := 0) (hi := 6) g 238 101 rfl
  have b5 := gi_b (lo := 0) (hi := 3) g 238 102 rfl
  have b6 := gi_b (lo := 0) (hi := 12) g 238 106 rfl
  have b7 := gi_b (lo := 0) (hi := 12) g 238 73 rfl
  have b8 := gi_b (lo := 0) (hi := 12) g 238 2 rfl
  have b9 := gi_b (lo := 0) (hi := 9999) g 238 119 rfl
  have b10 := gi_b (lo := 0) (hi := 9999) g 238 67 rfl
  have b11 := gi_b (lo := 0) (hi := 9) g 238 69 rfl
  have b12 := gi_b (lo := 0) (hi := 9) g 238 5 rfl
  have b13 := gi_b (lo := 0) (hi := 6) g 241 98 rfl
  have b14 := gi_b (lo := 0) (hi := 6) g 241 99 rfl
  have b15 := gi_b (lo := 0) (hi := 6) g 241 100 rfl
  have b16 := gi_b (lo := 0) (hi := 6) g 241 101 rfl
  have b17 := gi_b (lo := 0) (hi := 3) g 241 102 rfl
  have b18 := gi_b (lo := 0) (hi := 12) g 241 106 rfl
  have b19 := gi_b (lo := 0) (hi := 12) g 241 73 rfl
  have b20 := gi_b (lo := 0) (hi := 12) g 241 2 rfl
  have b21 := gi_b (lo := 0) (hi := 9999) g 241 119 rfl
  have b22 := gi_b (lo := 0) (hi := 9999) g 241 67 rfl
  have b23 := gi_b (lo := 0) (hi := 9) g 241 69 rfl
  have b24 := gi_b (lo := 0) (hi := 9) g 241 5 rfl
  have b25 := gi_b (lo := 0) (hi := 800) g 1 1 rfl
  have b26 := gi_b (lo := 0) (hi := 800) g 236 2 rfl
  refine wi_aload_n (i := 1) (x := 0) (nx := 1292) (r1 := 0) (r2 := 0) (r3 := 0) rfl rfl ?_
  refine wi_aload_n (i := 0) (x := 1000000) (nx := 1293) (r1 := 0) (r2 := 0) (r3 := 0) rfl rfl ?_
  refine wi_iload (i := 4) (e := i) (nx := 1295) (r1 := 0) (r2 := 0) (r3 := 0) rfl rfl ?_
  refine wi_iconst (n := 1) (nx := 1296) (r1 := 0) (r2 := 0) (r3 := 0) rfl ?_
  refine wr_add (nx := 1297) (r1 := 0) (r2 := 0) (r3 := 0) rfl (fun e27 (fe27 : e27 = i + 1) => ?_)
  obtain ⟨i28, ei28⟩ : ∃ q : Nat, e27 = (q : Int) := ⟨(e27).toNat, by omega⟩
  have s29 := sc_b (xs i28)
  refine wr_sc (a := e27) (f := i28) (nx := 1298) (r1 := 0) (r2 := 0) (r3 := 0) rfl (by omega) (by omega) hL ?_
  refine wr_V (k0 := 0) (rest := []) (as := [.ref 0, vi ((xs i28).toInt)]) (nx := 1301) (r1 := 51) (r2 := 1) (r3 := 0) rfl rfl rfl (of_decide_eq_true rfl) rfl rfl (by decide) rfl rfl (of_decide_eq_true rfl) (of_decide_eq_true rfl) ?_
  refine ct_51_0 hcr  g ((xs i28).toInt) (by omega)  (fun h30 z31 g30 u30 (fz31 : -2147483648 ≤ z31 ∧ z31 ≤ 2147483647) => ?_)
  refine wk_i ?_
  refine wi_pop (nx := 1302) (r1 := 0) (r2 := 0) (r3 := 0) rfl rfl ?_
  refine wi_aload_n (i := 2) (x := 236) (nx := 1303) (r1 := 0) (r2 := 0) (r3 := 0) rfl rfl ?_
  refine wi_aload_n (i := 0) (x := 1000000) (nx := 1304) (r1 := 0) (r2 := 0) (r3 := 0) rfl rfl ?_
  refine wi_iload (i := 4) (e := i) (nx := 1306) (r1 := 0) (r2 := 0) (r3 := 0) rfl rfl ?_
  refine wi_iconst (n := 1) (nx := 1307) (r1 := 0) (r2 := 0) (r3 := 0) rfl ?_
  refine wr_add (nx := 1308) (r1 := 0) (r2 := 0) (r3 := 0) rfl (fun e32 (fe32 : e32 = i + 1) => ?_)
  refine wr_sc (a := e32) (f := i28) (nx := 1309) (r1 := 0) (r2 := 0) (r3 := 0) rfl (by omega) (by omega) hL ?_
  refine wr_V (k0 := 236) (rest := []) (as := [.ref 236, vi ((xs i28).toInt)]) (nx := 1312) (r1 := 312) (r2 := 1) (r3 := 11) rfl rfl rfl (of_decide_eq_true rfl) rfl rfl (by decide) rfl rfl (of_decide_eq_true rfl) (of_decide_eq_true rfl) ?_
  have e34 : h30 238 98 = h 238 98 := (u30 238 98 rfl)
  have e35 : h30 238 99 = h 238 99 := (u30 238 99 rfl)
  have e36 : h30 238 100 = h 238 100 := (u30 238 100 rfl)
  have e37 : h30 238 101 = h 238 101 := (u30 238 101 rfl)
  have e38 : h30 238 102 = h 238 102 := (u30 238 102 rfl)
  have e39 : h30 238 106 = h 238 106 := (u30 238 106 rfl)
  have e40 : h30 238 73 = h 238 73 := (u30 238 73 rfl)
  have e41 : h30 238 2 = h 238 2 := (u30 238 2 rfl)
  have e42 : h30 238 119 = h 238 119 := (u30 238 119 rfl)
  have e43 : h30 238 67 = h 238 67 := (u30 238 67 rfl)
  have e44 : h30 238 69 = h 238 69 := (u30 238 69 rfl)
  have e45 : h30 238 5 = h 238 5 := (u30 238 5 rfl)
  refine ct_312_236 hcr  g30 ((xs i28).toInt) (by omega) (show (h30 238 98) + (h30 238 99) + (h30 238 100) + (h30 238 101) + (h30 238 102) + (h30 238 106) = (h30 238 73) by omega) (show (h30 238 73) ≤ (h30 238 2) by omega) (show (h30 238 119) ≤ (h30 238 67) by omega) (show (h30 238 69) ≤ (h30 238 5) by omega) (show (h30 238 2) ≤ 12 * (h30 238 5) by omega) (fun h33 z46 g33 u33 (fz46 : -1 ≤ z46 ∧ z46 ≤ 3) => ?_)
  refine wk_i ?_
  refine wi_pop (nx := 1313) (r1 := 0) (r2 := 0) (r3 := 0) rfl rfl ?_
  refine wi_goto (nx := 1316) (r1 := 1529) (r2 := 0) (r3 := 0) rfl ?_
  have e47 : h33 238 98 = h 238 98 := ((u33 238 98 rfl).trans (u30 238 98 rfl))
  have e48 : h33 238 99 = h 238 99 := ((u33 238 99 rfl).trans (u30 238 99 rfl))
  have e49 : h33 238 100 = h 238 100 := ((u33 238 100 rfl).trans (u30 238 100 rfl))
  have e50 : h33 238 101 = h 238 101 := ((u33 238 101 rfl).trans (u30 238 101 rfl))
  have e51 : h33 238 102 = h 238 102 := ((u33 238 102 rfl).trans (u30 238 102 rfl))
  have e52 : h33 238 106 = h 238 106 := ((u33 238 106 rfl).trans (u30 238 106 rfl))
  have e53 : h33 238 73 = h 238 73 := ((u33 238 73 rfl).trans (u30 238 73 rfl))
  have e54 : h33 238 2 = h 238 2 := ((u33 238 2 rfl).trans (u30 238 2 rfl))
  have e55 : h33 238 119 = h 238 119 := ((u33 238 119 rfl).trans (u30 238 119 rfl))
  have e56 : h33 238 67 = h 238 67 := ((u33 238 67 rfl).trans (u30 238 67 rfl))
  have e57 : h33 238 69 = h 238 69 := ((u33 238 69 rfl).trans (u30 238 69 rfl))
  have e58 : h33 238 5 = h 238 5 := ((u33 238 5 rfl).trans (u30 238 5 rfl))
  have e59 : h33 241 98 = h 241 98 := ((u33 241 98 rfl).trans (u30 241 98 rfl))
  have e60 : h33 241 99 = h 241 99 := ((u33 241 99 rfl).trans (u30 241 99 rfl))
  have e61 : h33 241 100 = h 241 100 := ((u33 241 100 rfl).trans (u30 241 100 rfl))
  have e62 : h33 241 101 = h 241 101 := ((u33 241 101 rfl).trans (u30 241 101 rfl))
  have e63 : h33 241 102 = h 241 102 := ((u33 241 102 rfl).trans (u30 241 102 rfl))
  have e64 : h33 241 106 = h 241 106 := ((u33 241 106 rfl).trans (u30 241 106 rfl))
  have e65 : h33 241 73 = h 241 73 := ((u33 241 73 rfl).trans (u30 241 73 rfl))
  have e66 : h33 241 2 = h 241 2 := ((u33 241 2 rfl).trans (u30 241 2 rfl))
  have e67 : h33 241 119 = h 241 119 := ((u33 241 119 rfl).trans (u30 241 119 rfl))
  have e68 : h33 241 67 = h 241 67 := ((u33 241 67 rfl).trans (u30 241 67 rfl))
  have e69 : h33 241 69 = h 241 69 := ((u33 241 69 rfl).trans (u30 241 69 rfl))
  have e70 : h33 241 5 = h 241 5 := ((u33 241 5 rfl).trans (u30 241 5 rfl))
  have e71 : h33 1 1 = h 1 1 := ((u33 1 1 rfl).trans (u30 1 1 rfl))
  have e72 : h33 236 2 = h 236 2 := ((u33 236 2 rfl).trans (u30 236 2 rfl))
  have gp73 := GPH.fr u30 rfl gp0
  have gp74 := GPH.fr u33 rfl gp73
  exact k h33 b c ⟨g33, (show h33 1 1 = h33 236 2 by omega), (RS.i0 (f := h33 238) (by refine ⟨?_, ?_, ?_, ?_, ?_⟩ <;> omega)), (RS.i0 (f := h33 241) (by refine ⟨?_, ?_, ?_, ?_, ?_⟩ <;> omega)), gp74⟩ (by omega) (by omega)
-- the law, case at 1316
set_option maxRecDepth 100000 in
set_option maxHeartbeats 100000000 in
theorem lc_1316 {L : Nat} {xs : Nat → Int32} {d b c : Nat} {h : hp} {cr : Nat → Nat → Option Nat} {Q : hp_Q} (hcr : CR cr) (hL : L ≤ 3072) (hr : 1 ≤ b ∧ 6 ≤ c) (I : LI h) (i : Int) (hi : 0 ≤ i ∧ i + 6 ≤ L) (k : ∀ (h2 : hp) (b2 c2 : Nat), LI h2 → b ≤ b2 + 1 → c ≤ c2 + 6 → wp (md_xa (L, xs)) (d + 107) 0 (1529, [(0, .ref 1000000), (1, .ref 0), (2, .ref 236), (3, .ref 259), (4, vi i)], [], hp_w h2 cr, b2, c2) Q) : wp (md_xa (L, xs)) (d + 107) 0 (1316, [(0, .ref 1000000), (1, .ref 0), (2, .ref 236), (3, .ref 259), (4, vi i)], [], hp_w h cr, b, c) Q := by
  obtain ⟨g, i11, r238, r241, gp0⟩ := I
  have r238e := r238.e0
  have r241e := r241.e0
  have b1 := gi_b (lo := 0) (hi := 6) g 238 98 rfl
  have b2 := gi_b (lo := 0) (hi := 6) g 238 99 rfl
  have b3 := gi_b (lo := 0) (hi := 6) g 238 100 rfl
  have b4 := gi_b (lo := 0) (hi := 6) g 238 101 rfl
  have b5 := gi_b (lo := 0) (hi := 3) g 238 102 rfl
  have b6 := gi_b (lo := 0) (hi := 12) g 238 106 rfl
  have b7 := gi_b (lo := 0) (hi := 12) g 238 73 rfl
  have b8 := gi_b (lo := 0) (hi := 12) g 238 2 rfl
  have b9 := gi_b (lo := 0) (hi := 9999) g 238 119 rfl
  have b10 := gi_b (lo := 0) (hi := 9999) g 238 67 rfl
  have b11 := gi_b (lo := 0) (hi := 9) g 238 69 rfl
  have b12 := gi_b (lo := 0) (hi := 9) g 238 5 rfl
  have b13 := gi_b (lo := 0) (hi := 6) g 241 98 rfl
  have b14 := gi_b (lo := 0) (hi := 6) g 241 99 rfl
  have b15 := gi_b (lo := 0) (hi := 6) g 241 100 rfl
  have b16 := gi_b (lo := 0) (hi := 6) g 241 101 rfl
  have b17 := gi_b (lo := 0) (hi := 3) g 241 102 rfl
  have b18 := gi_b (lo := 0) (hi := 12) g 241 106 rfl
  have b19 := gi_b (lo := 0) (hi := 12) g 241 73 rfl
  have b20 := gi_b (lo := 0) (hi := 12) g 241 2 rfl
  have b21 := gi_b (lo := 0) (hi := 9999) g 241 119 rfl
  have b22 := gi_b (lo := 0) (hi := 9999) g 241 67 rfl
  have b23 := gi_b (lo := 0) (hi := 9) g 241 69 rfl
  have b24 := gi_b (lo := 0) (hi := 9) g 241 5 rfl
  have b25 := gi_b (lo := 0) (hi := 800) g 1 1 rfl
  have b26 := gi_b (lo := 0) (hi := 800) g 236 2 rfl
  refine wi_aload_n (i := 1) (x := 0) (nx := 1317) (r1 := 0) (r2 := 0) (r3 := 0) rfl rfl ?_
  refine wr_V (k0 := 0) (rest := []) (as := [.ref 0]) (nx := 1320) (r1 := 52) (r2 := 0) (r3 := 0) rfl rfl rfl (of_decide_eq_true rfl) rfl rfl (by decide) rfl rfl (of_decide_eq_true rfl) (of_decide_eq_true rfl) ?_
  refine ct_52_0 hcr  g    (fun z28  (fz28 : -2147483648 ≤ z28 ∧ z28 ≤ 2147483647) => ?_)
  refine wk_i ?_
  refine wi_pop (nx := 1321) (r1 := 0) (r2 := 0) (r3 := 0) rfl rfl ?_
  refine wi_aload_n (i := 2) (x := 236) (nx := 1322) (r1 := 0) (r2 := 0) (r3 := 0) rfl rfl ?_
  refine wr_V (k0 := 236) (rest := []) (as := [.ref 236]) (nx := 1325) (r1 := 316) (r2 := 0) (r3 := 11) rfl rfl rfl (of_decide_eq_true rfl) rfl rfl (by decide) rfl rfl (of_decide_eq_true rfl) (of_decide_eq_true rfl) ?_
  refine ct_316_236 hcr  g    (fun h29 z30 g29 u29 (fz30 : -2147483648 ≤ z30 ∧ z30 ≤ 2147483647) => ?_)
  refine wk_i ?_
  refine wi_pop (nx := 1326) (r1 := 0) (r2 := 0) (r3 := 0) rfl rfl ?_
  refine wi_goto (nx := 1329) (r1 := 1529) (r2 := 0) (r3 := 0) rfl ?_
  have e31 : h29 238 98 = h 238 98 := (u29 238 98 rfl)
  have e32 : h29 238 99 = h 238 99 := (u29 238 99 rfl)
  have e33 : h29 238 100 = h 238 100 := (u29 238 100 rfl)
  have e34 : h29 238 101 = h 238 101 := (u29 238 101 rfl)
  have e35 : h29 238 102 = h 238 102 := (u29 238 102 rfl)
  have e36 : h29 238 106 = h 238 106 := (u29 238 106 rfl)
  have e37 : h29 238 73 = h 238 73 := (u29 238 73 rfl)
  have e38 : h29 238 2 = h 238 2 := (u29 238 2 rfl)
  have e39 : h29 238 119 = h 238 119 := (u29 238 119 rfl)
  have e40 : h29 238 67 = h 238 67 := (u29 238 67 rfl)
  have e41 : h29 238 69 = h 238 69 := (u29 238 69 rfl)
  have e42 : h29 238 5 = h 238 5 := (u29 238 5 rfl)
  have e43 : h29 241 98 = h 241 98 := (u29 241 98 rfl)
  have e44 : h29 241 99 = h 241 99 := (u29 241 99 rfl)
  have e45 : h29 241 100 = h 241 100 := (u29 241 100 rfl)
  have e46 : h29 241 101 = h 241 101 := (u29 241 101 rfl)
  have e47 : h29 241 102 = h 241 102 := (u29 241 102 rfl)
  have e48 : h29 241 106 = h 241 106 := (u29 241 106 rfl)
  have e49 : h29 241 73 = h 241 73 := (u29 241 73 rfl)
  have e50 : h29 241 2 = h 241 2 := (u29 241 2 rfl)
  have e51 : h29 241 119 = h 241 119 := (u29 241 119 rfl)
  have e52 : h29 241 67 = h 241 67 := (u29 241 67 rfl)
  have e53 : h29 241 69 = h 241 69 := (u29 241 69 rfl)
  have e54 : h29 241 5 = h 241 5 := (u29 241 5 rfl)
  have e55 : h29 1 1 = h 1 1 := (u29 1 1 rfl)
  have e56 : h29 236 2 = h 236 2 := (u29 236 2 rfl)
  have gp57 := GPH.fr u29 rfl gp0
  exact k h29 b c ⟨g29, (show h29 1 1 = h29 236 2 by omega), (RS.i0 (f := h29 238) (by refine ⟨?_, ?_, ?_, ?_, ?_⟩ <;> omega)), (RS.i0 (f := h29 241) (by refine ⟨?_, ?_, ?_, ?_, ?_⟩ <;> omega)), gp57⟩ (by omega) (by omega)
-- the law, case at 1329
set_option maxRecDepth 100000 in
set_option maxHeartbeats 100000000 in
theorem lc_1329 {L : Nat} {xs : Nat → Int32} {d b c : Nat} {h : hp} {cr : Nat → Nat → Option Nat} {Q : hp_Q} (hcr : CR cr) (hL : L ≤ 3072) (hr : 1 ≤ b ∧ 6 ≤ c) (I : LI h) (i : Int) (hi : 0 ≤ i ∧ i + 6 ≤ L) (k : ∀ (h2 : hp) (b2 c2 : Nat), LI h2 → b ≤ b2 + 1 → c ≤ c2 + 6 → wp (md_xa (L, xs)) (d + 107) 0 (1529, [(0, .ref 1000000), (1, .ref 0), (2, .ref 236), (3, .ref 259), (4, vi i)], [], hp_w h2 cr, b2, c2) Q) : wp (md_xa (L, xs)) (d + 107) 0 (1329, [(0, .ref 1000000), (1, .ref 0), (2, .ref 236), (3, .ref 259), (4, vi i)], [], hp_w h cr, b, c) Q := by
  obtain ⟨g, i11, r238, r241, gp0⟩ := I
  have r238e := r238.e0
  have r241e := r241.e0
  have b1 := gi_b (lo := 0) (hi := 6) g 238 98 rfl
  have b2 := gi_b (lo := 0) (hi := 6) g 238 99 rfl
  have b3 := gi_b (lo := 0) (hi := 6) g 238 100 rfl
  have b4 := gi_b (lo := 0) (hi := 6) g 238 101 rfl
  have b5 := gi_b (lo := 0) (hi := 3) g 238 102 rfl
  have b6 := gi_b (lo := 0) (hi := 12) g 238 106 rfl
  have b7 := gi_b (lo := 0) (hi := 12) g 238 73 rfl
  have b8 := gi_b (lo := 0) (hi := 12) g 238 2 rfl
  have b9 := gi_b (lo := 0) (hi := 9999) g 238 119 rfl
  have b10 := gi_b (lo := 0) (hi := 9999) g 238 67 rfl
  have b11 := gi_b (lo := 0) (hi := 9) g 238 69 rfl
  have b12 := gi_b (lo := 0) (hi := 9) g 238 5 rfl
  have b13 := gi_b (lo := 0) (hi := 6) g 241 98 rfl
  have b14 := gi_b (lo := 0) (hi := 6) g 241 99 rfl
  have b15 := gi_b (lo := 0) (hi := 6) g 241 100 rfl
  have b16 := gi_b (lo := 0) (hi := 6) g 241 101 rfl
  have b17 := gi_b (lo := 0) (hi := 3) g 241 102 rfl
  have b18 := gi_b (lo := 0) (hi := 12) g 241 106 rfl
  have b19 := gi_b (lo := 0) (hi := 12) g 241 73 rfl
  have b20 := gi_b (lo := 0) (hi := 12) g 241 2 rfl
  have b21 := gi_b (lo := 0) (hi := 9999) g 241 119 rfl
  have b22 := gi_b (lo := 0) (hi := 9999) g 241 67 rfl
  have b23 := gi_b (lo := 0) (hi := 9) g 241 69 rfl
  have b24 := gi_b (lo := 0) (hi := 9) g 241 5 rfl
  have b25 := gi_b (lo := 0) (hi := 800) g 1 1 rfl
  have b26 := gi_b (lo := 0) (hi := 800) g 236 2 rfl
  refine wi_aload_n (i := 1) (x := 0) (nx := 1330) (r1 := 0) (r2 := 0) (r3 := 0) rfl rfl ?_
  refine wr_V (k0 := 0) (rest := []) (as := [.ref 0]) (nx := 1333) (r1 := 53) (r2 := 0) (r3 := 0) rfl rfl rfl (of_decide_eq_true rfl) rfl rfl (by decide) rfl rfl (of_decide_eq_true rfl) (of_decide_eq_true rfl) ?_
  refine ct_53_0 hcr  g    (fun z28  (fz28 : -2147483648 ≤ z28 ∧ z28 ≤ 2147483647) => ?_)
  refine wk_i ?_
  refine wi_pop (nx := 1334) (r1 := 0) (r2 := 0) (r3 := 0) rfl rfl ?_
  refine wi_aload_n (i := 2) (x := 236) (nx := 1335) (r1 := 0) (r2 := 0) (r3 := 0) rfl rfl ?_
  refine wr_V (k0 := 236) (rest := []) (as := [.ref 236]) (nx := 1338) (r1 := 319) (r2 := 0) (r3 := 11) rfl rfl rfl (of_decide_eq_true rfl) rfl rfl (by decide) rfl rfl (of_decide_eq_true rfl) (of_decide_eq_true rfl) ?_
  refine ct_319_236 hcr  g    (fun h29 z30 g29 u29 (fz30 : -2147483648 ≤ z30 ∧ z30 ≤ 2147483647) => ?_)
  refine wk_i ?_
  refine wi_pop (nx := 1339) (r1 := 0) (r2 := 0) (r3 := 0) rfl rfl ?_
  refine wi_goto (nx := 1342) (r1 := 1529) (r2 := 0) (r3 := 0) rfl ?_
  have e31 : h29 238 98 = h 238 98 := (u29 238 98 rfl)
  have e32 : h29 238 99 = h 238 99 := (u29 238 99 rfl)
  have e33 : h29 238 100 = h 238 100 := (u29 238 100 rfl)
  have e34 : h29 238 101 = h 238 101 := (u29 238 101 rfl)
  have e35 : h29 238 102 = h 238 102 := (u29 238 102 rfl)
  have e36 : h29 238 106 = h 238 106 := (u29 238 106 rfl)
  have e37 : h29 238 73 = h 238 73 := (u29 238 73 rfl)
  have e38 : h29 238 2 = h 238 2 := (u29 238 2 rfl)
  have e39 : h29 238 119 = h 238 119 := (u29 238 119 rfl)
  have e40 : h29 238 67 = h 238 67 := (u29 238 67 rfl)
  have e41 : h29 238 69 = h 238 69 := (u29 238 69 rfl)
  have e42 : h29 238 5 = h 238 5 := (u29 238 5 rfl)
  have e43 : h29 241 98 = h 241 98 := (u29 241 98 rfl)
  have e44 : h29 241 99 = h 241 99 := (u29 241 99 rfl)
  have e45 : h29 241 100 = h 241 100 := (u29 241 100 rfl)
  have e46 : h29 241 101 = h 241 101 := (u29 241 101 rfl)
  have e47 : h29 241 102 = h 241 102 := (u29 241 102 rfl)
  have e48 : h29 241 106 = h 241 106 := (u29 241 106 rfl)
  have e49 : h29 241 73 = h 241 73 := (u29 241 73 rfl)
  have e50 : h29 241 2 = h 241 2 := (u29 241 2 rfl)
  have e51 : h29 241 119 = h 241 119 := (u29 241 119 rfl)
  have e52 : h29 241 67 = h 241 67 := (u29 241 67 rfl)
  have e53 : h29 241 69 = h 241 69 := (u29 241 69 rfl)
  have e54 : h29 241 5 = h 241 5 := (u29 241 5 rfl)
  have e55 : h29 1 1 = h 1 1 := (u29 1 1 rfl)
  have e56 : h29 236 2 = h 236 2 := (u29 236 2 rfl)
  have gp57 := GPH.fr u29 rfl gp0
  exact k h29 b c ⟨g29, (show h29 1 1 = h29 236 2 by omega), (RS.i0 (f := h29 238) (by refine ⟨?_, ?_, ?_, ?_, ?_⟩ <;> omega)), (RS.i0 (f := h29 241) (by refine ⟨?_, ?_, ?_, ?_, ?_⟩ <;> omega)), gp57⟩ (by omega) (by omega)
-- the law, case at 1342
set_option maxRecDepth 100000 in
set_option maxHeartbeats 100000000 in
theorem lc_1342 {L : Nat} {xs : Nat → Int32} {d b c : Nat} {h : hp} {cr : Nat → Nat → Option Nat} {Q : hp_Q} (hcr : CR cr) (hL : L ≤ 3072) (hr : 1 ≤ b ∧ 6 ≤ c) (I : LI h) (i : Int) (hi : 0 ≤ i ∧ i + 6 ≤ L) (k : ∀ (h2 : hp) (b2 c2 : Nat), LI h2 → b ≤ b2 + 1 → c ≤ c2 + 6 → wp (md_xa (L, xs)) (d + 107) 0 (1529, [(0, .ref 1000000), (1, .ref 0), (2, .ref 236), (3, .ref 259), (4, vi i)], [], hp_w h2 cr, b2, c2) Q) : wp (md_xa (L, xs)) (d + 107) 0 (1342, [(0, .ref 1000000), (1, .ref 0), (2, .ref 236), (3, .ref 259), (4, vi i)], [], hp_w h cr, b, c) Q := by
  obtain ⟨g, i11, r238, r241, gp0⟩ := I
  have r238e := r238.e0
  have r241e := r241.e0
  have b1 := gi_b (lo := 0) (hi := 6) g 238 98 rfl
  have b2 := gi_b (lo := 0) (hi := 6) g 238 99 rfl
  have b3 := gi_b (lo := 0) (hi := 6) g 238 100 rfl
  have b4 := gi_b (lo := 0) (hi := 6) g 238 101 rfl
  have b5 := gi_b (lo := 0) (hi := 3) g 238 102 rfl
  have b6 := gi_b (lo := 0) (hi := 12) g 238 106 rfl
  have b7 := gi_b (lo := 0) (hi := 12) g 238 73 rfl
  have b8 := gi_b (lo := 0) (hi := 12) g 238 2 rfl
  have b9 := gi_b (lo := 0) (hi := 9999) g 238 119 rfl
  have b10 := gi_b (lo := 0) (hi := 9999) g 238 67 rfl
  have b11 := gi_b (lo := 0) (hi := 9) g 238 69 rfl
  have b12 := gi_b (lo := 0) (hi := 9) g 238 5 rfl
  have b13 := gi_b (lo := 0) (hi := 6) g 241 98 rfl
  have b14 := gi_b (lo := 0) (hi := 6) g 241 99 rfl
  have b15 := gi_b (lo := 0) (hi := 6) g 241 100 rfl
  have b16 := gi_b (lo := 0) (hi := 6) g 241 101 rfl
  have b17 := gi_b (lo := 0) (hi := 3) g 241 102 rfl
  have b18 := gi_b (lo := 0) (hi := 12) g 241 106 rfl
  have b19 := gi_b (lo := 0) (hi := 12) g 241 73 rfl
  have b20 := gi_b (lo := 0) (hi := 12) g 241 2 rfl
  have b21 := gi_b (lo := 0) (hi := 9999) g 241 119 rfl
  have b22 := gi_b (lo := 0) (hi := 9999) g 241 67 rfl
  have b23 := gi_b (lo := 0) (hi := 9) g 241 69 rfl
  have b24 := gi_b (lo := 0) (hi := 9) g 241 5 rfl
  have b25 := gi_b (lo := 0) (hi := 800) g 1 1 rfl
  have b26 := gi_b (lo := 0) (hi := 800) g 236 2 rfl
  refine wi_aload_n (i := 1) (x := 0) (nx := 1343) (r1 := 0) (r2 := 0) (r3 := 0) rfl rfl ?_
  refine wr_V (k0 := 0) (rest := []) (as := [.ref 0]) (nx := 1346) (r1 := 54) (r2 := 0) (r3 := 0) rfl rfl rfl (of_decide_eq_true rfl) rfl rfl (by decide) rfl rfl (of_decide_eq_true rfl) (of_decide_eq_true rfl) ?_
  refine ct_54_0 hcr  g    (fun z28  (fz28 : -2147483648 ≤ z28 ∧ z28 ≤ 2147483647) => ?_)
  refine wk_i ?_
  refine wi_pop (nx := 1347) (r1 := 0) (r2 := 0) (r3 := 0) rfl rfl ?_
  refine wi_aload_n (i := 2) (x := 236) (nx := 1348) (r1 := 0) (r2 := 0) (r3 := 0) rfl rfl ?_
  refine wr_V (k0 := 236) (rest := []) (as := [.ref 236]) (nx := 1351) (r1 := 320) (r2 := 0) (r3 := 11) rfl rfl rfl (of_decide_eq_true rfl) rfl rfl (by decide) rfl rfl (of_decide_eq_true rfl) (of_decide_eq_true rfl) ?_
  refine ct_320_236 hcr  g    (fun h29 z30 g29 u29 (fz30 : -2147483648 ≤ z30 ∧ z30 ≤ 2147483647) => ?_)
  refine wk_i ?_
  refine wi_pop (nx := 1352) (r1 := 0) (r2 := 0) (r3 := 0) rfl rfl ?_
  refine wi_goto (nx := 1355) (r1 := 1529) (r2 := 0) (r3 := 0) rfl ?_
  have e31 : h29 238 98 = h 238 98 := (u29 238 98 rfl)
  have e32 : h29 238 99 = h 238 99 := (u29 238 99 rfl)
  have e33 : h29 238 100 = h 238 100 := (u29 238 100 rfl)
  have e34 : h29 238 101 = h 238 101 := (u29 238 101 rfl)
  have e35 : h29 238 102 = h 238 102 := (u29 238 102 rfl)
  have e36 : h29 238 106 = h 238 106 := (u29 238 106 rfl)
  have e37 : h29 238 73 = h 238 73 := (u29 238 73 rfl)
  have e38 : h29 238 2 = h 238 2 := (u29 238 2 rfl)
  have e39 : h29 238 119 = h 238 119 := (u29 238 119 rfl)
  have e40 : h29 238 67 = h 238 67 := (u29 238 67 rfl)
  have e41 : h29 238 69 = h 238 69 := (u29 238 69 rfl)
  have e42 : h29 238 5 = h 238 5 := (u29 238 5 rfl)
  have e43 : h29 241 98 = h 241 98 := (u29 241 98 rfl)
  have e44 : h29 241 99 = h 241 99 := (u29 241 99 rfl)
  have e45 : h29 241 100 = h 241 100 := (u29 241 100 rfl)
  have e46 : h29 241 101 = h 241 101 := (u29 241 101 rfl)
  have e47 : h29 241 102 = h 241 102 := (u29 241 102 rfl)
  have e48 : h29 241 106 = h 241 106 := (u29 241 106 rfl)
  have e49 : h29 241 73 = h 241 73 := (u29 241 73 rfl)
  have e50 : h29 241 2 = h 241 2 := (u29 241 2 rfl)
  have e51 : h29 241 119 = h 241 119 := (u29 241 119 rfl)
  have e52 : h29 241 67 = h 241 67 := (u29 241 67 rfl)
  have e53 : h29 241 69 = h 241 69 := (u29 241 69 rfl)
  have e54 : h29 241 5 = h 241 5 := (u29 241 5 rfl)
  have e55 : h29 1 1 = h 1 1 := (u29 1 1 rfl)
  have e56 : h29 236 2 = h 236 2 := (u29 236 2 rfl)
  have gp57 := GPH.fr u29 rfl gp0
  exact k h29 b c ⟨g29, (show h29 1 1 = h29 236 2 by omega), (RS.i0 (f := h29 238) (by refine ⟨?_, ?_, ?_, ?_, ?_⟩ <;> omega)), (RS.i0 (f := h29 241) (by refine ⟨?_, ?_, ?_, ?_, ?_⟩ <;> omega)), gp57⟩ (by omega) (by omega)
-- the law, case at 1355
set_option maxRecDepth 100000 in
set_option maxHeartbeats 100000000 in
theorem lc_1355 {L : Nat} {xs : Nat → Int32} {d b c : Nat} {h : hp} {cr : Nat → Nat → Option Nat} {Q : hp_Q} (hcr : CR cr) (hL : L ≤ 3072) (hr : 1 ≤ b ∧ 6 ≤ c) (I : LI h) (i : Int) (hi : 0 ≤ i ∧ i + 6 ≤ L) (k : ∀ (h2 : hp) (b2 c2 : Nat), LI h2 → b ≤ b2 + 1 → c ≤ c2 + 6 → wp (md_xa (L, xs)) (d + 107) 0 (1529, [(0, .ref 1000000), (1, .ref 0), (2, .ref 236), (3, .ref 259), (4, vi i)], [], hp_w h2 cr, b2, c2) Q) : wp (md_xa (L, xs)) (d + 107) 0 (1355, [(0, .ref 1000000), (1, .ref 0), (2, .ref 236), (3, .ref 259), (4, vi i)], [], hp_w h cr, b, c) Q := by
  obtain ⟨g, i11, r238, r241, gp0⟩ := I
  have r238e := r238.e0
  have r241e := r241.e0
  have b1 := gi_b (lo := 0) (hi := 6) g 238 98 rfl
  have b2 := gi_b (lo := 0) (hi := 6) g 238 99 rfl
  have b3 := gi_b (lo := 0) (hi := 6) g 238 100 rfl
  have b4 := gi_b (lo := 0) (hi := 6) g 238 101 rfl
  have b5 := gi_b (lo := 0) (hi := 3) g 238 102 rfl
  have b6 := gi_b (lo := 0) (hi := 12) g 238 106 rfl
  have b7 := gi_b (lo := 0) (hi := 12) g 238 73 rfl
  have b8 := gi_b (lo := 0) (hi := 12) g 238 2 rfl
  have b9 := gi_b (lo := 0) (hi := 9999) g 238 119 rfl
  have b10 := gi_b (lo := 0) (hi := 9999) g 238 67 rfl
  have b11 := gi_b (lo := 0) (hi := 9) g 238 69 rfl
  have b12 := gi_b (lo := 0) (hi := 9) g 238 5 rfl
  have b13 := gi_b (lo := 0) (hi := 6) g 241 98 rfl
  have b14 := gi_b (lo := 0) (hi := 6) g 241 99 rfl
  have b15 := gi_b (lo := 0) (hi := 6) g 241 100 rfl
  have b16 := gi_b (lo := 0) (hi := 6) g 241 101 rfl
  have b17 := gi_b (lo := 0) (hi := 3) g 241 102 rfl
  have b18 := gi_b (lo := 0) (hi := 12) g 241 106 rfl
  have b19 := gi_b (lo := 0) (hi := 12) g 241 73 rfl
  have b20 := gi_b (lo := 0) (hi := 12) g 241 2 rfl
  have b21 := gi_b (lo := 0) (hi := 9999) g 241 119 rfl
  have b22 := gi_b (lo := 0) (hi := 9999) g 241 67 rfl
  have b23 := gi_b (lo := 0) (hi := 9) g 241 69 rfl
  have b24 := gi_b (lo := 0) (hi := 9) g 241 5 rfl
  have b25 := gi_b (lo := 0) (hi := 800) g 1 1 rfl
  have b26 := gi_b (lo := 0) (hi := 800) g 236 2 rfl
  refine wi_aload_n (i := 1) (x := 0) (nx := 1356) (r1 := 0) (r2 := 0) (r3 := 0) rfl rfl ?_
  refine wr_V (k0 := 0) (rest := []) (as := [.ref 0]) (nx := 1359) (r1 := 55) (r2 := 0) (r3 := 0) rfl rfl rfl (of_decide_eq_true rfl) rfl rfl (by decide) rfl rfl (of_decide_eq_true rfl) (of_decide_eq_true rfl) ?_
  refine ct_55_0 hcr  g    (fun h27 z28 g27 u27 (fz28 : -2147483648 ≤ z28 ∧ z28 ≤ 2147483647) => ?_)
  refine wk_i ?_
  refine wi_pop (nx := 1360) (r1 := 0) (r2 := 0) (r3 := 0) rfl rfl ?_
  refine wi_aload_n (i := 2) (x := 236) (nx := 1361) (r1 := 0) (r2 := 0) (r3 := 0) rfl rfl ?_
  refine wr_V (k0 := 236) (rest := []) (as := [.ref 236]) (nx := 1364) (r1 := 323) (r2 := 0) (r3 := 11) rfl rfl rfl (of_decide_eq_true rfl) rfl rfl (by decide) rfl rfl (of_decide_eq_true rfl) (of_decide_eq_true rfl) ?_
  have e30 : h27 238 98 = h 238 98 := (u27 238 98 rfl)
  have e31 : h27 238 99 = h 238 99 := (u27 238 99 rfl)
  have e32 : h27 238 100 = h 238 100 := (u27 238 100 rfl)
  have e33 : h27 238 101 = h 238 101 := (u27 238 101 rfl)
  have e34 : h27 238 102 = h 238 102 := (u27 238 102 rfl)
  have e35 : h27 238 106 = h 238 106 := (u27 238 106 rfl)
  have e36 : h27 238 73 = h 238 73 := (u27 238 73 rfl)
  have e37 : h27 238 2 = h 238 2 := (u27 238 2 rfl)
  have e38 : h27 238 119 = h 238 119 := (u27 238 119 rfl)
  have e39 : h27 238 67 = h 238 67 := (u27 238 67 rfl)
  have e40 : h27 238 69 = h 238 69 := (u27 238 69 rfl)
  have e41 : h27 238 5 = h 238 5 := (u27 238 5 rfl)
  refine ct_323_236 hcr  g27   (show (h27 238 98) + (h27 238 99) + (h27 238 100) + (h27 238 101) + (h27 238 102) + (h27 238 106) = (h27 238 73) by omega) (show (h27 238 73) ≤ (h27 238 2) by omega) (show (h27 238 119) ≤ (h27 238 67) by omega) (show (h27 238 69) ≤ (h27 238 5) by omega) (show (h27 238 2) ≤ 12 * (h27 238 5) by omega) (fun h29 z42 g29 u29 (fz42 : 0 ≤ z42 ∧ z42 ≤ 1000000) => ?_)
  refine wk_i ?_
  refine wi_pop (nx := 1365) (r1 := 0) (r2 := 0) (r3 := 0) rfl rfl ?_
  refine wi_goto (nx := 1368) (r1 := 1529) (r2 := 0) (r3 := 0) rfl ?_
  have e43 : h29 238 98 = h 238 98 := ((u29 238 98 rfl).trans (u27 238 98 rfl))
  have e44 : h29 238 99 = h 238 99 := ((u29 238 99 rfl).trans (u27 238 99 rfl))
  have e45 : h29 238 100 = h 238 100 := ((u29 238 100 rfl).trans (u27 238 100 rfl))
  have e46 : h29 238 101 = h 238 101 := ((u29 238 101 rfl).trans (u27 238 101 rfl))
  have e47 : h29 238 102 = h 238 102 := ((u29 238 102 rfl).trans (u27 238 102 rfl))
  have e48 : h29 238 106 = h 238 106 := ((u29 238 106 rfl).trans (u27 238 106 rfl))
  have e49 : h29 238 73 = h 238 73 := ((u29 238 73 rfl).trans (u27 238 73 rfl))
  have e50 : h29 238 2 = h 238 2 := ((u29 238 2 rfl).trans (u27 238 2 rfl))
  have e51 : h29 238 119 = h 238 119 := ((u29 238 119 rfl).trans (u27 238 119 rfl))
  have e52 : h29 238 67 = h 238 67 := ((u29 238 67 rfl).trans (u27 238 67 rfl))
  have e53 : h29 238 69 = h 238 69 := ((u29 238 69 rfl).trans (u27 238 69 rfl))
  have e54 : h29 238 5 = h 238 5 := ((u29 238 5 rfl).trans (u27 238 5 rfl))
  have e55 : h29 241 98 = h 241 98 := ((u29 241 98 rfl).trans (u27 241 98 rfl))
  have e56 : h29 241 99 = h 241 99 := ((u29 241 99 rfl).trans (u27 241 99 rfl))
  have e57 : h29 241 100 = h 241 100 := ((u29 241 100 rfl).trans (u27 241 100 rfl))
  have e58 : h29 241 101 = h 241 101 := ((u29 241 101 rfl).trans (u27 241 101 rfl))
  have e59 : h29 241 102 = h 241 102 := ((u29 241 102 rfl).trans (u27 241 102 rfl))
  have e60 : h29 241 106 = h 241 106 := ((u29 241 106 rfl).trans (u27 241 106 rfl))
  have e61 : h29 241 73 = h 241 73 := ((u29 241 73 rfl).trans (u27 241 73 rfl))
  have e62 : h29 241 2 = h 241 2 := ((u29 241 2 rfl).trans (u27 241 2 rfl))
  have e63 : h29 241 119 = h 241 119 := ((u29 241 119 rfl).trans (u27 241 119 rfl))
  have e64 : h29 241 67 = h 241 67 := ((u29 241 67 rfl).trans (u27 241 67 rfl))
  have e65 : h29 241 69 = h 241 69 := ((u29 241 69 rfl).trans (u27 241 69 rfl))
  have e66 : h29 241 5 = h 241 5 := ((u29 241 5 rfl).trans (u27 241 5 rfl))
  have e67 : h29 1 1 = h 1 1 := ((u29 1 1 rfl).trans (u27 1 1 rfl))
  have e68 : h29 236 2 = h 236 2 := ((u29 236 2 rfl).trans (u27 236 2 rfl))
  have gp69 := GPH.fr u27 rfl gp0
  have gp70 := GPH.fr u29 rfl gp69
  exact k h29 b c ⟨g29, (show h29 1 1 = h29 236 2 by omega), (RS.i0 (f := h29 238) (by refine ⟨?_, ?_, ?_, ?_, ?_⟩ <;> omega)), (RS.i0 (f := h29 241) (by refine ⟨?_, ?_, ?_, ?_, ?_⟩ <;> omega)), gp70⟩ (by omega) (by omega)
