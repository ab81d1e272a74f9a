-- the law, case at 1368
set_option maxRecDepth 100000 in
set_option maxHeartbeats 100000000 in
theorem lc_1368 {L : Nat} {xs : Nat → Int32} {d b c : Nat} {h : hp} {cr : Nat → Nat → Option Nat} {Q : hp_Q} (hcr : CR cr) (hL : L ≤ 3072) (hr : 1 ≤ b ∧ 6 ≤ c) (I : LI h) (i : Int) (hi : 0 ≤ i ∧ i + 6 ≤ L) (k : ∀ (h2 : hp) (b2 c2 : Nat), LI h2 → b ≤ b2 + 1 → c ≤ c2 + 6 → wp (md_xa (L, xs)) (d + 107) 0 (1529, [(0, .ref 1000000), (1, .ref 0), (2, .ref 236), (3, .ref 259), (4, vi i)], [], hp_w h2 cr, b2, c2) Q) : wp (md_xa (L, xs)) (d + 107) 0 (1368, [(0, .ref 1000000), (1, .ref 0), (2, .ref 236), (3, .ref 259), (4, vi i)], [], hp_w h cr, b, c) Q := by
  obtain ⟨g, i11, r238, r241, gp0⟩ := I
  have r238e := r238.e0
  have r241e := r241.e0
  have b1 := gi_b (lo := 0) (hi := 6) g 238 98 rfl
  have b2 := gi_b (lo := 0) (hi := 6) g 238 99 rfl
  have b3 := gi_b (lo := 0) (hi := 6) g 238 100 rfl
  have b4 := gi_b (lo := 0) (hi := 6) g 238 101 rfl
  have b5 := gi_b (lo := 0) (hi := 3) g 238 102 rfl
  have b6 := gi_b (lo := 0) (hi := 12) g 238 106 rfl
  have b7 := gi_b (lo := 0) (hi := 12) g 238 73 rfl
  have b8 := gi_b (lo := 0) (hi := 12) g 238 2 rfl
  have b9 := gi_b (lo := 0) (hi := 9999) g 238 119 rfl
  have b10 := gi_b (lo := 0) (hi := 9999) g 238 67 rfl
  have b11 := gi_b (lo := 0) (hi := 9) g 238 69 rfl
  have b12 := gi_b (lo := 0) (hi := 9) g 238 5 rfl
  have b13 := gi_b (lo := 0) (hi := 6) g 241 98 rfl
  have b14 := gi_b (lo := 0) (hi := 6) g 241 99 rfl
  have b15 := gi_b (lo := 0) (hi := 6) g 241 100 rfl
  have b16 := gi_b (lo := 0) (hi := 6) g 241 101 rfl
  have b17 := gi_b (lo := 0) (hi := 3) g 241 102 rfl
  have b18 := gi_b (lo := 0) (hi := 12) g 241 106 rfl
  have b19 := gi_b (lo := 0) (hi := 12) g 241 73 rfl
  have b20 := gi_b (lo := 0) (hi := 12) g 241 2 rfl
  have b21 := gi_b (lo := 0) (hi := 9999) g 241 119 rfl
  have b22 := gi_b (lo := 0) (hi := 9999) g 241 67 rfl
  have b23 := gi_b (lo := 0) (hi := 9) g 241 69 rfl
  have b24 := gi_b (lo := 0) (hi := 9) g 241 5 rfl
  have b25 := gi_b (lo := 0) (hi := 800) g 1 1 rfl
  have b26 := gi_b (lo := 0) (hi := 800) g 236 2 rfl
  refine wi_aload_n (i := 1) (x := 0) (nx := 1369) (r1 := 0) (r2 := 0) (r3 := 0) rfl rfl ?_
  refine wi_aload_n (i := 0) (x := 1000000) (nx := 1370) (r1 := 0) (r2 := 0) (r3 := 0) rfl rfl ?_
  refine wi_iload (i := 4) (e := i) (nx := 1372) (r1 := 0) (r2 := 0) (r3 := 0) rfl rfl ?_
  refine wi_iconst (n := 1) (nx := 1373) (r1 := 0) (r2 := 0) (r3 := 0) rfl ?_
  refine wr_add (nx := 1374) (r1 := 0) (r2 := 0) (r3 := 0) rfl (fun e27 (fe27 : e27 = i + 1) => ?_)
  obtain ⟨i28, ei28⟩ : ∃ q : Nat, e27 = (q : Int) := ⟨(e27).toNat, by omega⟩
  have s29 := sc_b (xs i28)
  refine wr_sc (a := e27) (f := i28) (nx := 1375) (r1 := 0) (r2 := 0) (r3 := 0) rfl (by omega) (by omega) hL ?_
  refine wr_V (k0 := 0) (rest := []) (as := [.ref 0, vi ((xs i28).toInt)]) (nx := 1378) (r1 := 56) (r2 := 1) (r3 := 0) rfl rfl rfl (of_decide_eq_true rfl) rfl rfl (by decide) rfl rfl (of_decide_eq_true rfl) (of_decide_eq_true rfl) ?_
  refine ct_56_0 hcr  g ((xs i28).toInt) (by omega)  (fun h30 z31 g30 u30 (fz31 : -2147483648 ≤ z31 ∧ z31 ≤ 2147483647) => ?_)
  refine wk_i ?_
  refine wi_pop (nx := 1379) (r1 := 0) (r2 := 0) (r3 := 0) rfl rfl ?_
  refine wi_aload_n (i := 2) (x := 236) (nx := 1380) (r1 := 0) (r2 := 0) (r3 := 0) rfl rfl ?_
  refine wi_aload_n (i := 0) (x := 1000000) (nx := 1381) (r1 := 0) (r2 := 0) (r3 := 0) rfl rfl ?_
  refine wi_iload (i := 4) (e := i) (nx := 1383) (r1 := 0) (r2 := 0) (r3 := 0) rfl rfl ?_
  refine wi_iconst (n := 1) (nx := 1384) (r1 := 0) (r2 := 0) (r3 := 0) rfl ?_
  refine wr_add (nx := 1385) (r1 := 0) (r2 := 0) (r3 := 0) rfl (fun e32 (fe32 : e32 = i + 1) => ?_)
  refine wr_sc (a := e32) (f := i28) (nx := 1386) (r1 := 0) (r2 := 0) (r3 := 0) rfl (by omega) (by omega) hL ?_
  refine wr_V (k0 := 236) (rest := []) (as := [.ref 236, vi ((xs i28).toInt)]) (nx := 1389) (r1 := 331) (r2 := 1) (r3 := 11) rfl rfl rfl (of_decide_eq_true rfl) rfl rfl (by decide) rfl rfl (of_decide_eq_true rfl) (of_decide_eq_true rfl) ?_
  have e34 : h30 238 98 = h 238 98 := (u30 238 98 rfl)
  have e35 : h30 238 99 = h 238 99 := (u30 238 99 rfl)
  have e36 : h30 238 100 = h 238 100 := (u30 238 100 rfl)
  have e37 : h30 238 101 = h 238 101 := (u30 238 101 rfl)
  have e38 : h30 238 102 = h 238 102 := (u30 238 102 rfl)
  have e39 : h30 238 106 = h 238 106 := (u30 238 106 rfl)
  have e40 : h30 238 73 = h 238 73 := (u30 238 73 rfl)
  have e41 : h30 238 2 = h 238 2 := (u30 238 2 rfl)
  have e42 : h30 238 119 = h 238 119 := (u30 238 119 rfl)
  have e43 : h30 238 67 = h 238 67 := (u30 238 67 rfl)
  have e44 : h30 238 69 = h 238 69 := (u30 238 69 rfl)
  have e45 : h30 238 5 = h 238 5 := (u30 238 5 rfl)
  refine ct_331_236 hcr  g30 ((xs i28).toInt) (by omega) (show (h30 238 98) + (h30 238 99) + (h30 238 100) + (h30 238 101) + (h30 238 102) + (h30 238 106) = (h30 238 73) by omega) (show (h30 238 73) ≤ (h30 238 2) by omega) (show (h30 238 119) ≤ (h30 238 67) by omega) (show (h30 238 69) ≤ (h30 238 5) by omega) (show (h30 238 2) ≤ 12 * (h30 238 5) by omega) (fun h33 z46 g33 u33 (fz46 : -1 ≤ z46 ∧ z46 ≤ 4) => ?_)
  refine wk_i ?_
  refine wi_pop (nx := 1390) (r1 := 0) (r2 := 0) (r3 := 0) rfl rfl ?_
  refine wi_goto (nx := 1393) (r1 := 1529) (r2 := 0) (r3 := 0) rfl ?_
  have e47 : h33 238 98 = h 238 98 := ((u33 238 98 rfl).trans (u30 238 98 rfl))
  have e48 : h33 238 99 = h 238 99 := ((u33 238 99 rfl).trans (u30 238 99 rfl))
  have e49 : h33 238 100 = h 238 100 := ((u33 238 100 rfl).trans (u30 238 100 rfl))
  have e50 : h33 238 101 = h 238 101 := ((u33 238 101 rfl).trans (u30 238 101 rfl))
  have e51 : h33 238 102 = h 238 102 := ((u33 238 102 rfl).trans (u30 238 102 rfl))
  have e52 : h33 238 106 = h 238 106 := ((u33 238 106 rfl).trans (u30 238 106 rfl))
  have e53 : h33 238 73 = h 238 73 := ((u33 238 73 rfl).trans (u30 238 73 rfl))
  have e54 : h33 238 2 = h 238 2 := ((u33 238 2 rfl).trans (u30 238 2 rfl))
  have e55 : h33 238 119 = h 238 119 := ((u33 238 119 rfl).trans (u30 238 119 rfl))
  have e56 : h33 238 67 = h 238 67 := ((u33 238 67 rfl).trans (u30 238 67 rfl))
  have e57 : h33 238 69 = h 238 69 := ((u33 238 69 rfl).trans (u30 238 69 rfl))
  have e58 : h33 238 5 = h 238 5 := ((u33 238 5 rfl).trans (u30 238 5 rfl))
  have e59 : h33 241 98 = h 241 98 := ((u33 241 98 rfl).trans (u30 241 98 rfl))
  have e60 : h33 241 99 = h 241 99 := ((u33 241 99 rfl).trans (u30 241 99 rfl))
  have e61 : h33 241 100 = h 241 100 := ((u33 241 100 rfl).trans (u30 241 100 rfl))
  have e62 : h33 241 101 = h 241 101 := ((u33 241 101 rfl).trans (u30 241 101 rfl))
  have e63 : h33 241 102 = h 241 102 := ((u33 241 102 rfl).trans (u30 241 102 rfl))
  have e64 : h33 241 106 = h 241 106 := ((u33 241 106 rfl).trans (u30 241 106 rfl))
  have e65 : h33 241 73 = h 241 73 := ((u33 241 73 rfl).trans (u30 241 73 rfl))
  have e66 : h33 241 2 = h 241 2 := ((u33 241 2 rfl).trans (u30 241 2 rfl))
  have e67 : h33 241 119 = h 241 119 := ((u33 241 119 rfl).trans (u30 241 119 rfl))
  have e68 : h33 241 67 = h 241 67 := ((u33 241 67 rfl).trans (u30 241 67 rfl))
  have e69 : h33 241 69 = h 241 69 := ((u33 241 69 rfl).trans (u30 241 69 rfl))
  have e70 : h33 241 5 = h 241 5 := ((u33 241 5 rfl).trans (u30 241 5 rfl))
  have e71 : h33 1 1 = h 1 1 := ((u33 1 1 rfl).trans (u30 1 1 rfl))
  have e72 : h33 236 2 = h 236 2 := ((u33 236 2 rfl).trans (u30 236 2 rfl))
  have gp73 := GPH.fr u30 rfl gp0
  have gp74 := GPH.fr u33 rfl gp73
  exact k h33 b c ⟨g33, (show h33 1 1 = h33 236 2 by omega), (RS.i0 (f := h33 238) (by refine ⟨?_, ?_, ?_, ?_, ?_⟩ <;> omega)), (RS.i0 (f := h33 241) (by refine ⟨?_, ?_, ?_, ?_, ?_⟩ <;> omega)), gp74⟩ (by omega) (by omega)
-- the law, case at 1393
set_option maxRecDepth 100000 in
set_option maxHeartbeats 100000000 in
theorem lc_1393 {L : Nat} {xs : Nat → Int32} {d b c : Nat} {h : hp} {cr : Nat → Nat → Option Nat} {Q : hp_Q} (hcr : CR cr) (hL : L ≤ 3072) (hr : 1 ≤ b ∧ 6 ≤ c) (I : LI h) (i : Int) (hi : 0 ≤ i ∧ i + 6 ≤ L) (k : ∀ (h2 : hp) (b2 c2 : Nat), LI h2 → b ≤ b2 + 1 → c ≤ c2 + 6 → wp (md_xa (L, xs)) (d + 107) 0 (1529, [(0, .ref 1000000), (1, .ref 0), (2, .ref 236), (3, .ref 259), (4, vi i)], [], hp_w h2 cr, b2, c2) Q) : wp (md_xa (L, xs)) (d + 107) 0 (1393, [(0, .ref 1000000), (1, .ref 0), (2, .ref 236), (3, .ref 259), (4, vi i)], [], hp_w h cr, b, c) Q := by
  obtain ⟨g, i11, r238, r241, gp0⟩ := I
  have r238e := r238.e0
  have r241e := r241.e0
  have b1 := gi_b (lo := 0) (hi := 6) g 238 98 rfl
  have b2 := gi_b (lo := 0) (hi := 6) g 238 99 rfl
  have b3 := gi_b (lo := 0) (hi := 6) g 238 100 rfl
  have b4 := gi_b (lo := 0) (hi := 6) g 238 101 rfl
  have b5 := gi_b (lo := 0) (hi := 3) g 238 102 rfl
  have b6 := gi_b (lo := 0) (hi := 12) g 238 106 rfl
  have b7 := gi_b (lo := 0) (hi := 12) g 238 73 rfl
  have b8 := gi_b (lo := 0) (hi := 12) g 238 2 rfl
  have b9 := gi_b (lo := 0) (hi := 9999) g 238 119 rfl
  have b10 := gi_b (lo := 0) (hi := 9999) g 238 67 rfl
  have b11 := gi_b (lo := 0) (hi := 9) g 238 69 rfl
  have b12 := gi_b (lo := 0) (hi := 9) g 238 5 rfl
  have b13 := gi_b (lo := 0) (hi := 6) g 241 98 rfl
  have b14 := gi_b (lo := 0) (hi := 6) g 241 99 rfl
  have b15 := gi_b (lo := 0) (hi := 6) g 241 100 rfl
  have b16 := gi_b (lo := 0) (hi := 6) g 241 101 rfl
  have b17 := gi_b (lo := 0) (hi := 3) g 241 102 rfl
  have b18 := gi_b (lo := 0) (hi := 12) g 241 106 rfl
  have b19 := gi_b (lo := 0) (hi := 12) g 241 73 rfl
  have b20 := gi_b (lo := 0) (hi := 12) g 241 2 rfl
  have b21 := gi_b (lo := 0) (hi := 9999) g 241 119 rfl
  have b22 := gi_b (lo := 0) (hi := 9999) g 241 67 rfl
  have b23 := gi_b (lo := 0) (hi := 9) g 241 69 rfl
  have b24 := gi_b (lo := 0) (hi := 9) g 241 5 rfl
  have b25 := gi_b (lo := 0) (hi := 800) g 1 1 rfl
  have b26 := gi_b (lo := 0) (hi := 800) g 236 2 rfl
  refine wi_aload_n (i := 1) (x := 0) (nx := 1394) (r1 := 0) (r2 := 0) (r3 := 0) rfl rfl ?_
  refine wr_V (k0 := 0) (rest := []) (as := [.ref 0]) (nx := 1397) (r1 := 57) (r2 := 0) (r3 := 0) rfl rfl rfl (of_decide_eq_true rfl) rfl rfl (by decide) rfl rfl (of_decide_eq_true rfl) (of_decide_eq_true rfl) ?_
  refine ct_57_0 hcr  g    (fun z28  (fz28 : 0 ≤ z28 ∧ z28 ≤ 20) => ?_)
  refine wk_i ?_
  refine wi_pop (nx := 1398) (r1 := 0) (r2 := 0) (r3 := 0) rfl rfl ?_
  refine wi_aload_n (i := 2) (x := 236) (nx := 1399) (r1 := 0) (r2 := 0) (r3 := 0) rfl rfl ?_
  refine wr_V (k0 := 236) (rest := []) (as := [.ref 236]) (nx := 1402) (r1 := 344) (r2 := 0) (r3 := 11) rfl rfl rfl (of_decide_eq_true rfl) rfl rfl (by decide) rfl rfl (of_decide_eq_true rfl) (of_decide_eq_true rfl) ?_
  refine ct_344_236 hcr  g    (fun h29 z30 g29 u29 (fz30 : 0 ≤ z30 ∧ z30 ≤ 20) => ?_)
  refine wk_i ?_
  refine wi_pop (nx := 1403) (r1 := 0) (r2 := 0) (r3 := 0) rfl rfl ?_
  refine wi_goto (nx := 1406) (r1 := 1529) (r2 := 0) (r3 := 0) rfl ?_
  have e31 : h29 238 98 = h 238 98 := (u29 238 98 rfl)
  have e32 : h29 238 99 = h 238 99 := (u29 238 99 rfl)
  have e33 : h29 238 100 = h 238 100 := (u29 238 100 rfl)
  have e34 : h29 238 101 = h 238 101 := (u29 238 101 rfl)
  have e35 : h29 238 102 = h 238 102 := (u29 238 102 rfl)
  have e36 : h29 238 106 = h 238 106 := (u29 238 106 rfl)
  have e37 : h29 238 73 = h 238 73 := (u29 238 73 rfl)
  have e38 : h29 238 2 = h 238 2 := (u29 238 2 rfl)
  have e39 : h29 238 119 = h 238 119 := (u29 238 119 rfl)
  have e40 : h29 238 67 = h 238 67 := (u29 238 67 rfl)
  have e41 : h29 238 69 = h 238 69 := (u29 238 69 rfl)
  have e42 : h29 238 5 = h 238 5 := (u29 238 5 rfl)
  have e43 : h29 241 98 = h 241 98 := (u29 241 98 rfl)
  have e44 : h29 241 99 = h 241 99 := (u29 241 99 rfl)
  have e45 : h29 241 100 = h 241 100 := (u29 241 100 rfl)
  have e46 : h29 241 101 = h 241 101 := (u29 241 101 rfl)
  have e47 : h29 241 102 = h 241 102 := (u29 241 102 rfl)
  have e48 : h29 241 106 = h 241 106 := (u29 241 106 rfl)
  have e49 : h29 241 73 = h 241 73 := (u29 241 73 rfl)
  have e50 : h29 241 2 = h 241 2 := (u29 241 2 rfl)
  have e51 : h29 241 119 = h 241 119 := (u29 241 119 rfl)
  have e52 : h29 241 67 = h 241 67 := (u29 241 67 rfl)
  have e53 : h29 241 69 = h 241 69 := (u29 241 69 rfl)
  have e54 : h29 241 5 = h 241 5 := (u29 241 5 rfl)
  have e55 : h29 1 1 = h 1 1 := (u29 1 1 rfl)
  have e56 : h29 236 2 = h 236 2 := (u29 236 2 rfl)
  have gp57 := GPH.fr u29 rfl gp0
  exact k h29 b c ⟨g29, (show h29 1 1 = h29 236 2 by omega), (RS.i0 (f := h29 238) (by refine ⟨?_, ?_, ?_, ?_, ?_⟩ <;> omega)), (RS.i0 (f := h29 241) (by refine ⟨?_, ?_, ?_, ?_, ?_⟩ <;> omega)), gp57⟩ (by omega) (by omega)
-- the law, case at 1406
set_option maxRecDepth 100000 in
set_option maxHeartbeats 100000000 in
theorem lc_1406 {L : Nat} {xs : Nat → Int32} {d b c : Nat} {h : hp} {cr : Nat → Nat → Option Nat} {Q : hp_Q} (hcr : CR cr) (hL : L ≤ 3072) (hr : 1 ≤ b ∧ 6 ≤ c) (I : LI h) (i : Int) (hi : 0 ≤ i ∧ i + 6 ≤ L) (k : ∀ (h2 : hp) (b2 c2 : Nat), LI h2 → b ≤ b2 + 1 → c ≤ c2 + 6 → wp (md_xa (L, xs)) (d + 107) 0 (1529, [(0, .ref 1000000), (1, .ref 0), (2, .ref 236), (3, .ref 259), (4, vi i)], [], hp_w h2 cr, b2, c2) Q) : wp (md_xa (L, xs)) (d + 107) 0 (1406, [(0, .ref 1000000), (1, .ref 0), (2, .ref 236), (3, .ref 259), (4, vi i)], [], hp_w h cr, b, c) Q := by
  obtain ⟨g, i11, r238, r241, gp0⟩ := I
  have r238e := r238.e0
  have r241e := r241.e0
  have b1 := gi_b (lo := 0) (hi := 6) g 238 98 rfl
  have b2 := gi_b (lo := 0) (hi := 6) g 238 99 rfl
  have b3 := gi_b (lo := 0) (hi := 6) g 238 100 rfl
  have b4 := gi_b (lo := 0) (hi := 6) g 238 101 rfl
  have b5 := gi_b (lo := 0) (hi := 3) g 238 102 rfl
  have b6 := gi_b (lo := 0) (hi := 12) g 238 106 rfl
  have b7 := gi_b (lo := 0) (hi := 12) g 238 73 rfl
  have b8 := gi_b (lo := 0) (hi := 12) g 238 2 rfl
  have b9 := gi_b (lo := 0) (hi := 9999) g 238 119 rfl
  have b10 := gi_b (lo := 0) (hi := 9999) g 238 67 rfl
  have b11 := gi_b (lo := 0) (hi := 9) g 238 69 rfl
  have b12 := gi_b (lo := 0) (hi := 9) g 238 5 rfl
  have b13 := gi_b (lo := 0) (hi := 6) g 241 98 rfl
  have b14 := gi_b (lo := 0) (hi := 6) g 241 99 rfl
  have b15 := gi_b (lo := 0) (hi := 6) g 241 100 rfl
  have b16 := gi_b (lo := 0) (hi := 6) g 241 101 rfl
  have b17 := gi_b (lo := 0) (hi := 3) g 241 102 rfl
  have b18 := gi_b (lo := 0) (hi := 12) g 241 106 rfl
  have b19 := gi_b (lo := 0) (hi := 12) g 241 73 rfl
  have b20 := gi_b (lo := 0) (hi := 12) g 241 2 rfl
  have b21 := gi_b (lo := 0) (hi := 9999) g 241 119 rfl
  have b22 := gi_b (lo := 0) (hi := 9999) g 241 67 rfl
  have b23 := gi_b (lo := 0) (hi := 9) g 241 69 rfl
  have b24 := gi_b (lo := 0) (hi := 9) g 241 5 rfl
  have b25 := gi_b (lo := 0) (hi := 800) g 1 1 rfl
  have b26 := gi_b (lo := 0) (hi := 800) g 236 2 rfl
  refine wi_aload_n (i := 1) (x := 0) (nx := 1407) (r1 := 0) (r2 := 0) (r3 := 0) rfl rfl ?_
  refine wi_aload_n (i := 0) (x := 1000000) (nx := 1408) (r1 := 0) (r2 := 0) (r3 := 0) rfl rfl ?_
  refine wi_iload (i := 4) (e := i) (nx := 1410) (r1 := 0) (r2 := 0) (r3 := 0) rfl rfl ?_
  refine wi_iconst (n := 1) (nx := 1411) (r1 := 0) (r2 := 0) (r3 := 0) rfl ?_
  refine wr_add (nx := 1412) (r1 := 0) (r2 := 0) (r3 := 0) rfl (fun e27 (fe27 : e27 = i + 1) => ?_)
  obtain ⟨i28, ei28⟩ : ∃ q : Nat, e27 = (q : Int) := ⟨(e27).toNat, by omega⟩
  have s29 := sc_b (xs i28)
  refine wr_sc (a := e27) (f := i28) (nx := 1413) (r1 := 0) (r2 := 0) (r3 := 0) rfl (by omega) (by omega) hL ?_
  refine wi_aload_n (i := 0) (x := 1000000) (nx := 1414) (r1 := 0) (r2 := 0) (r3 := 0) rfl rfl ?_
  refine wi_iload (i := 4) (e := i) (nx := 1416) (r1 := 0) (r2 := 0) (r3 := 0) rfl rfl ?_
  refine wi_iconst (n := 2) (nx := 1417) (r1 := 0) (r2 := 0) (r3 := 0) rfl ?_
  refine wr_add (nx := 1418) (r1 := 0) (r2 := 0) (r3 := 0) rfl (fun e30 (fe30 : e30 = i + 2) => ?_)
  obtain ⟨i31, ei31⟩ : ∃ q : Nat, e30 = (q : Int) := ⟨(e30).toNat, by omega⟩
  have s32 := sc_b (xs i31)
  refine wr_sc (a := e30) (f := i31) (nx := 1419) (r1 := 0) (r2 := 0) (r3 := 0) rfl (by omega) (by omega) hL ?_
  refine wi_aload_n (i := 3) (x := 259) (nx := 1420) (r1 := 0) (r2 := 0) (r3 := 0) rfl rfl ?_
  refine wi_S (rest := []) (as := [.ref 0, vi ((xs i28).toInt), vi ((xs i31).toInt), .ref 259]) (nx := 1423) (r1 := 23) (r2 := 20) (r3 := 0) rfl rfl rfl (of_decide_eq_true rfl) rfl rfl (of_decide_eq_true rfl) (of_decide_eq_true rfl) ?_
  refine wi_aload_n (i := 3) (x := 259) (nx := 1) (r1 := 0) (r2 := 0) (r3 := 0) rfl rfl ?_
  refine wi_iconst (n := 0) (nx := 2) (r1 := 0) (r2 := 0) (r3 := 0) rfl ?_
  refine wi_aload_n (i := 0) (x := 0) (nx := 3) (r1 := 0) (r2 := 0) (r3 := 0) rfl rfl ?_
  refine wi_iload_n (i := 1) (e := (xs i28).toInt) (nx := 4) (r1 := 0) (r2 := 0) (r3 := 0) rfl rfl ?_
  refine wi_iload_n (i := 2) (e := (xs i31).toInt) (nx := 5) (r1 := 0) (r2 := 0) (r3 := 0) rfl rfl ?_
  refine wr_V (k0 := 0) (rest := [vi 0, .ref 259]) (as := [.ref 0, vi ((xs i28).toInt), vi ((xs i31).toInt)]) (nx := 8) (r1 := 87) (r2 := 2) (r3 := 0) rfl rfl rfl (of_decide_eq_true rfl) rfl rfl (by decide) rfl rfl (of_decide_eq_true rfl) (of_decide_eq_true rfl) ?_
  refine ct_87_0 hcr hr  g ((xs i28).toInt) ((xs i31).toInt) (by omega) (by omega)  (fun z34  (fz34 : -2147483648 ≤ z34 ∧ z34 ≤ 2147483647) => ?_) ?_ ?_
  ·
    refine wk_i ?_
    refine wi_i2l (nx := 9) (r1 := 0) (r2 := 0) (r3 := 0) rfl (by omega) ?_
    refine wr_ls (k0 := 259) (a := 0) (f := 0) (x := z34) (bl := -9223372036854775808) (bh := 9223372036854775807) (nx := 10) (r1 := 0) (r2 := 0) (r3 := 0) rfl (by decide) rfl (by omega) (by omega) (by decide) g rfl (by omega) (fun h35 g35 w35 u35 => ?_)
    refine wi_goto (nx := 13) (r1 := 21) (r2 := 0) (r3 := 0) rfl ?_
    refine wi_iconst (n := 0) (nx := 22) (r1 := 0) (r2 := 0) (r3 := 0) rfl ?_
    refine wi_ireturn (nx := 23) (r1 := 0) (r2 := 0) (r3 := 0) rfl rfl ?_
    refine wk_i ?_
    refine wi_istore (i := 5) (e := 0) (lo2 := [(5, vi 0), (0, .ref 1000000), (1, .ref 0), (2, .ref 236), (3, .ref 259), (4, vi i)]) (nx := 1425) (r1 := 0) (r2 := 0) (r3 := 0) rfl rfl ?_
    refine wi_aload_n (i := 2) (x := 236) (nx := 1426) (r1 := 0) (r2 := 0) (r3 := 0) rfl rfl ?_
    refine wi_aload_n (i := 0) (x := 1000000) (nx := 1427) (r1 := 0) (r2 := 0) (r3 := 0) rfl rfl ?_
    refine wi_iload (i := 4) (e := i) (nx := 1429) (r1 := 0) (r2 := 0) (r3 := 0) rfl rfl ?_
    refine wi_iconst (n := 1) (nx := 1430) (r1 := 0) (r2 := 0) (r3 := 0) rfl ?_
    refine wr_add (nx := 1431) (r1 := 0) (r2 := 0) (r3 := 0) rfl (fun e36 (fe36 : e36 = i + 1) => ?_)
    refine wr_sc (a := e36) (f := i28) (nx := 1432) (r1 := 0) (r2 := 0) (r3 := 0) rfl (by omega) (by omega) hL ?_
    refine wi_aload_n (i := 0) (x := 1000000) (nx := 1433) (r1 := 0) (r2 := 0) (r3 := 0) rfl rfl ?_
    refine wi_iload (i := 4) (e := i) (nx := 1435) (r1 := 0) (r2 := 0) (r3 := 0) rfl rfl ?_
    refine wi_iconst (n := 2) (nx := 1436) (r1 := 0) (r2 := 0) (r3 := 0) rfl ?_
    refine wr_add (nx := 1437) (r1 := 0) (r2 := 0) (r3 := 0) rfl (fun e37 (fe37 : e37 = i + 2) => ?_)
    refine wr_sc (a := e37) (f := i31) (nx := 1438) (r1 := 0) (r2 := 0) (r3 := 0) rfl (by omega) (by omega) hL ?_
    refine wr_V (k0 := 236) (rest := []) (as := [.ref 236, vi ((xs i28).toInt), vi ((xs i31).toInt)]) (nx := 1441) (r1 := 345) (r2 := 2) (r3 := 11) rfl rfl rfl (of_decide_eq_true rfl) rfl rfl (by decide) rfl rfl (of_decide_eq_true rfl) (of_decide_eq_true rfl) ?_
    refine ct_345_236 hcr  g35 ((xs i28).toInt) ((xs i31).toInt) (by omega) (by omega)  (fun h38 z39 g38 u38 (fz39 : -2147483648 ≤ z39 ∧ z39 ≤ 2147483647) => ?_)
    refine wk_i ?_
    refine wi_istore (i := 6) (e := z39) (lo2 := [(6, vi z39), (5, vi 0), (0, .ref 1000000), (1, .ref 0), (2, .ref 236), (3, .ref 259), (4, vi i)]) (nx := 1443) (r1 := 0) (r2 := 0) (r3 := 0) rfl rfl ?_
    refine wi_goto (nx := 1446) (r1 := 1529) (r2 := 0) (r3 := 0) rfl ?_
    refine wp.lo (lo := [(0, .ref 1000000), (1, .ref 0), (2, .ref 236), (3, .ref 259), (4, vi i)]) ⟨rfl, rfl, rfl, rfl, rfl, trivial⟩ rfl ?_
    have e40 : h38 238 98 = h 238 98 := ((u38 238 98 rfl).trans (u35 238 98 rfl))
    have e41 : h38 238 99 = h 238 99 := ((u38 238 99 rfl).trans (u35 238 99 rfl))
    have e42 : h38 238 100 = h 238 100 := ((u38 238 100 rfl).trans (u35 238 100 rfl))
    have e43 : h38 238 101 = h 238 101 := ((u38 238 101 rfl).trans (u35 238 101 rfl))
    have e44 : h38 238 102 = h 238 102 := ((u38 238 102 rfl).trans (u35 238 102 rfl))
    have e45 : h38 238 106 = h 238 106 := ((u38 238 106 rfl).trans (u35 238 106 rfl))
    have e46 : h38 238 73 = h 238 73 := ((u38 238 73 rfl).trans (u35 238 73 rfl))
    have e47 : h38 238 2 = h 238 2 := ((u38 238 2 rfl).trans (u35 238 2 rfl))
    have e48 : h38 238 119 = h 238 119 := ((u38 238 119 rfl).trans (u35 238 119 rfl))
    have e49 : h38 238 67 = h 238 67 := ((u38 238 67 rfl).trans (u35 238 67 rfl))
    have e50 : h38 238 69 = h 238 69 := ((u38 238 69 rfl).trans (u35 238 69 rfl))
    have e51 : h38 238 5 = h 238 5 := ((u38 238 5 rfl).trans (u35 238 5 rfl))
    have e52 : h38 241 98 = h 241 98 := ((u38 241 98 rfl).trans (u35 241 98 rfl))
    have e53 : h38 241 99 = h 241 99 := ((u38 241 99 rfl).trans (u35 241 99 rfl))
    have e54 : h38 241 100 = h 241 100 := ((u38 241 100 rfl).trans (u35 241 100 rfl))
    have e55 : h38 241 101 = h 241 101 := ((u38 241 101 rfl).trans (u35 241 101 rfl))
    have e56 : h38 241 102 = h 241 102 := ((u38 241 102 rfl).trans (u35 241 102 rfl))
    have e57 : h38 241 106 = h 241 106 := ((u38 241 106 rfl).trans (u35 241 106 rfl))
    have e58 : h38 241 73 = h 241 73 := ((u38 241 73 rfl).trans (u35 241 73 rfl))
    have e59 : h38 241 2 = h 241 2 := ((u38 241 2 rfl).trans (u35 241 2 rfl))
    have e60 : h38 241 119 = h 241 119 := ((u38 241 119 rfl).trans (u35 241 119 rfl))
    have e61 : h38 241 67 = h 241 67 := ((u38 241 67 rfl).trans (u35 241 67 rfl))
    have e62 : h38 241 69 = h 241 69 := ((u38 241 69 rfl).trans (u35 241 69 rfl))
    have e63 : h38 241 5 = h 241 5 := ((u38 241 5 rfl).trans (u35 241 5 rfl))
    have e64 : h38 1 1 = h 1 1 := ((u38 1 1 rfl).trans (u35 1 1 rfl))
    have e65 : h38 236 2 = h 236 2 := ((u38 236 2 rfl).trans (u35 236 2 rfl))
    have gp66 := GPH.fr u35 rfl gp0
    have gp67 := GPH.fr u38 rfl gp66
    exact k h38 b c ⟨g38, (show h38 1 1 = h38 236 2 by omega), (RS.i0 (f := h38 238) (by refine ⟨?_, ?_, ?_, ?_, ?_⟩ <;> omega)), (RS.i0 (f := h38 241) (by refine ⟨?_, ?_, ?_, ?_, ?_⟩ <;> omega)), gp67⟩ (by omega) (by omega)
  ·
    refine wk_h 17 (by decide) rfl ?_
    refine wr_asty (i := 4) (lo2 := [(4, .retAddr 0), (0, .ref 0), (1, vi ((xs i28).toInt)), (2, vi ((xs i31).toInt)), (3, .ref 259)]) (nx := 19) (r1 := 0) (r2 := 0) (r3 := 0) rfl rfl ?_
    refine wi_iconst (n := 2) (nx := 20) (r1 := 0) (r2 := 0) (r3 := 0) rfl ?_
    refine wi_ireturn (nx := 21) (r1 := 0) (r2 := 0) (r3 := 0) rfl rfl ?_
    refine wk_i ?_
    refine wi_istore (i := 5) (e := 2) (lo2 := [(5, vi 2), (0, .ref 1000000), (1, .ref 0), (2, .ref 236), (3, .ref 259), (4, vi i)]) (nx := 1425) (r1 := 0) (r2 := 0) (r3 := 0) rfl rfl ?_
    refine wi_aload_n (i := 2) (x := 236) (nx := 1426) (r1 := 0) (r2 := 0) (r3 := 0) rfl rfl ?_
    refine wi_aload_n (i := 0) (x := 1000000) (nx := 1427) (r1 := 0) (r2 := 0) (r3 := 0) rfl rfl ?_
    refine wi_iload (i := 4) (e := i) (nx := 1429) (r1 := 0) (r2 := 0) (r3 := 0) rfl rfl ?_
    refine wi_iconst (n := 1) (nx := 1430) (r1 := 0) (r2 := 0) (r3 := 0) rfl ?_
    refine wr_add (nx := 1431) (r1 := 0) (r2 := 0) (r3 := 0) rfl (fun e35 (fe35 : e35 = i + 1) => ?_)
    refine wr_sc (a := e35) (f := i28) (nx := 1432) (r1 := 0) (r2 := 0) (r3 := 0) rfl (by omega) (by omega) hL ?_
    refine wi_aload_n (i := 0) (x := 1000000) (nx := 1433) (r1 := 0) (r2 := 0) (r3 := 0) rfl rfl ?_
    refine wi_iload (i := 4) (e := i) (nx := 1435) (r1 := 0) (r2 := 0) (r3 := 0) rfl rfl ?_
    refine wi_iconst (n := 2) (nx := 1436) (r1 := 0) (r2 := 0) (r3 := 0) rfl ?_
    refine wr_add (nx := 1437) (r1 := 0) (r2 := 0) (r3 := 0) rfl (fun e36 (fe36 : e36 = i + 2) => ?_)
    refine wr_sc (a := e36) (f := i31) (nx := 1438) (r1 := 0) (r2 := 0) (r3 := 0) rfl (by omega) (by omega) hL ?_
    refine wr_V (k0 := 236) (rest := []) (as := [.ref 236, vi ((xs i28).toInt), vi ((xs i31).toInt)]) (nx := 1441) (r1 := 345) (r2 := 2) (r3 := 11) rfl rfl rfl (of_decide_eq_true rfl) rfl rfl (by decide) rfl rfl (of_decide_eq_true rfl) (of_decide_eq_true rfl) ?_
    refine ct_345_236 hcr  g ((xs i28).toInt) ((xs i31).toInt) (by omega) (by omega)  (fun h37 z38 g37 u37 (fz38 : -2147483648 ≤ z38 ∧ z38 ≤ 2147483647) => ?_)
    refine wk_i ?_
    refine wi_istore (i := 6) (e := z38) (lo2 := [(6, vi z38), (5, vi 2), (0, .ref 1000000), (1, .ref 0), (2, .ref 236), (3, .ref 259), (4, vi i)]) (nx := 1443) (r1 := 0) (r2 := 0) (r3 := 0) rfl rfl ?_
    refine wi_goto (nx := 1446) (r1 := 1529) (r2 := 0) (r3 := 0) rfl ?_
    refine wp.lo (lo := [(0, .ref 1000000), (1, .ref 0), (2, .ref 236), (3, .ref 259), (4, vi i)]) ⟨rfl, rfl, rfl, rfl, rfl, trivial⟩ rfl ?_
    have e39 : h37 238 98 = h 238 98 := (u37 238 98 rfl)
    have e40 : h37 238 99 = h 238 99 := (u37 238 99 rfl)
    have e41 : h37 238 100 = h 238 100 := (u37 238 100 rfl)
    have e42 : h37 238 101 = h 238 101 := (u37 238 101 rfl)
    have e43 : h37 238 102 = h 238 102 := (u37 238 102 rfl)
    have e44 : h37 238 106 = h 238 106 := (u37 238 106 rfl)
    have e45 : h37 238 73 = h 238 73 := (u37 238 73 rfl)
    have e46 : h37 238 2 = h 238 2 := (u37 238 2 rfl)
    have e47 : h37 238 119 = h 238 119 := (u37 238 119 rfl)
    have e48 : h37 238 67 = h 238 67 := (u37 238 67 rfl)
    have e49 : h37 238 69 = h 238 69 := (u37 238 69 rfl)
    have e50 : h37 238 5 = h 238 5 := (u37 238 5 rfl)
    have e51 : h37 241 98 = h 241 98 := (u37 241 98 rfl)
    have e52 : h37 241 99 = h 241 99 := (u37 241 99 rfl)
    have e53 : h37 241 100 = h 241 100 := (u37 241 100 rfl)
    have e54 : h37 241 101 = h 241 101 := (u37 241 101 rfl)
    have e55 : h37 241 102 = h 241 102 := (u37 241 102 rfl)
    have e56 : h37 241 106 = h 241 106 := (u37 241 106 rfl)
    have e57 : h37 241 73 = h 241 73 := (u37 241 73 rfl)
    have e58 : h37 241 2 = h 241 2 := (u37 241 2 rfl)
    have e59 : h37 241 119 = h 241 119 := (u37 241 119 rfl)
    have e60 : h37 241 67 = h 241 67 := (u37 241 67 rfl)
    have e61 : h37 241 69 = h 241 69 := (u37 241 69 rfl)
    have e62 : h37 241 5 = h 241 5 := (u37 241 5 rfl)
    have e63 : h37 1 1 = h 1 1 := (u37 1 1 rfl)
    have e64 : h37 236 2 = h 236 2 := (u37 236 2 rfl)
    have gp65 := GPH.fr u37 rfl gp0
    exact k h37 (b - 1) (c - 6) ⟨g37, (show h37 1 1 = h37 236 2 by omega), (RS.i0 (f := h37 238) (by refine ⟨?_, ?_, ?_, ?_, ?_⟩ <;> omega)), (RS.i0 (f := h37 241) (by refine ⟨?_, ?_, ?_, ?_, ?_⟩ <;> omega)), gp65⟩ (by omega) (by omega)
  ·
    refine wk_h 13 (by decide) rfl ?_
    refine wr_asty (i := 4) (lo2 := [(4, .retAddr 0), (0, .ref 0), (1, vi ((xs i28).toInt)), (2, vi ((xs i31).toInt)), (3, .ref 259)]) (nx := 15) (r1 := 0) (r2 := 0) (r3 := 0) rfl rfl ?_
    refine wi_iconst (n := 1) (nx := 16) (r1 := 0) (r2 := 0) (r3 := 0) rfl ?_
    refine wi_ireturn (nx := 17) (r1 := 0) (r2 := 0) (r3 := 0) rfl rfl ?_
    refine wk_i ?_
    refine wi_istore (i := 5) (e := 1) (lo2 := [(5, vi 1), (0, .ref 1000000), (1, .ref 0), (2, .ref 236), (3, .ref 259), (4, vi i)]) (nx := 1425) (r1 := 0) (r2 := 0) (r3 := 0) rfl rfl ?_
    refine wi_aload_n (i := 2) (x := 236) (nx := 1426) (r1 := 0) (r2 := 0) (r3 := 0) rfl rfl ?_
    refine wi_aload_n (i := 0) (x := 1000000) (nx := 1427) (r1 := 0) (r2 := 0) (r3 := 0) rfl rfl ?_
    refine wi_iload (i := 4) (e := i) (nx := 1429) (r1 := 0) (r2 := 0) (r3 := 0) rfl rfl ?_
    refine wi_iconst (n := 1) (nx := 1430) (r1 := 0) (r2 := 0) (r3 := 0) rfl ?_
    refine wr_add (nx := 1431) (r1 := 0) (r2 := 0) (r3 := 0) rfl (fun e35 (fe35 : e35 = i + 1) => ?_)
    refine wr_sc (a := e35) (f := i28) (nx := 1432) (r1 := 0) (r2 := 0) (r3 := 0) rfl (by omega) (by omega) hL ?_
    refine wi_aload_n (i := 0) (x := 1000000) (nx := 1433) (r1 := 0) (r2 := 0) (r3 := 0) rfl rfl ?_
    refine wi_iload (i := 4) (e := i) (nx := 1435) (r1 := 0) (r2 := 0) (r3 := 0) rfl rfl ?_
    refine wi_iconst (n := 2) (nx := 1436) (r1 := 0) (r2 := 0) (r3 := 0) rfl ?_
    refine wr_add (nx := 1437) (r1 := 0) (r2 := 0) (r3 := 0) rfl (fun e36 (fe36 : e36 = i + 2) => ?_)
    refine wr_sc (a := e36) (f := i31) (nx := 1438) (r1 := 0) (r2 := 0) (r3 := 0) rfl (by omega) (by omega) hL ?_
    refine wr_V (k0 := 236) (rest := []) (as := [.ref 236, vi ((xs i28).toInt), vi ((xs i31).toInt)]) (nx := 1441) (r1 := 345) (r2 := 2) (r3 := 11) rfl rfl rfl (of_decide_eq_true rfl) rfl rfl (by decide) rfl rfl (of_decide_eq_true rfl) (of_decide_eq_true rfl) ?_
    refine ct_345_236 hcr  g ((xs i28).toInt) ((xs i31).toInt) (by omega) (by omega)  (fun h37 z38 g37 u37 (fz38 : -2147483648 ≤ z38 ∧ z38 ≤ 2147483647) => ?_)
    refine wk_i ?_
    refine wi_istore (i := 6) (e := z38) (lo2 := [(6, vi z38), (5, vi 1), (0, .ref 1000000), (1, .ref 0), (2, .ref 236), (3, .ref 259), (4, vi i)]) (nx := 1443) (r1 := 0) (r2 := 0) (r3 := 0) rfl rfl ?_
    refine wi_goto (nx := 1446) (r1 := 1529) (r2 := 0) (r3 := 0) rfl ?_
    refine wp.lo (lo := [(0, .ref 1000000), (1, .ref 0), (2, .ref 236), (3, .ref 259), (4, vi i)]) ⟨rfl, rfl, rfl, rfl, rfl, trivial⟩ rfl ?_
    have e39 : h37 238 98 = h 238 98 := (u37 238 98 rfl)
    have e40 : h37 238 99 = h 238 99 := (u37 238 99 rfl)
    have e41 : h37 238 100 = h 238 100 := (u37 238 100 rfl)
    have e42 : h37 238 101 = h 238 101 := (u37 238 101 rfl)
    have e43 : h37 238 102 = h 238 102 := (u37 238 102 rfl)
    have e44 : h37 238 106 = h 238 106 := (u37 238 106 rfl)
    have e45 : h37 238 73 = h 238 73 := (u37 238 73 rfl)
    have e46 : h37 238 2 = h 238 2 := (u37 238 2 rfl)
    have e47 : h37 238 119 = h 238 119 := (u37 238 119 rfl)
    have e48 : h37 238 67 = h 238 67 := (u37 238 67 rfl)
    have e49 : h37 238 69 = h 238 69 := (u37 238 69 rfl)
    have e50 : h37 238 5 = h 238 5 := (u37 238 5 rfl)
    have e51 : h37 241 98 = h 241 98 := (u37 241 98 rfl)
    have e52 : h37 241 99 = h 241 99 := (u37 241 99 rfl)
    have e53 : h37 241 100 = h 241 100 := (u37 241 100 rfl)
    have e54 : h37 241 101 = h 241 101 := (u37 241 101 rfl)
    have e55 : h37 241 102 = h 241 102 := (u37 241 102 rfl)
    have e56 : h37 241 106 = h 241 106 := (u37 241 106 rfl)
    have e57 : h37 241 73 = h 241 73 := (u37 241 73 rfl)
    have e58 : h37 241 2 = h 241 2 := (u37 241 2 rfl)
    have e59 : h37 241 119 = h 241 119 := (u37 241 119 rfl)
    have e60 : h37 241 67 = h 241 67 := (u37 241 67 rfl)
    have e61 : h37 241 69 = h 241 69 := (u37 241 69 rfl)
    have e62 : h37 241 5 = h 241 5 := (u37 241 5 rfl)
    have e63 : h37 1 1 = h 1 1 := (u37 1 1 rfl)
    have e64 : h37 236 2 = h 236 2 := (u37 236 2 rfl)
    have gp65 := GPH.fr u37 rfl gp0
    exact k h37 (b - 1) (c - 6) ⟨g37, (show h37 1 1 = h37 236 2 by omega), (RS.i0 (f := h37 238) (by refine ⟨?_, ?_, ?_, ?_, ?_⟩ <;> omega)), (RS.i0 (f := h37 241) (by refine ⟨?_, ?_, ?_, ?_, ?_⟩ <;> omega)), gp65⟩ (by omega) (by omega)
-- the law, case at 1446
set_option maxRecDepth 100000 in
set_option maxHeartbeats 100000000 in
theorem lc_1446 {L : Nat} {xs : Nat → Int32} {d b c : Nat} {h : hp} {cr : Nat → Nat → Option Nat} {Q : hp_Q} (hcr : CR cr) (hL : L ≤ 3072) (hr : 1 ≤ b ∧ 6 ≤ c) (I : LI h) (i : Int) (hi : 0 ≤ i ∧ i + 6 ≤ L) (k : ∀ (h2 : hp) (b2 c2 : Nat), LI h2 → b ≤ b2 + 1 → c ≤ c2 + 6 → wp (md_xa (L, xs)) (d + 107) 0 (1529, [(0, .ref 1000000), (1, .ref 0), (2, .ref 236), (3, .ref 259), (4, vi i)], [], hp_w h2 cr, b2, c2) Q) : wp (md_xa (L, xs)) (d + 107) 0 (1446, [(0, .ref 1000000), (1, .ref 0), (2, .ref 236), (3, .ref 259), (4, vi i)], [], hp_w h cr, b, c) Q := by
  obtain ⟨g, i11, r238, r241, gp0⟩ := I
  have r238e := r238.e0
  have r241e := r241.e0
  have b1 := gi_b (lo := 0) (hi := 6) g 238 98 rfl
  have b2 := gi_b (lo := 0) (hi := 6) g 238 99 rfl
  have b3 := gi_b (lo := 0) (hi := 6) g 238 100 rfl
  have b4 := gi_b (lo := 0) (hi := 6) g 238 101 rfl
  have b5 := gi_b (lo := 0) (hi := 3) g 238 102 rfl
  have b6 := gi_b (lo := 0) (hi := 12) g 238 106 rfl
  have b7 := gi_b (lo := 0) (hi := 12) g 238 73 rfl
  have b8 := gi_b (lo := 0) (hi := 12) g 238 2 rfl
  have b9 := gi_b (lo := 0) (hi := 9999) g 238 119 rfl
  have b10 := gi_b (lo := 0) (hi := 9999) g 238 67 rfl
  have b11 := gi_b (lo := 0) (hi := 9) g 238 69 rfl
  have b12 := gi_b (lo := 0) (hi := 9) g 238 5 rfl
  have b13 := gi_b (lo := 0) (hi := 6) g 241 98 rfl
  have b14 := gi_b (lo := 0) (hi := 6) g 241 99 rfl
  have b15 := gi_b (lo := 0) (hi := 6) g 241 100 rfl
  have b16 := gi_b (lo := 0) (hi := 6) g 241 101 rfl
  have b17 := gi_b (lo := 0) (hi := 3) g 241 102 rfl
  have b18 := gi_b (lo := 0) (hi := 12) g 241 106 rfl
  have b19 := gi_b (lo := 0) (hi := 12) g 241 73 rfl
  have b20 := gi_b (lo := 0) (hi := 12) g 241 2 rfl
  have b21 := gi_b (lo := 0) (hi := 9999) g 241 119 rfl
  have b22 := gi_b (lo := 0) (hi := 9999) g 241 67 rfl
  have b23 := gi_b (lo := 0) (hi := 9) g 241 69 rfl
  have b24 := gi_b (lo := 0) (hi := 9) g 241 5 rfl
  have b25 := gi_b (lo := 0) (hi := 800) g 1 1 rfl
  have b26 := gi_b (lo := 0) (hi := 800) g 236 2 rfl
  refine wi_aload_n (i := 1) (x := 0) (nx := 1447) (r1 := 0) (r2 := 0) (r3 := 0) rfl rfl ?_
  refine wr_V (k0 := 0) (rest := []) (as := [.ref 0]) (nx := 1450) (r1 := 58) (r2 := 0) (r3 := 0) rfl rfl rfl (of_decide_eq_true rfl) rfl rfl (by decide) rfl rfl (of_decide_eq_true rfl) (of_decide_eq_true rfl) ?_
  refine ct_58_0 hcr  g    (fun h27 z28 g27 u27 (fz28 : 0 ≤ z28 ∧ z28 ≤ 152) => ?_)
  refine wk_i ?_
  refine wi_pop (nx := 1451) (r1 := 0) (r2 := 0) (r3 := 0) rfl rfl ?_
  refine wi_aload_n (i := 2) (x := 236) (nx := 1452) (r1 := 0) (r2 := 0) (r3 := 0) rfl rfl ?_
  refine wr_V (k0 := 236) (rest := []) (as := [.ref 236]) (nx := 1455) (r1 := 346) (r2 := 0) (r3 := 11) rfl rfl rfl (of_decide_eq_true rfl) rfl rfl (by decide) rfl rfl (of_decide_eq_true rfl) (of_decide_eq_true rfl) ?_
  have e30 : h27 238 98 = h 238 98 := (u27 238 98 rfl)
  have e31 : h27 238 99 = h 238 99 := (u27 238 99 rfl)
  have e32 : h27 238 100 = h 238 100 := (u27 238 100 rfl)
  have e33 : h27 238 101 = h 238 101 := (u27 238 101 rfl)
  have e34 : h27 238 102 = h 238 102 := (u27 238 102 rfl)
  have e35 : h27 238 106 = h 238 106 := (u27 238 106 rfl)
  have e36 : h27 238 73 = h 238 73 := (u27 238 73 rfl)
  have e37 : h27 238 2 = h 238 2 := (u27 238 2 rfl)
  have e38 : h27 238 119 = h 238 119 := (u27 238 119 rfl)
  have e39 : h27 238 67 = h 238 67 := (u27 238 67 rfl)
  have e40 : h27 238 69 = h 238 69 := (u27 238 69 rfl)
  have e41 : h27 238 5 = h 238 5 := (u27 238 5 rfl)
  refine ct_346_236 hcr  g27   (show (h27 238 98) + (h27 238 99) + (h27 238 100) + (h27 238 101) + (h27 238 102) + (h27 238 106) = (h27 238 73) by omega) (show (h27 238 73) ≤ (h27 238 2) by omega) (show (h27 238 119) ≤ (h27 238 67) by omega) (show (h27 238 69) ≤ (h27 238 5) by omega) (show (h27 238 2) ≤ 12 * (h27 238 5) by omega) (fun h29 z42 g29 u29 (fz42 : 1 ≤ z42 ∧ z42 ≤ 301) => ?_)
  refine wk_i ?_
  refine wi_pop (nx := 1456) (r1 := 0) (r2 := 0) (r3 := 0) rfl rfl ?_
  refine wi_goto (nx := 1459) (r1 := 1529) (r2 := 0) (r3 := 0) rfl ?_
  have e43 : h29 238 98 = h 238 98 := ((u29 238 98 rfl).trans (u27 238 98 rfl))
  have e44 : h29 238 99 = h 238 99 := ((u29 238 99 rfl).trans (u27 238 99 rfl))
  have e45 : h29 238 100 = h 238 100 := ((u29 238 100 rfl).trans (u27 238 100 rfl))
  have e46 : h29 238 101 = h 238 101 := ((u29 238 101 rfl).trans (u27 238 101 rfl))
  have e47 : h29 238 102 = h 238 102 := ((u29 238 102 rfl).trans (u27 238 102 rfl))
  have e48 : h29 238 106 = h 238 106 := ((u29 238 106 rfl).trans (u27 238 106 rfl))
  have e49 : h29 238 73 = h 238 73 := ((u29 238 73 rfl).trans (u27 238 73 rfl))
  have e50 : h29 238 2 = h 238 2 := ((u29 238 2 rfl).trans (u27 238 2 rfl))
  have e51 : h29 238 119 = h 238 119 := ((u29 238 119 rfl).trans (u27 238 119 rfl))
  have e52 : h29 238 67 = h 238 67 := ((u29 238 67 rfl).trans (u27 238 67 rfl))
  have e53 : h29 238 69 = h 238 69 := ((u29 238 69 rfl).trans (u27 238 69 rfl))
  have e54 : h29 238 5 = h 238 5 := ((u29 238 5 rfl).trans (u27 238 5 rfl))
  have e55 : h29 241 98 = h 241 98 := ((u29 241 98 rfl).trans (u27 241 98 rfl))
  have e56 : h29 241 99 = h 241 99 := ((u29 241 99 rfl).trans (u27 241 99 rfl))
  have e57 : h29 241 100 = h 241 100 := ((u29 241 100 rfl).trans (u27 241 100 rfl))
  have e58 : h29 241 101 = h 241 101 := ((u29 241 101 rfl).trans (u27 241 101 rfl))
  have e59 : h29 241 102 = h 241 102 := ((u29 241 102 rfl).trans (u27 241 102 rfl))
  have e60 : h29 241 106 = h 241 106 := ((u29 241 106 rfl).trans (u27 241 106 rfl))
  have e61 : h29 241 73 = h 241 73 := ((u29 241 73 rfl).trans (u27 241 73 rfl))
  have e62 : h29 241 2 = h 241 2 := ((u29 241 2 rfl).trans (u27 241 2 rfl))
  have e63 : h29 241 119 = h 241 119 := ((u29 241 119 rfl).trans (u27 241 119 rfl))
  have e64 : h29 241 67 = h 241 67 := ((u29 241 67 rfl).trans (u27 241 67 rfl))
  have e65 : h29 241 69 = h 241 69 := ((u29 241 69 rfl).trans (u27 241 69 rfl))
  have e66 : h29 241 5 = h 241 5 := ((u29 241 5 rfl).trans (u27 241 5 rfl))
  have e67 : h29 1 1 = h 1 1 := ((u29 1 1 rfl).trans (u27 1 1 rfl))
  have e68 : h29 236 2 = h 236 2 := ((u29 236 2 rfl).trans (u27 236 2 rfl))
  have gp69 := GPH.fr u27 rfl gp0
  have gp70 := GPH.fr u29 rfl gp69
  exact k h29 b c ⟨g29, (show h29 1 1 = h29 236 2 by omega), (RS.i0 (f := h29 238) (by refine ⟨?_, ?_, ?_, ?_, ?_⟩ <;> omega)), (RS.i0 (f := h29 241) (by refine ⟨?_, ?_, ?_, ?_, ?_⟩ <;> omega)), gp70⟩ (by omega) (by omega)
-- the law, case at 1459
set_option maxRecDepth 100000 in
set_option maxHeartbeats 100000000 in
theorem lc_1459 {L : Nat} {xs : Nat → Int32} {d b c : Nat} {h : hp} {cr : Nat → Nat → Option Nat} {Q : hp_Q} (hcr : CR cr) (hL : L ≤ 3072) (hr : 1 ≤ b ∧ 6 ≤ c) (I : LI h) (i : Int) (hi : 0 ≤ i ∧ i + 6 ≤ L) (k : ∀ (h2 : hp) (b2 c2 : Nat), LI h2 → b ≤ b2 + 1 → c ≤ c2 + 6 → wp (md_xa (L, xs)) (d + 107) 0 (1529, [(0, .ref 1000000), (1, .ref 0), (2, .ref 236), (3, .ref 259), (4, vi i)], [], hp_w h2 cr, b2, c2) Q) : wp (md_xa (L, xs)) (d + 107) 0 (1459, [(0, .ref 1000000), (1, .ref 0), (2, .ref 236), (3, .ref 259), (4, vi i)], [], hp_w h cr, b, c) Q := by
  obtain ⟨g, i11, r238, r241, gp0⟩ := I
  have r238e := r238.e0
  have r241e := r241.e0
  have b1 := gi_b (lo := 0) (hi := 6) g 238 98 rfl
  have b2 := gi_b (lo := 0) (hi := 6) g 238 99 rfl
  have b3 := gi_b (lo := 0) (hi := 6) g 238 100 rfl
  have b4 := gi_b (lo := 0) (hi := 6) g 238 101 rfl
  have b5 := gi_b (lo := 0) (hi := 3) g 238 102 rfl
  have b6 := gi_b (lo := 0) (hi := 12) g 238 106 rfl
  have b7 := gi_b (lo := 0) (hi := 12) g 238 73 rfl
  have b8 := gi_b (lo := 0) (hi := 12) g 238 2 rfl
  have b9 := gi_b (lo := 0) (hi := 9999) g 238 119 rfl
  have b10 := gi_b (lo := 0) (hi := 9999) g 238 67 rfl
  have b11 := gi_b (lo := 0) (hi := 9) g 238 69 rfl
  have b12 := gi_b (lo := 0) (hi := 9) g 238 5 rfl
  have b13 := gi_b (lo := 0) (hi := 6) g 241 98 rfl
  have b14 := gi_b (lo := 0) (hi := 6) g 241 99 rfl
  have b15 := gi_b (lo := 0) (hi := 6) g 241 100 rfl
  have b16 := gi_b (lo := 0) (hi := 6) g 241 101 rfl
  have b17 := gi_b (lo := 0) (hi := 3) g 241 102 rfl
  have b18 := gi_b (lo := 0) (hi := 12) g 241 106 rfl
  have b19 := gi_b (lo := 0) (hi := 12) g 241 73 rfl
  have b20 := gi_b (lo := 0) (hi := 12) g 241 2 rfl
  have b21 := gi_b (lo := 0) (hi := 9999) g 241 119 rfl
  have b22 := gi_b (lo := 0) (hi := 9999) g 241 67 rfl
  have b23 := gi_b (lo := 0) (hi := 9) g 241 69 rfl
  have b24 := gi_b (lo := 0) (hi := 9) g 241 5 rfl
  have b25 := gi_b (lo := 0) (hi := 800) g 1 1 rfl
  have b26 := gi_b (lo := 0) (hi := 800) g 236 2 rfl
  refine wi_aload_n (i := 1) (x := 0) (nx := 1460) (r1 := 0) (r2 := 0) (r3 := 0) rfl rfl ?_
  refine wi_aload_n (i := 0) (x := 1000000) (nx := 1461) (r1 := 0) (r2 := 0) (r3 := 0) rfl rfl ?_
  refine wi_iload (i := 4) (e := i) (nx := 1463) (r1 := 0) (r2 := 0) (r3 := 0) rfl rfl ?_
  refine wi_iconst (n := 1) (nx := 1464) (r1 := 0) (r2 := 0) (r3 := 0) rfl ?_
  refine wr_add (nx := 1465) (r1 := 0) (r2 := 0) (r3 := 0) rfl (fun e27 (fe27 : e27 = i + 1) => ?_)
  obtain ⟨i28, ei28⟩ : ∃ q : Nat, e27 = (q : Int) := ⟨(e27).toNat, by omega⟩
  have s29 := sc_b (xs i28)
  refine wr_sc (a := e27) (f := i28) (nx := 1466) (r1 := 0) (r2 := 0) (r3 := 0) rfl (by omega) (by omega) hL ?_
  refine wi_aload_n (i := 3) (x := 259) (nx := 1467) (r1 := 0) (r2 := 0) (r3 := 0) rfl rfl ?_
  refine wi_S (rest := []) (as := [.ref 0, vi ((xs i28).toInt), .ref 259]) (nx := 1470) (r1 := 24) (r2 := 19) (r3 := 0) rfl rfl rfl (of_decide_eq_true rfl) rfl rfl (of_decide_eq_true rfl) (of_decide_eq_true rfl) ?_
  refine wi_aload_n (i := 2) (x := 259) (nx := 1) (r1 := 0) (r2 := 0) (r3 := 0) rfl rfl ?_
  refine wi_iconst (n := 0) (nx := 2) (r1 := 0) (r2 := 0) (r3 := 0) rfl ?_
  refine wi_aload_n (i := 0) (x := 0) (nx := 3) (r1 := 0) (r2 := 0) (r3 := 0) rfl rfl ?_
  refine wi_iload_n (i := 1) (e := (xs i28).toInt) (nx := 4) (r1 := 0) (r2 := 0) (r3 := 0) rfl rfl ?_
  refine wr_V (k0 := 0) (rest := [vi 0, .ref 259]) (as := [.ref 0, vi ((xs i28).toInt)]) (nx := 7) (r1 := 88) (r2 := 1) (r3 := 0) rfl rfl rfl (of_decide_eq_true rfl) rfl rfl (by decide) rfl rfl (of_decide_eq_true rfl) (of_decide_eq_true rfl) ?_
  refine ct_88_0 hcr hr  g ((xs i28).toInt) (by omega)  (fun z31  (fz31 : -128 ≤ z31 ∧ z31 ≤ 127) => ?_) ?_
  ·
    refine wk_i ?_
    refine wi_i2l (nx := 8) (r1 := 0) (r2 := 0) (r3 := 0) rfl (by omega) ?_
    refine wr_ls (k0 := 259) (a := 0) (f := 0) (x := z31) (bl := -9223372036854775808) (bh := 9223372036854775807) (nx := 9) (r1 := 0) (r2 := 0) (r3 := 0) rfl (by decide) rfl (by omega) (by omega) (by decide) g rfl (by omega) (fun h32 g32 w32 u32 => ?_)
    refine wi_goto (nx := 12) (r1 := 15) (r2 := 0) (r3 := 0) rfl ?_
    refine wi_iconst (n := 0) (nx := 16) (r1 := 0) (r2 := 0) (r3 := 0) rfl ?_
    refine wi_ireturn (nx := 17) (r1 := 0) (r2 := 0) (r3 := 0) rfl rfl ?_
    refine wk_i ?_
    refine wi_istore (i := 5) (e := 0) (lo2 := [(5, vi 0), (0, .ref 1000000), (1, .ref 0), (2, .ref 236), (3, .ref 259), (4, vi i)]) (nx := 1472) (r1 := 0) (r2 := 0) (r3 := 0) rfl rfl ?_
    refine wi_aload_n (i := 2) (x := 236) (nx := 1473) (r1 := 0) (r2 := 0) (r3 := 0) rfl rfl ?_
    refine wi_aload_n (i := 0) (x := 1000000) (nx := 1474) (r1 := 0) (r2 := 0) (r3 := 0) rfl rfl ?_
    refine wi_iload (i := 4) (e := i) (nx := 1476) (r1 := 0) (r2 := 0) (r3 := 0) rfl rfl ?_
    refine wi_iconst (n := 1) (nx := 1477) (r1 := 0) (r2 := 0) (r3 := 0) rfl ?_
    refine wr_add (nx := 1478) (r1 := 0) (r2 := 0) (r3 := 0) rfl (fun e33 (fe33 : e33 = i + 1) => ?_)
    refine wr_sc (a := e33) (f := i28) (nx := 1479) (r1 := 0) (r2 := 0) (r3 := 0) rfl (by omega) (by omega) hL ?_
    refine wr_V (k0 := 236) (rest := []) (as := [.ref 236, vi ((xs i28).toInt)]) (nx := 1482) (r1 := 350) (r2 := 1) (r3 := 11) rfl rfl rfl (of_decide_eq_true rfl) rfl rfl (by decide) rfl rfl (of_decide_eq_true rfl) (of_decide_eq_true rfl) ?_
    refine ct_350_236 hcr  g32 ((xs i28).toInt) (by omega)  (fun h34 z35 g34 u34 (fz35 : -2147483648 ≤ z35 ∧ z35 ≤ 2147483647) => ?_)
    refine wk_i ?_
    refine wi_istore (i := 6) (e := z35) (lo2 := [(6, vi z35), (5, vi 0), (0, .ref 1000000), (1, .ref 0), (2, .ref 236), (3, .ref 259), (4, vi i)]) (nx := 1484) (r1 := 0) (r2 := 0) (r3 := 0) rfl rfl ?_
    refine wi_goto (nx := 1487) (r1 := 1529) (r2 := 0) (r3 := 0) rfl ?_
    refine wp.lo (lo := [(0, .ref 1000000), (1, .ref 0), (2, .ref 236), (3, .ref 259), (4, vi i)]) ⟨rfl, rfl, rfl, rfl, rfl, trivial⟩ rfl ?_
    have e36 : h34 238 98 = h 238 98 := ((u34 238 98 rfl).trans (u32 238 98 rfl))
    have e37 : h34 238 99 = h 238 99 := ((u34 238 99 rfl).trans (u32 238 99 rfl))
    have e38 : h34 238 100 = h 238 100 := ((u34 238 100 rfl).trans (u32 238 100 rfl))
    have e39 : h34 238 101 = h 238 101 := ((u34 238 101 rfl).trans (u32 238 101 rfl))
    have e40 : h34 238 102 = h 238 102 := ((u34 238 102 rfl).trans (u32 238 102 rfl))
    have e41 : h34 238 106 = h 238 106 := ((u34 238 106 rfl).trans (u32 238 106 rfl))
    have e42 : h34 238 73 = h 238 73 := ((u34 238 73 rfl).trans (u32 238 73 rfl))
    have e43 : h34 238 2 = h 238 2 := ((u34 238 2 rfl).trans (u32 238 2 rfl))
    have e44 : h34 238 119 = h 238 119 := ((u34 238 119 rfl).trans (u32 238 119 rfl))
    have e45 : h34 238 67 = h 238 67 := ((u34 238 67 rfl).trans (u32 238 67 rfl))
    have e46 : h34 238 69 = h 238 69 := ((u34 238 69 rfl).trans (u32 238 69 rfl))
    have e47 : h34 238 5 = h 238 5 := ((u34 238 5 rfl).trans (u32 238 5 rfl))
    have e48 : h34 241 98 = h 241 98 := ((u34 241 98 rfl).trans (u32 241 98 rfl))
    have e49 : h34 241 99 = h 241 99 := ((u34 241 99 rfl).trans (u32 241 99 rfl))
    have e50 : h34 241 100 = h 241 100 := ((u34 241 100 rfl).trans (u32 241 100 rfl))
    have e51 : h34 241 101 = h 241 101 := ((u34 241 101 rfl).trans (u32 241 101 rfl))
    have e52 : h34 241 102 = h 241 102 := ((u34 241 102 rfl).trans (u32 241 102 rfl))
    have e53 : h34 241 106 = h 241 106 := ((u34 241 106 rfl).trans (u32 241 106 rfl))
    have e54 : h34 241 73 = h 241 73 := ((u34 241 73 rfl).trans (u32 241 73 rfl))
    have e55 : h34 241 2 = h 241 2 := ((u34 241 2 rfl).trans (u32 241 2 rfl))
    have e56 : h34 241 119 = h 241 119 := ((u34 241 119 rfl).trans (u32 241 119 rfl))
    have e57 : h34 241 67 = h 241 67 := ((u34 241 67 rfl).trans (u32 241 67 rfl))
    have e58 : h34 241 69 = h 241 69 := ((u34 241 69 rfl).trans (u32 241 69 rfl))
    have e59 : h34 241 5 = h 241 5 := ((u34 241 5 rfl).trans (u32 241 5 rfl))
    have e60 : h34 1 1 = h 1 1 := ((u34 1 1 rfl).trans (u32 1 1 rfl))
    have e61 : h34 236 2 = h 236 2 := ((u34 236 2 rfl).trans (u32 236 2 rfl))
    have gp62 := GPH.fr u32 rfl gp0
    have gp63 := GPH.fr u34 rfl gp62
    exact k h34 b c ⟨g34, (show h34 1 1 = h34 236 2 by omega), (RS.i0 (f := h34 238) (by refine ⟨?_, ?_, ?_, ?_, ?_⟩ <;> omega)), (RS.i0 (f := h34 241) (by refine ⟨?_, ?_, ?_, ?_, ?_⟩ <;> omega)), gp63⟩ (by omega) (by omega)
  ·
    refine wk_h 12 (by decide) rfl ?_
    refine wr_astx (i := 3) (lo2 := [(3, .retAddr 0), (0, .ref 0), (1, vi ((xs i28).toInt)), (2, .ref 259)]) (nx := 13) (r1 := 0) (r2 := 0) (r3 := 0) rfl rfl ?_
    refine wi_iconst (n := 1) (nx := 14) (r1 := 0) (r2 := 0) (r3 := 0) rfl ?_
    refine wi_ireturn (nx := 15) (r1 := 0) (r2 := 0) (r3 := 0) rfl rfl ?_
    refine wk_i ?_
    refine wi_istore (i := 5) (e := 1) (lo2 := [(5, vi 1), (0, .ref 1000000), (1, .ref 0), (2, .ref 236), (3, .ref 259), (4, vi i)]) (nx := 1472) (r1 := 0) (r2 := 0) (r3 := 0) rfl rfl ?_
    refine wi_aload_n (i := 2) (x := 236) (nx := 1473) (r1 := 0) (r2 := 0) (r3 := 0) rfl rfl ?_
    refine wi_aload_n (i := 0) (x := 1000000) (nx := 1474) (r1 := 0) (r2 := 0) (r3 := 0) rfl rfl ?_
    refine wi_iload (i := 4) (e := i) (nx := 1476) (r1 := 0) (r2 := 0) (r3 := 0) rfl rfl ?_
    refine wi_iconst (n := 1) (nx := 1477) (r1 := 0) (r2 := 0) (r3 := 0) rfl ?_
    refine wr_add (nx := 1478) (r1 := 0) (r2 := 0) (r3 := 0) rfl (fun e32 (fe32 : e32 = i + 1) => ?_)
    refine wr_sc (a := e32) (f := i28) (nx := 1479) (r1 := 0) (r2 := 0) (r3 := 0) rfl (by omega) (by omega) hL ?_
    refine wr_V (k0 := 236) (rest := []) (as := [.ref 236, vi ((xs i28).toInt)]) (nx := 1482) (r1 := 350) (r2 := 1) (r3 := 11) rfl rfl rfl (of_decide_eq_true rfl) rfl rfl (by decide) rfl rfl (of_decide_eq_true rfl) (of_decide_eq_true rfl) ?_
    refine ct_350_236 hcr  g ((xs i28).toInt) (by omega)  (fun h33 z34 g33 u33 (fz34 : -2147483648 ≤ z34 ∧ z34 ≤ 2147483647) => ?_)
    refine wk_i ?_
    refine wi_istore (i := 6) (e := z34) (lo2 := [(6, vi z34), (5, vi 1), (0, .ref 1000000), (1, .ref 0), (2, .ref 236), (3, .ref 259), (4, vi i)]) (nx := 1484) (r1 := 0) (r2 := 0) (r3 := 0) rfl rfl ?_
    refine wi_goto (nx := 1487) (r1 := 1529) (r2 := 0) (r3 := 0) rfl ?_
    refine wp.lo (lo := [(0, .ref 1000000), (1, .ref 0), (2, .ref 236), (3, .ref 259), (4, vi i)]) ⟨rfl, rfl, rfl, rfl, rfl, trivial⟩ rfl ?_
    have e35 : h33 238 98 = h 238 98 := (u33 238 98 rfl)
    have e36 : h33 238 99 = h 238 99 := (u33 238 99 rfl)
    have e37 : h33 238 100 = h 238 100 := (u33 238 100 rfl)
    have e38 : h33 238 101 = h 238 101 := (u33 238 101 rfl)
    have e39 : h33 238 102 = h 238 102 := (u33 238 102 rfl)
    have e40 : h33 238 106 = h 238 106 := (u33 238 106 rfl)
    have e41 : h33 238 73 = h 238 73 := (u33 238 73 rfl)
    have e42 : h33 238 2 = h 238 2 := (u33 238 2 rfl)
    have e43 : h33 238 119 = h 238 119 := (u33 238 119 rfl)
    have e44 : h33 238 67 = h 238 67 := (u33 238 67 rfl)
    have e45 : h33 238 69 = h 238 69 := (u33 238 69 rfl)
    have e46 : h33 238 5 = h 238 5 := (u33 238 5 rfl)
    have e47 : h33 241 98 = h 241 98 := (u33 241 98 rfl)
    have e48 : h33 241 99 = h 241 99 := (u33 241 99 rfl)
    have e49 : h33 241 100 = h 241 100 := (u33 241 100 rfl)
    have e50 : h33 241 101 = h 241 101 := (u33 241 101 rfl)
    have e51 : h33 241 102 = h 241 102 := (u33 241 102 rfl)
    have e52 : h33 241 106 = h 241 106 := (u33 241 106 rfl)
    have e53 : h33 241 73 = h 241 73 := (u33 241 73 rfl)
    have e54 : h33 241 2 = h 241 2 := (u33 241 2 rfl)
    have e55 : h33 241 119 = h 241 119 := (u33 241 119 rfl)
    have e56 : h33 241 67 = h 241 67 := (u33 241 67 rfl)
    have e57 : h33 241 69 = h 241 69 := (u33 241 69 rfl)
    have e58 : h33 241 5 = h 241 5 := (u33 241 5 rfl)
    have e59 : h33 1 1 = h 1 1 := (u33 1 1 rfl)
    have e60 : h33 236 2 = h 236 2 := (u33 236 2 rfl)
    have gp61 := GPH.fr u33 rfl gp0
    exact k h33 (b - 1) (c - 6) ⟨g33, (show h33 1 1 = h33 236 2 by omega), (RS.i0 (f := h33 238) (by refine ⟨?_, ?_, ?_, ?_, ?_⟩ <;> omega)), (RS.i0 (f := h33 241) (by refine ⟨?_, ?_, ?_, ?_, ?_⟩ <;> omega)), gp61⟩ (by omega) (by omega)
-- the law, case at 1487
set_option maxRecDepth 100000 in
set_option maxHeartbeats 100000000 in
theorem lc_1487 {L : Nat} {xs : Nat → Int32} {d b c : Nat} {h : hp} {cr : Nat → Nat → Option Nat} {Q : hp_Q} (hcr : CR cr) (hL : L ≤ 3072) (hr : 1 ≤ b ∧ 6 ≤ c) (I : LI h) (i : Int) (hi : 0 ≤ i ∧ i + 6 ≤ L) (k : ∀ (h2 : hp) (b2 c2 : Nat), LI h2 → b ≤ b2 + 1 → c ≤ c2 + 6 → wp (md_xa (L, xs)) (d + 107) 0 (1529, [(0, .ref 1000000), (1, .ref 0), (2, .ref 236), (3, .ref 259), (4, vi i)], [], hp_w h2 cr, b2, c2) Q) : wp (md_xa (L, xs)) (d + 107) 0 (1487, [(0, .ref 1000000), (1, .ref 0), (2, .ref 236), (3, .ref 259), (4, vi i)], [], hp_w h cr, b, c) Q := by
  obtain ⟨g, i11, r238, r241, gp0⟩ := I
  have r238e := r238.e0
  have r241e := r241.e0
  have b1 := gi_b (lo := 0) (hi := 6) g 238 98 rfl
  have b2 := gi_b (lo := 0) (hi := 6) g 238 99 rfl
  have b3 := gi_b (lo := 0) (hi := 6) g 238 100 rfl
  have b4 := gi_b (lo := 0) (hi := 6) g 238 101 rfl
  have b5 := gi_b (lo := 0) (hi := 3) g 238 102 rfl
  have b6 := gi_b (lo := 0) (hi := 12) g 238 106 rfl
  have b7 := gi_b (lo := 0) (hi := 12) g 238 73 rfl
  have b8 := gi_b (lo := 0) (hi := 12) g 238 2 rfl
  have b9 := gi_b (lo := 0) (hi := 9999) g 238 119 rfl
  have b10 := gi_b (lo := 0) (hi := 9999) g 238 67 rfl
  have b11 := gi_b (lo := 0) (hi := 9) g 238 69 rfl
  have b12 := gi_b (lo := 0) (hi := 9) g 238 5 rfl
  have b13 := gi_b (lo := 0) (hi := 6) g 241 98 rfl
  have b14 := gi_b (lo := 0) (hi := 6) g 241 99 rfl
  have b15 := gi_b (lo := 0) (hi := 6) g 241 100 rfl
  have b16 := gi_b (lo := 0) (hi := 6) g 241 101 rfl
  have b17 := gi_b (lo := 0) (hi := 3) g 241 102 rfl
  have b18 := gi_b (lo := 0) (hi := 12) g 241 106 rfl
  have b19 := gi_b (lo := 0) (hi := 12) g 241 73 rfl
  have b20 := gi_b (lo := 0) (hi := 12) g 241 2 rfl
  have b21 := gi_b (lo := 0) (hi := 9999) g 241 119 rfl
  have b22 := gi_b (lo := 0) (hi := 9999) g 241 67 rfl
  have b23 := gi_b (lo := 0) (hi := 9) g 241 69 rfl
  have b24 := gi_b (lo := 0) (hi := 9) g 241 5 rfl
  have b25 := gi_b (lo := 0) (hi := 800) g 1 1 rfl
  have b26 := gi_b (lo := 0) (hi := 800) g 236 2 rfl
  refine wi_aload_n (i := 1) (x := 0) (nx := 1488) (r1 := 0) (r2 := 0) (r3 := 0) rfl rfl ?_
  refine wr_V (k0 := 0) (rest := []) (as := [.ref 0]) (nx := 1491) (r1 := 59) (r2 := 0) (r3 := 0) rfl rfl rfl (of_decide_eq_true rfl) rfl rfl (by decide) rfl rfl (of_decide_eq_true rfl) (of_decide_eq_true rfl) ?_
  refine ct_59_0 hcr  g    (fun h27 z28 g27 u27 (fz28 : -1 ≤ z28 ∧ z28 ≤ 6) => ?_)
  refine wk_i ?_
  refine wi_pop (nx := 1492) (r1 := 0) (r2 := 0) (r3 := 0) rfl rfl ?_
  refine wi_aload_n (i := 2) (x := 236) (nx := 1493) (r1 := 0) (r2 := 0) (r3 := 0) rfl rfl ?_
  refine wr_V (k0 := 236) (rest := []) (as := [.ref 236]) (nx := 1496) (r1 := 351) (r2 := 0) (r3 := 11) rfl rfl rfl (of_decide_eq_true rfl) rfl rfl (by decide) rfl rfl (of_decide_eq_true rfl) (of_decide_eq_true rfl) ?_
  have e30 : h27 238 98 = h 238 98 := (u27 238 98 rfl)
  have e31 : h27 238 99 = h 238 99 := (u27 238 99 rfl)
  have e32 : h27 238 100 = h 238 100 := (u27 238 100 rfl)
  have e33 : h27 238 101 = h 238 101 := (u27 238 101 rfl)
  have e34 : h27 238 102 = h 238 102 := (u27 238 102 rfl)
  have e35 : h27 238 106 = h 238 106 := (u27 238 106 rfl)
  have e36 : h27 238 73 = h 238 73 := (u27 238 73 rfl)
  have e37 : h27 238 2 = h 238 2 := (u27 238 2 rfl)
  have e38 : h27 238 119 = h 238 119 := (u27 238 119 rfl)
  have e39 : h27 238 67 = h 238 67 := (u27 238 67 rfl)
  have e40 : h27 238 69 = h 238 69 := (u27 238 69 rfl)
  have e41 : h27 238 5 = h 238 5 := (u27 238 5 rfl)
  have gp43 := GPH.fr u27 rfl gp0
  refine ct_351_236 hcr  g27   (show (h27 238 98) + (h27 238 99) + (h27 238 100) + (h27 238 101) + (h27 238 102) + (h27 238 106) = (h27 238 73) by omega) (show (h27 238 73) ≤ (h27 238 2) by omega) (show (h27 238 119) ≤ (h27 238 67) by omega) (show (h27 238 69) ≤ (h27 238 5) by omega) (show (h27 238 2) ≤ 12 * (h27 238 5) by omega) gp43 (fun h29 z42 g29 u29 (fz42 : -1 ≤ z42 ∧ z42 ≤ 5) y29_0 y29_1 => ?_)
  refine wk_i ?_
  refine wi_pop (nx := 1497) (r1 := 0) (r2 := 0) (r3 := 0) rfl rfl ?_
  refine wi_goto (nx := 1500) (r1 := 1529) (r2 := 0) (r3 := 0) rfl ?_
  have b44 := gi_b (lo := 0) (hi := 6) g29 238 98 rfl
  have b45 := gi_b (lo := 0) (hi := 6) g29 238 99 rfl
  have b46 := gi_b (lo := 0) (hi := 6) g29 238 100 rfl
  have b47 := gi_b (lo := 0) (hi := 6) g29 238 101 rfl
  have b48 := gi_b (lo := 0) (hi := 3) g29 238 102 rfl
  have b49 := gi_b (lo := 0) (hi := 12) g29 238 106 rfl
  have b50 := gi_b (lo := 0) (hi := 12) g29 238 73 rfl
  have b51 := gi_b (lo := 0) (hi := 12) g29 238 2 rfl
  have b52 := gi_b (lo := 0) (hi := 9999) g29 238 119 rfl
  have b53 := gi_b (lo := 0) (hi := 9999) g29 238 67 rfl
  have b54 := gi_b (lo := 0) (hi := 9) g29 238 69 rfl
  have b55 := gi_b (lo := 0) (hi := 9) g29 238 5 rfl
  have e56 : h29 241 98 = h 241 98 := ((u29 241 98 rfl).trans (u27 241 98 rfl))
  have e57 : h29 241 99 = h 241 99 := ((u29 241 99 rfl).trans (u27 241 99 rfl))
  have e58 : h29 241 100 = h 241 100 := ((u29 241 100 rfl).trans (u27 241 100 rfl))
  have e59 : h29 241 101 = h 241 101 := ((u29 241 101 rfl).trans (u27 241 101 rfl))
  have e60 : h29 241 102 = h 241 102 := ((u29 241 102 rfl).trans (u27 241 102 rfl))
  have e61 : h29 241 106 = h 241 106 := ((u29 241 106 rfl).trans (u27 241 106 rfl))
  have e62 : h29 241 73 = h 241 73 := ((u29 241 73 rfl).trans (u27 241 73 rfl))
  have e63 : h29 241 2 = h 241 2 := ((u29 241 2 rfl).trans (u27 241 2 rfl))
  have e64 : h29 241 119 = h 241 119 := ((u29 241 119 rfl).trans (u27 241 119 rfl))
  have e65 : h29 241 67 = h 241 67 := ((u29 241 67 rfl).trans (u27 241 67 rfl))
  have e66 : h29 241 69 = h 241 69 := ((u29 241 69 rfl).trans (u27 241 69 rfl))
  have e67 : h29 241 5 = h 241 5 := ((u29 241 5 rfl).trans (u27 241 5 rfl))
  have e68 : h29 1 1 = h 1 1 := ((u29 1 1 rfl).trans (u27 1 1 rfl))
  have e69 : h29 236 2 = h 236 2 := ((u29 236 2 rfl).trans (u27 236 2 rfl))
  exact k h29 b c ⟨g29, (show h29 1 1 = h29 236 2 by omega), y29_0, (RS.i0 (f := h29 241) (by refine ⟨?_, ?_, ?_, ?_, ?_⟩ <;> omega)), y29_1⟩ (by omega) (by omega)
-- the law, case at 1500
set_option maxRecDepth 100000 in
set_option maxHeartbeats 100000000 in
theorem lc_1500 {L : Nat} {xs : Nat → Int32} {d b c : Nat} {h : hp} {cr : Nat → Nat → Option Nat} {Q : hp_Q} (hcr : CR cr) (hL : L ≤ 3072) (hr : 1 ≤ b ∧ 6 ≤ c) (I : LI h) (i : Int) (hi : 0 ≤ i ∧ i + 6 ≤ L) (k : ∀ (h2 : hp) (b2 c2 : Nat), LI h2 → b ≤ b2 + 1 → c ≤ c2 + 6 → wp (md_xa (L, xs)) (d + 107) 0 (1529, [(0, .ref 1000000), (1, .ref 0), (2, .ref 236), (3, .ref 259), (4, vi i)], [], hp_w h2 cr, b2, c2) Q) : wp (md_xa (L, xs)) (d + 107) 0 (1500, [(0, .ref 1000000), (1, .ref 0), (2, .ref 236), (3, .ref 259), (4, vi i)], [], hp_w h cr, b, c) Q := by
  obtain ⟨g, i11, r238, r241, gp0⟩ := I
  have r238e := r238.e0
  have r241e := r241.e0
  have b1 := gi_b (lo := 0) (hi := 6) g 238 98 rfl
  have b2 := gi_b (lo := 0) (hi := 6) g 238 99 rfl
  have b3 := gi_b (lo := 0) (hi := 6) g 238 100 rfl
  have b4 := gi_b (lo := 0) (hi := 6) g 238 101 rfl
  have b5 := gi_b (lo := 0) (hi := 3) g 238 102 rfl
  have b6 := gi_b (lo := 0) (hi := 12) g 238 106 rfl
  have b7 := gi_b (lo := 0) (hi := 12) g 238 73 rfl
  have b8 := gi_b (lo := 0) (hi := 12) g 238 2 rfl
  have b9 := gi_b (lo := 0) (hi := 9999) g 238 119 rfl
  have b10 := gi_b (lo := 0) (hi := 9999) g 238 67 rfl
  have b11 := gi_b (lo := 0) (hi := 9) g 238 69 rfl
  have b12 := gi_b (lo := 0) (hi := 9) g 238 5 rfl
  have b13 := gi_b (lo := 0) (hi := 6) g 241 98 rfl
  have b14 := gi_b (lo := 0) (hi := 6) g 241 99 rfl
  have b15 := gi_b (lo := 0) (hi := 6) g 241 100 rfl
  have b16 := gi_b (lo := 0) (hi := 6) g 241 101 rfl
  have b17 := gi_b (lo := 0) (hi := 3) g 241 102 rfl
  have b18 := gi_b (lo := 0) (hi := 12) g 241 106 rfl
  have b19 := gi_b (lo := 0) (hi := 12) g 241 73 rfl
  have b20 := gi_b (lo := 0) (hi := 12) g 241 2 rfl
  have b21 := gi_b (lo := 0) (hi := 9999) g 241 119 rfl
  have b22 := gi_b (lo := 0) (hi := 9999) g 241 67 rfl
  have b23 := gi_b (lo := 0) (hi := 9) g 241 69 rfl
  have b24 := gi_b (lo := 0) (hi := 9) g 241 5 rfl
  have b25 := gi_b (lo := 0) (hi := 800) g 1 1 rfl
  have b26 := gi_b (lo := 0) (hi := 800) g 236 2 rfl
  refine wi_aload_n (i := 1) (x := 0) (nx := 1501) (r1 := 0) (r2 := 0) (r3 := 0) rfl rfl ?_
  refine wr_V (k0 := 0) (rest := []) (as := [.ref 0]) (nx := 1504) (r1 := 60) (r2 := 0) (r3 := 0) rfl rfl rfl (of_decide_eq_true rfl) rfl rfl (by decide) rfl rfl (of_decide_eq_true rfl) (of_decide_eq_true rfl) ?_
  refine ct_60_0 hcr  g    (fun h27 z28 g27 u27 (fz28 : -2147483648 ≤ z28 ∧ z28 ≤ 2147483647) => ?_)
  refine wk_i ?_
  refine wi_pop (nx := 1505) (r1 := 0) (r2 := 0) (r3 := 0) rfl rfl ?_
  refine wi_aload_n (i := 2) (x := 236) (nx := 1506) (r1 := 0) (r2 := 0) (r3 := 0) rfl rfl ?_
  refine wr_V (k0 := 236) (rest := []) (as := [.ref 236]) (nx := 1509) (r1 := 352) (r2 := 0) (r3 := 11) rfl rfl rfl (of_decide_eq_true rfl) rfl rfl (by decide) rfl rfl (of_decide_eq_true rfl) (of_decide_eq_true rfl) ?_
  have e30 : h27 238 98 = h 238 98 := (u27 238 98 rfl)
  have e31 : h27 238 99 = h 238 99 := (u27 238 99 rfl)
  have e32 : h27 238 100 = h 238 100 := (u27 238 100 rfl)
  have e33 : h27 238 101 = h 238 101 := (u27 238 101 rfl)
  have e34 : h27 238 102 = h 238 102 := (u27 238 102 rfl)
  have e35 : h27 238 106 = h 238 106 := (u27 238 106 rfl)
  have e36 : h27 238 73 = h 238 73 := (u27 238 73 rfl)
  have e37 : h27 238 2 = h 238 2 := (u27 238 2 rfl)
  have e38 : h27 238 119 = h 238 119 := (u27 238 119 rfl)
  have e39 : h27 238 67 = h 238 67 := (u27 238 67 rfl)
  have e40 : h27 238 69 = h 238 69 := (u27 238 69 rfl)
  have e41 : h27 238 5 = h 238 5 := (u27 238 5 rfl)
  refine ct_352_236 hcr  g27   (show (h27 238 98) + (h27 238 99) + (h27 238 100) + (h27 238 101) + (h27 238 102) + (h27 238 106) = (h27 238 73) by omega) (show (h27 238 73) ≤ (h27 238 2) by omega) (show (h27 238 119) ≤ (h27 238 67) by omega) (show (h27 238 69) ≤ (h27 238 5) by omega) (show (h27 238 2) ≤ 12 * (h27 238 5) by omega) (fun h29 z42 g29 u29 (fz42 : 0 ≤ z42 ∧ z42 ≤ 9999) (p29_0 : (h29 241 98) + (h29 241 99) + (h29 241 100) + (h29 241 101) + (h29 241 102) + (h29 241 106) = (h29 241 73)) (p29_1 : (h29 241 73) ≤ (h29 241 2)) (p29_2 : (h29 241 119) ≤ (h29 241 67)) (p29_3 : (h29 241 69) ≤ (h29 241 5)) (p29_4 : (h29 241 2) ≤ 12 * (h29 241 5)) => ?_)
  have b43 := gi_b (lo := 0) (hi := 6) g29 241 98 rfl
  have b44 := gi_b (lo := 0) (hi := 6) g29 241 99 rfl
  have b45 := gi_b (lo := 0) (hi := 6) g29 241 100 rfl
  have b46 := gi_b (lo := 0) (hi := 6) g29 241 101 rfl
  have b47 := gi_b (lo := 0) (hi := 3) g29 241 102 rfl
  have b48 := gi_b (lo := 0) (hi := 12) g29 241 106 rfl
  have b49 := gi_b (lo := 0) (hi := 12) g29 241 73 rfl
  have b50 := gi_b (lo := 0) (hi := 12) g29 241 2 rfl
  have b51 := gi_b (lo := 0) (hi := 9999) g29 241 119 rfl
  have b52 := gi_b (lo := 0) (hi := 9999) g29 241 67 rfl
  have b53 := gi_b (lo := 0) (hi := 9) g29 241 69 rfl
  have b54 := gi_b (lo := 0) (hi := 9) g29 241 5 rfl
  refine wk_i ?_
  refine wi_pop (nx := 1510) (r1 := 0) (r2 := 0) (r3 := 0) rfl rfl ?_
  refine wi_goto (nx := 1513) (r1 := 1529) (r2 := 0) (r3 := 0) rfl ?_
  have e55 : h29 238 98 = h 238 98 := ((u29 238 98 rfl).trans (u27 238 98 rfl))
  have e56 : h29 238 99 = h 238 99 := ((u29 238 99 rfl).trans (u27 238 99 rfl))
  have e57 : h29 238 100 = h 238 100 := ((u29 238 100 rfl).trans (u27 238 100 rfl))
  have e58 : h29 238 101 = h 238 101 := ((u29 238 101 rfl).trans (u27 238 101 rfl))
  have e59 : h29 238 102 = h 238 102 := ((u29 238 102 rfl).trans (u27 238 102 rfl))
  have e60 : h29 238 106 = h 238 106 := ((u29 238 106 rfl).trans (u27 238 106 rfl))
  have e61 : h29 238 73 = h 238 73 := ((u29 238 73 rfl).trans (u27 238 73 rfl))
  have e62 : h29 238 2 = h 238 2 := ((u29 238 2 rfl).trans (u27 238 2 rfl))
  have e63 : h29 238 119 = h 238 119 := ((u29 238 119 rfl).trans (u27 238 119 rfl))
  have e64 : h29 238 67 = h 238 67 := ((u29 238 67 rfl).trans (u27 238 67 rfl))
  have e65 : h29 238 69 = h 238 69 := ((u29 238 69 rfl).trans (u27 238 69 rfl))
  have e66 : h29 238 5 = h 238 5 := ((u29 238 5 rfl).trans (u27 238 5 rfl))
  have e67 : h29 1 1 = h 1 1 := ((u29 1 1 rfl).trans (u27 1 1 rfl))
  have e68 : h29 236 2 = h 236 2 := ((u29 236 2 rfl).trans (u27 236 2 rfl))
  have gp69 := GPH.fr u27 rfl gp0
  have gp70 := GPH.fr u29 rfl gp69
  exact k h29 b c ⟨g29, (show h29 1 1 = h29 236 2 by omega), (RS.i0 (f := h29 238) (by refine ⟨?_, ?_, ?_, ?_, ?_⟩ <;> omega)), (RS.i0 (f := h29 241) (by refine ⟨?_, ?_, ?_, ?_, ?_⟩ <;> omega)), gp70⟩ (by omega) (by omega)
-- the law, case at 1513
set_option maxRecDepth 100000 in
set_option maxHeartbeats 100000000 in
theorem lc_1513 {L : Nat} {xs : Nat → Int32} {d b c : Nat} {h : hp} {cr : Nat → Nat → Option Nat} {Q : hp_Q} (hcr : CR cr) (hL : L ≤ 3072) (hr : 1 ≤ b ∧ 6 ≤ c) (I : LI h) (i : Int) (hi : 0 ≤ i ∧ i + 6 ≤ L) (k : ∀ (h2 : hp) (b2 c2 : Nat), LI h2 → b ≤ b2 + 1 → c ≤ c2 + 6 → wp (md_xa (L, xs)) (d + 107) 0 (1529, [(0, .ref 1000000), (1, .ref 0), (2, .ref 236), (3, .ref 259), (4, vi i)], [], hp_w h2 cr, b2, c2) Q) : wp (md_xa (L, xs)) (d + 107) 0 (1513, [(0, .ref 1000000), (1, .ref 0), (2, .ref 236), (3, .ref 259), (4, vi i)], [], hp_w h cr, b, c) Q := by
  obtain ⟨g, i11, r238, r241, gp0⟩ := I
  have r238e := r238.e0
  have r241e := r241.e0
  have b1 := gi_b (lo := 0) (hi := 6) g 238 98 rfl
  have b2 := gi_b (lo := 0) (hi := 6) g 238 99 rfl
  have b3 := gi_b (lo := 0) (hi := 6) g 238 100 rfl
  have b4 := gi_b (lo := 0) (hi := 6) g 238 101 rfl
  have b5 := gi_b (lo := 0) (hi := 3) g 238 102 rfl
  have b6 := gi_b (lo := 0) (hi := 12) g 238 106 rfl
  have b7 := gi_b (lo := 0) (hi := 12) g 238 73 rfl
  have b8 := gi_b (lo := 0) (hi := 12) g 238 2 rfl
  have b9 := gi_b (lo := 0) (hi := 9999) g 238 119 rfl
  have b10 := gi_b (lo := 0) (hi := 9999) g 238 67 rfl
  have b11 := gi_b (lo := 0) (hi := 9) g 238 69 rfl
  have b12 := gi_b (lo := 0) (hi := 9) g 238 5 rfl
  have b13 := gi_b (lo := 0) (hi := 6) g 241 98 rfl
  have b14 := gi_b (lo := 0) (hi := 6) g 241 99 rfl
  have b15 := gi_b (lo := 0) (hi := 6) g 241 100 rfl
  have b16 := gi_b (lo := 0) (hi := 6) g 241 101 rfl
  have b17 := gi_b (lo := 0) (hi := 3) g 241 102 rfl
  have b18 := gi_b (lo := 0) (hi := 12) g 241 106 rfl
  have b19 := gi_b (lo := 0) (hi := 12) g 241 73 rfl
  have b20 := gi_b (lo := 0) (hi := 12) g 241 2 rfl
  have b21 := gi_b (lo := 0) (hi := 9999) g 241 119 rfl
  have b22 := gi_b (lo := 0) (hi := 9999) g 241 67 rfl
  have b23 := gi_b (lo := 0) (hi := 9) g 241 69 rfl
  have b24 := gi_b (lo := 0) (hi := 9) g 241 5 rfl
  have b25 := gi_b (lo := 0) (hi := 800) g 1 1 rfl
  have b26 := gi_b (lo := 0) (hi := 800) g 236 2 rfl
  refine wi_aload_n (i := 1) (x := 0) (nx := 1514) (r1 := 0) (r2 := 0) (r3 := 0) rfl rfl ?_
  refine wi_aload_n (i := 3) (x := 259) (nx := 1515) (r1 := 0) (r2 := 0) (r3 := 0) rfl rfl ?_
  refine wi_S (rest := []) (as := [.ref 0, .ref 259]) (nx := 1518) (r1 := 25) (r2 := 18) (r3 := 0) rfl rfl rfl (of_decide_eq_true rfl) rfl rfl (of_decide_eq_true rfl) (of_decide_eq_true rfl) ?_
  refine wi_aload_n (i := 1) (x := 259) (nx := 1) (r1 := 0) (r2 := 0) (r3 := 0) rfl rfl ?_
  refine wi_iconst (n := 0) (nx := 2) (r1 := 0) (r2 := 0) (r3 := 0) rfl ?_
  refine wi_aload_n (i := 0) (x := 0) (nx := 3) (r1 := 0) (r2 := 0) (r3 := 0) rfl rfl ?_
  refine wr_V (k0 := 0) (rest := [vi 0, .ref 259]) (as := [.ref 0]) (nx := 6) (r1 := 89) (r2 := 0) (r3 := 0) rfl rfl rfl (of_decide_eq_true rfl) rfl rfl (by decide) rfl rfl (of_decide_eq_true rfl) (of_decide_eq_true rfl) ?_
  refine ct_89_0 hcr hr  g    (fun h27 z28 g27 u27 (fz28 : -2147483648 ≤ z28 ∧ z28 ≤ 2147483647) => ?_) (fun h27 g27 u27 => ?_)
  ·
    refine wk_i ?_
    refine wi_i2l (nx := 7) (r1 := 0) (r2 := 0) (r3 := 0) rfl (by omega) ?_
    refine wr_ls (k0 := 259) (a := 0) (f := 0) (x := z28) (bl := -9223372036854775808) (bh := 9223372036854775807) (nx := 8) (r1 := 0) (r2 := 0) (r3 := 0) rfl (by decide) rfl (by omega) (by omega) (by decide) g27 rfl (by omega) (fun h29 g29 w29 u29 => ?_)
    refine wi_goto (nx := 11) (r1 := 14) (r2 := 0) (r3 := 0) rfl ?_
    refine wi_iconst (n := 0) (nx := 15) (r1 := 0) (r2 := 0) (r3 := 0) rfl ?_
    refine wi_ireturn (nx := 16) (r1 := 0) (r2 := 0) (r3 := 0) rfl rfl ?_
    refine wk_i ?_
    refine wi_istore (i := 5) (e := 0) (lo2 := [(5, vi 0), (0, .ref 1000000), (1, .ref 0), (2, .ref 236), (3, .ref 259), (4, vi i)]) (nx := 1520) (r1 := 0) (r2 := 0) (r3 := 0) rfl rfl ?_
    refine wi_aload_n (i := 2) (x := 236) (nx := 1521) (r1 := 0) (r2 := 0) (r3 := 0) rfl rfl ?_
    refine wr_V (k0 := 236) (rest := []) (as := [.ref 236]) (nx := 1524) (r1 := 353) (r2 := 0) (r3 := 11) rfl rfl rfl (of_decide_eq_true rfl) rfl rfl (by decide) rfl rfl (of_decide_eq_true rfl) (of_decide_eq_true rfl) ?_
    have e31 : h29 238 98 = h 238 98 := ((u29 238 98 rfl).trans (u27 238 98 rfl))
    have e32 : h29 238 99 = h 238 99 := ((u29 238 99 rfl).trans (u27 238 99 rfl))
    have e33 : h29 238 100 = h 238 100 := ((u29 238 100 rfl).trans (u27 238 100 rfl))
    have e34 : h29 238 101 = h 238 101 := ((u29 238 101 rfl).trans (u27 238 101 rfl))
    have e35 : h29 238 102 = h 238 102 := ((u29 238 102 rfl).trans (u27 238 102 rfl))
    have e36 : h29 238 106 = h 238 106 := ((u29 238 106 rfl).trans (u27 238 106 rfl))
    have e37 : h29 238 73 = h 238 73 := ((u29 238 73 rfl).trans (u27 238 73 rfl))
    have e38 : h29 238 2 = h 238 2 := ((u29 238 2 rfl).trans (u27 238 2 rfl))
    have e39 : h29 238 119 = h 238 119 := ((u29 238 119 rfl).trans (u27 238 119 rfl))
    have e40 : h29 238 67 = h 238 67 := ((u29 238 67 rfl).trans (u27 238 67 rfl))
    have e41 : h29 238 69 = h 238 69 := ((u29 238 69 rfl).trans (u27 238 69 rfl))
    have e42 : h29 238 5 = h 238 5 := ((u29 238 5 rfl).trans (u27 238 5 rfl))
    have e43 : h29 241 98 = h 241 98 := ((u29 241 98 rfl).trans (u27 241 98 rfl))
    have e44 : h29 241 99 = h 241 99 := ((u29 241 99 rfl).trans (u27 241 99 rfl))
    have e45 : h29 241 100 = h 241 100 := ((u29 241 100 rfl).trans (u27 241 100 rfl))
    have e46 : h29 241 101 = h 241 101 := ((u29 241 101 rfl).trans (u27 241 101 rfl))
    have e47 : h29 241 102 = h 241 102 := ((u29 241 102 rfl).trans (u27 241 102 rfl))
    have e48 : h29 241 106 = h 241 106 := ((u29 241 106 rfl).trans (u27 241 106 rfl))
    have e49 : h29 241 73 = h 241 73 := ((u29 241 73 rfl).trans (u27 241 73 rfl))
    have e50 : h29 241 2 = h 241 2 := ((u29 241 2 rfl).trans (u27 241 2 rfl))
    have e51 : h29 241 119 = h 241 119 := ((u29 241 119 rfl).trans (u27 241 119 rfl))
    have e52 : h29 241 67 = h 241 67 := ((u29 241 67 rfl).trans (u27 241 67 rfl))
    have e53 : h29 241 69 = h 241 69 := ((u29 241 69 rfl).trans (u27 241 69 rfl))
    have e54 : h29 241 5 = h 241 5 := ((u29 241 5 rfl).trans (u27 241 5 rfl))
    refine ct_353_236 hcr  g29   (show (h29 238 98) + (h29 238 99) + (h29 238 100) + (h29 238 101) + (h29 238 102) + (h29 238 106) = (h29 238 73) by omega) (show (h29 238 73) ≤ (h29 238 2) by omega) (show (h29 238 119) ≤ (h29 238 67) by omega) (show (h29 238 69) ≤ (h29 238 5) by omega) (show (h29 238 2) ≤ 12 * (h29 238 5) by omega) (show (h29 241 98) + (h29 241 99) + (h29 241 100) + (h29 241 101) + (h29 241 102) + (h29 241 106) = (h29 241 73) by omega) (show (h29 241 73) ≤ (h29 241 2) by omega) (show (h29 241 119) ≤ (h29 241 67) by omega) (show (h29 241 69) ≤ (h29 241 5) by omega) (show (h29 241 2) ≤ 12 * (h29 241 5) by omega) (fun h30 z55 g30 u30 (fz55 : 0 ≤ z55 ∧ z55 ≤ 9999) (p30_0 : (h30 238 98) + (h30 238 99) + (h30 238 100) + (h30 238 101) + (h30 238 102) + (h30 238 106) = (h30 238 73)) (p30_1 : (h30 238 73) ≤ (h30 238 2)) (p30_2 : (h30 238 119) ≤ (h30 238 67)) (p30_3 : (h30 238 69) ≤ (h30 238 5)) (p30_4 : (h30 238 2) ≤ 12 * (h30 238 5)) => ?_)
    have b56 := gi_b (lo := 0) (hi := 6) g30 238 98 rfl
    have b57 := gi_b (lo := 0) (hi := 6) g30 238 99 rfl
    have b58 := gi_b (lo := 0) (hi := 6) g30 238 100 rfl
    have b59 := gi_b (lo := 0) (hi := 6) g30 238 101 rfl
    have b60 := gi_b (lo := 0) (hi := 3) g30 238 102 rfl
    have b61 := gi_b (lo := 0) (hi := 12) g30 238 106 rfl
    have b62 := gi_b (lo := 0) (hi := 12) g30 238 73 rfl
    have b63 := gi_b (lo := 0) (hi := 12) g30 238 2 rfl
    have b64 := gi_b (lo := 0) (hi := 9999) g30 238 119 rfl
    have b65 := gi_b (lo := 0) (hi := 9999) g30 238 67 rfl
    have b66 := gi_b (lo := 0) (hi := 9) g30 238 69 rfl
    have b67 := gi_b (lo := 0) (hi := 9) g30 238 5 rfl
    refine wk_i ?_
    refine wi_istore (i := 6) (e := z55) (lo2 := [(6, vi z55), (5, vi 0), (0, .ref 1000000), (1, .ref 0), (2, .ref 236), (3, .ref 259), (4, vi i)]) (nx := 1526) (r1 := 0) (r2 := 0) (r3 := 0) rfl rfl ?_
    refine wi_goto (nx := 1529) (r1 := 1529) (r2 := 0) (r3 := 0) rfl ?_
    refine wp.lo (lo := [(0, .ref 1000000), (1, .ref 0), (2, .ref 236), (3, .ref 259), (4, vi i)]) ⟨rfl, rfl, rfl, rfl, rfl, trivial⟩ rfl ?_
    have e68 : h30 241 98 = h 241 98 := ((u30 241 98 rfl).trans ((u29 241 98 rfl).trans (u27 241 98 rfl)))
    have e69 : h30 241 99 = h 241 99 := ((u30 241 99 rfl).trans ((u29 241 99 rfl).trans (u27 241 99 rfl)))
    have e70 : h30 241 100 = h 241 100 := ((u30 241 100 rfl).trans ((u29 241 100 rfl).trans (u27 241 100 rfl)))
    have e71 : h30 241 101 = h 241 101 := ((u30 241 101 rfl).trans ((u29 241 101 rfl).trans (u27 241 101 rfl)))
    have e72 : h30 241 102 = h 241 102 := ((u30 241 102 rfl).trans ((u29 241 102 rfl).trans (u27 241 102 rfl)))
    have e73 : h30 241 106 = h 241 106 := ((u30 241 106 rfl).trans ((u29 241 106 rfl).trans (u27 241 106 rfl)))
    have e74 : h30 241 73 = h 241 73 := ((u30 241 73 rfl).trans ((u29 241 73 rfl).trans (u27 241 73 rfl)))
    have e75 : h30 241 2 = h 241 2 := ((u30 241 2 rfl).trans ((u29 241 2 rfl).trans (u27 241 2 rfl)))
    have e76 : h30 241 119 = h 241 119 := ((u30 241 119 rfl).trans ((u29 241 119 rfl).trans (u27 241 119 rfl)))
    have e77 : h30 241 67 = h 241 67 := ((u30 241 67 rfl).trans ((u29 241 67 rfl).trans (u27 241 67 rfl)))
    have e78 : h30 241 69 = h 241 69 := ((u30 241 69 rfl).trans ((u29 241 69 rfl).trans (u27 241 69 rfl)))
    have e79 : h30 241 5 = h 241 5 := ((u30 241 5 rfl).trans ((u29 241 5 rfl).trans (u27 241 5 rfl)))
    have e80 : h30 1 1 = h 1 1 := ((u30 1 1 rfl).trans ((u29 1 1 rfl).trans (u27 1 1 rfl)))
    have e81 : h30 236 2 = h 236 2 := ((u30 236 2 rfl).trans ((u29 236 2 rfl).trans (u27 236 2 rfl)))
    have gp82 := GPH.fr u27 rfl gp0
    have gp83 := GPH.fr u29 rfl gp82
    have gp84 := GPH.fr u30 rfl gp83
    exact k h30 b c ⟨g30, (show h30 1 1 = h30 236 2 by omega), (RS.i0 (f := h30 238) (by refine ⟨?_, ?_, ?_, ?_, ?_⟩ <;> omega)), (RS.i0 (f := h30 241) (by refine ⟨?_, ?_, ?_, ?_, ?_⟩ <;> omega)), gp84⟩ (by omega) (by omega)
  ·
    refine wk_h 11 (by decide) rfl ?_
    refine wr_astx (i := 2) (lo2 := [(2, .retAddr 0), (0, .ref 0), (1, .ref 259)]) (nx := 12) (r1 := 0) (r2 := 0) (r3 := 0) rfl rfl ?_
    refine wi_iconst (n := 1) (nx := 13) (r1 := 0) (r2 := 0) (r3 := 0) rfl ?_
    refine wi_ireturn (nx := 14) (r1 := 0) (r2 := 0) (r3 := 0) rfl rfl ?_
    refine wk_i ?_
    refine wi_istore (i := 5) (e := 1) (lo2 := [(5, vi 1), (0, .ref 1000000), (1, .ref 0), (2, .ref 236), (3, .ref 259), (4, vi i)]) (nx := 1520) (r1 := 0) (r2 := 0) (r3 := 0) rfl rfl ?_
    refine wi_aload_n (i := 2) (x := 236) (nx := 1521) (r1 := 0) (r2 := 0) (r3 := 0) rfl rfl ?_
    refine wr_V (k0 := 236) (rest := []) (as := [.ref 236]) (nx := 1524) (r1 := 353) (r2 := 0) (r3 := 11) rfl rfl rfl (of_decide_eq_true rfl) rfl rfl (by decide) rfl rfl (of_decide_eq_true rfl) (of_decide_eq_true rfl) ?_
    have e30 : h27 238 98 = h 238 98 := (u27 238 98 rfl)
    have e31 : h27 238 99 = h 238 99 := (u27 238 99 rfl)
    have e32 : h27 238 100 = h 238 100 := (u27 238 100 rfl)
    have e33 : h27 238 101 = h 238 101 := (u27 238 101 rfl)
    have e34 : h27 238 102 = h 238 102 := (u27 238 102 rfl)
    have e35 : h27 238 106 = h 238 106 := (u27 238 106 rfl)
    have e36 : h27 238 73 = h 238 73 := (u27 238 73 rfl)
    have e37 : h27 238 2 = h 238 2 := (u27 238 2 rfl)
    have e38 : h27 238 119 = h 238 119 := (u27 238 119 rfl)
    have e39 : h27 238 67 = h 238 67 := (u27 238 67 rfl)
    have e40 : h27 238 69 = h 238 69 := (u27 238 69 rfl)
    have e41 : h27 238 5 = h 238 5 := (u27 238 5 rfl)
    have e42 : h27 241 98 = h 241 98 := (u27 241 98 rfl)
    have e43 : h27 241 99 = h 241 99 := (u27 241 99 rfl)
    have e44 : h27 241 100 = h 241 100 := (u27 241 100 rfl)
    have e45 : h27 241 101 = h 241 101 := (u27 241 101 rfl)
    have e46 : h27 241 102 = h 241 102 := (u27 241 102 rfl)
    have e47 : h27 241 106 = h 241 106 := (u27 241 106 rfl)
    have e48 : h27 241 73 = h 241 73 := (u27 241 73 rfl)
    have e49 : h27 241 2 = h 241 2 := (u27 241 2 rfl)
    have e50 : h27 241 119 = h 241 119 := (u27 241 119 rfl)
    have e51 : h27 241 67 = h 241 67 := (u27 241 67 rfl)
    have e52 : h27 241 69 = h 241 69 := (u27 241 69 rfl)
    have e53 : h27 241 5 = h 241 5 := (u27 241 5 rfl)
    refine ct_353_236 hcr  g27   (show (h27 238 98) + (h27 238 99) + (h27 238 100) + (h27 238 101) + (h27 238 102) + (h27 238 106) = (h27 238 73) by omega) (show (h27 238 73) ≤ (h27 238 2) by omega) (show (h27 238 119) ≤ (h27 238 67) by omega) (show (h27 238 69) ≤ (h27 238 5) by omega) (show (h27 238 2) ≤ 12 * (h27 238 5) by omega) (show (h27 241 98) + (h27 241 99) + (h27 241 100) + (h27 241 101) + (h27 241 102) + (h27 241 106) = (h27 241 73) by omega) (show (h27 241 73) ≤ (h27 241 2) by omega) (show (h27 241 119) ≤ (h27 241 67) by omega) (show (h27 241 69) ≤ (h27 241 5) by omega) (show (h27 241 2) ≤ 12 * (h27 241 5) by omega) (fun h29 z54 g29 u29 (fz54 : 0 ≤ z54 ∧ z54 ≤ 9999) (p29_0 : (h29 238 98) + (h29 238 99) + (h29 238 100) + (h29 238 101) + (h29 238 102) + (h29 238 106) = (h29 238 73)) (p29_1 : (h29 238 73) ≤ (h29 238 2)) (p29_2 : (h29 238 119) ≤ (h29 238 67)) (p29_3 : (h29 238 69) ≤ (h29 238 5)) (p29_4 : (h29 238 2) ≤ 12 * (h29 238 5)) => ?_)
    have b55 := gi_b (lo := 0) (hi := 6) g29 238 98 rfl
    have b56 := gi_b (lo := 0) (hi := 6) g29 238 99 rfl
    have b57 := gi_b (lo := 0) (hi := 6) g29 238 100 rfl
    have b58 := gi_b (lo := 0) (hi := 6) g29 238 101 rfl
    have b59 := gi_b (lo := 0) (hi := 3) g29 238 102 rfl
    have b60 := gi_b (lo := 0) (hi := 12) g29 238 106 rfl
    have b61 := gi_b (lo := 0) (hi := 12) g29 238 73 rfl
    have b62 := gi_b (lo := 0) (hi := 12) g29 238 2 rfl
    have b63 := gi_b (lo := 0) (hi := 9999) g29 238 119 rfl
    have b64 := gi_b (lo := 0) (hi := 9999) g29 238 67 rfl
    have b65 := gi_b (lo := 0) (hi := 9) g29 238 69 rfl
    have b66 := gi_b (lo := 0) (hi := 9) g29 238 5 rfl
    refine wk_i ?_
    refine wi_istore (i := 6) (e := z54) (lo2 := [(6, vi z54), (5, vi 1), (0, .ref 1000000), (1, .ref 0), (2, .ref 236), (3, .ref 259), (4, vi i)]) (nx := 1526) (r1 := 0) (r2 := 0) (r3 := 0) rfl rfl ?_
    refine wi_goto (nx := 1529) (r1 := 1529) (r2 := 0) (r3 := 0) rfl ?_
    refine wp.lo (lo := [(0, .ref 1000000), (1, .ref 0), (2, .ref 236), (3, .ref 259), (4, vi i)]) ⟨rfl, rfl, rfl, rfl, rfl, trivial⟩ rfl ?_
    have e67 : h29 241 98 = h 241 98 := ((u29 241 98 rfl).trans (u27 241 98 rfl))
    have e68 : h29 241 99 = h 241 99 := ((u29 241 99 rfl).trans (u27 241 99 rfl))
    have e69 : h29 241 100 = h 241 100 := ((u29 241 100 rfl).trans (u27 241 100 rfl))
    have e70 : h29 241 101 = h 241 101 := ((u29 241 101 rfl).trans (u27 241 101 rfl))
    have e71 : h29 241 102 = h 241 102 := ((u29 241 102 rfl).trans (u27 241 102 rfl))
    have e72 : h29 241 106 = h 241 106 := ((u29 241 106 rfl).trans (u27 241 106 rfl))
    have e73 : h29 241 73 = h 241 73 := ((u29 241 73 rfl).trans (u27 241 73 rfl))
    have e74 : h29 241 2 = h 241 2 := ((u29 241 2 rfl).trans (u27 241 2 rfl))
    have e75 : h29 241 119 = h 241 119 := ((u29 241 119 rfl).trans (u27 241 119 rfl))
    have e76 : h29 241 67 = h 241 67 := ((u29 241 67 rfl).trans (u27 241 67 rfl))
    have e77 : h29 241 69 = h 241 69 := ((u29 241 69 rfl).trans (u27 241 69 rfl))
    have e78 : h29 241 5 = h 241 5 := ((u29 241 5 rfl).trans (u27 241 5 rfl))
    have e79 : h29 1 1 = h 1 1 := ((u29 1 1 rfl).trans (u27 1 1 rfl))
    have e80 : h29 236 2 = h 236 2 := ((u29 236 2 rfl).trans (u27 236 2 rfl))
    have gp81 := GPH.fr u27 rfl gp0
    have gp82 := GPH.fr u29 rfl gp81
    exact k h29 (b - 1) (c - 6) ⟨g29, (show h29 1 1 = h29 236 2 by omega), (RS.i0 (f := h29 238) (by refine ⟨?_, ?_, ?_, ?_, ?_⟩ <;> omega)), (RS.i0 (f := h29 241) (by refine ⟨?_, ?_, ?_, ?_, ?_⟩ <;> omega)), gp82⟩ (by omega) (by omega)
-- the law, case at 1529
set_option maxRecDepth 100000 in
set_option maxHeartbeats 100000000 in
theorem lc_1529 {L : Nat} {xs : Nat → Int32} {d b c : Nat} {h : hp} {cr : Nat → Nat → Option Nat} {Q : hp_Q} (hcr : CR cr) (hL : L ≤ 3072) (hr : 1 ≤ b ∧ 6 ≤ c) (I : LI h) (i : Int) (hi : 0 ≤ i ∧ i + 6 ≤ L) (k : ∀ (h2 : hp) (b2 c2 : Nat), LI h2 → b ≤ b2 + 1 → c ≤ c2 + 6 → wp (md_xa (L, xs)) (d + 107) 0 (1529, [(0, .ref 1000000), (1, .ref 0), (2, .ref 236), (3, .ref 259), (4, vi i)], [], hp_w h2 cr, b2, c2) Q) : wp (md_xa (L, xs)) (d + 107) 0 (1529, [(0, .ref 1000000), (1, .ref 0), (2, .ref 236), (3, .ref 259), (4, vi i)], [], hp_w h cr, b, c) Q := by
  obtain ⟨g, i11, r238, r241, gp0⟩ := I
  have r238e := r238.e0
  have r241e := r241.e0
  have b1 := gi_b (lo := 0) (hi := 6) g 238 98 rfl
  have b2 := gi_b (lo := 0) (hi := 6) g 238 99 rfl
  have b3 := gi_b (lo := 0) (hi := 6) g 238 100 rfl
  have b4 := gi_b (lo := 0) (hi := 6) g 238 101 rfl
  have b5 := gi_b (lo := 0) (hi := 3) g 238 102 rfl
  have b6 := gi_b (lo := 0) (hi := 12) g 238 106 rfl
  have b7 := gi_b (lo := 0) (hi := 12) g 238 73 rfl
  have b8 := gi_b (lo := 0) (hi := 12) g 238 2 rfl
  have b9 := gi_b (lo := 0) (hi := 9999) g 238 119 rfl
  have b10 := gi_b (lo := 0) (hi := 9999) g 238 67 rfl
  have b11 := gi_b (lo := 0) (hi := 9) g 238 69 rfl
  have b12 := gi_b (lo := 0) (hi := 9) g 238 5 rfl
  have b13 := gi_b (lo := 0) (hi := 6) g 241 98 rfl
  have b14 := gi_b (lo := 0) (hi := 6) g 241 99 rfl
  have b15 := gi_b (lo := 0) (hi := 6) g 241 100 rfl
  have b16 := gi_b (lo := 0) (hi := 6) g 241 101 rfl
  have b17 := gi_b (lo := 0) (hi := 3) g 241 102 rfl
  have b18 := gi_b (lo := 0) (hi := 12) g 241 106 rfl
  have b19 := gi_b (lo := 0) (hi := 12) g 241 73 rfl
  have b20 := gi_b (lo := 0) (hi := 12) g 241 2 rfl
  have b21 := gi_b (lo := 0) (hi := 9999) g 241 119 rfl
  have b22 := gi_b (lo := 0) (hi := 9999) g 241 67 rfl
  have b23 := gi_b (lo := 0) (hi := 9) g 241 69 rfl
  have b24 := gi_b (lo := 0) (hi := 9) g 241 5 rfl
  have b25 := gi_b (lo := 0) (hi := 800) g 1 1 rfl
  have b26 := gi_b (lo := 0) (hi := 800) g 236 2 rfl
  exact k h b c ⟨g, (show h 1 1 = h 236 2 by omega), (RS.i0 (f := h 238) (by refine ⟨?_, ?_, ?_, ?_, ?_⟩ <;> omega)), (RS.i0 (f := h 241) (by refine ⟨?_, ?_, ?_, ?_, ?_⟩ <;> omega)), gp0⟩ (by omega) (by omega)
set_option maxRecDepth 100000 in
set_option maxHeartbeats 100000000 in
theorem lc_loop {L : Nat} {xs : Nat → Int32} {d : Nat} {cr : Nat → Nat → Option Nat} {Q : hp_Q} (hcr : CR cr) (hL : L ≤ 3072) (hQ : ∀ W b c, Q (.inl (some (vi 1))) W b c) (h : hp) (b c : Nat) (I : LI h) (hb : 3072 ≤ b) (hc : 6 * 3072 ≤ c) : wp (md_xa (L, xs)) (d + 107) 0 (23, [(0, .ref 1000000), (1, .ref 0), (2, .ref 236), (3, .ref 259), (4, vi 0)], [], hp_w h cr, b, c) Q := by
  refine wl_law (F := fun i W b c => (23, [(0, .ref 1000000), (1, .ref 0), (2, .ref 236), (3, .ref 259), (4, vi i)], [], W, b, c)) ?_ h b c I hb hc
  intro i h b c I h0 h1 hb hc k
  have hr : i + 6 ≤ L → 1 ≤ b ∧ 6 ≤ c := fun e => by omega
  refine wi_iload (i := 4) (e := i) (nx := 25) (r1 := 0) (r2 := 0) (r3 := 0) rfl rfl ?_
  refine wi_aload_n (i := 0) (x := 1000000) (nx := 26) (r1 := 0) (r2 := 0) (r3 := 0) rfl rfl ?_
  refine wr_xl (k0 := 1000000) (e := (L : Int)) (nx := 27) (r1 := 0) (r2 := 0) (r3 := 0) rfl (by decide) rfl rfl ?_
  refine wi_bipush (n := 6) (nx := 29) (r1 := 0) (r2 := 0) (r3 := 0) rfl (by decide) ?_
  refine wr_sub (nx := 30) (r1 := 0) (r2 := 0) (r3 := 0) rfl (fun e1 (fe1 : e1 = ((L : Int)) - 6) => ?_)
  refine wi_icmp (cd := .gt) (nx := 33) (r1 := 1535) (r2 := 0) (r3 := 0) rfl (by omega) (by omega) (fun (q2 : e1 < i) => ?_) (fun (q2 : ¬ (e1 < i)) => ?_)
  ·
    refine wi_iconst (n := 1) (nx := 1536) (r1 := 0) (r2 := 0) (r3 := 0) rfl ?_
    refine wi_zreturn (nx := 1537) (r1 := 0) (r2 := 0) (r3 := 0) rfl rfl (by omega) ?_
    exact hQ _ _ _
  ·
    refine wi_aload_n (i := 0) (x := 1000000) (nx := 34) (r1 := 0) (r2 := 0) (r3 := 0) rfl rfl ?_
    refine wi_iload (i := 4) (e := i) (nx := 36) (r1 := 0) (r2 := 0) (r3 := 0) rfl rfl ?_
    obtain ⟨i3, ei3⟩ : ∃ q : Nat, i = (q : Int) := ⟨(i).toNat, by omega⟩
    have s4 := sc_b (xs i3)
    refine wr_sc (a := i) (f := i3) (nx := 37) (r1 := 0) (r2 := 0) (r3 := 0) rfl (by omega) (by omega) hL ?_
    refine wi_bipush (n := 63) (nx := 39) (r1 := 0) (r2 := 0) (r3 := 0) rfl (by decide) ?_
    refine wi_iandm (m := 63) (nx := 40) (r1 := 0) (r2 := 0) (r3 := 0) rfl (by decide) (by decide) (fun e5 (fe5 : 0 ≤ e5 ∧ e5 ≤ 63) => ?_)
    rcases (show e5 = 0 ∨ e5 = 1 ∨ e5 = 2 ∨ e5 = 3 ∨ e5 = 4 ∨ e5 = 5 ∨ e5 = 6 ∨ e5 = 7 ∨ e5 = 8 ∨ e5 = 9 ∨ e5 = 10 ∨ e5 = 11 ∨ e5 = 12 ∨ e5 = 13 ∨ e5 = 14 ∨ e5 = 15 ∨ e5 = 16 ∨ e5 = 17 ∨ e5 = 18 ∨ e5 = 19 ∨ e5 = 20 ∨ e5 = 21 ∨ e5 = 22 ∨ e5 = 23 ∨ e5 = 24 ∨ e5 = 25 ∨ e5 = 26 ∨ e5 = 27 ∨ e5 = 28 ∨ e5 = 29 ∨ e5 = 30 ∨ e5 = 31 ∨ e5 = 32 ∨ e5 = 33 ∨ e5 = 34 ∨ e5 = 35 ∨ e5 = 36 ∨ e5 = 37 ∨ e5 = 38 ∨ e5 = 39 ∨ e5 = 40 ∨ e5 = 41 ∨ e5 = 42 ∨ e5 = 43 ∨ e5 = 44 ∨ e5 = 45 ∨ e5 = 46 ∨ e5 = 47 ∨ e5 = 48 ∨ e5 = 49 ∨ e5 = 50 ∨ e5 = 51 ∨ e5 = 52 ∨ e5 = 53 ∨ e5 = 54 ∨ e5 = 55 ∨ e5 = 56 ∨ e5 = 57 ∨ (e5 ≠ 0 ∧ e5 ≠ 1 ∧ e5 ≠ 2 ∧ e5 ≠ 3 ∧ e5 ≠ 4 ∧ e5 ≠ 5 ∧ e5 ≠ 6 ∧ e5 ≠ 7 ∧ e5 ≠ 8 ∧ e5 ≠ 9 ∧ e5 ≠ 10 ∧ e5 ≠ 11 ∧ e5 ≠ 12 ∧ e5 ≠ 13 ∧ e5 ≠ 14 ∧ e5 ≠ 15 ∧ e5 ≠ 16 ∧ e5 ≠ 17 ∧ e5 ≠ 18 ∧ e5 ≠ 19 ∧ e5 ≠ 20 ∧ e5 ≠ 21 ∧ e5 ≠ 22 ∧ e5 ≠ 23 ∧ e5 ≠ 24 ∧ e5 ≠ 25 ∧ e5 ≠ 26 ∧ e5 ≠ 27 ∧ e5 ≠ 28 ∧ e5 ≠ 29 ∧ e5 ≠ 30 ∧ e5 ≠ 31 ∧ e5 ≠ 32 ∧ e5 ≠ 33 ∧ e5 ≠ 34 ∧ e5 ≠ 35 ∧ e5 ≠ 36 ∧ e5 ≠ 37 ∧ e5 ≠ 38 ∧ e5 ≠ 39 ∧ e5 ≠ 40 ∧ e5 ≠ 41 ∧ e5 ≠ 42 ∧ e5 ≠ 43 ∧ e5 ≠ 44 ∧ e5 ≠ 45 ∧ e5 ≠ 46 ∧ e5 ≠ 47 ∧ e5 ≠ 48 ∧ e5 ≠ 49 ∧ e5 ≠ 50 ∧ e5 ≠ 51 ∧ e5 ≠ 52 ∧ e5 ≠ 53 ∧ e5 ≠ 54 ∧ e5 ≠ 55 ∧ e5 ≠ 56 ∧ e5 ≠ 57) by omega) with q6 | q6 | q6 | q6 | q6 | q6 | q6 | q6 | q6 | q6 | q6 | q6 | q6 | q6 | q6 | q6 | q6 | q6 | q6 | q6 | q6 | q6 | q6 | q6 | q6 | q6 | q6 | q6 | q6 | q6 | q6 | q6 | q6 | q6 | q6 | q6 | q6 | q6 | q6 | q6 | q6 | q6 | q6 | q6 | q6 | q6 | q6 | q6 | q6 | q6 | q6 | q6 | q6 | q6 | q6 | q6 | q6 | q6 | q6
    ·
      refine wr_tsw 288 (nx := 248) (r1 := 0) (r2 := 0) (r3 := 0) rfl (by rw [q6]; rfl) ?_
      refine lc_288 hcr hL (hr (by omega)) I i (by omega) (fun h2 b2 c2 I2 hb2 hc2 => ?_)
      refine wr_iinc (i := 4) (n := 6) (v := i) (fun e => [(4, vi e), (0, .ref 1000000), (1, .ref 0), (2, .ref 236), (3, .ref 259)]) (nx := 1532) (r1 := 0) (r2 := 0) (r3 := 0) rfl rfl (fun _ => rfl) (fun e fe => ?_)
      refine wi_goto (nx := 1535) (r1 := 23) (r2 := 0) (r3 := 0) rfl ?_
      refine wp.lo (lo := [(0, .ref 1000000), (1, .ref 0), (2, .ref 236), (3, .ref 259), (4, vi e)]) ⟨rfl, rfl, rfl, rfl, rfl, trivial⟩ rfl ?_
      rw [fe]
      exact k h2 b2 c2 I2 (by omega) hb2 hc2
    ·
      refine wr_tsw 364 (nx := 248) (r1 := 0) (r2 := 0) (r3 := 0) rfl (by rw [q6]; rfl) ?_
      refine lc_364 hcr hL (hr (by omega)) I i (by omega) (fun h2 b2 c2 I2 hb2 hc2 => ?_)
      refine wr_iinc (i := 4) (n := 6) (v := i) (fun e => [(4, vi e), (0, .ref 1000000), (1, .ref 0), (2, .ref 236), (3, .ref 259)]) (nx := 1532) (r1 := 0) (r2 := 0) (r3 := 0) rfl rfl (fun _ => rfl) (fun e fe => ?_)
      refine wi_goto (nx := 1535) (r1 := 23) (r2 := 0) (r3 := 0) rfl ?_
      refine wp.lo (lo := [(0, .ref 1000000), (1, .ref 0), (2, .ref 236), (3, .ref 259), (4, vi e)]) ⟨rfl, rfl, rfl, rfl, rfl, trivial⟩ rfl ?_
      rw [fe]
      exact k h2 b2 c2 I2 (by omega) hb2 hc2
    ·
      refine wr_tsw 420 (nx := 248) (r1 := 0) (r2 := 0) (r3 := 0) rfl (by rw [q6]; rfl) ?_
      refine lc_420 hcr hL (hr (by omega)) I i (by omega) (fun h2 b2 c2 I2 hb2 hc2 => ?_)
      refine wr_iinc (i := 4) (n := 6) (v := i) (fun e => [(4, vi e), (0, .ref 1000000), (1, .ref 0), (2, .ref 236), (3, .ref 259)]) (nx := 1532) (r1 := 0) (r2 := 0) (r3 := 0) rfl rfl (fun _ => rfl) (fun e fe => ?_)
      refine wi_goto (nx := 1535) (r1 := 23) (r2 := 0) (r3 := 0) rfl ?_
      refine wp.lo (lo := [(0, .ref 1000000), (1, .ref 0), (2, .ref 236), (3, .ref 259), (4, vi e)]) ⟨rfl, rfl, rfl, rfl, rfl, trivial⟩ rfl ?_
      rw [fe]
      exact k h2 b2 c2 I2 (by omega) hb2 hc2
    ·
      refine wr_tsw 436 (nx := 248) (r1 := 0) (r2 := 0) (r3 := 0) rfl (by rw [q6]; rfl) ?_
      refine lc_436 hcr hL (hr (by omega)) I i (by omega) (fun h2 b2 c2 I2 hb2 hc2 => ?_)
      refine wr_iinc (i := 4) (n := 6) (v := i) (fun e => [(4, vi e), (0, .ref 1000000), (1, .ref 0), (2, .ref 236), (3, .ref 259)]) (nx := 1532) (r1 := 0) (r2 := 0) (r3 := 0) rfl rfl (fun _ => rfl) (fun e fe => ?_)
      refine wi_goto (nx := 1535) (r1 := 23) (r2 := 0) (r3 := 0) rfl ?_
      refine wp.lo (lo := [(0, .ref 1000000), (1, .ref 0), (2, .ref 236), (3, .ref 259), (4, vi e)]) ⟨rfl, rfl, rfl, rfl, rfl, trivial⟩ rfl ?_
      rw [fe]
      exact k h2 b2 c2 I2 (by omega) hb2 hc2
    ·
      refine wr_tsw 452 (nx := 248) (r1 := 0) (r2 := 0) (r3 := 0) rfl (by rw [q6]; rfl) ?_
      refine lc_452 hcr hL (hr (by omega)) I i (by omega) (fun h2 b2 c2 I2 hb2 hc2 => ?_)
      refine wr_iinc (i := 4) (n := 6) (v := i) (fun e => [(4, vi e), (0, .ref 1000000), (1, .ref 0), (2, .ref 236), (3, .ref 259)]) (nx := 1532) (r1 := 0) (r2 := 0) (r3 := 0) rfl rfl (fun _ => rfl) (fun e fe => ?_)
      refine wi_goto (nx := 1535) (r1 := 23) (r2 := 0) (r3 := 0) rfl ?_
      refine wp.lo (lo := [(0, .ref 1000000), (1, .ref 0), (2, .ref 236), (3, .ref 259), (4, vi e)]) ⟨rfl, rfl, rfl, rfl, rfl, trivial⟩ rfl ?_
      rw [fe]
      exact k h2 b2 c2 I2 (by omega) hb2 hc2
    ·
      refine wr_tsw 465 (nx := 248) (r1 := 0) (r2 := 0) (r3 := 0) rfl (by rw [q6]; rfl) ?_
      refine lc_465 hcr hL (hr (by omega)) I i (by omega) (fun h2 b2 c2 I2 hb2 hc2 => ?_)
      refine wr_iinc (i := 4) (n := 6) (v := i) (fun e => [(4, vi e), (0, .ref 1000000), (1, .ref 0), (2, .ref 236), (3, .ref 259)]) (nx := 1532) (r1 := 0) (r2 := 0) (r3 := 0) rfl rfl (fun _ => rfl) (fun e fe => ?_)
      refine wi_goto (nx := 1535) (r1 := 23) (r2 := 0) (r3 := 0) rfl ?_
      refine wp.lo (lo := [(0, .ref 1000000), (1, .ref 0), (2, .ref 236), (3, .ref 259), (4, vi e)]) ⟨rfl, rfl, rfl, rfl, rfl, trivial⟩ rfl ?_
      rw [fe]
      exact k h2 b2 c2 I2 (by omega) hb2 hc2
    ·
      refine wr_tsw 478 (nx := 248) (r1 := 0) (r2 := 0) (r3 := 0) rfl (by rw [q6]; rfl) ?_
      refine lc_478 hcr hL (hr (by omega)) I i (by omega) (fun h2 b2 c2 I2 hb2 hc2 => ?_)
      refine wr_iinc (i := 4) (n := 6) (v := i) (fun e => [(4, vi e), (0, .ref 1000000), (1, .ref 0), (2, .ref 236), (3, .ref 259)]) (nx := 1532) (r1 := 0) (r2 := 0) (r3 := 0) rfl rfl (fun _ => rfl) (fun e fe => ?_)
      refine wi_goto (nx := 1535) (r1 := 23) (r2 := 0) (r3 := 0) rfl ?_
      refine wp.lo (lo := [(0, .ref 1000000), (1, .ref 0), (2, .ref 236), (3, .ref 259), (4, vi e)]) ⟨rfl, rfl, rfl, rfl, rfl, trivial⟩ rfl ?_
      rw [fe]
      exact k h2 b2 c2 I2 (by omega) hb2 hc2
    ·
      refine wr_tsw 506 (nx := 248) (r1 := 0) (r2 := 0) (r3 := 0) rfl (by rw [q6]; rfl) ?_
      refine lc_506 hcr hL (hr (by omega)) I i (by omega) (fun h2 b2 c2 I2 hb2 hc2 => ?_)
      refine wr_iinc (i := 4) (n := 6) (v := i) (fun e => [(4, vi e), (0, .ref 1000000), (1, .ref 0), (2, .ref 236), (3, .ref 259)]) (nx := 1532) (r1 := 0) (r2 := 0) (r3 := 0) rfl rfl (fun _ => rfl) (fun e fe => ?_)
      refine wi_goto (nx := 1535) (r1 := 23) (r2 := 0) (r3 := 0) rfl ?_
      refine wp.lo (lo := [(0, .ref 1000000), (1, .ref 0), (2, .ref 236), (3, .ref 259), (4, vi e)]) ⟨rfl, rfl, rfl, rfl, rfl, trivial⟩ rfl ?_
      rw [fe]
      exact k h2 b2 c2 I2 (by omega) hb2 hc2
    ·
      refine wr_tsw 534 (nx := 248) (r1 := 0) (r2 := 0) (r3 := 0) rfl (by rw [q6]; rfl) ?_
      refine lc_534 hcr hL (hr (by omega)) I i (by omega) (fun h2 b2 c2 I2 hb2 hc2 => ?_)
      refine wr_iinc (i := 4) (n := 6) (v := i) (fun e => [(4, vi e), (0, .ref 1000000), (1, .ref 0), (2, .ref 236), (3, .ref 259)]) (nx := 1532) (r1 := 0) (r2 := 0) (r3 := 0) rfl rfl (fun _ => rfl) (fun e fe => ?_)
      refine wi_goto (nx := 1535) (r1 := 23) (r2 := 0) (r3 := 0) rfl ?_
      refine wp.lo (lo := [(0, .ref 1000000), (1, .ref 0), (2, .ref 236), (3, .ref 259), (4, vi e)]) ⟨rfl, rfl, rfl, rfl, rfl, trivial⟩ rfl ?_
      rw [fe]
      exact k h2 b2 c2 I2 (by omega) hb2 hc2
    ·
      refine wr_tsw 562 (nx := 248) (r1 := 0) (r2 := 0) (r3 := 0) rfl (by rw [q6]; rfl) ?_
      refine lc_562 hcr hL (hr (by omega)) I i (by omega) (fun h2 b2 c2 I2 hb2 hc2 => ?_)
      refine wr_iinc (i := 4) (n := 6) (v := i) (fun e => [(4, vi e), (0, .ref 1000000), (1, .ref 0), (2, .ref 236), (3, .ref 259)]) (nx := 1532) (r1 := 0) (r2 := 0) (r3 := 0) rfl rfl (fun _ => rfl) (fun e fe => ?_)
      refine wi_goto (nx := 1535) (r1 := 23) (r2 := 0) (r3 := 0) rfl ?_
      refine wp.lo (lo := [(0, .ref 1000000), (1, .ref 0), (2, .ref 236), (3, .ref 259), (4, vi e)]) ⟨rfl, rfl, rfl, rfl, rfl, trivial⟩ rfl ?_
      rw [fe]
      exact k h2 b2 c2 I2 (by omega) hb2 hc2
    ·
      refine wr_tsw 590 (nx := 248) (r1 := 0) (r2 := 0) (r3 := 0) rfl (by rw [q6]; rfl) ?_
      refine lc_590 hcr hL (hr (by omega)) I i (by omega) (fun h2 b2 c2 I2 hb2 hc2 => ?_)
      refine wr_iinc (i := 4) (n := 6) (v := i) (fun e => [(4, vi e), (0, .ref 1000000), (1, .ref 0), (2, .ref 236), (3, .ref 259)]) (nx := 1532) (r1 := 0) (r2 := 0) (r3 := 0) rfl rfl (fun _ => rfl) (fun e fe => ?_)
      refine wi_goto (nx := 1535) (r1 := 23) (r2 := 0) (r3 := 0) rfl ?_
      refine wp.lo (lo := [(0, .ref 1000000), (1, .ref 0), (2, .ref 236), (3, .ref 259), (4, vi e)]) ⟨rfl, rfl, rfl, rfl, rfl, trivial⟩ rfl ?_
      rw [fe]
      exact k h2 b2 c2 I2 (by omega) hb2 hc2
    ·
      refine wr_tsw 618 (nx := 248) (r1 := 0) (r2 := 0) (r3 := 0) rfl (by rw [q6]; rfl) ?_
      refine lc_618 hcr hL (hr (by omega)) I i (by omega) (fun h2 b2 c2 I2 hb2 hc2 => ?_)
      refine wr_iinc (i := 4) (n := 6) (v := i) (fun e => [(4, vi e), (0, .ref 1000000), (1, .ref 0), (2, .ref 236), (3, .ref 259)]) (nx := 1532) (r1 := 0) (r2 := 0) (r3 := 0) rfl rfl (fun _ => rfl) (fun e fe => ?_)
      refine wi_goto (nx := 1535) (r1 := 23) (r2 := 0) (r3 := 0) rfl ?_
      refine wp.lo (lo := [(0, .ref 1000000), (1, .ref 0), (2, .ref 236), (3, .ref 259), (4, vi e)]) ⟨rfl, rfl, rfl, rfl, rfl, trivial⟩ rfl ?_
      rw [fe]
      exact k h2 b2 c2 I2 (by omega) hb2 hc2
    ·
      refine wr_tsw 646 (nx := 248) (r1 := 0) (r2 := 0) (r3 := 0) rfl (by rw [q6]; rfl) ?_
      refine lc_646 hcr hL (hr (by omega)) I i (by omega) (fun h2 b2 c2 I2 hb2 hc2 => ?_)
      refine wr_iinc (i := 4) (n := 6) (v := i) (fun e => [(4, vi e), (0, .ref 1000000), (1, .ref 0), (2, .ref 236), (3, .ref 259)]) (nx := 1532) (r1 := 0) (r2 := 0) (r3 := 0) rfl rfl (fun _ => rfl) (fun e fe => ?_)
      refine wi_goto (nx := 1535) (r1 := 23) (r2 := 0) (r3 := 0) rfl ?_
      refine wp.lo (lo := [(0, .ref 1000000), (1, .ref 0), (2, .ref 236), (3, .ref 259), (4, vi e)]) ⟨rfl, rfl, rfl, rfl, rfl, trivial⟩ rfl ?_
      rw [fe]
      exact k h2 b2 c2 I2 (by omega) hb2 hc2
    ·
      refine wr_tsw 659 (nx := 248) (r1 := 0) (r2 := 0) (r3 := 0) rfl (by rw [q6]; rfl) ?_
      refine lc_659 hcr hL (hr (by omega)) I i (by omega) (fun h2 b2 c2 I2 hb2 hc2 => ?_)
      refine wr_iinc (i := 4) (n := 6) (v := i) (fun e => [(4, vi e), (0, .ref 1000000), (1, .ref 0), (2, .ref 236), (3, .ref 259)]) (nx := 1532) (r1 := 0) (r2 := 0) (r3 := 0) rfl rfl (fun _ => rfl) (fun e fe => ?_)
      refine wi_goto (nx := 1535) (r1 := 23) (r2 := 0) (r3 := 0) rfl ?_
      refine wp.lo (lo := [(0, .ref 1000000), (1, .ref 0), (2, .ref 236), (3, .ref 259), (4, vi e)]) ⟨rfl, rfl, rfl, rfl, rfl, trivial⟩ rfl ?_
      rw [fe]
      exact k h2 b2 c2 I2 (by omega) hb2 hc2
    ·
      refine wr_tsw 672 (nx := 248) (r1 := 0) (r2 := 0) (r3 := 0) rfl (by rw [q6]; rfl) ?_
      refine lc_672 hcr hL (hr (by omega)) I i (by omega) (fun h2 b2 c2 I2 hb2 hc2 => ?_)
      refine wr_iinc (i := 4) (n := 6) (v := i) (fun e => [(4, vi e), (0, .ref 1000000), (1, .ref 0), (2, .ref 236), (3, .ref 259)]) (nx := 1532) (r1 := 0) (r2 := 0) (r3 := 0) rfl rfl (fun _ => rfl) (fun e fe => ?_)
      refine wi_goto (nx := 1535) (r1 := 23) (r2 := 0) (r3 := 0) rfl ?_
      refine wp.lo (lo := [(0, .ref 1000000), (1, .ref 0), (2, .ref 236), (3, .ref 259), (4, vi e)]) ⟨rfl, rfl, rfl, rfl, rfl, trivial⟩ rfl ?_
      rw [fe]
      exact k h2 b2 c2 I2 (by omega) hb2 hc2
    ·
      refine wr_tsw 700 (nx := 248) (r1 := 0) (r2 := 0) (r3 := 0) rfl (by rw [q6]; rfl) ?_
      refine lc_700 hcr hL (hr (by omega)) I i (by omega) (fun h2 b2 c2 I2 hb2 hc2 => ?_)
      refine wr_iinc (i := 4) (n := 6) (v := i) (fun e => [(4, vi e), (0, .ref 1000000), (1, .ref 0), (2, .ref 236), (3, .ref 259)]) (nx := 1532) (r1 := 0) (r2 := 0) (r3 := 0) rfl rfl (fun _ => rfl) (fun e fe => ?_)
      refine wi_goto (nx := 1535) (r1 := 23) (r2 := 0) (r3 := 0) rfl ?_
      refine wp.lo (lo := [(0, .ref 1000000), (1, .ref 0), (2, .ref 236), (3, .ref 259), (4, vi e)]) ⟨rfl, rfl, rfl, rfl, rfl, trivial⟩ rfl ?_
      rw [fe]
      exact k h2 b2 c2 I2 (by omega) hb2 hc2
    ·
      refine wr_tsw 713 (nx := 248) (r1 := 0) (r2 := 0) (r3 := 0) rfl (by rw [q6]; rfl) ?_
      refine lc_713 hcr hL (hr (by omega)) I i (by omega) (fun h2 b2 c2 I2 hb2 hc2 => ?_)
      refine wr_iinc (i := 4) (n := 6) (v := i) (fun e => [(4, vi e), (0, .ref 1000000), (1, .ref 0), (2, .ref 236), (3, .ref 259)]) (nx := 1532) (r1 := 0) (r2 := 0) (r3 := 0) rfl rfl (fun _ => rfl) (fun e fe => ?_)
      refine wi_goto (nx := 1535) (r1 := 23) (r2 := 0) (r3 := 0) rfl ?_
      refine wp.lo (lo := [(0, .ref 1000000), (1, .ref 0), (2, .ref 236), (3, .ref 259), (4, vi e)]) ⟨rfl, rfl, rfl, rfl, rfl, trivial⟩ rfl ?_
      rw [fe]
      exact k h2 b2 c2 I2 (by omega) hb2 hc2
    ·
      refine wr_tsw 741 (nx := 248) (r1 := 0) (r2 := 0) (r3 := 0) rfl (by rw [q6]; rfl) ?_
      refine lc_741 hcr hL (hr (by omega)) I i (by omega) (fun h2 b2 c2 I2 hb2 hc2 => ?_)
      refine wr_iinc (i := 4) (n := 6) (v := i) (fun e => [(4, vi e), (0, .ref 1000000), (1, .ref 0), (2, .ref 236), (3, .ref 259)]) (nx := 1532) (r1 := 0) (r2 := 0) (r3 := 0) rfl rfl (fun _ => rfl) (fun e fe => ?_)
      refine wi_goto (nx := 1535) (r1 := 23) (r2 := 0) (r3 := 0) rfl ?_
      refine wp.lo (lo := [(0, .ref 1000000), (1, .ref 0), (2, .ref 236), (3, .ref 259), (4, vi e)]) ⟨rfl, rfl, rfl, rfl, rfl, trivial⟩ rfl ?_
      rw [fe]
      exact k h2 b2 c2 I2 (by omega) hb2 hc2
    ·
      refine wr_tsw 781 (nx := 248) (r1 := 0) (r2 := 0) (r3 := 0) rfl (by rw [q6]; rfl) ?_
      refine lc_781 hcr hL (hr (by omega)) I i (by omega) (fun h2 b2 c2 I2 hb2 hc2 => ?_)
      refine wr_iinc (i := 4) (n := 6) (v := i) (fun e => [(4, vi e), (0, .ref 1000000), (1, .ref 0), (2, .ref 236), (3, .ref 259)]) (nx := 1532) (r1 := 0) (r2 := 0) (r3 := 0) rfl rfl (fun _ => rfl) (fun e fe => ?_)
      refine wi_goto (nx := 1535) (r1 := 23) (r2 := 0) (r3 := 0) rfl ?_
      refine wp.lo (lo := [(0, .ref 1000000), (1, .ref 0), (2, .ref 236), (3, .ref 259), (4, vi e)]) ⟨rfl, rfl, rfl, rfl, rfl, trivial⟩ rfl ?_
      rw [fe]
      exact k h2 b2 c2 I2 (by omega) hb2 hc2
    ·
      refine wr_tsw 806 (nx := 248) (r1 := 0) (r2 := 0) (r3 := 0) rfl (by rw [q6]; rfl) ?_
      refine lc_806 hcr hL (hr (by omega)) I i (by omega) (fun h2 b2 c2 I2 hb2 hc2 => ?_)
      refine wr_iinc (i := 4) (n := 6) (v := i) (fun e => [(4, vi e), (0, .ref 1000000), (1, .ref 0), (2, .ref 236), (3, .ref 259)]) (nx := 1532) (r1 := 0) (r2 := 0) (r3 := 0) rfl rfl (fun _ => rfl) (fun e fe => ?_)
      refine wi_goto (nx := 1535) (r1 := 23) (r2 := 0) (r3 := 0) rfl ?_
      refine wp.lo (lo := [(0, .ref 1000000), (1, .ref 0), (2, .ref 236), (3, .ref 259), (4, vi e)]) ⟨rfl, rfl, rfl, rfl, rfl, trivial⟩ rfl ?_
      rw [fe]
      exact k h2 b2 c2 I2 (by omega) hb2 hc2
    ·
      refine wr_tsw 819 (nx := 248) (r1 := 0) (r2 := 0) (r3 := 0) rfl (by rw [q6]; rfl) ?_
      refine lc_819 hcr hL (hr (by omega)) I i (by omega) (fun h2 b2 c2 I2 hb2 hc2 => ?_)
      refine wr_iinc (i := 4) (n := 6) (v := i) (fun e => [(4, vi e), (0, .ref 1000000), (1, .ref 0), (2, .ref 236), (3, .ref 259)]) (nx := 1532) (r1 := 0) (r2 := 0) (r3 := 0) rfl rfl (fun _ => rfl) (fun e fe => ?_)
      refine wi_goto (nx := 1535) (r1 := 23) (r2 := 0) (r3 := 0) rfl ?_
      refine wp.lo (lo := [(0, .ref 1000000), (1, .ref 0), (2, .ref 236), (3, .ref 259), (4, vi e)]) ⟨rfl, rfl, rfl, rfl, rfl, trivial⟩ rfl ?_
      rw [fe]
      exact k h2 b2 c2 I2 (by omega) hb2 hc2
    ·
      refine wr_tsw 832 (nx := 248) (r1 := 0) (r2 := 0) (r3 := 0) rfl (by rw [q6]; rfl) ?_
      refine lc_832 hcr hL (hr (by omega)) I i (by omega) (fun h2 b2 c2 I2 hb2 hc2 => ?_)
      refine wr_iinc (i := 4) (n := 6) (v := i) (fun e => [(4, vi e), (0, .ref 1000000), (1, .ref 0), (2, .ref 236), (3, .ref 259)]) (nx := 1532) (r1 := 0) (r2 := 0) (r3 := 0) rfl rfl (fun _ => rfl) (fun e fe => ?_)
      refine wi_goto (nx := 1535) (r1 := 23) (r2 := 0) (r3 := 0) rfl ?_
      refine wp.lo (lo := [(0, .ref 1000000), (1, .ref 0), (2, .ref 236), (3, .ref 259), (4, vi e)]) ⟨rfl, rfl, rfl, rfl, rfl, trivial⟩ rfl ?_
      rw [fe]
      exact k h2 b2 c2 I2 (by omega) hb2 hc2
    ·
      refine wr_tsw 857 (nx := 248) (r1 := 0) (r2 := 0) (r3 := 0) rfl (by rw [q6]; rfl) ?_
      refine lc_857 hcr hL (hr (by omega)) I i (by omega) (fun h2 b2 c2 I2 hb2 hc2 => ?_)
      refine wr_iinc (i := 4) (n := 6) (v := i) (fun e => [(4, vi e), (0, .ref 1000000), (1, .ref 0), (2, .ref 236), (3, .ref 259)]) (nx := 1532) (r1 := 0) (r2 := 0) (r3 := 0) rfl rfl (fun _ => rfl) (fun e fe => ?_)
      refine wi_goto (nx := 1535) (r1 := 23) (r2 := 0) (r3 := 0) rfl ?_
      refine wp.lo (lo := [(0, .ref 1000000), (1, .ref 0), (2, .ref 236), (3, .ref 259), (4, vi e)]) ⟨rfl, rfl, rfl, rfl, rfl, trivial⟩ rfl ?_
      rw [fe]
      exact k h2 b2 c2 I2 (by omega) hb2 hc2
    ·
      refine wr_tsw 885 (nx := 248) (r1 := 0) (r2 := 0) (r3 := 0) rfl (by rw [q6]; rfl) ?_
      refine lc_885 hcr hL (hr (by omega)) I i (by omega) (fun h2 b2 c2 I2 hb2 hc2 => ?_)
      refine wr_iinc (i := 4) (n := 6) (v := i) (fun e => [(4, vi e), (0, .ref 1000000), (1, .ref 0), (2, .ref 236), (3, .ref 259)]) (nx := 1532) (r1 := 0) (r2 := 0) (r3 := 0) rfl rfl (fun _ => rfl) (fun e fe => ?_)
      refine wi_goto (nx := 1535) (r1 := 23) (r2 := 0) (r3 := 0) rfl ?_
      refine wp.lo (lo := [(0, .ref 1000000), (1, .ref 0), (2, .ref 236), (3, .ref 259), (4, vi e)]) ⟨rfl, rfl, rfl, rfl, rfl, trivial⟩ rfl ?_
      rw [fe]
      exact k h2 b2 c2 I2 (by omega) hb2 hc2
    ·
      refine wr_tsw 898 (nx := 248) (r1 := 0) (r2 := 0) (r3 := 0) rfl (by rw [q6]; rfl) ?_
      refine lc_898 hcr hL (hr (by omega)) I i (by omega) (fun h2 b2 c2 I2 hb2 hc2 => ?_)
      refine wr_iinc (i := 4) (n := 6) (v := i) (fun e => [(4, vi e), (0, .ref 1000000), (1, .ref 0), (2, .ref 236), (3, .ref 259)]) (nx := 1532) (r1 := 0) (r2 := 0) (r3 := 0) rfl rfl (fun _ => rfl) (fun e fe => ?_)
      refine wi_goto (nx := 1535) (r1 := 23) (r2 := 0) (r3 := 0) rfl ?_
      refine wp.lo (lo := [(0, .ref 1000000), (1, .ref 0), (2, .ref 236), (3, .ref 259), (4, vi e)]) ⟨rfl, rfl, rfl, rfl, rfl, trivial⟩ rfl ?_
      rw [fe]
      exact k h2 b2 c2 I2 (by omega) hb2 hc2
    ·
      refine wr_tsw 911 (nx := 248) (r1 := 0) (r2 := 0) (r3 := 0) rfl (by rw [q6]; rfl) ?_
      refine lc_911 hcr hL (hr (by omega)) I i (by omega) (fun h2 b2 c2 I2 hb2 hc2 => ?_)
      refine wr_iinc (i := 4) (n := 6) (v := i) (fun e => [(4, vi e), (0, .ref 1000000), (1, .ref 0), (2, .ref 236), (3, .ref 259)]) (nx := 1532) (r1 := 0) (r2 := 0) (r3 := 0) rfl rfl (fun _ => rfl) (fun e fe => ?_)
      refine wi_goto (nx := 1535) (r1 := 23) (r2 := 0) (r3 := 0) rfl ?_
      refine wp.lo (lo := [(0, .ref 1000000), (1, .ref 0), (2, .ref 236), (3, .ref 259), (4, vi e)]) ⟨rfl, rfl, rfl, rfl, rfl, trivial⟩ rfl ?_
      rw [fe]
      exact k h2 b2 c2 I2 (by omega) hb2 hc2
    ·
      refine wr_tsw 939 (nx := 248) (r1 := 0) (r2 := 0) (r3 := 0) rfl (by rw [q6]; rfl) ?_
      refine lc_939 hcr hL (hr (by omega)) I i (by omega) (fun h2 b2 c2 I2 hb2 hc2 => ?_)
      refine wr_iinc (i := 4) (n := 6) (v := i) (fun e => [(4, vi e), (0, .ref 1000000), (1, .ref 0), (2, .ref 236), (3, .ref 259)]) (nx := 1532) (r1 := 0) (r2 := 0) (r3 := 0) rfl rfl (fun _ => rfl) (fun e fe => ?_)
      refine wi_goto (nx := 1535) (r1 := 23) (r2 := 0) (r3 := 0) rfl ?_
      refine wp.lo (lo := [(0, .ref 1000000), (1, .ref 0), (2, .ref 236), (3, .ref 259), (4, vi e)]) ⟨rfl, rfl, rfl, rfl, rfl, trivial⟩ rfl ?_
      rw [fe]
      exact k h2 b2 c2 I2 (by omega) hb2 hc2
    ·
      refine wr_tsw 952 (nx := 248) (r1 := 0) (r2 := 0) (r3 := 0) rfl (by rw [q6]; rfl) ?_
      refine lc_952 hcr hL (hr (by omega)) I i (by omega) (fun h2 b2 c2 I2 hb2 hc2 => ?_)
      refine wr_iinc (i := 4) (n := 6) (v := i) (fun e => [(4, vi e), (0, .ref 1000000), (1, .ref 0), (2, .ref 236), (3, .ref 259)]) (nx := 1532) (r1 := 0) (r2 := 0) (r3 := 0) rfl rfl (fun _ => rfl) (fun e fe => ?_)
      refine wi_goto (nx := 1535) (r1 := 23) (r2 := 0) (r3 := 0) rfl ?_
      refine wp.lo (lo := [(0, .ref 1000000), (1, .ref 0), (2, .ref 236), (3, .ref 259), (4, vi e)]) ⟨rfl, rfl, rfl, rfl, rfl, trivial⟩ rfl ?_
      rw [fe]
      exact k h2 b2 c2 I2 (by omega) hb2 hc2
    ·
      refine wr_tsw 965 (nx := 248) (r1 := 0) (r2 := 0) (r3 := 0) rfl (by rw [q6]; rfl) ?_
      refine lc_965 hcr hL (hr (by omega)) I i (by omega) (fun h2 b2 c2 I2 hb2 hc2 => ?_)
      refine wr_iinc (i := 4) (n := 6) (v := i) (fun e => [(4, vi e), (0, .ref 1000000), (1, .ref 0), (2, .ref 236), (3, .ref 259)]) (nx := 1532) (r1 := 0) (r2 := 0) (r3 := 0) rfl rfl (fun _ => rfl) (fun e fe => ?_)
      refine wi_goto (nx := 1535) (r1 := 23) (r2 := 0) (r3 := 0) rfl ?_
      refine wp.lo (lo := [(0, .ref 1000000), (1, .ref 0), (2, .ref 236), (3, .ref 259), (4, vi e)]) ⟨rfl, rfl, rfl, rfl, rfl, trivial⟩ rfl ?_
      rw [fe]
      exact k h2 b2 c2 I2 (by omega) hb2 hc2
    ·
      refine wr_tsw 978 (nx := 248) (r1 := 0) (r2 := 0) (r3 := 0) rfl (by rw [q6]; rfl) ?_
      refine lc_978 hcr hL (hr (by omega)) I i (by omega) (fun h2 b2 c2 I2 hb2 hc2 => ?_)
      refine wr_iinc (i := 4) (n := 6) (v := i) (fun e => [(4, vi e), (0, .ref 1000000), (1, .ref 0), (2, .ref 236), (3, .ref 259)]) (nx := 1532) (r1 := 0) (r2 := 0) (r3 := 0) rfl rfl (fun _ => rfl) (fun e fe => ?_)
      refine wi_goto (nx := 1535) (r1 := 23) (r2 := 0) (r3 := 0) rfl ?_
      refine wp.lo (lo := [(0, .ref 1000000), (1, .ref 0), (2, .ref 236), (3, .ref 259), (4, vi e)]) ⟨rfl, rfl, rfl, rfl, rfl, trivial⟩ rfl ?_
      rw [fe]
      exact k h2 b2 c2 I2 (by omega) hb2 hc2
    ·
      refine wr_tsw 991 (nx := 248) (r1 := 0) (r2 := 0) (r3 := 0) rfl (by rw [q6]; rfl) ?_
      refine lc_991 hcr hL (hr (by omega)) I i (by omega) (fun h2 b2 c2 I2 hb2 hc2 => ?_)
      refine wr_iinc (i := 4) (n := 6) (v := i) (fun e => [(4, vi e), (0, .ref 1000000), (1, .ref 0), (2, .ref 236), (3, .ref 259)]) (nx := 1532) (r1 := 0) (r2 := 0) (r3 := 0) rfl rfl (fun _ => rfl) (fun e fe => ?_)
      refine wi_goto (nx := 1535) (r1 := 23) (r2 := 0) (r3 := 0) rfl ?_
      refine wp.lo (lo := [(0, .ref 1000000), (1, .ref 0), (2, .ref 236), (3, .ref 259), (4, vi e)]) ⟨rfl, rfl, rfl, rfl, rfl, trivial⟩ rfl ?_
      rw [fe]
      exact k h2 b2 c2 I2 (by omega) hb2 hc2
    ·
      refine wr_tsw 1004 (nx := 248) (r1 := 0) (r2 := 0) (r3 := 0) rfl (by rw [q6]; rfl) ?_
      refine lc_1004 hcr hL (hr (by omega)) I i (by omega) (fun h2 b2 c2 I2 hb2 hc2 => ?_)
      refine wr_iinc (i := 4) (n := 6) (v := i) (fun e => [(4, vi e), (0, .ref 1000000), (1, .ref 0), (2, .ref 236), (3, .ref 259)]) (nx := 1532) (r1 := 0) (r2 := 0) (r3 := 0) rfl rfl (fun _ => rfl) (fun e fe => ?_)
      refine wi_goto (nx := 1535) (r1 := 23) (r2 := 0) (r3 := 0) rfl ?_
      refine wp.lo (lo := [(0, .ref 1000000), (1, .ref 0), (2, .ref 236), (3, .ref 259), (4, vi e)]) ⟨rfl, rfl, rfl, rfl, rfl, trivial⟩ rfl ?_
      rw [fe]
      exact k h2 b2 c2 I2 (by omega) hb2 hc2
    ·
      refine wr_tsw 1017 (nx := 248) (r1 := 0) (r2 := 0) (r3 := 0) rfl (by rw [q6]; rfl) ?_
      refine lc_1017 hcr hL (hr (by omega)) I i (by omega) (fun h2 b2 c2 I2 hb2 hc2 => ?_)
      refine wr_iinc (i := 4) (n := 6) (v := i) (fun e => [(4, vi e), (0, .ref 1000000), (1, .ref 0), (2, .ref 236), (3, .ref 259)]) (nx := 1532) (r1 := 0) (r2 := 0) (r3 := 0) rfl rfl (fun _ => rfl) (fun e fe => ?_)
      refine wi_goto (nx := 1535) (r1 := 23) (r2 := 0) (r3 := 0) rfl ?_
      refine wp.lo (lo := [(0, .ref 1000000), (1, .ref 0), (2, .ref 236), (3, .ref 259), (4, vi e)]) ⟨rfl, rfl, rfl, rfl, rfl, trivial⟩ rfl ?_
      rw [fe]
      exact k h2 b2 c2 I2 (by omega) hb2 hc2
    ·
      refine wr_tsw 1045 (nx := 248) (r1 := 0) (r2 := 0) (r3 := 0) rfl (by rw [q6]; rfl) ?_
      refine lc_1045 hcr hL (hr (by omega)) I i (by omega) (fun h2 b2 c2 I2 hb2 hc2 => ?_)
      refine wr_iinc (i := 4) (n := 6) (v := i) (fun e => [(4, vi e), (0, .ref 1000000), (1, .ref 0), (2, .ref 236), (3, .ref 259)]) (nx := 1532) (r1 := 0) (r2 := 0) (r3 := 0) rfl rfl (fun _ => rfl) (fun e fe => ?_)
      refine wi_goto (nx := 1535) (r1 := 23) (r2 := 0) (r3 := 0) rfl ?_
      refine wp.lo (lo := [(0, .ref 1000000), (1, .ref 0), (2, .ref 236), (3, .ref 259), (4, vi e)]) ⟨rfl, rfl, rfl, rfl, rfl, trivial⟩ rfl ?_
      rw [fe]
      exact k h2 b2 c2 I2 (by omega) hb2 hc2
    ·
      refine wr_tsw 1073 (nx := 248) (r1 := 0) (r2 := 0) (r3 := 0) rfl (by rw [q6]; rfl) ?_
      refine lc_1073 hcr hL (hr (by omega)) I i (by omega) (fun h2 b2 c2 I2 hb2 hc2 => ?_)
      refine wr_iinc (i := 4) (n := 6) (v := i) (fun e => [(4, vi e), (0, .ref 1000000), (1, .ref 0), (2, .ref 236), (3, .ref 259)]) (nx := 1532) (r1 := 0) (r2 := 0) (r3 := 0) rfl rfl (fun _ => rfl) (fun e fe => ?_)
      refine wi_goto (nx := 1535) (r1 := 23) (r2 := 0) (r3 := 0) rfl ?_
      refine wp.lo (lo := [(0, .ref 1000000), (1, .ref 0), (2, .ref 236), (3, .ref 259), (4, vi e)]) ⟨rfl, rfl, rfl, rfl, rfl, trivial⟩ rfl ?_
      rw [fe]
      exact k h2 b2 c2 I2 (by omega) hb2 hc2
    ·
      refine wr_tsw 1101 (nx := 248) (r1 := 0) (r2 := 0) (r3 := 0) rfl (by rw [q6]; rfl) ?_
      refine lc_1101 hcr hL (hr (by omega)) I i (by omega) (fun h2 b2 c2 I2 hb2 hc2 => ?_)
      refine wr_iinc (i := 4) (n := 6) (v := i) (fun e => [(4, vi e), (0, .ref 1000000), (1, .ref 0), (2, .ref 236), (3, .ref 259)]) (nx := 1532) (r1 := 0) (r2 := 0) (r3 := 0) rfl rfl (fun _ => rfl) (fun e fe => ?_)
      refine wi_goto (nx := 1535) (r1 := 23) (r2 := 0) (r3 := 0) rfl ?_
      refine wp.lo (lo := [(0, .ref 1000000), (1, .ref 0), (2, .ref 236), (3, .ref 259), (4, vi e)]) ⟨rfl, rfl, rfl, rfl, rfl, trivial⟩ rfl ?_
      rw [fe]
      exact k h2 b2 c2 I2 (by omega) hb2 hc2
    ·
      refine wr_tsw 1114 (nx := 248) (r1 := 0) (r2 := 0) (r3 := 0) rfl (by rw [q6]; rfl) ?_
      refine lc_1114 hcr hL (hr (by omega)) I i (by omega) (fun h2 b2 c2 I2 hb2 hc2 => ?_)
      refine wr_iinc (i := 4) (n := 6) (v := i) (fun e => [(4, vi e), (0, .ref 1000000), (1, .ref 0), (2, .ref 236), (3, .ref 259)]) (nx := 1532) (r1 := 0) (r2 := 0) (r3 := 0) rfl rfl (fun _ => rfl) (fun e fe => ?_)
      refine wi_goto (nx := 1535) (r1 := 23) (r2 := 0) (r3 := 0) rfl ?_
      refine wp.lo (lo := [(0, .ref 1000000), (1, .ref 0), (2, .ref 236), (3, .ref 259), (4, vi e)]) ⟨rfl, rfl, rfl, rfl, rfl, trivial⟩ rfl ?_
      rw [fe]
      exact k h2 b2 c2 I2 (by omega) hb2 hc2
    ·
      refine wr_tsw 1127 (nx := 248) (r1 := 0) (r2 := 0) (r3 := 0) rfl (by rw [q6]; rfl) ?_
      refine lc_1127 hcr hL (hr (by omega)) I i (by omega) (fun h2 b2 c2 I2 hb2 hc2 => ?_)
      refine wr_iinc (i := 4) (n := 6) (v := i) (fun e => [(4, vi e), (0, .ref 1000000), (1, .ref 0), (2, .ref 236), (3, .ref 259)]) (nx := 1532) (r1 := 0) (r2 := 0) (r3 := 0) rfl rfl (fun _ => rfl) (fun e fe => ?_)
      refine wi_goto (nx := 1535) (r1 := 23) (r2 := 0) (r3 := 0) rfl ?_
      refine wp.lo (lo := [(0, .ref 1000000), (1, .ref 0), (2, .ref 236), (3, .ref 259), (4, vi e)]) ⟨rfl, rfl, rfl, rfl, rfl, trivial⟩ rfl ?_
      rw [fe]
      exact k h2 b2 c2 I2 (by omega) hb2 hc2
    ·
      refine wr_tsw 1140 (nx := 248) (r1 := 0) (r2 := 0) (r3 := 0) rfl (by rw [q6]; rfl) ?_
      refine lc_1140 hcr hL (hr (by omega)) I i (by omega) (fun h2 b2 c2 I2 hb2 hc2 => ?_)
      refine wr_iinc (i := 4) (n := 6) (v := i) (fun e => [(4, vi e), (0, .ref 1000000), (1, .ref 0), (2, .ref 236), (3, .ref 259)]) (nx := 1532) (r1 := 0) (r2 := 0) (r3 := 0) rfl rfl (fun _ => rfl) (fun e fe => ?_)
      refine wi_goto (nx := 1535) (r1 := 23) (r2 := 0) (r3 := 0) rfl ?_
      refine wp.lo (lo := [(0, .ref 1000000), (1, .ref 0), (2, .ref 236), (3, .ref 259), (4, vi e)]) ⟨rfl, rfl, rfl, rfl, rfl, trivial⟩ rfl ?_
      rw [fe]
      exact k h2 b2 c2 I2 (by omega) hb2 hc2
    ·
      refine wr_tsw 1153 (nx := 248) (r1 := 0) (r2 := 0) (r3 := 0) rfl (by rw [q6]; rfl) ?_
      refine lc_1153 hcr hL (hr (by omega)) I i (by omega) (fun h2 b2 c2 I2 hb2 hc2 => ?_)
      refine wr_iinc (i := 4) (n := 6) (v := i) (fun e => [(4, vi e), (0, .ref 1000000), (1, .ref 0), (2, .ref 236), (3, .ref 259)]) (nx := 1532) (r1 := 0) (r2 := 0) (r3 := 0) rfl rfl (fun _ => rfl) (fun e fe => ?_)
      refine wi_goto (nx := 1535) (r1 := 23) (r2 := 0) (r3 := 0) rfl ?_
      refine wp.lo (lo := [(0, .ref 1000000), (1, .ref 0), (2, .ref 236), (3, .ref 259), (4, vi e)]) ⟨rfl, rfl, rfl, rfl, rfl, trivial⟩ rfl ?_
      rw [fe]
      exact k h2 b2 c2 I2 (by omega) hb2 hc2
    ·
      refine wr_tsw 1181 (nx := 248) (r1 := 0) (r2 := 0) (r3 := 0) rfl (by rw [q6]; rfl) ?_
      refine lc_1181 hcr hL (hr (by omega)) I i (by omega) (fun h2 b2 c2 I2 hb2 hc2 => ?_)
      refine wr_iinc (i := 4) (n := 6) (v := i) (fun e => [(4, vi e), (0, .ref 1000000), (1, .ref 0), (2, .ref 236), (3, .ref 259)]) (nx := 1532) (r1 := 0) (r2 := 0) (r3 := 0) rfl rfl (fun _ => rfl) (fun e fe => ?_)
      refine wi_goto (nx := 1535) (r1 := 23) (r2 := 0) (r3 := 0) rfl ?_
      refine wp.lo (lo := [(0, .ref 1000000), (1, .ref 0), (2, .ref 236), (3, .ref 259), (4, vi e)]) ⟨rfl, rfl, rfl, rfl, rfl, trivial⟩ rfl ?_
      rw [fe]
      exact k h2 b2 c2 I2 (by omega) hb2 hc2
    ·
      refine wr_tsw 1209 (nx := 248) (r1 := 0) (r2 := 0) (r3 := 0) rfl (by rw [q6]; rfl) ?_
      refine lc_1209 hcr hL (hr (by omega)) I i (by omega) (fun h2 b2 c2 I2 hb2 hc2 => ?_)
      refine wr_iinc (i := 4) (n := 6) (v := i) (fun e => [(4, vi e), (0, .ref 1000000), (1, .ref 0), (2, .ref 236), (3, .ref 259)]) (nx := 1532) (r1 := 0) (r2 := 0) (r3 := 0) rfl rfl (fun _ => rfl) (fun e fe => ?_)
      refine wi_goto (nx := 1535) (r1 := 23) (r2 := 0) (r3 := 0) rfl ?_
      refine wp.lo (lo := [(0, .ref 1000000), (1, .ref 0), (2, .ref 236), (3, .ref 259), (4, vi e)]) ⟨rfl, rfl, rfl, rfl, rfl, trivial⟩ rfl ?_
      rw [fe]
      exact k h2 b2 c2 I2 (by omega) hb2 hc2
    ·
      refine wr_tsw 1237 (nx := 248) (r1 := 0) (r2 := 0) (r3 := 0) rfl (by rw [q6]; rfl) ?_
      refine lc_1237 hcr hL (hr (by omega)) I i (by omega) (fun h2 b2 c2 I2 hb2 hc2 => ?_)
      refine wr_iinc (i := 4) (n := 6) (v := i) (fun e => [(4, vi e), (0, .ref 1000000), (1, .ref 0), (2, .ref 236), (3, .ref 259)]) (nx := 1532) (r1 := 0) (r2 := 0) (r3 := 0) rfl rfl (fun _ => rfl) (fun e fe => ?_)
      refine wi_goto (nx := 1535) (r1 := 23) (r2 := 0) (r3 := 0) rfl ?_
      refine wp.lo (lo := [(0, .ref 1000000), (1, .ref 0), (2, .ref 236), (3, .ref 259), (4, vi e)]) ⟨rfl, rfl, rfl, rfl, rfl, trivial⟩ rfl ?_
      rw [fe]
      exact k h2 b2 c2 I2 (by omega) hb2 hc2
    ·
      refine wr_tsw 1265 (nx := 248) (r1 := 0) (r2 := 0) (r3 := 0) rfl (by rw [q6]; rfl) ?_
      refine lc_1265 hcr hL (hr (by omega)) I i (by omega) (fun h2 b2 c2 I2 hb2 hc2 => ?_)
      refine wr_iinc (i := 4) (n := 6) (v := i) (fun e => [(4, vi e), (0, .ref 1000000), (1, .ref 0), (2, .ref 236), (3, .ref 259)]) (nx := 1532) (r1 := 0) (r2 := 0) (r3 := 0) rfl rfl (fun _ => rfl) (fun e fe => ?_)
      refine wi_goto (nx := 1535) (r1 := 23) (r2 := 0) (r3 := 0) rfl ?_
      refine wp.lo (lo := [(0, .ref 1000000), (1, .ref 0), (2, .ref 236), (3, .ref 259), (4, vi e)]) ⟨rfl, rfl, rfl, rfl, rfl, trivial⟩ rfl ?_
      rw [fe]
      exact k h2 b2 c2 I2 (by omega) hb2 hc2
    ·
      refine wr_tsw 1278 (nx := 248) (r1 := 0) (r2 := 0) (r3 := 0) rfl (by rw [q6]; rfl) ?_
      refine lc_1278 hcr hL (hr (by omega)) I i (by omega) (fun h2 b2 c2 I2 hb2 hc2 => ?_)
      refine wr_iinc (i := 4) (n := 6) (v := i) (fun e => [(4, vi e), (0, .ref 1000000), (1, .ref 0), (2, .ref 236), (3, .ref 259)]) (nx := 1532) (r1 := 0) (r2 := 0) (r3 := 0) rfl rfl (fun _ => rfl) (fun e fe => ?_)
      refine wi_goto (nx := 1535) (r1 := 23) (r2 := 0) (r3 := 0) rfl ?_
      refine wp.lo (lo := [(0, .ref 1000000), (1, .ref 0), (2, .ref 236), (3, .ref 259), (4, vi e)]) ⟨rfl, rfl, rfl, rfl, rfl, trivial⟩ rfl ?_
      rw [fe]
      exact k h2 b2 c2 I2 (by omega) hb2 hc2
    ·
      refine wr_tsw 1291 (nx := 248) (r1 := 0) (r2 := 0) (r3 := 0) rfl (by rw [q6]; rfl) ?_
      refine lc_1291 hcr hL (hr (by omega)) I i (by omega) (fun h2 b2 c2 I2 hb2 hc2 => ?_)
      refine wr_iinc (i := 4) (n := 6) (v := i) (fun e => [(4, vi e), (0, .ref 1000000), (1, .ref 0), (2, .ref 236), (3, .ref 259)]) (nx := 1532) (r1 := 0) (r2 := 0) (r3 := 0) rfl rfl (fun _ => rfl) (fun e fe => ?_)
      refine wi_goto (nx := 1535) (r1 := 23) (r2 := 0) (r3 := 0) rfl ?_
      refine wp.lo (lo := [(0, .ref 1000000), (1, .ref 0), (2, .ref 236), (3, .ref 259), (4, vi e)]) ⟨rfl, rfl, rfl, rfl, rfl, trivial⟩ rfl ?_
      rw [fe]
      exact k h2 b2 c2 I2 (by omega) hb2 hc2
    ·
      refine wr_tsw 1316 (nx := 248) (r1 := 0) (r2 := 0) (r3 := 0) rfl (by rw [q6]; rfl) ?_
      refine lc_1316 hcr hL (hr (by omega)) I i (by omega) (fun h2 b2 c2 I2 hb2 hc2 => ?_)
      refine wr_iinc (i := 4) (n := 6) (v := i) (fun e => [(4, vi e), (0, .ref 1000000), (1, .ref 0), (2, .ref 236), (3, .ref 259)]) (nx := 1532) (r1 := 0) (r2 := 0) (r3 := 0) rfl rfl (fun _ => rfl) (fun e fe => ?_)
      refine wi_goto (nx := 1535) (r1 := 23) (r2 := 0) (r3 := 0) rfl ?_
      refine wp.lo (lo := [(0, .ref 1000000), (1, .ref 0), (2, .ref 236), (3, .ref 259), (4, vi e)]) ⟨rfl, rfl, rfl, rfl, rfl, trivial⟩ rfl ?_
      rw [fe]
      exact k h2 b2 c2 I2 (by omega) hb2 hc2
    ·
      refine wr_tsw 1329 (nx := 248) (r1 := 0) (r2 := 0) (r3 := 0) rfl (by rw [q6]; rfl) ?_
      refine lc_1329 hcr hL (hr (by omega)) I i (by omega) (fun h2 b2 c2 I2 hb2 hc2 => ?_)
      refine wr_iinc (i := 4) (n := 6) (v := i) (fun e => [(4, vi e), (0, .ref 1000000), (1, .ref 0), (2, .ref 236), (3, .ref 259)]) (nx := 1532) (r1 := 0) (r2 := 0) (r3 := 0) rfl rfl (fun _ => rfl) (fun e fe => ?_)
      refine wi_goto (nx := 1535) (r1 := 23) (r2 := 0) (r3 := 0) rfl ?_
      refine wp.lo (lo := [(0, .ref 1000000), (1, .ref 0), (2, .ref 236), (3, .ref 259), (4, vi e)]) ⟨rfl, rfl, rfl, rfl, rfl, trivial⟩ rfl ?_
      rw [fe]
      exact k h2 b2 c2 I2 (by omega) hb2 hc2
    ·
      refine wr_tsw 1342 (nx := 248) (r1 := 0) (r2 := 0) (r3 := 0) rfl (by rw [q6]; rfl) ?_
      refine lc_1342 hcr hL (hr (by omega)) I i (by omega) (fun h2 b2 c2 I2 hb2 hc2 => ?_)
      refine wr_iinc (i := 4) (n := 6) (v := i) (fun e => [(4, vi e), (0, .ref 1000000), (1, .ref 0), (2, .ref 236), (3, .ref 259)]) (nx := 1532) (r1 := 0) (r2 := 0) (r3 := 0) rfl rfl (fun _ => rfl) (fun e fe => ?_)
      refine wi_goto (nx := 1535) (r1 := 23) (r2 := 0) (r3 := 0) rfl ?_
      refine wp.lo (lo := [(0, .ref 1000000), (1, .ref 0), (2, .ref 236), (3, .ref 259), (4, vi e)]) ⟨rfl, rfl, rfl, rfl, rfl, trivial⟩ rfl ?_
      rw [fe]
      exact k h2 b2 c2 I2 (by omega) hb2 hc2
    ·
      refine wr_tsw 1355 (nx := 248) (r1 := 0) (r2 := 0) (r3 := 0) rfl (by rw [q6]; rfl) ?_
      refine lc_1355 hcr hL (hr (by omega)) I i (by omega) (fun h2 b2 c2 I2 hb2 hc2 => ?_)
      refine wr_iinc (i := 4) (n := 6) (v := i) (fun e => [(4, vi e), (0, .ref 1000000), (1, .ref 0), (2, .ref 236), (3, .ref 259)]) (nx := 1532) (r1 := 0) (r2 := 0) (r3 := 0) rfl rfl (fun _ => rfl) (fun e fe => ?_)
      refine wi_goto (nx := 1535) (r1 := 23) (r2 := 0) (r3 := 0) rfl ?_
      refine wp.lo (lo := [(0, .ref 1000000), (1, .ref 0), (2, .ref 236), (3, .ref 259), (4, vi e)]) ⟨rfl, rfl, rfl, rfl, rfl, trivial⟩ rfl ?_
      rw [fe]
      exact k h2 b2 c2 I2 (by omega) hb2 hc2
    ·
      refine wr_tsw 1368 (nx := 248) (r1 := 0) (r2 := 0) (r3 := 0) rfl (by rw [q6]; rfl) ?_
      refine lc_1368 hcr hL (hr (by omega)) I i (by omega) (fun h2 b2 c2 I2 hb2 hc2 => ?_)
      refine wr_iinc (i := 4) (n := 6) (v := i) (fun e => [(4, vi e), (0, .ref 1000000), (1, .ref 0), (2, .ref 236), (3, .ref 259)]) (nx := 1532) (r1 := 0) (r2 := 0) (r3 := 0) rfl rfl (fun _ => rfl) (fun e fe => ?_)
      refine wi_goto (nx := 1535) (r1 := 23) (r2 := 0) (r3 := 0) rfl ?_
      refine wp.lo (lo := [(0, .ref 1000000), (1, .ref 0), (2, .ref 236), (3, .ref 259), (4, vi e)]) ⟨rfl, rfl, rfl, rfl, rfl, trivial⟩ rfl ?_
      rw [fe]
      exact k h2 b2 c2 I2 (by omega) hb2 hc2
    ·
      refine wr_tsw 1393 (nx := 248) (r1 := 0) (r2 := 0) (r3 := 0) rfl (by rw [q6]; rfl) ?_
      refine lc_1393 hcr hL (hr (by omega)) I i (by omega) (fun h2 b2 c2 I2 hb2 hc2 => ?_)
      refine wr_iinc (i := 4) (n := 6) (v := i) (fun e => [(4, vi e), (0, .ref 1000000), (1, .ref 0), (2, .ref 236), (3, .ref 259)]) (nx := 1532) (r1 := 0) (r2 := 0) (r3 := 0) rfl rfl (fun _ => rfl) (fun e fe => ?_)
      refine wi_goto (nx := 1535) (r1 := 23) (r2 := 0) (r3 := 0) rfl ?_
      refine wp.lo (lo := [(0, .ref 1000000), (1, .ref 0), (2, .ref 236), (3, .ref 259), (4, vi e)]) ⟨rfl, rfl, rfl, rfl, rfl, trivial⟩ rfl ?_
      rw [fe]
      exact k h2 b2 c2 I2 (by omega) hb2 hc2
    ·
      refine wr_tsw 1406 (nx := 248) (r1 := 0) (r2 := 0) (r3 := 0) rfl (by rw [q6]; rfl) ?_
      refine lc_1406 hcr hL (hr (by omega)) I i (by omega) (fun h2 b2 c2 I2 hb2 hc2 => ?_)
      refine wr_iinc (i := 4) (n := 6) (v := i) (fun e => [(4, vi e), (0, .ref 1000000), (1, .ref 0), (2, .ref 236), (3, .ref 259)]) (nx := 1532) (r1 := 0) (r2 := 0) (r3 := 0) rfl rfl (fun _ => rfl) (fun e fe => ?_)
      refine wi_goto (nx := 1535) (r1 := 23) (r2 := 0) (r3 := 0) rfl ?_
      refine wp.lo (lo := [(0, .ref 1000000), (1, .ref 0), (2, .ref 236), (3, .ref 259), (4, vi e)]) ⟨rfl, rfl, rfl, rfl, rfl, trivial⟩ rfl ?_
      rw [fe]
      exact k h2 b2 c2 I2 (by omega) hb2 hc2
    ·
      refine wr_tsw 1446 (nx := 248) (r1 := 0) (r2 := 0) (r3 := 0) rfl (by rw [q6]; rfl) ?_
      refine lc_1446 hcr hL (hr (by omega)) I i (by omega) (fun h2 b2 c2 I2 hb2 hc2 => ?_)
      refine wr_iinc (i := 4) (n := 6) (v := i) (fun e => [(4, vi e), (0, .ref 1000000), (1, .ref 0), (2, .ref 236), (3, .ref 259)]) (nx := 1532) (r1 := 0) (r2 := 0) (r3 := 0) rfl rfl (fun _ => rfl) (fun e fe => ?_)
      refine wi_goto (nx := 1535) (r1 := 23) (r2 := 0) (r3 := 0) rfl ?_
      refine wp.lo (lo := [(0, .ref 1000000), (1, .ref 0), (2, .ref 236), (3, .ref 259), (4, vi e)]) ⟨rfl, rfl, rfl, rfl, rfl, trivial⟩ rfl ?_
      rw [fe]
      exact k h2 b2 c2 I2 (by omega) hb2 hc2
    ·
      refine wr_tsw 1459 (nx := 248) (r1 := 0) (r2 := 0) (r3 := 0) rfl (by rw [q6]; rfl) ?_
      refine lc_1459 hcr hL (hr (by omega)) I i (by omega) (fun h2 b2 c2 I2 hb2 hc2 => ?_)
      refine wr_iinc (i := 4) (n := 6) (v := i) (fun e => [(4, vi e), (0, .ref 1000000), (1, .ref 0), (2, .ref 236), (3, .ref 259)]) (nx := 1532) (r1 := 0) (r2 := 0) (r3 := 0) rfl rfl (fun _ => rfl) (fun e fe => ?_)
      refine wi_goto (nx := 1535) (r1 := 23) (r2 := 0) (r3 := 0) rfl ?_
      refine wp.lo (lo := [(0, .ref 1000000), (1, .ref 0), (2, .ref 236), (3, .ref 259), (4, vi e)]) ⟨rfl, rfl, rfl, rfl, rfl, trivial⟩ rfl ?_
      rw [fe]
      exact k h2 b2 c2 I2 (by omega) hb2 hc2
    ·
      refine wr_tsw 1487 (nx := 248) (r1 := 0) (r2 := 0) (r3 := 0) rfl (by rw [q6]; rfl) ?_
      refine lc_1487 hcr hL (hr (by omega)) I i (by omega) (fun h2 b2 c2 I2 hb2 hc2 => ?_)
      refine wr_iinc (i := 4) (n := 6) (v := i) (fun e => [(4, vi e), (0, .ref 1000000), (1, .ref 0), (2, .ref 236), (3, .ref 259)]) (nx := 1532) (r1 := 0) (r2 := 0) (r3 := 0) rfl rfl (fun _ => rfl) (fun e fe => ?_)
      refine wi_goto (nx := 1535) (r1 := 23) (r2 := 0) (r3 := 0) rfl ?_
      refine wp.lo (lo := [(0, .ref 1000000), (1, .ref 0), (2, .ref 236), (3, .ref 259), (4, vi e)]) ⟨rfl, rfl, rfl, rfl, rfl, trivial⟩ rfl ?_
      rw [fe]
      exact k h2 b2 c2 I2 (by omega) hb2 hc2
    ·
      refine wr_tsw 1500 (nx := 248) (r1 := 0) (r2 := 0) (r3 := 0) rfl (by rw [q6]; rfl) ?_
      refine lc_1500 hcr hL (hr (by omega)) I i (by omega) (fun h2 b2 c2 I2 hb2 hc2 => ?_)
      refine wr_iinc (i := 4) (n := 6) (v := i) (fun e => [(4, vi e), (0, .ref 1000000), (1, .ref 0), (2, .ref 236), (3, .ref 259)]) (nx := 1532) (r1 := 0) (r2 := 0) (r3 := 0) rfl rfl (fun _ => rfl) (fun e fe => ?_)
      refine wi_goto (nx := 1535) (r1 := 23) (r2 := 0) (r3 := 0) rfl ?_
      refine wp.lo (lo := [(0, .ref 1000000), (1, .ref 0), (2, .ref 236), (3, .ref 259), (4, vi e)]) ⟨rfl, rfl, rfl, rfl, rfl, trivial⟩ rfl ?_
      rw [fe]
      exact k h2 b2 c2 I2 (by omega) hb2 hc2
    ·
      refine wr_tsw 1513 (nx := 248) (r1 := 0) (r2 := 0) (r3 := 0) rfl (by rw [q6]; rfl) ?_
      refine lc_1513 hcr hL (hr (by omega)) I i (by omega) (fun h2 b2 c2 I2 hb2 hc2 => ?_)
      refine wr_iinc (i := 4) (n := 6) (v := i) (fun e => [(4, vi e), (0, .ref 1000000), (1, .ref 0), (2, .ref 236), (3, .ref 259)]) (nx := 1532) (r1 := 0) (r2 := 0) (r3 := 0) rfl rfl (fun _ => rfl) (fun e fe => ?_)
      refine wi_goto (nx := 1535) (r1 := 23) (r2 := 0) (r3 := 0) rfl ?_
      refine wp.lo (lo := [(0, .ref 1000000), (1, .ref 0), (2, .ref 236), (3, .ref 259), (4, vi e)]) ⟨rfl, rfl, rfl, rfl, rfl, trivial⟩ rfl ?_
      rw [fe]
      exact k h2 b2 c2 I2 (by omega) hb2 hc2
    ·
      refine wr_tswD 1529 (nx := 248) (r1 := 0) (r2 := 0) (r3 := 0) rfl (by omega) (by omega) rfl ?_
      refine lc_1529 hcr hL (hr (by omega)) I i (by omega) (fun h2 b2 c2 I2 hb2 hc2 => ?_)
      refine wr_iinc (i := 4) (n := 6) (v := i) (fun e => [(4, vi e), (0, .ref 1000000), (1, .ref 0), (2, .ref 236), (3, .ref 259)]) (nx := 1532) (r1 := 0) (r2 := 0) (r3 := 0) rfl rfl (fun _ => rfl) (fun e fe => ?_)
      refine wi_goto (nx := 1535) (r1 := 23) (r2 := 0) (r3 := 0) rfl ?_
      refine wp.lo (lo := [(0, .ref 1000000), (1, .ref 0), (2, .ref 236), (3, .ref 259), (4, vi e)]) ⟨rfl, rfl, rfl, rfl, rfl, trivial⟩ rfl ?_
      rw [fe]
      exact k h2 b2 c2 I2 (by omega) hb2 hc2
