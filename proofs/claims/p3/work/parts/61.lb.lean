-- the law, case at 672
set_option maxRecDepth 100000 in
set_option maxHeartbeats 100000000 in
theorem lc_672 {L : Nat} {xs : Nat → Int32} {d b c : Nat} {h : hp} {cr : Nat → Nat → Option Nat} {Q : hp_Q} (hcr : CR cr) (hL : L ≤ 3072) (hr : 1 ≤ b ∧ 6 ≤ c) (I : LI h) (i : Int) (hi : 0 ≤ i ∧ i + 6 ≤ L) (k : ∀ (h2 : hp) (b2 c2 : Nat), LI h2 → b ≤ b2 + 1 → c ≤ c2 + 6 → wp (md_xa (L, xs)) (d + 107) 0 (1529, [(0, .ref 1000000), (1, .ref 0), (2, .ref 236), (3, .ref 259), (4, vi i)], [], hp_w h2 cr, b2, c2) Q) : wp (md_xa (L, xs)) (d + 107) 0 (672, [(0, .ref 1000000), (1, .ref 0), (2, .ref 236), (3, .ref 259), (4, vi i)], [], hp_w h cr, b, c) Q := by
  obtain ⟨g, i11, r238, r241, gp0⟩ := I
  have r238e := r238.e0
  have r241e := r241.e0
  have b1 := gi_b (lo := 0) (hi := 6) g 238 98 rfl
  have b2 := gi_b (lo := 0) (hi := 6) g 238 99 rfl
  have b3 := gi_b (lo := 0) (hi := 6) g 238 100 rfl
  have b4 := gi_b (lo := 0) (hi := 6) g 238 101 rfl
  have b5 := gi_b (lo := 0) (hi := 3) g 238 102 rfl
  have b6 := gi_b (lo := 0) (hi := 12) g 238 106 rfl
  have b7 := gi_b (lo := 0) (hi := 12) g 238 73 rfl
  have b8 := gi_b (lo := 0) (hi := 12) g 238 2 rfl
  have b9 := gi_b (lo := 0) (hi := 9999) g 238 119 rfl
  have b10 := gi_b (lo := 0) (hi := 9999) g 238 67 rfl
  have b11 := gi_b (lo := 0) (hi := 9) g 238 69 rfl
  have b12 := gi_b (lo := 0) (hi := 9) g 238 5 rfl
  have b13 := gi_b (lo := 0) (hi := 6) g 241 98 rfl
  have b14 := gi_b (lo := 0) (hi := 6) g 241 99 rfl
  have b15 := gi_b (lo := 0) (hi := 6) g 241 100 rfl
  have b16 := gi_b (lo := 0) (hi := 6) g 241 101 rfl
  have b17 := gi_b (lo := 0) (hi := 3) g 241 102 rfl
  have b18 := gi_b (lo := 0) (hi := 12) g 241 106 rfl
  have b19 := gi_b (lo := 0) (hi := 12) g 241 73 rfl
  have b20 := gi_b (lo := 0) (hi := 12) g 241 2 rfl
  have b21 := gi_b (lo := 0) (hi := 9999) g 241 119 rfl
  have b22 := gi_b (lo := 0) (hi := 9999) g 241 67 rfl
  have b23 := gi_b (lo := 0) (hi := 9) g 241 69 rfl
  have b24 := gi_b (lo := 0) (hi := 9) g 241 5 rfl
  have b25 := gi_b (lo := 0) (hi := 800) g 1 1 rfl
  have b26 := gi_b (lo := 0) (hi := 800) g 236 2 rfl
  refine wi_aload_n (i := 1) (x := 0) (nx := 673) (r1 := 0) (r2 := 0) (r3 := 0) rfl rfl ?_
  refine wi_aload_n (i := 0) (x := 1000000) (nx := 674) (r1 := 0) (r2 := 0) (r3 := 0) rfl rfl ?_
  refine wi_iload (i := 4) (e := i) (nx := 676) (r1 := 0) (r2 := 0) (r3 := 0) rfl rfl ?_
  refine wi_iconst (n := 1) (nx := 677) (r1 := 0) (r2 := 0) (r3 := 0) rfl ?_
  refine wr_add (nx := 678) (r1 := 0) (r2 := 0) (r3 := 0) rfl (fun e27 (fe27 : e27 = i + 1) => ?_)
  obtain ⟨i28, ei28⟩ : ∃ q : Nat, e27 = (q : Int) := ⟨(e27).toNat, by omega⟩
  have s29 := sc_b (xs i28)
  refine wr_sc (a := e27) (f := i28) (nx := 679) (r1 := 0) (r2 := 0) (r3 := 0) rfl (by omega) (by omega) hL ?_
  refine wi_aload_n (i := 3) (x := 259) (nx := 680) (r1 := 0) (r2 := 0) (r3 := 0) rfl rfl ?_
  refine wi_S (rest := []) (as := [.ref 0, vi ((xs i28).toInt), .ref 259]) (nx := 683) (r1 := 11) (r2 := 19) (r3 := 0) rfl rfl rfl (of_decide_eq_true rfl) rfl rfl (of_decide_eq_true rfl) (of_decide_eq_true rfl) ?_
  refine wi_aload_n (i := 2) (x := 259) (nx := 1) (r1 := 0) (r2 := 0) (r3 := 0) rfl rfl ?_
  refine wi_iconst (n := 0) (nx := 2) (r1 := 0) (r2 := 0) (r3 := 0) rfl ?_
  refine wi_aload_n (i := 0) (x := 0) (nx := 3) (r1 := 0) (r2 := 0) (r3 := 0) rfl rfl ?_
  refine wi_iload_n (i := 1) (e := (xs i28).toInt) (nx := 4) (r1 := 0) (r2 := 0) (r3 := 0) rfl rfl ?_
  refine wr_V (k0 := 0) (rest := [vi 0, .ref 259]) (as := [.ref 0, vi ((xs i28).toInt)]) (nx := 7) (r1 := 73) (r2 := 1) (r3 := 0) rfl rfl rfl (of_decide_eq_true rfl) rfl rfl (by decide) rfl rfl (of_decide_eq_true rfl) (of_decide_eq_true rfl) ?_
  refine ct_73_0 hcr hr  g ((xs i28).toInt) (by omega)  (fun z31  (fz31 : 0 ≤ z31 ∧ z31 ≤ 3) => ?_) ?_
  ·
    refine wk_i ?_
    refine wi_i2l (nx := 8) (r1 := 0) (r2 := 0) (r3 := 0) rfl (by omega) ?_
    refine wr_ls (k0 := 259) (a := 0) (f := 0) (x := z31) (bl := -9223372036854775808) (bh := 9223372036854775807) (nx := 9) (r1 := 0) (r2 := 0) (r3 := 0) rfl (by decide) rfl (by omega) (by omega) (by decide) g rfl (by omega) (fun h32 g32 w32 u32 => ?_)
    refine wi_goto (nx := 12) (r1 := 15) (r2 := 0) (r3 := 0) rfl ?_
    refine wi_iconst (n := 0) (nx := 16) (r1 := 0) (r2 := 0) (r3 := 0) rfl ?_
    refine wi_ireturn (nx := 17) (r1 := 0) (r2 := 0) (r3 := 0) rfl rfl ?_
    refine wk_i ?_
    refine wi_istore (i := 5) (e := 0) (lo2 := [(5, vi 0), (0, .ref 1000000), (1, .ref 0), (2, .ref 236), (3, .ref 259), (4, vi i)]) (nx := 685) (r1 := 0) (r2 := 0) (r3 := 0) rfl rfl ?_
    refine wi_aload_n (i := 2) (x := 236) (nx := 686) (r1 := 0) (r2 := 0) (r3 := 0) rfl rfl ?_
    refine wi_aload_n (i := 0) (x := 1000000) (nx := 687) (r1 := 0) (r2 := 0) (r3 := 0) rfl rfl ?_
    refine wi_iload (i := 4) (e := i) (nx := 689) (r1 := 0) (r2 := 0) (r3 := 0) rfl rfl ?_
    refine wi_iconst (n := 1) (nx := 690) (r1 := 0) (r2 := 0) (r3 := 0) rfl ?_
    refine wr_add (nx := 691) (r1 := 0) (r2 := 0) (r3 := 0) rfl (fun e33 (fe33 : e33 = i + 1) => ?_)
    refine wr_sc (a := e33) (f := i28) (nx := 692) (r1 := 0) (r2 := 0) (r3 := 0) rfl (by omega) (by omega) hL ?_
    refine wr_V (k0 := 236) (rest := []) (as := [.ref 236, vi ((xs i28).toInt)]) (nx := 695) (r1 := 251) (r2 := 1) (r3 := 11) rfl rfl rfl (of_decide_eq_true rfl) rfl rfl (by decide) rfl rfl (of_decide_eq_true rfl) (of_decide_eq_true rfl) ?_
    refine ct_251_236 hcr  g32 ((xs i28).toInt) (by omega)  (fun h34 z35 g34 u34 (fz35 : 0 ≤ z35 ∧ z35 ≤ 3) => ?_)
    refine wk_i ?_
    refine wi_istore (i := 6) (e := z35) (lo2 := [(6, vi z35), (5, vi 0), (0, .ref 1000000), (1, .ref 0), (2, .ref 236), (3, .ref 259), (4, vi i)]) (nx := 697) (r1 := 0) (r2 := 0) (r3 := 0) rfl rfl ?_
    refine wi_goto (nx := 700) (r1 := 1529) (r2 := 0) (r3 := 0) rfl ?_
    refine wp.lo (lo := [(0, .ref 1000000), (1, .ref 0), (2, .ref 236), (3, .ref 259), (4, vi i)]) ⟨rfl, rfl, rfl, rfl, rfl, trivial⟩ rfl ?_
    have e36 : h34 238 98 = h 238 98 := ((u34 238 98 rfl).trans (u32 238 98 rfl))
    have e37 : h34 238 99 = h 238 99 := ((u34 238 99 rfl).trans (u32 238 99 rfl))
    have e38 : h34 238 100 = h 238 100 := ((u34 238 100 rfl).trans (u32 238 100 rfl))
    have e39 : h34 238 101 = h 238 101 := ((u34 238 101 rfl).trans (u32 238 101 rfl))
    have e40 : h34 238 102 = h 238 102 := ((u34 238 102 rfl).trans (u32 238 102 rfl))
    have e41 : h34 238 106 = h 238 106 := ((u34 238 106 rfl).trans (u32 238 106 rfl))
    have e42 : h34 238 73 = h 238 73 := ((u34 238 73 rfl).trans (u32 238 73 rfl))
    have e43 : h34 238 2 = h 238 2 := ((u34 238 2 rfl).trans (u32 238 2 rfl))
    have e44 : h34 238 119 = h 238 119 := ((u34 238 119 rfl).trans (u32 238 119 rfl))
    have e45 : h34 238 67 = h 238 67 := ((u34 238 67 rfl).trans (u32 238 67 rfl))
    have e46 : h34 238 69 = h 238 69 := ((u34 238 69 rfl).trans (u32 238 69 rfl))
    have e47 : h34 238 5 = h 238 5 := ((u34 238 5 rfl).trans (u32 238 5 rfl))
    have e48 : h34 241 98 = h 241 98 := ((u34 241 98 rfl).trans (u32 241 98 rfl))
    have e49 : h34 241 99 = h 241 99 := ((u34 241 99 rfl).trans (u32 241 99 rfl))
    have e50 : h34 241 100 = h 241 100 := ((u34 241 100 rfl).trans (u32 241 100 rfl))
    have e51 : h34 241 101 = h 241 101 := ((u34 241 101 rfl).trans (u32 241 101 rfl))
    have e52 : h34 241 102 = h 241 102 := ((u34 241 102 rfl).trans (u32 241 102 rfl))
    have e53 : h34 241 106 = h 241 106 := ((u34 241 106 rfl).trans (u32 241 106 rfl))
    have e54 : h34 241 73 = h 241 73 := ((u34 241 73 rfl).trans (u32 241 73 rfl))
    have e55 : h34 241 2 = h 241 2 := ((u34 241 2 rfl).trans (u32 241 2 rfl))
    have e56 : h34 241 119 = h 241 119 := ((u34 241 119 rfl).trans (u32 241 119 rfl))
    have e57 : h34 241 67 = h 241 67 := ((u34 241 67 rfl).trans (u32 241 67 rfl))
    have e58 : h34 241 69 = h 241 69 := ((u34 241 69 rfl).trans (u32 241 69 rfl))
    have e59 : h34 241 5 = h 241 5 := ((u34 241 5 rfl).trans (u32 241 5 rfl))
    have e60 : h34 1 1 = h 1 1 := ((u34 1 1 rfl).trans (u32 1 1 rfl))
    have e61 : h34 236 2 = h 236 2 := ((u34 236 2 rfl).trans (u32 236 2 rfl))
    have gp62 := GPH.fr u32 rfl gp0
    have gp63 := GPH.fr u34 rfl gp62
    exact k h34 b c ⟨g34, (show h34 1 1 = h34 236 2 by omega), (RS.i0 (f := h34 238) (by refine ⟨?_, ?_, ?_, ?_, ?_⟩ <;> omega)), (RS.i0 (f := h34 241) (by refine ⟨?_, ?_, ?_, ?_, ?_⟩ <;> omega)), gp63⟩ (by omega) (by omega)
  ·
    refine wk_h 12 (by decide) rfl ?_
    refine wr_astx (i := 3) (lo2 := [(3, .retAddr 0), (0, .ref 0), (1, vi ((xs i28).toInt)), (2, .ref 259)]) (nx := 13) (r1 := 0) (r2 := 0) (r3 := 0) rfl rfl ?_
    refine wi_iconst (n := 1) (nx := 14) (r1 := 0) (r2 := 0) (r3 := 0) rfl ?_
    refine wi_ireturn (nx := 15) (r1 := 0) (r2 := 0) (r3 := 0) rfl rfl ?_
    refine wk_i ?_
    refine wi_istore (i := 5) (e := 1) (lo2 := [(5, vi 1), (0, .ref 1000000), (1, .ref 0), (2, .ref 236), (3, .ref 259), (4, vi i)]) (nx := 685) (r1 := 0) (r2 := 0) (r3 := 0) rfl rfl ?_
    refine wi_aload_n (i := 2) (x := 236) (nx := 686) (r1 := 0) (r2 := 0) (r3 := 0) rfl rfl ?_
    refine wi_aload_n (i := 0) (x := 1000000) (nx := 687) (r1 := 0) (r2 := 0) (r3 := 0) rfl rfl ?_
    refine wi_iload (i := 4) (e := i) (nx := 689) (r1 := 0) (r2 := 0) (r3 := 0) rfl rfl ?_
    refine wi_iconst (n := 1) (nx := 690) (r1 := 0) (r2 := 0) (r3 := 0) rfl ?_
    refine wr_add (nx := 691) (r1 := 0) (r2 := 0) (r3 := 0) rfl (fun e32 (fe32 : e32 = i + 1) => ?_)
    refine wr_sc (a := e32) (f := i28) (nx := 692) (r1 := 0) (r2 := 0) (r3 := 0) rfl (by omega) (by omega) hL ?_
    refine wr_V (k0 := 236) (rest := []) (as := [.ref 236, vi ((xs i28).toInt)]) (nx := 695) (r1 := 251) (r2 := 1) (r3 := 11) rfl rfl rfl (of_decide_eq_true rfl) rfl rfl (by decide) rfl rfl (of_decide_eq_true rfl) (of_decide_eq_true rfl) ?_
    refine ct_251_236 hcr  g ((xs i28).toInt) (by omega)  (fun h33 z34 g33 u33 (fz34 : 0 ≤ z34 ∧ z34 ≤ 3) => ?_)
    refine wk_i ?_
    refine wi_istore (i := 6) (e := z34) (lo2 := [(6, vi z34), (5, vi 1), (0, .ref 1000000), (1, .ref 0), (2, .ref 236), (3, .ref 259), (4, vi i)]) (nx := 697) (r1 := 0) (r2 := 0) (r3 := 0) rfl rfl ?_
    refine wi_goto (nx := 700) (r1 := 1529) (r2 := 0) (r3 := 0) rfl ?_
    refine wp.lo (lo := [(0, .ref 1000000), (1, .ref 0), (2, .ref 236), (3, .ref 259), (4, vi i)]) ⟨rfl, rfl, rfl, rfl, rfl, trivial⟩ rfl ?_
    have e35 : h33 238 98 = h 238 98 := (u33 238 98 rfl)
    have e36 : h33 238 99 = h 238 99 := (u33 238 99 rfl)
    have e37 : h33 238 100 = h 238 100 := (u33 238 100 rfl)
    have e38 : h33 238 101 = h 238 101 := (u33 238 101 rfl)
    have e39 : h33 238 102 = h 238 102 := (u33 238 102 rfl)
    have e40 : h33 238 106 = h 238 106 := (u33 238 106 rfl)
    have e41 : h33 238 73 = h 238 73 := (u33 238 73 rfl)
    have e42 : h33 238 2 = h 238 2 := (u33 238 2 rfl)
    have e43 : h33 238 119 = h 238 119 := (u33 238 119 rfl)
    have e44 : h33 238 67 = h 238 67 := (u33 238 67 rfl)
    have e45 : h33 238 69 = h 238 69 := (u33 238 69 rfl)
    have e46 : h33 238 5 = h 238 5 := (u33 238 5 rfl)
    have e47 : h33 241 98 = h 241 98 := (u33 241 98 rfl)
    have e48 : h33 241 99 = h 241 99 := (u33 241 99 rfl)
    have e49 : h33 241 100 = h 241 100 := (u33 241 100 rfl)
    have e50 : h33 241 101 = h 241 101 := (u33 241 101 rfl)
    have e51 : h33 241 102 = h 241 102 := (u33 241 102 rfl)
    have e52 : h33 241 106 = h 241 106 := (u33 241 106 rfl)
    have e53 : h33 241 73 = h 241 73 := (u33 241 73 rfl)
    have e54 : h33 241 2 = h 241 2 := (u33 241 2 rfl)
    have e55 : h33 241 119 = h 241 119 := (u33 241 119 rfl)
    have e56 : h33 241 67 = h 241 67 := (u33 241 67 rfl)
    have e57 : h33 241 69 = h 241 69 := (u33 241 69 rfl)
    have e58 : h33 241 5 = h 241 5 := (u33 241 5 rfl)
    have e59 : h33 1 1 = h 1 1 := (u33 1 1 rfl)
    have e60 : h33 236 2 = h 236 2 := (u33 236 2 rfl)
    have gp61 := GPH.fr u33 rfl gp0
    exact k h33 (b - 1) (c - 6) ⟨g33, (show h33 1 1 = h33 236 2 by omega), (RS.i0 (f := h33 238) (by refine ⟨?_, ?_, ?_, ?_, ?_⟩ <;> omega)), (RS.i0 (f := h33 241) (by refine ⟨?_, ?_, ?_, ?_, ?_⟩ <;> omega)), gp61⟩ (by omega) (by omega)
-- the law, case at 700
set_option maxRecDepth 100000 in
set_option maxHeartbeats 100000000 in
theorem lc_700 {L : Nat} {xs : Nat → Int32} {d b c : Nat} {h : hp} {cr : Nat → Nat → Option Nat} {Q : hp_Q} (hcr : CR cr) (hL : L ≤ 3072) (hr : 1 ≤ b ∧ 6 ≤ c) (I : LI h) (i : Int) (hi : 0 ≤ i ∧ i + 6 ≤ L) (k : ∀ (h2 : hp) (b2 c2 : Nat), LI h2 → b ≤ b2 + 1 → c ≤ c2 + 6 → wp (md_xa (L, xs)) (d + 107) 0 (1529, [(0, .ref 1000000), (1, .ref 0), (2, .ref 236), (3, .ref 259), (4, vi i)], [], hp_w h2 cr, b2, c2) Q) : wp (md_xa (L, xs)) (d + 107) 0 (700, [(0, .ref 1000000), (1, .ref 0), (2, .ref 236), (3, .ref 259), (4, vi i)], [], hp_w h cr, b, c) Q := by
  obtain ⟨g, i11, r238, r241, gp0⟩ := I
  have r238e := r238.e0
  have r241e := r241.e0
  have b1 := gi_b (lo := 0) (hi := 6) g 238 98 rfl
  have b2 := gi_b (lo := 0) (hi := 6) g 238 99 rfl
  have b3 := gi_b (lo := 0) (hi := 6) g 238 100 rfl
  have b4 := gi_b (lo := 0) (hi := 6) g 238 101 rfl
  have b5 := gi_b (lo := 0) (hi := 3) g 238 102 rfl
  have b6 := gi_b (lo := 0) (hi := 12) g 238 106 rfl
  have b7 := gi_b (lo := 0) (hi := 12) g 238 73 rfl
  have b8 := gi_b (lo := 0) (hi := 12) g 238 2 rfl
  have b9 := gi_b (lo := 0) (hi := 9999) g 238 119 rfl
  have b10 := gi_b (lo := 0) (hi := 9999) g 238 67 rfl
  have b11 := gi_b (lo := 0) (hi := 9) g 238 69 rfl
  have b12 := gi_b (lo := 0) (hi := 9) g 238 5 rfl
  have b13 := gi_b (lo := 0) (hi := 6) g 241 98 rfl
  have b14 := gi_b (lo := 0) (hi := 6) g 241 99 rfl
  have b15 := gi_b (lo := 0) (hi := 6) g 241 100 rfl
  have b16 := gi_b (lo := 0) (hi := 6) g 241 101 rfl
  have b17 := gi_b (lo := 0) (hi := 3) g 241 102 rfl
  have b18 := gi_b (lo := 0) (hi := 12) g 241 106 rfl
  have b19 := gi_b (lo := 0) (hi := 12) g 241 73 rfl
  have b20 := gi_b (lo := 0) (hi := 12) g 241 2 rfl
  have b21 := gi_b (lo := 0) (hi := 9999) g 241 119 rfl
  have b22 := gi_b (lo := 0) (hi := 9999) g 241 67 rfl
  have b23 := gi_b (lo := 0) (hi := 9) g 241 69 rfl
  have b24 := gi_b (lo := 0) (hi := 9) g 241 5 rfl
  have b25 := gi_b (lo := 0) (hi := 800) g 1 1 rfl
  have b26 := gi_b (lo := 0) (hi := 800) g 236 2 rfl
  refine wi_aload_n (i := 1) (x := 0) (nx := 701) (r1 := 0) (r2 := 0) (r3 := 0) rfl rfl ?_
  refine wr_V (k0 := 0) (rest := []) (as := [.ref 0]) (nx := 704) (r1 := 31) (r2 := 0) (r3 := 0) rfl rfl rfl (of_decide_eq_true rfl) rfl rfl (by decide) rfl rfl (of_decide_eq_true rfl) (of_decide_eq_true rfl) ?_
  refine ct_31_0 hcr  g    (fun z28  (fz28 : -12 ≤ z28 ∧ z28 ≤ 12) => ?_)
  refine wk_i ?_
  refine wi_pop (nx := 705) (r1 := 0) (r2 := 0) (r3 := 0) rfl rfl ?_
  refine wi_aload_n (i := 2) (x := 236) (nx := 706) (r1 := 0) (r2 := 0) (r3 := 0) rfl rfl ?_
  refine wr_V (k0 := 236) (rest := []) (as := [.ref 236]) (nx := 709) (r1 := 255) (r2 := 0) (r3 := 11) rfl rfl rfl (of_decide_eq_true rfl) rfl rfl (by decide) rfl rfl (of_decide_eq_true rfl) (of_decide_eq_true rfl) ?_
  refine ct_255_236 hcr  g    (fun h29 z30 g29 u29 (fz30 : -12 ≤ z30 ∧ z30 ≤ 12) => ?_)
  refine wk_i ?_
  refine wi_pop (nx := 710) (r1 := 0) (r2 := 0) (r3 := 0) rfl rfl ?_
  refine wi_goto (nx := 713) (r1 := 1529) (r2 := 0) (r3 := 0) rfl ?_
  have e31 : h29 238 98 = h 238 98 := (u29 238 98 rfl)
  have e32 : h29 238 99 = h 238 99 := (u29 238 99 rfl)
  have e33 : h29 238 100 = h 238 100 := (u29 238 100 rfl)
  have e34 : h29 238 101 = h 238 101 := (u29 238 101 rfl)
  have e35 : h29 238 102 = h 238 102 := (u29 238 102 rfl)
  have e36 : h29 238 106 = h 238 106 := (u29 238 106 rfl)
  have e37 : h29 238 73 = h 238 73 := (u29 238 73 rfl)
  have e38 : h29 238 2 = h 238 2 := (u29 238 2 rfl)
  have e39 : h29 238 119 = h 238 119 := (u29 238 119 rfl)
  have e40 : h29 238 67 = h 238 67 := (u29 238 67 rfl)
  have e41 : h29 238 69 = h 238 69 := (u29 238 69 rfl)
  have e42 : h29 238 5 = h 238 5 := (u29 238 5 rfl)
  have e43 : h29 241 98 = h 241 98 := (u29 241 98 rfl)
  have e44 : h29 241 99 = h 241 99 := (u29 241 99 rfl)
  have e45 : h29 241 100 = h 241 100 := (u29 241 100 rfl)
  have e46 : h29 241 101 = h 241 101 := (u29 241 101 rfl)
  have e47 : h29 241 102 = h 241 102 := (u29 241 102 rfl)
  have e48 : h29 241 106 = h 241 106 := (u29 241 106 rfl)
  have e49 : h29 241 73 = h 241 73 := (u29 241 73 rfl)
  have e50 : h29 241 2 = h 241 2 := (u29 241 2 rfl)
  have e51 : h29 241 119 = h 241 119 := (u29 241 119 rfl)
  have e52 : h29 241 67 = h 241 67 := (u29 241 67 rfl)
  have e53 : h29 241 69 = h 241 69 := (u29 241 69 rfl)
  have e54 : h29 241 5 = h 241 5 := (u29 241 5 rfl)
  have e55 : h29 1 1 = h 1 1 := (u29 1 1 rfl)
  have e56 : h29 236 2 = h 236 2 := (u29 236 2 rfl)
  have gp57 := GPH.fr u29 rfl gp0
  exact k h29 b c ⟨g29, (show h29 1 1 = h29 236 2 by omega), (RS.i0 (f := h29 238) (by refine ⟨?_, ?_, ?_, ?_, ?_⟩ <;> omega)), (RS.i0 (f := h29 241) (by refine ⟨?_, ?_, ?_, ?_, ?_⟩ <;> omega)), gp57⟩ (by omega) (by omega)
-- the law, case at 713
set_option maxRecDepth 100000 in
set_option maxHeartbeats 100000000 in
theorem lc_713 {L : Nat} {xs : Nat → Int32} {d b c : Nat} {h : hp} {cr : Nat → Nat → Option Nat} {Q : hp_Q} (hcr : CR cr) (hL : L ≤ 3072) (hr : 1 ≤ b ∧ 6 ≤ c) (I : LI h) (i : Int) (hi : 0 ≤ i ∧ i + 6 ≤ L) (k : ∀ (h2 : hp) (b2 c2 : Nat), LI h2 → b ≤ b2 + 1 → c ≤ c2 + 6 → wp (md_xa (L, xs)) (d + 107) 0 (1529, [(0, .ref 1000000), (1, .ref 0), (2, .ref 236), (3, .ref 259), (4, vi i)], [], hp_w h2 cr, b2, c2) Q) : wp (md_xa (L, xs)) (d + 107) 0 (713, [(0, .ref 1000000), (1, .ref 0), (2, .ref 236), (3, .ref 259), (4, vi i)], [], hp_w h cr, b, c) Q := by
  obtain ⟨g, i11, r238, r241, gp0⟩ := I
  have r238e := r238.e0
  have r241e := r241.e0
  have b1 := gi_b (lo := 0) (hi := 6) g 238 98 rfl
  have b2 := gi_b (lo := 0) (hi := 6) g 238 99 rfl
  have b3 := gi_b (lo := 0) (hi := 6) g 238 100 rfl
  have b4 := gi_b (lo := 0) (hi := 6) g 238 101 rfl
  have b5 := gi_b (lo := 0) (hi := 3) g 238 102 rfl
  have b6 := gi_b (lo := 0) (hi := 12) g 238 106 rfl
  have b7 := gi_b (lo := 0) (hi := 12) g 238 73 rfl
  have b8 := gi_b (lo := 0) (hi := 12) g 238 2 rfl
  have b9 := gi_b (lo := 0) (hi := 9999) g 238 119 rfl
  have b10 := gi_b (lo := 0) (hi := 9999) g 238 67 rfl
  have b11 := gi_b (lo := 0) (hi := 9) g 238 69 rfl
  have b12 := gi_b (lo := 0) (hi := 9) g 238 5 rfl
  have b13 := gi_b (lo := 0) (hi := 6) g 241 98 rfl
  have b14 := gi_b (lo := 0) (hi := 6) g 241 99 rfl
  have b15 := gi_b (lo := 0) (hi := 6) g 241 100 rfl
  have b16 := gi_b (lo := 0) (hi := 6) g 241 101 rfl
  have b17 := gi_b (lo := 0) (hi := 3) g 241 102 rfl
  have b18 := gi_b (lo := 0) (hi := 12) g 241 106 rfl
  have b19 := gi_b (lo := 0) (hi := 12) g 241 73 rfl
  have b20 := gi_b (lo := 0) (hi := 12) g 241 2 rfl
  have b21 := gi_b (lo := 0) (hi := 9999) g 241 119 rfl
  have b22 := gi_b (lo := 0) (hi := 9999) g 241 67 rfl
  have b23 := gi_b (lo := 0) (hi := 9) g 241 69 rfl
  have b24 := gi_b (lo := 0) (hi := 9) g 241 5 rfl
  have b25 := gi_b (lo := 0) (hi := 800) g 1 1 rfl
  have b26 := gi_b (lo := 0) (hi := 800) g 236 2 rfl
  refine wi_aload_n (i := 1) (x := 0) (nx := 714) (r1 := 0) (r2 := 0) (r3 := 0) rfl rfl ?_
  refine wi_aload_n (i := 0) (x := 1000000) (nx := 715) (r1 := 0) (r2 := 0) (r3 := 0) rfl rfl ?_
  refine wi_iload (i := 4) (e := i) (nx := 717) (r1 := 0) (r2 := 0) (r3 := 0) rfl rfl ?_
  refine wi_iconst (n := 1) (nx := 718) (r1 := 0) (r2 := 0) (r3 := 0) rfl ?_
  refine wr_add (nx := 719) (r1 := 0) (r2 := 0) (r3 := 0) rfl (fun e27 (fe27 : e27 = i + 1) => ?_)
  obtain ⟨i28, ei28⟩ : ∃ q : Nat, e27 = (q : Int) := ⟨(e27).toNat, by omega⟩
  have s29 := sc_b (xs i28)
  refine wr_sc (a := e27) (f := i28) (nx := 720) (r1 := 0) (r2 := 0) (r3 := 0) rfl (by omega) (by omega) hL ?_
  refine wi_aload_n (i := 3) (x := 259) (nx := 721) (r1 := 0) (r2 := 0) (r3 := 0) rfl rfl ?_
  refine wi_S (rest := []) (as := [.ref 0, vi ((xs i28).toInt), .ref 259]) (nx := 724) (r1 := 12) (r2 := 19) (r3 := 0) rfl rfl rfl (of_decide_eq_true rfl) rfl rfl (of_decide_eq_true rfl) (of_decide_eq_true rfl) ?_
  refine wi_aload_n (i := 2) (x := 259) (nx := 1) (r1 := 0) (r2 := 0) (r3 := 0) rfl rfl ?_
  refine wi_iconst (n := 0) (nx := 2) (r1 := 0) (r2 := 0) (r3 := 0) rfl ?_
  refine wi_aload_n (i := 0) (x := 0) (nx := 3) (r1 := 0) (r2 := 0) (r3 := 0) rfl rfl ?_
  refine wi_iload_n (i := 1) (e := (xs i28).toInt) (nx := 4) (r1 := 0) (r2 := 0) (r3 := 0) rfl rfl ?_
  refine wr_V (k0 := 0) (rest := [vi 0, .ref 259]) (as := [.ref 0, vi ((xs i28).toInt)]) (nx := 7) (r1 := 74) (r2 := 1) (r3 := 0) rfl rfl rfl (of_decide_eq_true rfl) rfl rfl (by decide) rfl rfl (of_decide_eq_true rfl) (of_decide_eq_true rfl) ?_
  refine ct_74_0 hcr hr  g ((xs i28).toInt) (by omega)  (fun z31  (fz31 : 0 ≤ z31 ∧ z31 ≤ 12) => ?_) ?_
  ·
    refine wk_i ?_
    refine wi_i2l (nx := 8) (r1 := 0) (r2 := 0) (r3 := 0) rfl (by omega) ?_
    refine wr_ls (k0 := 259) (a := 0) (f := 0) (x := z31) (bl := -9223372036854775808) (bh := 9223372036854775807) (nx := 9) (r1 := 0) (r2 := 0) (r3 := 0) rfl (by decide) rfl (by omega) (by omega) (by decide) g rfl (by omega) (fun h32 g32 w32 u32 => ?_)
    refine wi_goto (nx := 12) (r1 := 15) (r2 := 0) (r3 := 0) rfl ?_
    refine wi_iconst (n := 0) (nx := 16) (r1 := 0) (r2 := 0) (r3 := 0) rfl ?_
    refine wi_ireturn (nx := 17) (r1 := 0) (r2 := 0) (r3 := 0) rfl rfl ?_
    refine wk_i ?_
    refine wi_istore (i := 5) (e := 0) (lo2 := [(5, vi 0), (0, .ref 1000000), (1, .ref 0), (2, .ref 236), (3, .ref 259), (4, vi i)]) (nx := 726) (r1 := 0) (r2 := 0) (r3 := 0) rfl rfl ?_
    refine wi_aload_n (i := 2) (x := 236) (nx := 727) (r1 := 0) (r2 := 0) (r3 := 0) rfl rfl ?_
    refine wi_aload_n (i := 0) (x := 1000000) (nx := 728) (r1 := 0) (r2 := 0) (r3 := 0) rfl rfl ?_
    refine wi_iload (i := 4) (e := i) (nx := 730) (r1 := 0) (r2 := 0) (r3 := 0) rfl rfl ?_
    refine wi_iconst (n := 1) (nx := 731) (r1 := 0) (r2 := 0) (r3 := 0) rfl ?_
    refine wr_add (nx := 732) (r1 := 0) (r2 := 0) (r3 := 0) rfl (fun e33 (fe33 : e33 = i + 1) => ?_)
    refine wr_sc (a := e33) (f := i28) (nx := 733) (r1 := 0) (r2 := 0) (r3 := 0) rfl (by omega) (by omega) hL ?_
    refine wr_V (k0 := 236) (rest := []) (as := [.ref 236, vi ((xs i28).toInt)]) (nx := 736) (r1 := 256) (r2 := 1) (r3 := 11) rfl rfl rfl (of_decide_eq_true rfl) rfl rfl (by decide) rfl rfl (of_decide_eq_true rfl) (of_decide_eq_true rfl) ?_
    refine ct_256_236 hcr  g32 ((xs i28).toInt) (by omega)  (fun h34 z35 g34 u34 (fz35 : 0 ≤ z35 ∧ z35 ≤ 6) => ?_)
    refine wk_i ?_
    refine wi_istore (i := 6) (e := z35) (lo2 := [(6, vi z35), (5, vi 0), (0, .ref 1000000), (1, .ref 0), (2, .ref 236), (3, .ref 259), (4, vi i)]) (nx := 738) (r1 := 0) (r2 := 0) (r3 := 0) rfl rfl ?_
    refine wi_goto (nx := 741) (r1 := 1529) (r2 := 0) (r3 := 0) rfl ?_
    refine wp.lo (lo := [(0, .ref 1000000), (1, .ref 0), (2, .ref 236), (3, .ref 259), (4, vi i)]) ⟨rfl, rfl, rfl, rfl, rfl, trivial⟩ rfl ?_
    have e36 : h34 238 98 = h 238 98 := ((u34 238 98 rfl).trans (u32 238 98 rfl))
    have e37 : h34 238 99 = h 238 99 := ((u34 238 99 rfl).trans (u32 238 99 rfl))
    have e38 : h34 238 100 = h 238 100 := ((u34 238 100 rfl).trans (u32 238 100 rfl))
    have e39 : h34 238 101 = h 238 101 := ((u34 238 101 rfl).trans (u32 238 101 rfl))
    have e40 : h34 238 102 = h 238 102 := ((u34 238 102 rfl).trans (u32 238 102 rfl))
    have e41 : h34 238 106 = h 238 106 := ((u34 238 106 rfl).trans (u32 238 106 rfl))
    have e42 : h34 238 73 = h 238 73 := ((u34 238 73 rfl).trans (u32 238 73 rfl))
    have e43 : h34 238 2 = h 238 2 := ((u34 238 2 rfl).trans (u32 238 2 rfl))
    have e44 : h34 238 119 = h 238 119 := ((u34 238 119 rfl).trans (u32 238 119 rfl))
    have e45 : h34 238 67 = h 238 67 := ((u34 238 67 rfl).trans (u32 238 67 rfl))
    have e46 : h34 238 69 = h 238 69 := ((u34 238 69 rfl).trans (u32 238 69 rfl))
    have e47 : h34 238 5 = h 238 5 := ((u34 238 5 rfl).trans (u32 238 5 rfl))
    have e48 : h34 241 98 = h 241 98 := ((u34 241 98 rfl).trans (u32 241 98 rfl))
    have e49 : h34 241 99 = h 241 99 := ((u34 241 99 rfl).trans (u32 241 99 rfl))
    have e50 : h34 241 100 = h 241 100 := ((u34 241 100 rfl).trans (u32 241 100 rfl))
    have e51 : h34 241 101 = h 241 101 := ((u34 241 101 rfl).trans (u32 241 101 rfl))
    have e52 : h34 241 102 = h 241 102 := ((u34 241 102 rfl).trans (u32 241 102 rfl))
    have e53 : h34 241 106 = h 241 106 := ((u34 241 106 rfl).trans (u32 241 106 rfl))
    have e54 : h34 241 73 = h 241 73 := ((u34 241 73 rfl).trans (u32 241 73 rfl))
    have e55 : h34 241 2 = h 241 2 := ((u34 241 2 rfl).trans (u32 241 2 rfl))
    have e56 : h34 241 119 = h 241 119 := ((u34 241 119 rfl).trans (u32 241 119 rfl))
    have e57 : h34 241 67 = h 241 67 := ((u34 241 67 rfl).trans (u32 241 67 rfl))
    have e58 : h34 241 69 = h 241 69 := ((u34 241 69 rfl).trans (u32 241 69 rfl))
    have e59 : h34 241 5 = h 241 5 := ((u34 241 5 rfl).trans (u32 241 5 rfl))
    have e60 : h34 1 1 = h 1 1 := ((u34 1 1 rfl).trans (u32 1 1 rfl))
    have e61 : h34 236 2 = h 236 2 := ((u34 236 2 rfl).trans (u32 236 2 rfl))
    have gp62 := GPH.fr u32 rfl gp0
    have gp63 := GPH.fr u34 rfl gp62
    exact k h34 b c ⟨g34, (show h34 1 1 = h34 236 2 by omega), (RS.i0 (f := h34 238) (by refine ⟨?_, ?_, ?_, ?_, ?_⟩ <;> omega)), (RS.i0 (f := h34 241) (by refine ⟨?_, ?_, ?_, ?_, ?_⟩ <;> omega)), gp63⟩ (by omega) (by omega)
  ·
    refine wk_h 12 (by decide) rfl ?_
    refine wr_astx (i := 3) (lo2 := [(3, .retAddr 0), (0, .ref 0), (1, vi ((xs i28).toInt)), (2, .ref 259)]) (nx := 13) (r1 := 0) (r2 := 0) (r3 := 0) rfl rfl ?_
    refine wi_iconst (n := 1) (nx := 14) (r1 := 0) (r2 := 0) (r3 := 0) rfl ?_
    refine wi_ireturn (nx := 15) (r1 := 0) (r2 := 0) (r3 := 0) rfl rfl ?_
    refine wk_i ?_
    refine wi_istore (i := 5) (e := 1) (lo2 := [(5, vi 1), (0, .ref 1000000), (1, .ref 0), (2, .ref 236), (3, .ref 259), (4, vi i)]) (nx := 726) (r1 := 0) (r2 := 0) (r3 := 0) rfl rfl ?_
    refine wi_aload_n (i := 2) (x := 236) (nx := 727) (r1 := 0) (r2 := 0) (r3 := 0) rfl rfl ?_
    refine wi_aload_n (i := 0) (x := 1000000) (nx := 728) (r1 := 0) (r2 := 0) (r3 := 0) rfl rfl ?_
    refine wi_iload (i := 4) (e := i) (nx := 730) (r1 := 0) (r2 := 0) (r3 := 0) rfl rfl ?_
    refine wi_iconst (n := 1) (nx := 731) (r1 := 0) (r2 := 0) (r3 := 0) rfl ?_
    refine wr_add (nx := 732) (r1 := 0) (r2 := 0) (r3 := 0) rfl (fun e32 (fe32 : e32 = i + 1) => ?_)
    refine wr_sc (a := e32) (f := i28) (nx := 733) (r1 := 0) (r2 := 0) (r3 := 0) rfl (by omega) (by omega) hL ?_
    refine wr_V (k0 := 236) (rest := []) (as := [.ref 236, vi ((xs i28).toInt)]) (nx := 736) (r1 := 256) (r2 := 1) (r3 := 11) rfl rfl rfl (of_decide_eq_true rfl) rfl rfl (by decide) rfl rfl (of_decide_eq_true rfl) (of_decide_eq_true rfl) ?_
    refine ct_256_236 hcr  g ((xs i28).toInt) (by omega)  (fun h33 z34 g33 u33 (fz34 : 0 ≤ z34 ∧ z34 ≤ 6) => ?_)
    refine wk_i ?_
    refine wi_istore (i := 6) (e := z34) (lo2 := [(6, vi z34), (5, vi 1), (0, .ref 1000000), (1, .ref 0), (2, .ref 236), (3, .ref 259), (4, vi i)]) (nx := 738) (r1 := 0) (r2 := 0) (r3 := 0) rfl rfl ?_
    refine wi_goto (nx := 741) (r1 := 1529) (r2 := 0) (r3 := 0) rfl ?_
    refine wp.lo (lo := [(0, .ref 1000000), (1, .ref 0), (2, .ref 236), (3, .ref 259), (4, vi i)]) ⟨rfl, rfl, rfl, rfl, rfl, trivial⟩ rfl ?_
    have e35 : h33 238 98 = h 238 98 := (u33 238 98 rfl)
    have e36 : h33 238 99 = h 238 99 := (u33 238 99 rfl)
    have e37 : h33 238 100 = h 238 100 := (u33 238 100 rfl)
    have e38 : h33 238 101 = h 238 101 := (u33 238 101 rfl)
    have e39 : h33 238 102 = h 238 102 := (u33 238 102 rfl)
    have e40 : h33 238 106 = h 238 106 := (u33 238 106 rfl)
    have e41 : h33 238 73 = h 238 73 := (u33 238 73 rfl)
    have e42 : h33 238 2 = h 238 2 := (u33 238 2 rfl)
    have e43 : h33 238 119 = h 238 119 := (u33 238 119 rfl)
    have e44 : h33 238 67 = h 238 67 := (u33 238 67 rfl)
    have e45 : h33 238 69 = h 238 69 := (u33 238 69 rfl)
    have e46 : h33 238 5 = h 238 5 := (u33 238 5 rfl)
    have e47 : h33 241 98 = h 241 98 := (u33 241 98 rfl)
    have e48 : h33 241 99 = h 241 99 := (u33 241 99 rfl)
    have e49 : h33 241 100 = h 241 100 := (u33 241 100 rfl)
    have e50 : h33 241 101 = h 241 101 := (u33 241 101 rfl)
    have e51 : h33 241 102 = h 241 102 := (u33 241 102 rfl)
    have e52 : h33 241 106 = h 241 106 := (u33 241 106 rfl)
    have e53 : h33 241 73 = h 241 73 := (u33 241 73 rfl)
    have e54 : h33 241 2 = h 241 2 := (u33 241 2 rfl)
    have e55 : h33 241 119 = h 241 119 := (u33 241 119 rfl)
    have e56 : h33 241 67 = h 241 67 := (u33 241 67 rfl)
    have e57 : h33 241 69 = h 241 69 := (u33 241 69 rfl)
    have e58 : h33 241 5 = h 241 5 := (u33 241 5 rfl)
    have e59 : h33 1 1 = h 1 1 := (u33 1 1 rfl)
    have e60 : h33 236 2 = h 236 2 := (u33 236 2 rfl)
    have gp61 := GPH.fr u33 rfl gp0
    exact k h33 (b - 1) (c - 6) ⟨g33, (show h33 1 1 = h33 236 2 by omega), (RS.i0 (f := h33 238) (by refine ⟨?_, ?_, ?_, ?_, ?_⟩ <;> omega)), (RS.i0 (f := h33 241) (by refine ⟨?_, ?_, ?_, ?_, ?_⟩ <;> omega)), gp61⟩ (by omega) (by omega)
-- the law, case at 741
set_option maxRecDepth 100000 in
set_option maxHeartbeats 100000000 in
theorem lc_741 {L : Nat} {xs : Nat → Int32} {d b c : Nat} {h : hp} {cr : Nat → Nat → Option Nat} {Q : hp_Q} (hcr : CR cr) (hL : L ≤ 3072) (hr : 1 ≤ b ∧ 6 ≤ c) (I : LI h) (i : Int) (hi : 0 ≤ i ∧ i + 6 ≤ L) (k : ∀ (h2 : hp) (b2 c2 : Nat), LI h2 → b ≤ b2 + 1 → c ≤ c2 + 6 → wp (md_xa (L, xs)) (d + 107) 0 (1529, [(0, .ref 1000000), (1, .ref 0), (2, .ref 236), (3, .ref 259), (4, vi i)], [], hp_w h2 cr, b2, c2) Q) : wp (md_xa (L, xs)) (d + 107) 0 (741, [(0, .ref 1000000), (1, .ref 0), (2, .ref 236), (3, .ref 259), (4, vi i)], [], hp_w h cr, b, c) Q := by
  obtain ⟨g, i11, r238, r241, gp0⟩ := I
  have r238e := r238.e0
  have r241e := r241.e0
  have b1 := gi_b (lo := 0) (hi := 6) g 238 98 rfl
  have b2 := gi_b (lo := 0) (hi := 6) g 238 99 rfl
  have b3 := gi_b (lo := 0) (hi := 6) g 238 100 rfl
  have b4 := gi_b (lo := 0) (hi := 6) g 238 101 rfl
  have b5 := gi_b (lo := 0) (hi := 3) g 238 102 rfl
  have b6 := gi_b (lo := 0) (hi := 12) g 238 106 rfl
  have b7 := gi_b (lo := 0) (hi := 12) g 238 73 rfl
  have b8 := gi_b (lo := 0) (hi := 12) g 238 2 rfl
  have b9 := gi_b (lo := 0) (hi := 9999) g 238 119 rfl
  have b10 := gi_b (lo := 0) (hi := 9999) g 238 67 rfl
  have b11 := gi_b (lo := 0) (hi := 9) g 238 69 rfl
  have b12 := gi_b (lo := 0) (hi := 9) g 238 5 rfl
  have b13 := gi_b (lo := 0) (hi := 6) g 241 98 rfl
  have b14 := gi_b (lo := 0) (hi := 6) g 241 99 rfl
  have b15 := gi_b (lo := 0) (hi := 6) g 241 100 rfl
  have b16 := gi_b (lo := 0) (hi := 6) g 241 101 rfl
  have b17 := gi_b (lo := 0) (hi := 3) g 241 102 rfl
  have b18 := gi_b (lo := 0) (hi := 12) g 241 106 rfl
  have b19 := gi_b (lo := 0) (hi := 12) g 241 73 rfl
  have b20 := gi_b (lo := 0) (hi := 12) g 241 2 rfl
  have b21 := gi_b (lo := 0) (hi := 9999) g 241 119 rfl
  have b22 := gi_b (lo := 0) (hi := 9999) g 241 67 rfl
  have b23 := gi_b (lo := 0) (hi := 9) g 241 69 rfl
  have b24 := gi_b (lo := 0) (hi := 9) g 241 5 rfl
  have b25 := gi_b (lo := 0) (hi := 800) g 1 1 rfl
  have b26 := gi_b (lo := 0) (hi := 800) g 236 2 rfl
  refine wi_aload_n (i := 1) (x := 0) (nx := 742) (r1 := 0) (r2 := 0) (r3 := 0) rfl rfl ?_
  refine wi_aload_n (i := 0) (x := 1000000) (nx := 743) (r1 := 0) (r2 := 0) (r3 := 0) rfl rfl ?_
  refine wi_iload (i := 4) (e := i) (nx := 745) (r1 := 0) (r2 := 0) (r3 := 0) rfl rfl ?_
  refine wi_iconst (n := 1) (nx := 746) (r1 := 0) (r2 := 0) (r3 := 0) rfl ?_
  refine wr_add (nx := 747) (r1 := 0) (r2 := 0) (r3 := 0) rfl (fun e27 (fe27 : e27 = i + 1) => ?_)
  obtain ⟨i28, ei28⟩ : ∃ q : Nat, e27 = (q : Int) := ⟨(e27).toNat, by omega⟩
  have s29 := sc_b (xs i28)
  refine wr_sc (a := e27) (f := i28) (nx := 748) (r1 := 0) (r2 := 0) (r3 := 0) rfl (by omega) (by omega) hL ?_
  refine wi_aload_n (i := 0) (x := 1000000) (nx := 749) (r1 := 0) (r2 := 0) (r3 := 0) rfl rfl ?_
  refine wi_iload (i := 4) (e := i) (nx := 751) (r1 := 0) (r2 := 0) (r3 := 0) rfl rfl ?_
  refine wi_iconst (n := 2) (nx := 752) (r1 := 0) (r2 := 0) (r3 := 0) rfl ?_
  refine wr_add (nx := 753) (r1 := 0) (r2 := 0) (r3 := 0) rfl (fun e30 (fe30 : e30 = i + 2) => ?_)
  obtain ⟨i31, ei31⟩ : ∃ q : Nat, e30 = (q : Int) := ⟨(e30).toNat, by omega⟩
  have s32 := sc_b (xs i31)
  refine wr_sc (a := e30) (f := i31) (nx := 754) (r1 := 0) (r2 := 0) (r3 := 0) rfl (by omega) (by omega) hL ?_
  refine wi_aload_n (i := 3) (x := 259) (nx := 755) (r1 := 0) (r2 := 0) (r3 := 0) rfl rfl ?_
  refine wi_S (rest := []) (as := [.ref 0, vi ((xs i28).toInt), vi ((xs i31).toInt), .ref 259]) (nx := 758) (r1 := 13) (r2 := 20) (r3 := 0) rfl rfl rfl (of_decide_eq_true rfl) rfl rfl (of_decide_eq_true rfl) (of_decide_eq_true rfl) ?_
  refine wi_aload_n (i := 3) (x := 259) (nx := 1) (r1 := 0) (r2 := 0) (r3 := 0) rfl rfl ?_
  refine wi_iconst (n := 0) (nx := 2) (r1 := 0) (r2 := 0) (r3 := 0) rfl ?_
  refine wi_aload_n (i := 0) (x := 0) (nx := 3) (r1 := 0) (r2 := 0) (r3 := 0) rfl rfl ?_
  refine wi_iload_n (i := 1) (e := (xs i28).toInt) (nx := 4) (r1 := 0) (r2 := 0) (r3 := 0) rfl rfl ?_
  refine wi_iload_n (i := 2) (e := (xs i31).toInt) (nx := 5) (r1 := 0) (r2 := 0) (r3 := 0) rfl rfl ?_
  refine wr_V (k0 := 0) (rest := [vi 0, .ref 259]) (as := [.ref 0, vi ((xs i28).toInt), vi ((xs i31).toInt)]) (nx := 8) (r1 := 75) (r2 := 2) (r3 := 0) rfl rfl rfl (of_decide_eq_true rfl) rfl rfl (by decide) rfl rfl (of_decide_eq_true rfl) (of_decide_eq_true rfl) ?_
  refine ct_75_0 hcr hr  g ((xs i28).toInt) ((xs i31).toInt) (by omega) (by omega)  (fun z34  (fz34 : -2147483648 ≤ z34 ∧ z34 ≤ 2147483647) => ?_) ?_
  ·
    refine wk_i ?_
    refine wi_i2l (nx := 9) (r1 := 0) (r2 := 0) (r3 := 0) rfl (by omega) ?_
    refine wr_ls (k0 := 259) (a := 0) (f := 0) (x := z34) (bl := -9223372036854775808) (bh := 9223372036854775807) (nx := 10) (r1 := 0) (r2 := 0) (r3 := 0) rfl (by decide) rfl (by omega) (by omega) (by decide) g rfl (by omega) (fun h35 g35 w35 u35 => ?_)
    refine wi_goto (nx := 13) (r1 := 17) (r2 := 0) (r3 := 0) rfl ?_
    refine wi_iconst (n := 0) (nx := 18) (r1 := 0) (r2 := 0) (r3 := 0) rfl ?_
    refine wi_ireturn (nx := 19) (r1 := 0) (r2 := 0) (r3 := 0) rfl rfl ?_
    refine wk_i ?_
    refine wi_istore (i := 5) (e := 0) (lo2 := [(5, vi 0), (0, .ref 1000000), (1, .ref 0), (2, .ref 236), (3, .ref 259), (4, vi i)]) (nx := 760) (r1 := 0) (r2 := 0) (r3 := 0) rfl rfl ?_
    refine wi_aload_n (i := 2) (x := 236) (nx := 761) (r1 := 0) (r2 := 0) (r3 := 0) rfl rfl ?_
    refine wi_aload_n (i := 0) (x := 1000000) (nx := 762) (r1 := 0) (r2 := 0) (r3 := 0) rfl rfl ?_
    refine wi_iload (i := 4) (e := i) (nx := 764) (r1 := 0) (r2 := 0) (r3 := 0) rfl rfl ?_
    refine wi_iconst (n := 1) (nx := 765) (r1 := 0) (r2 := 0) (r3 := 0) rfl ?_
    refine wr_add (nx := 766) (r1 := 0) (r2 := 0) (r3 := 0) rfl (fun e36 (fe36 : e36 = i + 1) => ?_)
    refine wr_sc (a := e36) (f := i28) (nx := 767) (r1 := 0) (r2 := 0) (r3 := 0) rfl (by omega) (by omega) hL ?_
    refine wi_aload_n (i := 0) (x := 1000000) (nx := 768) (r1 := 0) (r2 := 0) (r3 := 0) rfl rfl ?_
    refine wi_iload (i := 4) (e := i) (nx := 770) (r1 := 0) (r2 := 0) (r3 := 0) rfl rfl ?_
    refine wi_iconst (n := 2) (nx := 771) (r1 := 0) (r2 := 0) (r3 := 0) rfl ?_
    refine wr_add (nx := 772) (r1 := 0) (r2 := 0) (r3 := 0) rfl (fun e37 (fe37 : e37 = i + 2) => ?_)
    refine wr_sc (a := e37) (f := i31) (nx := 773) (r1 := 0) (r2 := 0) (r3 := 0) rfl (by omega) (by omega) hL ?_
    refine wr_V (k0 := 236) (rest := []) (as := [.ref 236, vi ((xs i28).toInt), vi ((xs i31).toInt)]) (nx := 776) (r1 := 257) (r2 := 2) (r3 := 11) rfl rfl rfl (of_decide_eq_true rfl) rfl rfl (by decide) rfl rfl (of_decide_eq_true rfl) (of_decide_eq_true rfl) ?_
    refine ct_257_236 hcr  g35 ((xs i28).toInt) ((xs i31).toInt) (by omega) (by omega)  (fun h38 z39 g38 u38 (fz39 : -1 ≤ z39 ∧ z39 ≤ 11) => ?_)
    refine wk_i ?_
    refine wi_istore (i := 6) (e := z39) (lo2 := [(6, vi z39), (5, vi 0), (0, .ref 1000000), (1, .ref 0), (2, .ref 236), (3, .ref 259), (4, vi i)]) (nx := 778) (r1 := 0) (r2 := 0) (r3 := 0) rfl rfl ?_
    refine wi_goto (nx := 781) (r1 := 1529) (r2 := 0) (r3 := 0) rfl ?_
    refine wp.lo (lo := [(0, .ref 1000000), (1, .ref 0), (2, .ref 236), (3, .ref 259), (4, vi i)]) ⟨rfl, rfl, rfl, rfl, rfl, trivial⟩ rfl ?_
    have e40 : h38 238 98 = h 238 98 := ((u38 238 98 rfl).trans (u35 238 98 rfl))
    have e41 : h38 238 99 = h 238 99 := ((u38 238 99 rfl).trans (u35 238 99 rfl))
    have e42 : h38 238 100 = h 238 100 := ((u38 238 100 rfl).trans (u35 238 100 rfl))
    have e43 : h38 238 101 = h 238 101 := ((u38 238 101 rfl).trans (u35 238 101 rfl))
    have e44 : h38 238 102 = h 238 102 := ((u38 238 102 rfl).trans (u35 238 102 rfl))
    have e45 : h38 238 106 = h 238 106 := ((u38 238 106 rfl).trans (u35 238 106 rfl))
    have e46 : h38 238 73 = h 238 73 := ((u38 238 73 rfl).trans (u35 238 73 rfl))
    have e47 : h38 238 2 = h 238 2 := ((u38 238 2 rfl).trans (u35 238 2 rfl))
    have e48 : h38 238 119 = h 238 119 := ((u38 238 119 rfl).trans (u35 238 119 rfl))
    have e49 : h38 238 67 = h 238 67 := ((u38 238 67 rfl).trans (u35 238 67 rfl))
    have e50 : h38 238 69 = h 238 69 := ((u38 238 69 rfl).trans (u35 238 69 rfl))
    have e51 : h38 238 5 = h 238 5 := ((u38 238 5 rfl).trans (u35 238 5 rfl))
    have e52 : h38 241 98 = h 241 98 := ((u38 241 98 rfl).trans (u35 241 98 rfl))
    have e53 : h38 241 99 = h 241 99 := ((u38 241 99 rfl).trans (u35 241 99 rfl))
    have e54 : h38 241 100 = h 241 100 := ((u38 241 100 rfl).trans (u35 241 100 rfl))
    have e55 : h38 241 101 = h 241 101 := ((u38 241 101 rfl).trans (u35 241 101 rfl))
    have e56 : h38 241 102 = h 241 102 := ((u38 241 102 rfl).trans (u35 241 102 rfl))
    have e57 : h38 241 106 = h 241 106 := ((u38 241 106 rfl).trans (u35 241 106 rfl))
    have e58 : h38 241 73 = h 241 73 := ((u38 241 73 rfl).trans (u35 241 73 rfl))
    have e59 : h38 241 2 = h 241 2 := ((u38 241 2 rfl).trans (u35 241 2 rfl))
    have e60 : h38 241 119 = h 241 119 := ((u38 241 119 rfl).trans (u35 241 119 rfl))
    have e61 : h38 241 67 = h 241 67 := ((u38 241 67 rfl).trans (u35 241 67 rfl))
    have e62 : h38 241 69 = h 241 69 := ((u38 241 69 rfl).trans (u35 241 69 rfl))
    have e63 : h38 241 5 = h 241 5 := ((u38 241 5 rfl).trans (u35 241 5 rfl))
    have e64 : h38 1 1 = h 1 1 := ((u38 1 1 rfl).trans (u35 1 1 rfl))
    have e65 : h38 236 2 = h 236 2 := ((u38 236 2 rfl).trans (u35 236 2 rfl))
    have gp66 := GPH.fr u35 rfl gp0
    have gp67 := GPH.fr u38 rfl gp66
    exact k h38 b c ⟨g38, (show h38 1 1 = h38 236 2 by omega), (RS.i0 (f := h38 238) (by refine ⟨?_, ?_, ?_, ?_, ?_⟩ <;> omega)), (RS.i0 (f := h38 241) (by refine ⟨?_, ?_, ?_, ?_, ?_⟩ <;> omega)), gp67⟩ (by omega) (by omega)
  ·
    refine wk_h 13 (by decide) rfl ?_
    refine wr_asty (i := 4) (lo2 := [(4, .retAddr 0), (0, .ref 0), (1, vi ((xs i28).toInt)), (2, vi ((xs i31).toInt)), (3, .ref 259)]) (nx := 15) (r1 := 0) (r2 := 0) (r3 := 0) rfl rfl ?_
    refine wi_iconst (n := 1) (nx := 16) (r1 := 0) (r2 := 0) (r3 := 0) rfl ?_
    refine wi_ireturn (nx := 17) (r1 := 0) (r2 := 0) (r3 := 0) rfl rfl ?_
    refine wk_i ?_
    refine wi_istore (i := 5) (e := 1) (lo2 := [(5, vi 1), (0, .ref 1000000), (1, .ref 0), (2, .ref 236), (3, .ref 259), (4, vi i)]) (nx := 760) (r1 := 0) (r2 := 0) (r3 := 0) rfl rfl ?_
    refine wi_aload_n (i := 2) (x := 236) (nx := 761) (r1 := 0) (r2 := 0) (r3 := 0) rfl rfl ?_
    refine wi_aload_n (i := 0) (x := 1000000) (nx := 762) (r1 := 0) (r2 := 0) (r3 := 0) rfl rfl ?_
    refine wi_iload (i := 4) (e := i) (nx := 764) (r1 := 0) (r2 := 0) (r3 := 0) rfl rfl ?_
    refine wi_iconst (n := 1) (nx := 765) (r1 := 0) (r2 := 0) (r3 := 0) rfl ?_
    refine wr_add (nx := 766) (r1 := 0) (r2 := 0) (r3 := 0) rfl (fun e35 (fe35 : e35 = i + 1) => ?_)
    refine wr_sc (a := e35) (f := i28) (nx := 767) (r1 := 0) (r2 := 0) (r3 := 0) rfl (by omega) (by omega) hL ?_
    refine wi_aload_n (i := 0) (x := 1000000) (nx := 768) (r1 := 0) (r2 := 0) (r3 := 0) rfl rfl ?_
    refine wi_iload (i := 4) (e := i) (nx := 770) (r1 := 0) (r2 := 0) (r3 := 0) rfl rfl ?_
    refine wi_iconst (n := 2) (nx := 771) (r1 := 0) (r2 := 0) (r3 := 0) rfl ?_
    refine wr_add (nx := 772) (r1 := 0) (r2 := 0) (r3 := 0) rfl (fun e36 (fe36 : e36 = i + 2) => ?_)
    refine wr_sc (a := e36) (f := i31) (nx := 773) (r1 := 0) (r2 := 0) (r3 := 0) rfl (by omega) (by omega) hL ?_
    refine wr_V (k0 := 236) (rest := []) (as := [.ref 236, vi ((xs i28).toInt), vi ((xs i31).toInt)]) (nx := 776) (r1 := 257) (r2 := 2) (r3 := 11) rfl rfl rfl (of_decide_eq_true rfl) rfl rfl (by decide) rfl rfl (of_decide_eq_true rfl) (of_decide_eq_true rfl) ?_
    refine ct_257_236 hcr  g ((xs i28).toInt) ((xs i31).toInt) (by omega) (by omega)  (fun h37 z38 g37 u37 (fz38 : -1 ≤ z38 ∧ z38 ≤ 11) => ?_)
    refine wk_i ?_
    refine wi_istore (i := 6) (e := z38) (lo2 := [(6, vi z38), (5, vi 1), (0, .ref 1000000), (1, .ref 0), (2, .ref 236), (3, .ref 259), (4, vi i)]) (nx := 778) (r1 := 0) (r2 := 0) (r3 := 0) rfl rfl ?_
    refine wi_goto (nx := 781) (r1 := 1529) (r2 := 0) (r3 := 0) rfl ?_
    refine wp.lo (lo := [(0, .ref 1000000), (1, .ref 0), (2, .ref 236), (3, .ref 259), (4, vi i)]) ⟨rfl, rfl, rfl, rfl, rfl, trivial⟩ rfl ?_
    have e39 : h37 238 98 = h 238 98 := (u37 238 98 rfl)
    have e40 : h37 238 99 = h 238 99 := (u37 238 99 rfl)
    have e41 : h37 238 100 = h 238 100 := (u37 238 100 rfl)
    have e42 : h37 238 101 = h 238 101 := (u37 238 101 rfl)
    have e43 : h37 238 102 = h 238 102 := (u37 238 102 rfl)
    have e44 : h37 238 106 = h 238 106 := (u37 238 106 rfl)
    have e45 : h37 238 73 = h 238 73 := (u37 238 73 rfl)
    have e46 : h37 238 2 = h 238 2 := (u37 238 2 rfl)
    have e47 : h37 238 119 = h 238 119 := (u37 238 119 rfl)
    have e48 : h37 238 67 = h 238 67 := (u37 238 67 rfl)
    have e49 : h37 238 69 = h 238 69 := (u37 238 69 rfl)
    have e50 : h37 238 5 = h 238 5 := (u37 238 5 rfl)
    have e51 : h37 241 98 = h 241 98 := (u37 241 98 rfl)
    have e52 : h37 241 99 = h 241 99 := (u37 241 99 rfl)
    have e53 : h37 241 100 = h 241 100 := (u37 241 100 rfl)
    have e54 : h37 241 101 = h 241 101 := (u37 241 101 rfl)
    have e55 : h37 241 102 = h 241 102 := (u37 241 102 rfl)
    have e56 : h37 241 106 = h 241 106 := (u37 241 106 rfl)
    have e57 : h37 241 73 = h 241 73 := (u37 241 73 rfl)
    have e58 : h37 241 2 = h 241 2 := (u37 241 2 rfl)
    have e59 : h37 241 119 = h 241 119 := (u37 241 119 rfl)
    have e60 : h37 241 67 = h 241 67 := (u37 241 67 rfl)
    have e61 : h37 241 69 = h 241 69 := (u37 241 69 rfl)
    have e62 : h37 241 5 = h 241 5 := (u37 241 5 rfl)
    have e63 : h37 1 1 = h 1 1 := (u37 1 1 rfl)
    have e64 : h37 236 2 = h 236 2 := (u37 236 2 rfl)
    have gp65 := GPH.fr u37 rfl gp0
    exact k h37 (b - 1) (c - 6) ⟨g37, (show h37 1 1 = h37 236 2 by omega), (RS.i0 (f := h37 238) (by refine ⟨?_, ?_, ?_, ?_, ?_⟩ <;> omega)), (RS.i0 (f := h37 241) (by refine ⟨?_, ?_, ?_, ?_, ?_⟩ <;> omega)), gp65⟩ (by omega) (by omega)
-- the law, case at 781
set_option maxRecDepth 100000 in
set_option maxHeartbeats 100000000 in
theorem lc_781 {L : Nat} {xs : Nat → Int32} {d b c : Nat} {h : hp} {cr : Nat → Nat → Option Nat} {Q : hp_Q} (hcr : CR cr) (hL : L ≤ 3072) (hr : 1 ≤ b ∧ 6 ≤ c) (I : LI h) (i : Int) (hi : 0 ≤ i ∧ i + 6 ≤ L) (k : ∀ (h2 : hp) (b2 c2 : Nat), LI h2 → b ≤ b2 + 1 → c ≤ c2 + 6 → wp (md_xa (L, xs)) (d + 107) 0 (1529, [(0, .ref 1000000), (1, .ref 0), (2, .ref 236), (3, .ref 259), (4, vi i)], [], hp_w h2 cr, b2, c2) Q) : wp (md_xa (L, xs)) (d + 107) 0 (781, [(0, .ref 1000000), (1, .ref 0), (2, .ref 236), (3, .ref 259), (4, vi i)], [], hp_w h cr, b, c) Q := by
  obtain ⟨g, i11, r238, r241, gp0⟩ := I
  have r238e := r238.e0
  have r241e := r241.e0
  have b1 := gi_b (lo := 0) (hi := 6) g 238 98 rfl
  have b2 := gi_b (lo := 0) (hi := 6) g 238 99 rfl
  have b3 := gi_b (lo := 0) (hi := 6) g 238 100 rfl
  have b4 := gi_b (lo := 0) (hi := 6) g 238 101 rfl
  have b5 := gi_b (lo := 0) (hi := 3) g 238 102 rfl
  have b6 := gi_b (lo := 0) (hi := 12) g 238 106 rfl
  have b7 := gi_b (lo := 0) (hi := 12) g 238 73 rfl
  have b8 := gi_b (lo := 0) (hi := 12) g 238 2 rfl
  have b9 := gi_b (lo := 0) (hi := 9999) g 238 119 rfl
  have b10 := gi_b (lo := 0) (hi := 9999) g 238 67 rfl
  have b11 := gi_b (lo := 0) (hi := 9) g 238 69 rfl
  have b12 := gi_b (lo := 0) (hi := 9) g 238 5 rfl
  have b13 := gi_b (lo := 0) (hi := 6) g 241 98 rfl
  have b14 := gi_b (lo := 0) (hi := 6) g 241 99 rfl
  have b15 := gi_b (lo := 0) (hi := 6) g 241 100 rfl
  have b16 := gi_b (lo := 0) (hi := 6) g 241 101 rfl
  have b17 := gi_b (lo := 0) (hi := 3) g 241 102 rfl
  have b18 := gi_b (lo := 0) (hi := 12) g 241 106 rfl
  have b19 := gi_b (lo := 0) (hi := 12) g 241 73 rfl
  have b20 := gi_b (lo := 0) (hi := 12) g 241 2 rfl
  have b21 := gi_b (lo := 0) (hi := 9999) g 241 119 rfl
  have b22 := gi_b (lo := 0) (hi := 9999) g 241 67 rfl
  have b23 := gi_b (lo := 0) (hi := 9) g 241 69 rfl
  have b24 := gi_b (lo := 0) (hi := 9) g 241 5 rfl
  have b25 := gi_b (lo := 0) (hi := 800) g 1 1 rfl
  have b26 := gi_b (lo := 0) (hi := 800) g 236 2 rfl
  refine wi_aload_n (i := 1) (x := 0) (nx := 782) (r1 := 0) (r2 := 0) (r3 := 0) rfl rfl ?_
  refine wi_aload_n (i := 0) (x := 1000000) (nx := 783) (r1 := 0) (r2 := 0) (r3 := 0) rfl rfl ?_
  refine wi_iload (i := 4) (e := i) (nx := 785) (r1 := 0) (r2 := 0) (r3 := 0) rfl rfl ?_
  refine wi_iconst (n := 1) (nx := 786) (r1 := 0) (r2 := 0) (r3 := 0) rfl ?_
  refine wr_add (nx := 787) (r1 := 0) (r2 := 0) (r3 := 0) rfl (fun e27 (fe27 : e27 = i + 1) => ?_)
  obtain ⟨i28, ei28⟩ : ∃ q : Nat, e27 = (q : Int) := ⟨(e27).toNat, by omega⟩
  have s29 := sc_b (xs i28)
  refine wr_sc (a := e27) (f := i28) (nx := 788) (r1 := 0) (r2 := 0) (r3 := 0) rfl (by omega) (by omega) hL ?_
  refine wr_V (k0 := 0) (rest := []) (as := [.ref 0, vi ((xs i28).toInt)]) (nx := 791) (r1 := 32) (r2 := 1) (r3 := 0) rfl rfl rfl (of_decide_eq_true rfl) rfl rfl (by decide) rfl rfl (of_decide_eq_true rfl) (of_decide_eq_true rfl) ?_
  refine ct_32_0 hcr  g ((xs i28).toInt) (by omega)  (fun z31  (fz31 : -2147483648 ≤ z31 ∧ z31 ≤ 2147483647) => ?_)
  refine wk_i ?_
  refine wi_pop (nx := 792) (r1 := 0) (r2 := 0) (r3 := 0) rfl rfl ?_
  refine wi_aload_n (i := 2) (x := 236) (nx := 793) (r1 := 0) (r2 := 0) (r3 := 0) rfl rfl ?_
  refine wi_aload_n (i := 0) (x := 1000000) (nx := 794) (r1 := 0) (r2 := 0) (r3 := 0) rfl rfl ?_
  refine wi_iload (i := 4) (e := i) (nx := 796) (r1 := 0) (r2 := 0) (r3 := 0) rfl rfl ?_
  refine wi_iconst (n := 1) (nx := 797) (r1 := 0) (r2 := 0) (r3 := 0) rfl ?_
  refine wr_add (nx := 798) (r1 := 0) (r2 := 0) (r3 := 0) rfl (fun e32 (fe32 : e32 = i + 1) => ?_)
  refine wr_sc (a := e32) (f := i28) (nx := 799) (r1 := 0) (r2 := 0) (r3 := 0) rfl (by omega) (by omega) hL ?_
  refine wr_V (k0 := 236) (rest := []) (as := [.ref 236, vi ((xs i28).toInt)]) (nx := 802) (r1 := 259) (r2 := 1) (r3 := 11) rfl rfl rfl (of_decide_eq_true rfl) rfl rfl (by decide) rfl rfl (of_decide_eq_true rfl) (of_decide_eq_true rfl) ?_
  refine ct_259_236 hcr  g ((xs i28).toInt) (by omega)  (fun h33 z34 g33 u33 (fz34 : -1 ≤ z34 ∧ z34 ≤ 11) => ?_)
  refine wk_i ?_
  refine wi_pop (nx := 803) (r1 := 0) (r2 := 0) (r3 := 0) rfl rfl ?_
  refine wi_goto (nx := 806) (r1 := 1529) (r2 := 0) (r3 := 0) rfl ?_
  have e35 : h33 238 98 = h 238 98 := (u33 238 98 rfl)
  have e36 : h33 238 99 = h 238 99 := (u33 238 99 rfl)
  have e37 : h33 238 100 = h 238 100 := (u33 238 100 rfl)
  have e38 : h33 238 101 = h 238 101 := (u33 238 101 rfl)
  have e39 : h33 238 102 = h 238 102 := (u33 238 102 rfl)
  have e40 : h33 238 106 = h 238 106 := (u33 238 106 rfl)
  have e41 : h33 238 73 = h 238 73 := (u33 238 73 rfl)
  have e42 : h33 238 2 = h 238 2 := (u33 238 2 rfl)
  have e43 : h33 238 119 = h 238 119 := (u33 238 119 rfl)
  have e44 : h33 238 67 = h 238 67 := (u33 238 67 rfl)
  have e45 : h33 238 69 = h 238 69 := (u33 238 69 rfl)
  have e46 : h33 238 5 = h 238 5 := (u33 238 5 rfl)
  have e47 : h33 241 98 = h 241 98 := (u33 241 98 rfl)
  have e48 : h33 241 99 = h 241 99 := (u33 241 99 rfl)
  have e49 : h33 241 100 = h 241 100 := (u33 241 100 rfl)
  have e50 : h33 241 101 = h 241 101 := (u33 241 101 rfl)
  have e51 : h33 241 102 = h 241 102 := (u33 241 102 rfl)
  have e52 : h33 241 106 = h 241 106 := (u33 241 106 rfl)
  have e53 : h33 241 73 = h 241 73 := (u33 241 73 rfl)
  have e54 : h33 241 2 = h 241 2 := (u33 241 2 rfl)
  have e55 : h33 241 119 = h 241 119 := (u33 241 119 rfl)
  have e56 : h33 241 67 = h 241 67 := (u33 241 67 rfl)
  have e57 : h33 241 69 = h 241 69 := (u33 241 69 rfl)
  have e58 : h33 241 5 = h 241 5 := (u33 241 5 rfl)
  have e59 : h33 1 1 = h 1 1 := (u33 1 1 rfl)
  have e60 : h33 236 2 = h 236 2 := (u33 236 2 rfl)
  have gp61 := GPH.fr u33 rfl gp0
  exact k h33 b c ⟨g33, (show h33 1 1 = h33 236 2 by omega), (RS.i0 (f := h33 238) (by refine ⟨?_, ?_, ?_, ?_, ?_⟩ <;> omega)), (RS.i0 (f := h33 241) (by refine ⟨?_, ?_, ?_, ?_, ?_⟩ <;> omega)), gp61⟩ (by omega) (by omega)
-- the law, case at 806
set_option maxRecDepth 100000 in
set_option maxHeartbeats 100000000 in
theorem lc_806 {L : Nat} {xs : Nat → Int32} {d b c : Nat} {h : hp} {cr : Nat → Nat → Option Nat} {Q : hp_Q} (hcr : CR cr) (hL : L ≤ 3072) (hr : 1 ≤ b ∧ 6 ≤ c) (I : LI h) (i : Int) (hi : 0 ≤ i ∧ i + 6 ≤ L) (k : ∀ (h2 : hp) (b2 c2 : Nat), LI h2 → b ≤ b2 + 1 → c ≤ c2 + 6 → wp (md_xa (L, xs)) (d + 107) 0 (1529, [(0, .ref 1000000), (1, .ref 0), (2, .ref 236), (3, .ref 259), (4, vi i)], [], hp_w h2 cr, b2, c2) Q) : wp (md_xa (L, xs)) (d + 107) 0 (806, [(0, .ref 1000000), (1, .ref 0), (2, .ref 236), (3, .ref 259), (4, vi i)], [], hp_w h cr, b, c) Q := by
  obtain ⟨g, i11, r238, r241, gp0⟩ := I
  have r238e := r238.e0
  have r241e := r241.e0
  have b1 := gi_b (lo := 0) (hi := 6) g 238 98 rfl
  have b2 := gi_b (lo := 0) (hi := 6) g 238 99 rfl
  have b3 := gi_b (lo := 0) (hi := 6) g 238 100 rfl
  have b4 := gi_b (lo := 0) (hi := 6) g 238 101 rfl
  have b5 := gi_b (lo := 0) (hi := 3) g 238 102 rfl
  have b6 := gi_b (lo := 0) (hi := 12) g 238 106 rfl
  have b7 := gi_b (lo := 0) (hi := 12) g 238 73 rfl
  have b8 := gi_b (lo := 0) (hi := 12) g 238 2 rfl
  have b9 := gi_b (lo := 0) (hi := 9999) g 238 119 rfl
  have b10 := gi_b (lo := 0) (hi := 9999) g 238 67 rfl
  have b11 := gi_b (lo := 0) (hi := 9) g 238 69 rfl
  have b12 := gi_b (lo := 0) (hi := 9) g 238 5 rfl
  have b13 := gi_b (lo := 0) (hi := 6) g 241 98 rfl
  have b14 := gi_b (lo := 0) (hi := 6) g 241 99 rfl
  have b15 := gi_b (lo := 0) (hi := 6) g 241 100 rfl
  have b16 := gi_b (lo := 0) (hi := 6) g 241 101 rfl
  have b17 := gi_b (lo := 0) (hi := 3) g 241 102 rfl
  have b18 := gi_b (lo := 0) (hi := 12) g 241 106 rfl
  have b19 := gi_b (lo := 0) (hi := 12) g 241 73 rfl
  have b20 := gi_b (lo := 0) (hi := 12) g 241 2 rfl
  have b21 := gi_b (lo := 0) (hi := 9999) g 241 119 rfl
  have b22 := gi_b (lo := 0) (hi := 9999) g 241 67 rfl
  have b23 := gi_b (lo := 0) (hi := 9) g 241 69 rfl
  have b24 := gi_b (lo := 0) (hi := 9) g 241 5 rfl
  have b25 := gi_b (lo := 0) (hi := 800) g 1 1 rfl
  have b26 := gi_b (lo := 0) (hi := 800) g 236 2 rfl
  refine wi_aload_n (i := 1) (x := 0) (nx := 807) (r1 := 0) (r2 := 0) (r3 := 0) rfl rfl ?_
  refine wr_V (k0 := 0) (rest := []) (as := [.ref 0]) (nx := 810) (r1 := 33) (r2 := 0) (r3 := 0) rfl rfl rfl (of_decide_eq_true rfl) rfl rfl (by decide) rfl rfl (of_decide_eq_true rfl) (of_decide_eq_true rfl) ?_
  refine ct_33_0 hcr  g    (fun z28  (fz28 : -1 ≤ z28 ∧ z28 ≤ 2147483647) => ?_)
  refine wk_i ?_
  refine wi_pop (nx := 811) (r1 := 0) (r2 := 0) (r3 := 0) rfl rfl ?_
  refine wi_aload_n (i := 2) (x := 236) (nx := 812) (r1 := 0) (r2 := 0) (r3 := 0) rfl rfl ?_
  refine wr_V (k0 := 236) (rest := []) (as := [.ref 236]) (nx := 815) (r1 := 260) (r2 := 0) (r3 := 11) rfl rfl rfl (of_decide_eq_true rfl) rfl rfl (by decide) rfl rfl (of_decide_eq_true rfl) (of_decide_eq_true rfl) ?_
  refine ct_260_236 hcr  g    (fun h29 z30 g29 u29 (fz30 : -9999 ≤ z30 ∧ z30 ≤ 20000) => ?_)
  refine wk_i ?_
  refine wi_pop (nx := 816) (r1 := 0) (r2 := 0) (r3 := 0) rfl rfl ?_
  refine wi_goto (nx := 819) (r1 := 1529) (r2 := 0) (r3 := 0) rfl ?_
  have e31 : h29 238 98 = h 238 98 := (u29 238 98 rfl)
  have e32 : h29 238 99 = h 238 99 := (u29 238 99 rfl)
  have e33 : h29 238 100 = h 238 100 := (u29 238 100 rfl)
  have e34 : h29 238 101 = h 238 101 := (u29 238 101 rfl)
  have e35 : h29 238 102 = h 238 102 := (u29 238 102 rfl)
  have e36 : h29 238 106 = h 238 106 := (u29 238 106 rfl)
  have e37 : h29 238 73 = h 238 73 := (u29 238 73 rfl)
  have e38 : h29 238 2 = h 238 2 := (u29 238 2 rfl)
  have e39 : h29 238 119 = h 238 119 := (u29 238 119 rfl)
  have e40 : h29 238 67 = h 238 67 := (u29 238 67 rfl)
  have e41 : h29 238 69 = h 238 69 := (u29 238 69 rfl)
  have e42 : h29 238 5 = h 238 5 := (u29 238 5 rfl)
  have e43 : h29 241 98 = h 241 98 := (u29 241 98 rfl)
  have e44 : h29 241 99 = h 241 99 := (u29 241 99 rfl)
  have e45 : h29 241 100 = h 241 100 := (u29 241 100 rfl)
  have e46 : h29 241 101 = h 241 101 := (u29 241 101 rfl)
  have e47 : h29 241 102 = h 241 102 := (u29 241 102 rfl)
  have e48 : h29 241 106 = h 241 106 := (u29 241 106 rfl)
  have e49 : h29 241 73 = h 241 73 := (u29 241 73 rfl)
  have e50 : h29 241 2 = h 241 2 := (u29 241 2 rfl)
  have e51 : h29 241 119 = h 241 119 := (u29 241 119 rfl)
  have e52 : h29 241 67 = h 241 67 := (u29 241 67 rfl)
  have e53 : h29 241 69 = h 241 69 := (u29 241 69 rfl)
  have e54 : h29 241 5 = h 241 5 := (u29 241 5 rfl)
  have e55 : h29 1 1 = h 1 1 := (u29 1 1 rfl)
  have e56 : h29 236 2 = h 236 2 := (u29 236 2 rfl)
  have gp57 := GPH.fr u29 rfl gp0
  exact k h29 b c ⟨g29, (show h29 1 1 = h29 236 2 by omega), (RS.i0 (f := h29 238) (by refine ⟨?_, ?_, ?_, ?_, ?_⟩ <;> omega)), (RS.i0 (f := h29 241) (by refine ⟨?_, ?_, ?_, ?_, ?_⟩ <;> omega)), gp57⟩ (by omega) (by omega)
-- the law, case at 819
set_option maxRecDepth 100000 in
set_option maxHeartbeats 100000000 in
theorem lc_819 {L : Nat} {xs : Nat → Int32} {d b c : Nat} {h : hp} {cr : Nat → Nat → Option Nat} {Q : hp_Q} (hcr : CR cr) (hL : L ≤ 3072) (hr : 1 ≤ b ∧ 6 ≤ c) (I : LI h) (i : Int) (hi : 0 ≤ i ∧ i + 6 ≤ L) (k : ∀ (h2 : hp) (b2 c2 : Nat), LI h2 → b ≤ b2 + 1 → c ≤ c2 + 6 → wp (md_xa (L, xs)) (d + 107) 0 (1529, [(0, .ref 1000000), (1, .ref 0), (2, .ref 236), (3, .ref 259), (4, vi i)], [], hp_w h2 cr, b2, c2) Q) : wp (md_xa (L, xs)) (d + 107) 0 (819, [(0, .ref 1000000), (1, .ref 0), (2, .ref 236), (3, .ref 259), (4, vi i)], [], hp_w h cr, b, c) Q := by
  obtain ⟨g, i11, r238, r241, gp0⟩ := I
  have r238e := r238.e0
  have r241e := r241.e0
  have b1 := gi_b (lo := 0) (hi := 6) g 238 98 rfl
  have b2 := gi_b (lo := 0) (hi := 6) g 238 99 rfl
  have b3 := gi_b (lo := 0) (hi := 6) g 238 100 rfl
  have b4 := gi_b (lo := 0) (hi := 6) g 238 101 rfl
  have b5 := gi_b (lo := 0) (hi := 3) g 238 102 rfl
  have b6 := gi_b (lo := 0) (hi := 12) g 238 106 rfl
  have b7 := gi_b (lo := 0) (hi := 12) g 238 73 rfl
  have b8 := gi_b (lo := 0) (hi := 12) g 238 2 rfl
  have b9 := gi_b (lo := 0) (hi := 9999) g 238 119 rfl
  have b10 := gi_b (lo := 0) (hi := 9999) g 238 67 rfl
  have b11 := gi_b (lo := 0) (hi := 9) g 238 69 rfl
  have b12 := gi_b (lo := 0) (hi := 9) g 238 5 rfl
  have b13 := gi_b (lo := 0) (hi := 6) g 241 98 rfl
  have b14 := gi_b (lo := 0) (hi := 6) g 241 99 rfl
  have b15 := gi_b (lo := 0) (hi := 6) g 241 100 rfl
  have b16 := gi_b (lo := 0) (hi := 6) g 241 101 rfl
  have b17 := gi_b (lo := 0) (hi := 3) g 241 102 rfl
  have b18 := gi_b (lo := 0) (hi := 12) g 241 106 rfl
  have b19 := gi_b (lo := 0) (hi := 12) g 241 73 rfl
  have b20 := gi_b (lo := 0) (hi := 12) g 241 2 rfl
  have b21 := gi_b (lo := 0) (hi := 9999) g 241 119 rfl
  have b22 := gi_b (lo := 0) (hi := 9999) g 241 67 rfl
  have b23 := gi_b (lo := 0) (hi := 9) g 241 69 rfl
  have b24 := gi_b (lo := 0) (hi := 9) g 241 5 rfl
  have b25 := gi_b (lo := 0) (hi := 800) g 1 1 rfl
  have b26 := gi_b (lo := 0) (hi := 800) g 236 2 rfl
  refine wi_aload_n (i := 1) (x := 0) (nx := 820) (r1 := 0) (r2 := 0) (r3 := 0) rfl rfl ?_
  refine wr_V (k0 := 0) (rest := []) (as := [.ref 0]) (nx := 823) (r1 := 34) (r2 := 0) (r3 := 0) rfl rfl rfl (of_decide_eq_true rfl) rfl rfl (by decide) rfl rfl (of_decide_eq_true rfl) (of_decide_eq_true rfl) ?_
  refine ct_34_0 hcr  g    (fun z28  (fz28 : 0 ≤ z28 ∧ z28 ≤ 12) => ?_)
  refine wk_i ?_
  refine wi_pop (nx := 824) (r1 := 0) (r2 := 0) (r3 := 0) rfl rfl ?_
  refine wi_aload_n (i := 2) (x := 236) (nx := 825) (r1 := 0) (r2 := 0) (r3 := 0) rfl rfl ?_
  refine wr_V (k0 := 236) (rest := []) (as := [.ref 236]) (nx := 828) (r1 := 261) (r2 := 0) (r3 := 11) rfl rfl rfl (of_decide_eq_true rfl) rfl rfl (by decide) rfl rfl (of_decide_eq_true rfl) (of_decide_eq_true rfl) ?_
  refine ct_261_236 hcr  g    (fun h29 z30 g29 u29 (fz30 : 0 ≤ z30 ∧ z30 ≤ 12) => ?_)
  refine wk_i ?_
  refine wi_pop (nx := 829) (r1 := 0) (r2 := 0) (r3 := 0) rfl rfl ?_
  refine wi_goto (nx := 832) (r1 := 1529) (r2 := 0) (r3 := 0) rfl ?_
  have e31 : h29 238 98 = h 238 98 := (u29 238 98 rfl)
  have e32 : h29 238 99 = h 238 99 := (u29 238 99 rfl)
  have e33 : h29 238 100 = h 238 100 := (u29 238 100 rfl)
  have e34 : h29 238 101 = h 238 101 := (u29 238 101 rfl)
  have e35 : h29 238 102 = h 238 102 := (u29 238 102 rfl)
  have e36 : h29 238 106 = h 238 106 := (u29 238 106 rfl)
  have e37 : h29 238 73 = h 238 73 := (u29 238 73 rfl)
  have e38 : h29 238 2 = h 238 2 := (u29 238 2 rfl)
  have e39 : h29 238 119 = h 238 119 := (u29 238 119 rfl)
  have e40 : h29 238 67 = h 238 67 := (u29 238 67 rfl)
  have e41 : h29 238 69 = h 238 69 := (u29 238 69 rfl)
  have e42 : h29 238 5 = h 238 5 := (u29 238 5 rfl)
  have e43 : h29 241 98 = h 241 98 := (u29 241 98 rfl)
  have e44 : h29 241 99 = h 241 99 := (u29 241 99 rfl)
  have e45 : h29 241 100 = h 241 100 := (u29 241 100 rfl)
  have e46 : h29 241 101 = h 241 101 := (u29 241 101 rfl)
  have e47 : h29 241 102 = h 241 102 := (u29 241 102 rfl)
  have e48 : h29 241 106 = h 241 106 := (u29 241 106 rfl)
  have e49 : h29 241 73 = h 241 73 := (u29 241 73 rfl)
  have e50 : h29 241 2 = h 241 2 := (u29 241 2 rfl)
  have e51 : h29 241 119 = h 241 119 := (u29 241 119 rfl)
  have e52 : h29 241 67 = h 241 67 := (u29 241 67 rfl)
  have e53 : h29 241 69 = h 241 69 := (u29 241 69 rfl)
  have e54 : h29 241 5 = h 241 5 := (u29 241 5 rfl)
  have e55 : h29 1 1 = h 1 1 := (u29 1 1 rfl)
  have e56 : h29 236 2 = h 236 2 := (u29 236 2 rfl)
  have gp57 := GPH.fr u29 rfl gp0
  exact k h29 b c ⟨g29, (show h29 1 1 = h29 236 2 by omega), (RS.i0 (f := h29 238) (by refine ⟨?_, ?_, ?_, ?_, ?_⟩ <;> omega)), (RS.i0 (f := h29 241) (by refine ⟨?_, ?_, ?_, ?_, ?_⟩ <;> omega)), gp57⟩ (by omega) (by omega)
-- the law, case at 832
set_option maxRecDepth 100000 in
set_option maxHeartbeats 100000000 in
theorem lc_832 {L : Nat} {xs : Nat → Int32} {d b c : Nat} {h : hp} {cr : Nat → Nat → Option Nat} {Q : hp_Q} (hcr : CR cr) (hL : L ≤ 3072) (hr : 1 ≤ b ∧ 6 ≤ c) (I : LI h) (i : Int) (hi : 0 ≤ i ∧ i + 6 ≤ L) (k : ∀ (h2 : hp) (b2 c2 : Nat), LI h2 → b ≤ b2 + 1 → c ≤ c2 + 6 → wp (md_xa (L, xs)) (d + 107) 0 (1529, [(0, .ref 1000000), (1, .ref 0), (2, .ref 236), (3, .ref 259), (4, vi i)], [], hp_w h2 cr, b2, c2) Q) : wp (md_xa (L, xs)) (d + 107) 0 (832, [(0, .ref 1000000), (1, .ref 0), (2, .ref 236), (3, .ref 259), (4, vi i)], [], hp_w h cr, b, c) Q := by
  obtain ⟨g, i11, r238, r241, gp0⟩ := I
  have r238e := r238.e0
  have r241e := r241.e0
  have b1 := gi_b (lo := 0) (hi := 6) g 238 98 rfl
  have b2 := gi_b (lo := 0) (hi := 6) g 238 99 rfl
  have b3 := gi_b (lo := 0) (hi := 6) g 238 100 rfl
  have b4 := gi_b (lo := 0) (hi := 6) g 238 101 rfl
  have b5 := gi_b (lo := 0) (hi := 3) g 238 102 rfl
  have b6 := gi_b (lo := 0) (hi := 12) g 238 106 rfl
  have b7 := gi_b (lo := 0) (hi := 12) g 238 73 rfl
  have b8 := gi_b (lo := 0) (hi := 12) g 238 2 rfl
  have b9 := gi_b (lo := 0) (hi := 9999) g 238 119 rfl
  have b10 := gi_b (lo := 0) (hi := 9999) g 238 67 rfl
  have b11 := gi_b (lo := 0) (hi := 9) g 238 69 rfl
  have b12 := gi_b (lo := 0) (hi := 9) g 238 5 rfl
  have b13 := gi_b (lo := 0) (hi := 6) g 241 98 rfl
  have b14 := gi_b (lo := 0) (hi := 6) g 241 99 rfl
  have b15 := gi_b (lo := 0) (hi := 6) g 241 100 rfl
  have b16 := gi_b (lo := 0) (hi := 6) g 241 101 rfl
  have b17 := gi_b (lo := 0) (hi := 3) g 241 102 rfl
  have b18 := gi_b (lo := 0) (hi := 12) g 241 106 rfl
  have b19 := gi_b (lo := 0) (hi := 12) g 241 73 rfl
  have b20 := gi_b (lo := 0) (hi := 12) g 241 2 rfl
  have b21 := gi_b (lo := 0) (hi := 9999) g 241 119 rfl
  have b22 := gi_b (lo := 0) (hi := 9999) g 241 67 rfl
  have b23 := gi_b (lo := 0) (hi := 9) g 241 69 rfl
  have b24 := gi_b (lo := 0) (hi := 9) g 241 5 rfl
  have b25 := gi_b (lo := 0) (hi := 800) g 1 1 rfl
  have b26 := gi_b (lo := 0) (hi := 800) g 236 2 rfl
  refine wi_aload_n (i := 1) (x := 0) (nx := 833) (r1 := 0) (r2 := 0) (r3 := 0) rfl rfl ?_
  refine wi_aload_n (i := 0) (x := 1000000) (nx := 834) (r1 := 0) (r2 := 0) (r3 := 0) rfl rfl ?_
  refine wi_iload (i := 4) (e := i) (nx := 836) (r1 := 0) (r2 := 0) (r3 := 0) rfl rfl ?_
  refine wi_iconst (n := 1) (nx := 837) (r1 := 0) (r2 := 0) (r3 := 0) rfl ?_
  refine wr_add (nx := 838) (r1 := 0) (r2 := 0) (r3 := 0) rfl (fun e27 (fe27 : e27 = i + 1) => ?_)
  obtain ⟨i28, ei28⟩ : ∃ q : Nat, e27 = (q : Int) := ⟨(e27).toNat, by omega⟩
  have s29 := sc_b (xs i28)
  refine wr_sc (a := e27) (f := i28) (nx := 839) (r1 := 0) (r2 := 0) (r3 := 0) rfl (by omega) (by omega) hL ?_
  refine wr_V (k0 := 0) (rest := []) (as := [.ref 0, vi ((xs i28).toInt)]) (nx := 842) (r1 := 35) (r2 := 1) (r3 := 0) rfl rfl rfl (of_decide_eq_true rfl) rfl rfl (by decide) rfl rfl (of_decide_eq_true rfl) (of_decide_eq_true rfl) ?_
  refine ct_35_0 hcr  g ((xs i28).toInt) (by omega)  (fun z31  (fz31 : -2147483648 ≤ z31 ∧ z31 ≤ 2147483647) => ?_)
  refine wk_i ?_
  refine wi_pop (nx := 843) (r1 := 0) (r2 := 0) (r3 := 0) rfl rfl ?_
  refine wi_aload_n (i := 2) (x := 236) (nx := 844) (r1 := 0) (r2 := 0) (r3 := 0) rfl rfl ?_
  refine wi_aload_n (i := 0) (x := 1000000) (nx := 845) (r1 := 0) (r2 := 0) (r3 := 0) rfl rfl ?_
  refine wi_iload (i := 4) (e := i) (nx := 847) (r1 := 0) (r2 := 0) (r3 := 0) rfl rfl ?_
  refine wi_iconst (n := 1) (nx := 848) (r1 := 0) (r2 := 0) (r3 := 0) rfl ?_
  refine wr_add (nx := 849) (r1 := 0) (r2 := 0) (r3 := 0) rfl (fun e32 (fe32 : e32 = i + 1) => ?_)
  refine wr_sc (a := e32) (f := i28) (nx := 850) (r1 := 0) (r2 := 0) (r3 := 0) rfl (by omega) (by omega) hL ?_
  refine wr_V (k0 := 236) (rest := []) (as := [.ref 236, vi ((xs i28).toInt)]) (nx := 853) (r1 := 262) (r2 := 1) (r3 := 11) rfl rfl rfl (of_decide_eq_true rfl) rfl rfl (by decide) rfl rfl (of_decide_eq_true rfl) (of_decide_eq_true rfl) ?_
  refine ct_262_236 hcr  g ((xs i28).toInt) (by omega)  (fun h33 z34 g33 u33 (fz34 : -1 ≤ z34 ∧ z34 ≤ 11) => ?_)
  refine wk_i ?_
  refine wi_pop (nx := 854) (r1 := 0) (r2 := 0) (r3 := 0) rfl rfl ?_
  refine wi_goto (nx := 857) (r1 := 1529) (r2 := 0) (r3 := 0) rfl ?_
  have e35 : h33 238 98 = h 238 98 := (u33 238 98 rfl)
  have e36 : h33 238 99 = h 238 99 := (u33 238 99 rfl)
  have e37 : h33 238 100 = h 238 100 := (u33 238 100 rfl)
  have e38 : h33 238 101 = h 238 101 := (u33 238 101 rfl)
  have e39 : h33 238 102 = h 238 102 := (u33 238 102 rfl)
  have e40 : h33 238 106 = h 238 106 := (u33 238 106 rfl)
  have e41 : h33 238 73 = h 238 73 := (u33 238 73 rfl)
  have e42 : h33 238 2 = h 238 2 := (u33 238 2 rfl)
  have e43 : h33 238 119 = h 238 119 := (u33 238 119 rfl)
  have e44 : h33 238 67 = h 238 67 := (u33 238 67 rfl)
  have e45 : h33 238 69 = h 238 69 := (u33 238 69 rfl)
  have e46 : h33 238 5 = h 238 5 := (u33 238 5 rfl)
  have e47 : h33 241 98 = h 241 98 := (u33 241 98 rfl)
  have e48 : h33 241 99 = h 241 99 := (u33 241 99 rfl)
  have e49 : h33 241 100 = h 241 100 := (u33 241 100 rfl)
  have e50 : h33 241 101 = h 241 101 := (u33 241 101 rfl)
  have e51 : h33 241 102 = h 241 102 := (u33 241 102 rfl)
  have e52 : h33 241 106 = h 241 106 := (u33 241 106 rfl)
  have e53 : h33 241 73 = h 241 73 := (u33 241 73 rfl)
  have e54 : h33 241 2 = h 241 2 := (u33 241 2 rfl)
  have e55 : h33 241 119 = h 241 119 := (u33 241 119 rfl)
  have e56 : h33 241 67 = h 241 67 := (u33 241 67 rfl)
  have e57 : h33 241 69 = h 241 69 := (u33 241 69 rfl)
  have e58 : h33 241 5 = h 241 5 := (u33 241 5 rfl)
  have e59 : h33 1 1 = h 1 1 := (u33 1 1 rfl)
  have e60 : h33 236 2 = h 236 2 := (u33 236 2 rfl)
  have gp61 := GPH.fr u33 rfl gp0
  exact k h33 b c ⟨g33, (show h33 1 1 = h33 236 2 by omega), (RS.i0 (f := h33 238) (by refine ⟨?_, ?_, ?_, ?_, ?_⟩ <;> omega)), (RS.i0 (f := h33 241) (by refine ⟨?_, ?_, ?_, ?_, ?_⟩ <;> omega)), gp61⟩ (by omega) (by omega)
-- the law, case at 857
set_option maxRecDepth 100000 in
set_option maxHeartbeats 100000000 in
theorem lc_857 {L : Nat} {xs : Nat → Int32} {d b c : Nat} {h : hp} {cr : Nat → Nat → Option Nat} {Q : hp_Q} (hcr : CR cr) (hL : L ≤ 3072) (hr : 1 ≤ b ∧ 6 ≤ c) (I : LI h) (i : Int) (hi : 0 ≤ i ∧ i + 6 ≤ L) (k : ∀ (h2 : hp) (b2 c2 : Nat), LI h2 → b ≤ b2 + 1 → c ≤ c2 + 6 → wp (md_xa (L, xs)) (d + 107) 0 (1529, [(0, .ref 1000000), (1, .ref 0), (2, .ref 236), (3, .ref 259), (4, vi i)], [], hp_w h2 cr, b2, c2) Q) : wp (md_xa (L, xs)) (d + 107) 0 (857, [(0, .ref 1000000), (1, .ref 0), (2, .ref 236), (3, .ref 259), (4, vi i)], [], hp_w h cr, b, c) Q := by
  obtain ⟨g, i11, r238, r241, gp0⟩ := I
  have r238e := r238.e0
  have r241e := r241.e0
  have b1 := gi_b (lo := 0) (hi := 6) g 238 98 rfl
  have b2 := gi_b (lo := 0) (hi := 6) g 238 99 rfl
  have b3 := gi_b (lo := 0) (hi := 6) g 238 100 rfl
  have b4 := gi_b (lo := 0) (hi := 6) g 238 101 rfl
  have b5 := gi_b (lo := 0) (hi := 3) g 238 102 rfl
  have b6 := gi_b (lo := 0) (hi := 12) g 238 106 rfl
  have b7 := gi_b (lo := 0) (hi := 12) g 238 73 rfl
  have b8 := gi_b (lo := 0) (hi := 12) g 238 2 rfl
  have b9 := gi_b (lo := 0) (hi := 9999) g 238 119 rfl
  have b10 := gi_b (lo := 0) (hi := 9999) g 238 67 rfl
  have b11 := gi_b (lo := 0) (hi := 9) g 238 69 rfl
  have b12 := gi_b (lo := 0) (hi := 9) g 238 5 rfl
  have b13 := gi_b (lo := 0) (hi := 6) g 241 98 rfl
  have b14 := gi_b (lo := 0) (hi := 6) g 241 99 rfl
  have b15 := gi_b (lo := 0) (hi := 6) g 241 100 rfl
  have b16 := gi_b (lo := 0) (hi := 6) g 241 101 rfl
  have b17 := gi_b (lo := 0) (hi := 3) g 241 102 rfl
  have b18 := gi_b (lo := 0) (hi := 12) g 241 106 rfl
  have b19 := gi_b (lo := 0) (hi := 12) g 241 73 rfl
  have b20 := gi_b (lo := 0) (hi := 12) g 241 2 rfl
  have b21 := gi_b (lo := 0) (hi := 9999) g 241 119 rfl
  have b22 := gi_b (lo := 0) (hi := 9999) g 241 67 rfl
  have b23 := gi_b (lo := 0) (hi := 9) g 241 69 rfl
  have b24 := gi_b (lo := 0) (hi := 9) g 241 5 rfl
  have b25 := gi_b (lo := 0) (hi := 800) g 1 1 rfl
  have b26 := gi_b (lo := 0) (hi := 800) g 236 2 rfl
  refine wi_aload_n (i := 1) (x := 0) (nx := 858) (r1 := 0) (r2 := 0) (r3 := 0) rfl rfl ?_
  refine wi_aload_n (i := 0) (x := 1000000) (nx := 859) (r1 := 0) (r2 := 0) (r3 := 0) rfl rfl ?_
  refine wi_iload (i := 4) (e := i) (nx := 861) (r1 := 0) (r2 := 0) (r3 := 0) rfl rfl ?_
  refine wi_iconst (n := 1) (nx := 862) (r1 := 0) (r2 := 0) (r3 := 0) rfl ?_
  refine wr_add (nx := 863) (r1 := 0) (r2 := 0) (r3 := 0) rfl (fun e27 (fe27 : e27 = i + 1) => ?_)
  obtain ⟨i28, ei28⟩ : ∃ q : Nat, e27 = (q : Int) := ⟨(e27).toNat, by omega⟩
  have s29 := sc_b (xs i28)
  refine wr_sc (a := e27) (f := i28) (nx := 864) (r1 := 0) (r2 := 0) (r3 := 0) rfl (by omega) (by omega) hL ?_
  refine wi_aload_n (i := 3) (x := 259) (nx := 865) (r1 := 0) (r2 := 0) (r3 := 0) rfl rfl ?_
  refine wi_S (rest := []) (as := [.ref 0, vi ((xs i28).toInt), .ref 259]) (nx := 868) (r1 := 14) (r2 := 19) (r3 := 0) rfl rfl rfl (of_decide_eq_true rfl) rfl rfl (of_decide_eq_true rfl) (of_decide_eq_true rfl) ?_
  refine wi_aload_n (i := 2) (x := 259) (nx := 1) (r1 := 0) (r2 := 0) (r3 := 0) rfl rfl ?_
  refine wi_iconst (n := 0) (nx := 2) (r1 := 0) (r2 := 0) (r3 := 0) rfl ?_
  refine wi_aload_n (i := 0) (x := 0) (nx := 3) (r1 := 0) (r2 := 0) (r3 := 0) rfl rfl ?_
  refine wi_iload_n (i := 1) (e := (xs i28).toInt) (nx := 4) (r1 := 0) (r2 := 0) (r3 := 0) rfl rfl ?_
  refine wr_V (k0 := 0) (rest := [vi 0, .ref 259]) (as := [.ref 0, vi ((xs i28).toInt)]) (nx := 7) (r1 := 76) (r2 := 1) (r3 := 0) rfl rfl rfl (of_decide_eq_true rfl) rfl rfl (by decide) rfl rfl (of_decide_eq_true rfl) (of_decide_eq_true rfl) ?_
  refine ct_76_0 hcr hr  g ((xs i28).toInt) (by omega)  (fun z31  (fz31 : -11 ≤ z31 ∧ z31 ≤ 11) => ?_) ?_ ?_
  ·
    refine wk_i ?_
    refine wi_i2l (nx := 8) (r1 := 0) (r2 := 0) (r3 := 0) rfl (by omega) ?_
    refine wr_ls (k0 := 259) (a := 0) (f := 0) (x := z31) (bl := -9223372036854775808) (bh := 9223372036854775807) (nx := 9) (r1 := 0) (r2 := 0) (r3 := 0) rfl (by decide) rfl (by omega) (by omega) (by decide) g rfl (by omega) (fun h32 g32 w32 u32 => ?_)
    refine wi_goto (nx := 12) (r1 := 18) (r2 := 0) (r3 := 0) rfl ?_
    refine wi_iconst (n := 0) (nx := 19) (r1 := 0) (r2 := 0) (r3 := 0) rfl ?_
    refine wi_ireturn (nx := 20) (r1 := 0) (r2 := 0) (r3 := 0) rfl rfl ?_
    refine wk_i ?_
    refine wi_istore (i := 5) (e := 0) (lo2 := [(5, vi 0), (0, .ref 1000000), (1, .ref 0), (2, .ref 236), (3, .ref 259), (4, vi i)]) (nx := 870) (r1 := 0) (r2 := 0) (r3 := 0) rfl rfl ?_
    refine wi_aload_n (i := 2) (x := 236) (nx := 871) (r1 := 0) (r2 := 0) (r3 := 0) rfl rfl ?_
    refine wi_aload_n (i := 0) (x := 1000000) (nx := 872) (r1 := 0) (r2 := 0) (r3 := 0) rfl rfl ?_
    refine wi_iload (i := 4) (e := i) (nx := 874) (r1 := 0) (r2 := 0) (r3 := 0) rfl rfl ?_
    refine wi_iconst (n := 1) (nx := 875) (r1 := 0) (r2 := 0) (r3 := 0) rfl ?_
    refine wr_add (nx := 876) (r1 := 0) (r2 := 0) (r3 := 0) rfl (fun e33 (fe33 : e33 = i + 1) => ?_)
    refine wr_sc (a := e33) (f := i28) (nx := 877) (r1 := 0) (r2 := 0) (r3 := 0) rfl (by omega) (by omega) hL ?_
    refine wr_V (k0 := 236) (rest := []) (as := [.ref 236, vi ((xs i28).toInt)]) (nx := 880) (r1 := 263) (r2 := 1) (r3 := 11) rfl rfl rfl (of_decide_eq_true rfl) rfl rfl (by decide) rfl rfl (of_decide_eq_true rfl) (of_decide_eq_true rfl) ?_
    refine ct_263_236 hcr  g32 ((xs i28).toInt) (by omega)  (fun h34 z35 g34 u34 (fz35 : -12 ≤ z35 ∧ z35 ≤ 11) => ?_)
    refine wk_i ?_
    refine wi_istore (i := 6) (e := z35) (lo2 := [(6, vi z35), (5, vi 0), (0, .ref 1000000), (1, .ref 0), (2, .ref 236), (3, .ref 259), (4, vi i)]) (nx := 882) (r1 := 0) (r2 := 0) (r3 := 0) rfl rfl ?_
    refine wi_goto (nx := 885) (r1 := 1529) (r2 := 0) (r3 := 0) rfl ?_
    refine wp.lo (lo := [(0, .ref 1000000), (1, .ref 0), (2, .ref 236), (3, .ref 259), (4, vi i)]) ⟨rfl, rfl, rfl, rfl, rfl, trivial⟩ rfl ?_
    have e36 : h34 238 98 = h 238 98 := ((u34 238 98 rfl).trans (u32 238 98 rfl))
    have e37 : h34 238 99 = h 238 99 := ((u34 238 99 rfl).trans (u32 238 99 rfl))
    have e38 : h34 238 100 = h 238 100 := ((u34 238 100 rfl).trans (u32 238 100 rfl))
    have e39 : h34 238 101 = h 238 101 := ((u34 238 101 rfl).trans (u32 238 101 rfl))
    have e40 : h34 238 102 = h 238 102 := ((u34 238 102 rfl).trans (u32 238 102 rfl))
    have e41 : h34 238 106 = h 238 106 := ((u34 238 106 rfl).trans (u32 238 106 rfl))
    have e42 : h34 238 73 = h 238 73 := ((u34 238 73 rfl).trans (u32 238 73 rfl))
    have e43 : h34 238 2 = h 238 2 := ((u34 238 2 rfl).trans (u32 238 2 rfl))
    have e44 : h34 238 119 = h 238 119 := ((u34 238 119 rfl).trans (u32 238 119 rfl))
    have e45 : h34 238 67 = h 238 67 := ((u34 238 67 rfl).trans (u32 238 67 rfl))
    have e46 : h34 238 69 = h 238 69 := ((u34 238 69 rfl).trans (u32 238 69 rfl))
    have e47 : h34 238 5 = h 238 5 := ((u34 238 5 rfl).trans (u32 238 5 rfl))
    have e48 : h34 241 98 = h 241 98 := ((u34 241 98 rfl).trans (u32 241 98 rfl))
    have e49 : h34 241 99 = h 241 99 := ((u34 241 99 rfl).trans (u32 241 99 rfl))
    have e50 : h34 241 100 = h 241 100 := ((u34 241 100 rfl).trans (u32 241 100 rfl))
    have e51 : h34 241 101 = h 241 101 := ((u34 241 101 rfl).trans (u32 241 101 rfl))
    have e52 : h34 241 102 = h 241 102 := ((u34 241 102 rfl).trans (u32 241 102 rfl))
    have e53 : h34 241 106 = h 241 106 := ((u34 241 106 rfl).trans (u32 241 106 rfl))
    have e54 : h34 241 73 = h 241 73 := ((u34 241 73 rfl).trans (u32 241 73 rfl))
    have e55 : h34 241 2 = h 241 2 := ((u34 241 2 rfl).trans (u32 241 2 rfl))
    have e56 : h34 241 119 = h 241 119 := ((u34 241 119 rfl).trans (u32 241 119 rfl))
    have e57 : h34 241 67 = h 241 67 := ((u34 241 67 rfl).trans (u32 241 67 rfl))
    have e58 : h34 241 69 = h 241 69 := ((u34 241 69 rfl).trans (u32 241 69 rfl))
    have e59 : h34 241 5 = h 241 5 := ((u34 241 5 rfl).trans (u32 241 5 rfl))
    have e60 : h34 1 1 = h 1 1 := ((u34 1 1 rfl).trans (u32 1 1 rfl))
    have e61 : h34 236 2 = h 236 2 := ((u34 236 2 rfl).trans (u32 236 2 rfl))
    have gp62 := GPH.fr u32 rfl gp0
    have gp63 := GPH.fr u34 rfl gp62
    exact k h34 b c ⟨g34, (show h34 1 1 = h34 236 2 by omega), (RS.i0 (f := h34 238) (by refine ⟨?_, ?_, ?_, ?_, ?_⟩ <;> omega)), (RS.i0 (f := h34 241) (by refine ⟨?_, ?_, ?_, ?_, ?_⟩ <;> omega)), gp63⟩ (by omega) (by omega)
  ·
    refine wk_h 15 (by decide) rfl ?_
    refine wr_astx (i := 3) (lo2 := [(3, .retAddr 0), (0, .ref 0), (1, vi ((xs i28).toInt)), (2, .ref 259)]) (nx := 16) (r1 := 0) (r2 := 0) (r3 := 0) rfl rfl ?_
    refine wi_iconst (n := 2) (nx := 17) (r1 := 0) (r2 := 0) (r3 := 0) rfl ?_
    refine wi_ireturn (nx := 18) (r1 := 0) (r2 := 0) (r3 := 0) rfl rfl ?_
    refine wk_i ?_
    refine wi_istore (i := 5) (e := 2) (lo2 := [(5, vi 2), (0, .ref 1000000), (1, .ref 0), (2, .ref 236), (3, .ref 259), (4, vi i)]) (nx := 870) (r1 := 0) (r2 := 0) (r3 := 0) rfl rfl ?_
    refine wi_aload_n (i := 2) (x := 236) (nx := 871) (r1 := 0) (r2 := 0) (r3 := 0) rfl rfl ?_
    refine wi_aload_n (i := 0) (x := 1000000) (nx := 872) (r1 := 0) (r2 := 0) (r3 := 0) rfl rfl ?_
    refine wi_iload (i := 4) (e := i) (nx := 874) (r1 := 0) (r2 := 0) (r3 := 0) rfl rfl ?_
    refine wi_iconst (n := 1) (nx := 875) (r1 := 0) (r2 := 0) (r3 := 0) rfl ?_
    refine wr_add (nx := 876) (r1 := 0) (r2 := 0) (r3 := 0) rfl (fun e32 (fe32 : e32 = i + 1) => ?_)
    refine wr_sc (a := e32) (f := i28) (nx := 877) (r1 := 0) (r2 := 0) (r3 := 0) rfl (by omega) (by omega) hL ?_
    refine wr_V (k0 := 236) (rest := []) (as := [.ref 236, vi ((xs i28).toInt)]) (nx := 880) (r1 := 263) (r2 := 1) (r3 := 11) rfl rfl rfl (of_decide_eq_true rfl) rfl rfl (by decide) rfl rfl (of_decide_eq_true rfl) (of_decide_eq_true rfl) ?_
    refine ct_263_236 hcr  g ((xs i28).toInt) (by omega)  (fun h33 z34 g33 u33 (fz34 : -12 ≤ z34 ∧ z34 ≤ 11) => ?_)
    refine wk_i ?_
    refine wi_istore (i := 6) (e := z34) (lo2 := [(6, vi z34), (5, vi 2), (0, .ref 1000000), (1, .ref 0), (2, .ref 236), (3, .ref 259), (4, vi i)]) (nx := 882) (r1 := 0) (r2 := 0) (r3 := 0) rfl rfl ?_
    refine wi_goto (nx := 885) (r1 := 1529) (r2 := 0) (r3 := 0) rfl ?_
    refine wp.lo (lo := [(0, .ref 1000000), (1, .ref 0), (2, .ref 236), (3, .ref 259), (4, vi i)]) ⟨rfl, rfl, rfl, rfl, rfl, trivial⟩ rfl ?_
    have e35 : h33 238 98 = h 238 98 := (u33 238 98 rfl)
    have e36 : h33 238 99 = h 238 99 := (u33 238 99 rfl)
    have e37 : h33 238 100 = h 238 100 := (u33 238 100 rfl)
    have e38 : h33 238 101 = h 238 101 := (u33 238 101 rfl)
    have e39 : h33 238 102 = h 238 102 := (u33 238 102 rfl)
    have e40 : h33 238 106 = h 238 106 := (u33 238 106 rfl)
    have e41 : h33 238 73 = h 238 73 := (u33 238 73 rfl)
    have e42 : h33 238 2 = h 238 2 := (u33 238 2 rfl)
    have e43 : h33 238 119 = h 238 119 := (u33 238 119 rfl)
    have e44 : h33 238 67 = h 238 67 := (u33 238 67 rfl)
    have e45 : h33 238 69 = h 238 69 := (u33 238 69 rfl)
    have e46 : h33 238 5 = h 238 5 := (u33 238 5 rfl)
    have e47 : h33 241 98 = h 241 98 := (u33 241 98 rfl)
    have e48 : h33 241 99 = h 241 99 := (u33 241 99 rfl)
    have e49 : h33 241 100 = h 241 100 := (u33 241 100 rfl)
    have e50 : h33 241 101 = h 241 101 := (u33 241 101 rfl)
    have e51 : h33 241 102 = h 241 102 := (u33 241 102 rfl)
    have e52 : h33 241 106 = h 241 106 := (u33 241 106 rfl)
    have e53 : h33 241 73 = h 241 73 := (u33 241 73 rfl)
    have e54 : h33 241 2 = h 241 2 := (u33 241 2 rfl)
    have e55 : h33 241 119 = h 241 119 := (u33 241 119 rfl)
    have e56 : h33 241 67 = h 241 67 := (u33 241 67 rfl)
    have e57 : h33 241 69 = h 241 69 := (u33 241 69 rfl)
    have e58 : h33 241 5 = h 241 5 := (u33 241 5 rfl)
    have e59 : h33 1 1 = h 1 1 := (u33 1 1 rfl)
    have e60 : h33 236 2 = h 236 2 := (u33 236 2 rfl)
    have gp61 := GPH.fr u33 rfl gp0
    exact k h33 (b - 1) (c - 6) ⟨g33, (show h33 1 1 = h33 236 2 by omega), (RS.i0 (f := h33 238) (by refine ⟨?_, ?_, ?_, ?_, ?_⟩ <;> omega)), (RS.i0 (f := h33 241) (by refine ⟨?_, ?_, ?_, ?_, ?_⟩ <;> omega)), gp61⟩ (by omega) (by omega)
  ·
    refine wk_h 12 (by decide) rfl ?_
    refine wr_astx (i := 3) (lo2 := [(3, .retAddr 0), (0, .ref 0), (1, vi ((xs i28).toInt)), (2, .ref 259)]) (nx := 13) (r1 := 0) (r2 := 0) (r3 := 0) rfl rfl ?_
    refine wi_iconst (n := 1) (nx := 14) (r1 := 0) (r2 := 0) (r3 := 0) rfl ?_
    refine wi_ireturn (nx := 15) (r1 := 0) (r2 := 0) (r3 := 0) rfl rfl ?_
    refine wk_i ?_
    refine wi_istore (i := 5) (e := 1) (lo2 := [(5, vi 1), (0, .ref 1000000), (1, .ref 0), (2, .ref 236), (3, .ref 259), (4, vi i)]) (nx := 870) (r1 := 0) (r2 := 0) (r3 := 0) rfl rfl ?_
    refine wi_aload_n (i := 2) (x := 236) (nx := 871) (r1 := 0) (r2 := 0) (r3 := 0) rfl rfl ?_
    refine wi_aload_n (i := 0) (x := 1000000) (nx := 872) (r1 := 0) (r2 := 0) (r3 := 0) rfl rfl ?_
    refine wi_iload (i := 4) (e := i) (nx := 874) (r1 := 0) (r2 := 0) (r3 := 0) rfl rfl ?_
    refine wi_iconst (n := 1) (nx := 875) (r1 := 0) (r2 := 0) (r3 := 0) rfl ?_
    refine wr_add (nx := 876) (r1 := 0) (r2 := 0) (r3 := 0) rfl (fun e32 (fe32 : e32 = i + 1) => ?_)
    refine wr_sc (a := e32) (f := i28) (nx := 877) (r1 := 0) (r2 := 0) (r3 := 0) rfl (by omega) (by omega) hL ?_
    refine wr_V (k0 := 236) (rest := []) (as := [.ref 236, vi ((xs i28).toInt)]) (nx := 880) (r1 := 263) (r2 := 1) (r3 := 11) rfl rfl rfl (of_decide_eq_true rfl) rfl rfl (by decide) rfl rfl (of_decide_eq_true rfl) (of_decide_eq_true rfl) ?_
    refine ct_263_236 hcr  g ((xs i28).toInt) (by omega)  (fun h33 z34 g33 u33 (fz34 : -12 ≤ z34 ∧ z34 ≤ 11) => ?_)
    refine wk_i ?_
    refine wi_istore (i := 6) (e := z34) (lo2 := [(6, vi z34), (5, vi 1), (0, .ref 1000000), (1, .ref 0), (2, .ref 236), (3, .ref 259), (4, vi i)]) (nx := 882) (r1 := 0) (r2 := 0) (r3 := 0) rfl rfl ?_
    refine wi_goto (nx := 885) (r1 := 1529) (r2 := 0) (r3 := 0) rfl ?_
    refine wp.lo (lo := [(0, .ref 1000000), (1, .ref 0), (2, .ref 236), (3, .ref 259), (4, vi i)]) ⟨rfl, rfl, rfl, rfl, rfl, trivial⟩ rfl ?_
    have e35 : h33 238 98 = h 238 98 := (u33 238 98 rfl)
    have e36 : h33 238 99 = h 238 99 := (u33 238 99 rfl)
    have e37 : h33 238 100 = h 238 100 := (u33 238 100 rfl)
    have e38 : h33 238 101 = h 238 101 := (u33 238 101 rfl)
    have e39 : h33 238 102 = h 238 102 := (u33 238 102 rfl)
    have e40 : h33 238 106 = h 238 106 := (u33 238 106 rfl)
    have e41 : h33 238 73 = h 238 73 := (u33 238 73 rfl)
    have e42 : h33 238 2 = h 238 2 := (u33 238 2 rfl)
    have e43 : h33 238 119 = h 238 119 := (u33 238 119 rfl)
    have e44 : h33 238 67 = h 238 67 := (u33 238 67 rfl)
    have e45 : h33 238 69 = h 238 69 := (u33 238 69 rfl)
    have e46 : h33 238 5 = h 238 5 := (u33 238 5 rfl)
    have e47 : h33 241 98 = h 241 98 := (u33 241 98 rfl)
    have e48 : h33 241 99 = h 241 99 := (u33 241 99 rfl)
    have e49 : h33 241 100 = h 241 100 := (u33 241 100 rfl)
    have e50 : h33 241 101 = h 241 101 := (u33 241 101 rfl)
    have e51 : h33 241 102 = h 241 102 := (u33 241 102 rfl)
    have e52 : h33 241 106 = h 241 106 := (u33 241 106 rfl)
    have e53 : h33 241 73 = h 241 73 := (u33 241 73 rfl)
    have e54 : h33 241 2 = h 241 2 := (u33 241 2 rfl)
    have e55 : h33 241 119 = h 241 119 := (u33 241 119 rfl)
    have e56 : h33 241 67 = h 241 67 := (u33 241 67 rfl)
    have e57 : h33 241 69 = h 241 69 := (u33 241 69 rfl)
    have e58 : h33 241 5 = h 241 5 := (u33 241 5 rfl)
    have e59 : h33 1 1 = h 1 1 := (u33 1 1 rfl)
    have e60 : h33 236 2 = h 236 2 := (u33 236 2 rfl)
    have gp61 := GPH.fr u33 rfl gp0
    exact k h33 (b - 1) (c - 6) ⟨g33, (show h33 1 1 = h33 236 2 by omega), (RS.i0 (f := h33 238) (by refine ⟨?_, ?_, ?_, ?_, ?_⟩ <;> omega)), (RS.i0 (f := h33 241) (by refine ⟨?_, ?_, ?_, ?_, ?_⟩ <;> omega)), gp61⟩ (by omega) (by omega)
-- the law, case at 885
set_option maxRecDepth 100000 in
set_option maxHeartbeats 100000000 in
theorem lc_885 {L : Nat} {xs : Nat → Int32} {d b c : Nat} {h : hp} {cr : Nat → Nat → Option Nat} {Q : hp_Q} (hcr : CR cr) (hL : L ≤ 3072) (hr : 1 ≤ b ∧ 6 ≤ c) (I : LI h) (i : Int) (hi : 0 ≤ i ∧ i + 6 ≤ L) (k : ∀ (h2 : hp) (b2 c2 : Nat), LI h2 → b ≤ b2 + 1 → c ≤ c2 + 6 → wp (md_xa (L, xs)) (d + 107) 0 (1529, [(0, .ref 1000000), (1, .ref 0), (2, .ref 236), (3, .ref 259), (4, vi i)], [], hp_w h2 cr, b2, c2) Q) : wp (md_xa (L, xs)) (d + 107) 0 (885, [(0, .ref 1000000), (1, .ref 0), (2, .ref 236), (3, .ref 259), (4, vi i)], [], hp_w h cr, b, c) Q := by
  obtain ⟨g, i11, r238, r241, gp0⟩ := I
  have r238e := r238.e0
  have r241e := r241.e0
  have b1 := gi_b (lo := 0) (hi := 6) g 238 98 rfl
  have b2 := gi_b (lo := 0) (hi := 6) g 238 99 rfl
  have b3 := gi_b (lo := 0) (hi := 6) g 238 100 rfl
  have b4 := gi_b (lo := 0) (hi := 6) g 238 101 rfl
  have b5 := gi_b (lo := 0) (hi := 3) g 238 102 rfl
  have b6 := gi_b (lo := 0) (hi := 12) g 238 106 rfl
  have b7 := gi_b (lo := 0) (hi := 12) g 238 73 rfl
  have b8 := gi_b (lo := 0) (hi := 12) g 238 2 rfl
  have b9 := gi_b (lo := 0) (hi := 9999) g 238 119 rfl
  have b10 := gi_b (lo := 0) (hi := 9999) g 238 67 rfl
  have b11 := gi_b (lo := 0) (hi := 9) g 238 69 rfl
  have b12 := gi_b (lo := 0) (hi := 9) g 238 5 rfl
  have b13 := gi_b (lo := 0) (hi := 6) g 241 98 rfl
  have b14 := gi_b (lo := 0) (hi := 6) g 241 99 rfl
  have b15 := gi_b (lo := 0) (hi := 6) g 241 100 rfl
  have b16 := gi_b (lo := 0) (hi := 6) g 241 101 rfl
  have b17 := gi_b (lo := 0) (hi := 3) g 241 102 rfl
  have b18 := gi_b (lo := 0) (hi := 12) g 241 106 rfl
  have b19 := gi_b (lo := 0) (hi := 12) g 241 73 rfl
  have b20 := gi_b (lo := 0) (hi := 12) g 241 2 rfl
  have b21 := gi_b (lo := 0) (hi := 9999) g 241 119 rfl
  have b22 := gi_b (lo := 0) (hi := 9999) g 241 67 rfl
  have b23 := gi_b (lo := 0) (hi := 9) g 241 69 rfl
  have b24 := gi_b (lo := 0) (hi := 9) g 241 5 rfl
  have b25 := gi_b (lo := 0) (hi := 800) g 1 1 rfl
  have b26 := gi_b (lo := 0) (hi := 800) g 236 2 rfl
  refine wi_aload_n (i := 1) (x := 0) (nx := 886) (r1 := 0) (r2 := 0) (r3 := 0) rfl rfl ?_
  refine wr_V (k0 := 0) (rest := []) (as := [.ref 0]) (nx := 889) (r1 := 36) (r2 := 0) (r3 := 0) rfl rfl rfl (of_decide_eq_true rfl) rfl rfl (by decide) rfl rfl (of_decide_eq_true rfl) (of_decide_eq_true rfl) ?_
  refine ct_36_0 hcr  g    (fun z28  (fz28 : -2147483648 ≤ z28 ∧ z28 ≤ 2147483647) => ?_)
  refine wk_i ?_
  refine wi_pop (nx := 890) (r1 := 0) (r2 := 0) (r3 := 0) rfl rfl ?_
  refine wi_aload_n (i := 2) (x := 236) (nx := 891) (r1 := 0) (r2 := 0) (r3 := 0) rfl rfl ?_
  refine wr_V (k0 := 236) (rest := []) (as := [.ref 236]) (nx := 894) (r1 := 264) (r2 := 0) (r3 := 11) rfl rfl rfl (of_decide_eq_true rfl) rfl rfl (by decide) rfl rfl (of_decide_eq_true rfl) (of_decide_eq_true rfl) ?_
  refine ct_264_236 hcr  g    (fun h29 z30 g29 u29 (fz30 : -2147483648 ≤ z30 ∧ z30 ≤ 2147483647) => ?_)
  refine wk_i ?_
  refine wi_pop (nx := 895) (r1 := 0) (r2 := 0) (r3 := 0) rfl rfl ?_
  refine wi_goto (nx := 898) (r1 := 1529) (r2 := 0) (r3 := 0) rfl ?_
  have e31 : h29 238 98 = h 238 98 := (u29 238 98 rfl)
  have e32 : h29 238 99 = h 238 99 := (u29 238 99 rfl)
  have e33 : h29 238 100 = h 238 100 := (u29 238 100 rfl)
  have e34 : h29 238 101 = h 238 101 := (u29 238 101 rfl)
  have e35 : h29 238 102 = h 238 102 := (u29 238 102 rfl)
  have e36 : h29 238 106 = h 238 106 := (u29 238 106 rfl)
  have e37 : h29 238 73 = h 238 73 := (u29 238 73 rfl)
  have e38 : h29 238 2 = h 238 2 := (u29 238 2 rfl)
  have e39 : h29 238 119 = h 238 119 := (u29 238 119 rfl)
  have e40 : h29 238 67 = h 238 67 := (u29 238 67 rfl)
  have e41 : h29 238 69 = h 238 69 := (u29 238 69 rfl)
  have e42 : h29 238 5 = h 238 5 := (u29 238 5 rfl)
  have e43 : h29 241 98 = h 241 98 := (u29 241 98 rfl)
  have e44 : h29 241 99 = h 241 99 := (u29 241 99 rfl)
  have e45 : h29 241 100 = h 241 100 := (u29 241 100 rfl)
  have e46 : h29 241 101 = h 241 101 := (u29 241 101 rfl)
  have e47 : h29 241 102 = h 241 102 := (u29 241 102 rfl)
  have e48 : h29 241 106 = h 241 106 := (u29 241 106 rfl)
  have e49 : h29 241 73 = h 241 73 := (u29 241 73 rfl)
  have e50 : h29 241 2 = h 241 2 := (u29 241 2 rfl)
  have e51 : h29 241 119 = h 241 119 := (u29 241 119 rfl)
  have e52 : h29 241 67 = h 241 67 := (u29 241 67 rfl)
  have e53 : h29 241 69 = h 241 69 := (u29 241 69 rfl)
  have e54 : h29 241 5 = h 241 5 := (u29 241 5 rfl)
  have e55 : h29 1 1 = h 1 1 := (u29 1 1 rfl)
  have e56 : h29 236 2 = h 236 2 := (u29 236 2 rfl)
  have gp57 := GPH.fr u29 rfl gp0
  exact k h29 b c ⟨g29, (show h29 1 1 = h29 236 2 by omega), (RS.i0 (f := h29 238) (by refine ⟨?_, ?_, ?_, ?_, ?_⟩ <;> omega)), (RS.i0 (f := h29 241) (by refine ⟨?_, ?_, ?_, ?_, ?_⟩ <;> omega)), gp57⟩ (by omega) (by omega)
-- the law, case at 898
set_option maxRecDepth 100000 in
set_option maxHeartbeats 100000000 in
theorem lc_898 {L : Nat} {xs : Nat → Int32} {d b c : Nat} {h : hp} {cr : Nat → Nat → Option Nat} {Q : hp_Q} (hcr : CR cr) (hL : L ≤ 3072) (hr : 1 ≤ b ∧ 6 ≤ c) (I : LI h) (i : Int) (hi : 0 ≤ i ∧ i + 6 ≤ L) (k : ∀ (h2 : hp) (b2 c2 : Nat), LI h2 → b ≤ b2 + 1 → c ≤ c2 + 6 → wp (md_xa (L, xs)) (d + 107) 0 (1529, [(0, .ref 1000000), (1, .ref 0), (2, .ref 236), (3, .ref 259), (4, vi i)], [], hp_w h2 cr, b2, c2) Q) : wp (md_xa (L, xs)) (d + 107) 0 (898, [(0, .ref 1000000), (1, .ref 0), (2, .ref 236), (3, .ref 259), (4, vi i)], [], hp_w h cr, b, c) Q := by
  obtain ⟨g, i11, r238, r241, gp0⟩ := I
  have r238e := r238.e0
  have r241e := r241.e0
  have b1 := gi_b (lo := 0) (hi := 6) g 238 98 rfl
  have b2 := gi_b (lo := 0) (hi := 6) g 238 99 rfl
  have b3 := gi_b (lo := 0) (hi := 6) g 238 100 rfl
  have b4 := gi_b (lo := 0) (hi := 6) g 238 101 rfl
  have b5 := gi_b (lo := 0) (hi := 3) g 238 102 rfl
  have b6 := gi_b (lo := 0) (hi := 12) g 238 106 rfl
  have b7 := gi_b (lo := 0) (hi := 12) g 238 73 rfl
  have b8 := gi_b (lo := 0) (hi := 12) g 238 2 rfl
  have b9 := gi_b (lo := 0) (hi := 9999) g 238 119 rfl
  have b10 := gi_b (lo := 0) (hi := 9999) g 238 67 rfl
  have b11 := gi_b (lo := 0) (hi := 9) g 238 69 rfl
  have b12 := gi_b (lo := 0) (hi := 9) g 238 5 rfl
  have b13 := gi_b (lo := 0) (hi := 6) g 241 98 rfl
  have b14 := gi_b (lo := 0) (hi := 6) g 241 99 rfl
  have b15 := gi_b (lo := 0) (hi := 6) g 241 100 rfl
  have b16 := gi_b (lo := 0) (hi := 6) g 241 101 rfl
  have b17 := gi_b (lo := 0) (hi := 3) g 241 102 rfl
  have b18 := gi_b (lo := 0) (hi := 12) g 241 106 rfl
  have b19 := gi_b (lo := 0) (hi := 12) g 241 73 rfl
  have b20 := gi_b (lo := 0) (hi := 12) g 241 2 rfl
  have b21 := gi_b (lo := 0) (hi := 9999) g 241 119 rfl
  have b22 := gi_b (lo := 0) (hi := 9999) g 241 67 rfl
  have b23 := gi_b (lo := 0) (hi := 9) g 241 69 rfl
  have b24 := gi_b (lo := 0) (hi := 9) g 241 5 rfl
  have b25 := gi_b (lo := 0) (hi := 800) g 1 1 rfl
  have b26 := gi_b (lo := 0) (hi := 800) g 236 2 rfl
  refine wi_aload_n (i := 1) (x := 0) (nx := 899) (r1 := 0) (r2 := 0) (r3 := 0) rfl rfl ?_
  refine wr_V (k0 := 0) (rest := []) (as := [.ref 0]) (nx := 902) (r1 := 37) (r2 := 0) (r3 := 0) rfl rfl rfl (of_decide_eq_true rfl) rfl rfl (by decide) rfl rfl (of_decide_eq_true rfl) (of_decide_eq_true rfl) ?_
  refine ct_37_0 hcr  g    (fun z28  (fz28 : 0 ≤ z28 ∧ z28 ≤ 2147483647) => ?_)
  refine wk_i ?_
  refine wi_pop (nx := 903) (r1 := 0) (r2 := 0) (r3 := 0) rfl rfl ?_
  refine wi_aload_n (i := 2) (x := 236) (nx := 904) (r1 := 0) (r2 := 0) (r3 := 0) rfl rfl ?_
  refine wr_V (k0 := 236) (rest := []) (as := [.ref 236]) (nx := 907) (r1 := 265) (r2 := 0) (r3 := 11) rfl rfl rfl (of_decide_eq_true rfl) rfl rfl (by decide) rfl rfl (of_decide_eq_true rfl) (of_decide_eq_true rfl) ?_
  refine ct_265_236 hcr  g    (fun h29 z30 g29 u29 (fz30 : 0 ≤ z30 ∧ z30 ≤ 2147483647) => ?_)
  refine wk_i ?_
  refine wi_pop (nx := 908) (r1 := 0) (r2 := 0) (r3 := 0) rfl rfl ?_
  refine wi_goto (nx := 911) (r1 := 1529) (r2 := 0) (r3 := 0) rfl ?_
  have e31 : h29 238 98 = h 238 98 := (u29 238 98 rfl)
  have e32 : h29 238 99 = h 238 99 := (u29 238 99 rfl)
  have e33 : h29 238 100 = h 238 100 := (u29 238 100 rfl)
  have e34 : h29 238 101 = h 238 101 := (u29 238 101 rfl)
  have e35 : h29 238 102 = h 238 102 := (u29 238 102 rfl)
  have e36 : h29 238 106 = h 238 106 := (u29 238 106 rfl)
  have e37 : h29 238 73 = h 238 73 := (u29 238 73 rfl)
  have e38 : h29 238 2 = h 238 2 := (u29 238 2 rfl)
  have e39 : h29 238 119 = h 238 119 := (u29 238 119 rfl)
  have e40 : h29 238 67 = h 238 67 := (u29 238 67 rfl)
  have e41 : h29 238 69 = h 238 69 := (u29 238 69 rfl)
  have e42 : h29 238 5 = h 238 5 := (u29 238 5 rfl)
  have e43 : h29 241 98 = h 241 98 := (u29 241 98 rfl)
  have e44 : h29 241 99 = h 241 99 := (u29 241 99 rfl)
  have e45 : h29 241 100 = h 241 100 := (u29 241 100 rfl)
  have e46 : h29 241 101 = h 241 101 := (u29 241 101 rfl)
  have e47 : h29 241 102 = h 241 102 := (u29 241 102 rfl)
  have e48 : h29 241 106 = h 241 106 := (u29 241 106 rfl)
  have e49 : h29 241 73 = h 241 73 := (u29 241 73 rfl)
  have e50 : h29 241 2 = h 241 2 := (u29 241 2 rfl)
  have e51 : h29 241 119 = h 241 119 := (u29 241 119 rfl)
  have e52 : h29 241 67 = h 241 67 := (u29 241 67 rfl)
  have e53 : h29 241 69 = h 241 69 := (u29 241 69 rfl)
  have e54 : h29 241 5 = h 241 5 := (u29 241 5 rfl)
  have e55 : h29 1 1 = h 1 1 := (u29 1 1 rfl)
  have e56 : h29 236 2 = h 236 2 := (u29 236 2 rfl)
  have gp57 := GPH.fr u29 rfl gp0
  exact k h29 b c ⟨g29, (show h29 1 1 = h29 236 2 by omega), (RS.i0 (f := h29 238) (by refine ⟨?_, ?_, ?_, ?_, ?_⟩ <;> omega)), (RS.i0 (f := h29 241) (by refine ⟨?_, ?_, ?_, ?_, ?_⟩ <;> omega)), gp57⟩ (by omega) (by omega)
-- the law, case at 911
set_option maxRecDepth 100000 in
set_option maxHeartbeats 100000000 in
theorem lc_911 {L : Nat} {xs : Nat → Int32} {d b c : Nat} {h : hp} {cr : Nat → Nat → Option Nat} {Q : hp_Q} (hcr : CR cr) (hL : L ≤ 3072) (hr : 1 ≤ b ∧ 6 ≤ c) (I : LI h) (i : Int) (hi : 0 ≤ i ∧ i + 6 ≤ L) (k : ∀ (h2 : hp) (b2 c2 : Nat), LI h2 → b ≤ b2 + 1 → c ≤ c2 + 6 → wp (md_xa (L, xs)) (d + 107) 0 (1529, [(0, .ref 1000000), (1, .ref 0), (2, .ref 236), (3, .ref 259), (4, vi i)], [], hp_w h2 cr, b2, c2) Q) : wp (md_xa (L, xs)) (d + 107) 0 (911, [(0, .ref 1000000), (1, .ref 0), (2, .ref 236), (3, .ref 259), (4, vi i)], [], hp_w h cr, b, c) Q := by
  obtain ⟨g, i11, r238, r241, gp0⟩ := I
  have r238e := r238.e0
  have r241e := r241.e0
  have b1 := gi_b (lo := 0) (hi := 6) g 238 98 rfl
  have b2 := gi_b (lo := 0) (hi := 6) g 238 99 rfl
  have b3 := gi_b (lo := 0) (hi := 6) g 238 100 rfl
  have b4 := gi_b (lo := 0) (hi := 6) g 238 101 rfl
  have b5 := gi_b (lo := 0) (hi := 3) g 238 102 rfl
  have b6 := gi_b (lo := 0) (hi := 12) g 238 106 rfl
  have b7 := gi_b (lo := 0) (hi := 12) g 238 73 rfl
  have b8 := gi_b (lo := 0) (hi := 12) g 238 2 rfl
  have b9 := gi_b (lo := 0) (hi := 9999) g 238 119 rfl
  have b10 := gi_b (lo := 0) (hi := 9999) g 238 67 rfl
  have b11 := gi_b (lo := 0) (hi := 9) g 238 69 rfl
  have b12 := gi_b (lo := 0) (hi := 9) g 238 5 rfl
  have b13 := gi_b (lo := 0) (hi := 6) g 241 98 rfl
  have b14 := gi_b (lo := 0) (hi := 6) g 241 99 rfl
  have b15 := gi_b (lo := 0) (hi := 6) g 241 100 rfl
  have b16 := gi_b (lo := 0) (hi := 6) g 241 101 rfl
  have b17 := gi_b (lo := 0) (hi := 3) g 241 102 rfl
  have b18 := gi_b (lo := 0) (hi := 12) g 241 106 rfl
  have b19 := gi_b (lo := 0) (hi := 12) g 241 73 rfl
  have b20 := gi_b (lo := 0) (hi := 12) g 241 2 rfl
  have b21 := gi_b (lo := 0) (hi := 9999) g 241 119 rfl
  have b22 := gi_b (lo := 0) (hi := 9999) g 241 67 rfl
  have b23 := gi_b (lo := 0) (hi := 9) g 241 69 rfl
  have b24 := gi_b (lo := 0) (hi := 9) g 241 5 rfl
  have b25 := gi_b (lo := 0) (hi := 800) g 1 1 rfl
  have b26 := gi_b (lo := 0) (hi := 800) g 236 2 rfl
  refine wi_aload_n (i := 1) (x := 0) (nx := 912) (r1 := 0) (r2 := 0) (r3 := 0) rfl rfl ?_
  refine wi_aload_n (i := 0) (x := 1000000) (nx := 913) (r1 := 0) (r2 := 0) (r3 := 0) rfl rfl ?_
  refine wi_iload (i := 4) (e := i) (nx := 915) (r1 := 0) (r2 := 0) (r3 := 0) rfl rfl ?_
  refine wi_iconst (n := 1) (nx := 916) (r1 := 0) (r2 := 0) (r3 := 0) rfl ?_
  refine wr_add (nx := 917) (r1 := 0) (r2 := 0) (r3 := 0) rfl (fun e27 (fe27 : e27 = i + 1) => ?_)
  obtain ⟨i28, ei28⟩ : ∃ q : Nat, e27 = (q : Int) := ⟨(e27).toNat, by omega⟩
  have s29 := sc_b (xs i28)
  refine wr_sc (a := e27) (f := i28) (nx := 918) (r1 := 0) (r2 := 0) (r3 := 0) rfl (by omega) (by omega) hL ?_
  refine wi_aload_n (i := 3) (x := 259) (nx := 919) (r1 := 0) (r2 := 0) (r3 := 0) rfl rfl ?_
  refine wi_S (rest := []) (as := [.ref 0, vi ((xs i28).toInt), .ref 259]) (nx := 922) (r1 := 15) (r2 := 19) (r3 := 0) rfl rfl rfl (of_decide_eq_true rfl) rfl rfl (of_decide_eq_true rfl) (of_decide_eq_true rfl) ?_
  refine wi_aload_n (i := 2) (x := 259) (nx := 1) (r1 := 0) (r2 := 0) (r3 := 0) rfl rfl ?_
  refine wi_iconst (n := 0) (nx := 2) (r1 := 0) (r2 := 0) (r3 := 0) rfl ?_
  refine wi_aload_n (i := 0) (x := 0) (nx := 3) (r1 := 0) (r2 := 0) (r3 := 0) rfl rfl ?_
  refine wi_iload_n (i := 1) (e := (xs i28).toInt) (nx := 4) (r1 := 0) (r2 := 0) (r3 := 0) rfl rfl ?_
  refine wr_V (k0 := 0) (rest := [vi 0, .ref 259]) (as := [.ref 0, vi ((xs i28).toInt)]) (nx := 7) (r1 := 77) (r2 := 1) (r3 := 0) rfl rfl rfl (of_decide_eq_true rfl) rfl rfl (by decide) rfl rfl (of_decide_eq_true rfl) (of_decide_eq_true rfl) ?_
  refine ct_77_0 hcr hr  g ((xs i28).toInt) (by omega)  (fun z31  (fz31 : 0 ≤ z31 ∧ z31 ≤ 1) m30_0 m30_1 => ?_) ?_
  ·
    refine wk_i ?_
    refine wi_if (cd := .eq) (nx := 10) (r1 := 14) (r2 := 0) (r3 := 0) rfl (by omega) (fun (q32 : z31 = 0) => ?_) (fun (q32 : ¬ (z31 = 0)) => ?_)
    ·
      have f33 : 0 ≤ ((xs i28).toInt) ∧ ((xs i28).toInt) ≤ 3 := m30_0 (by omega)
      refine wi_lconst (n := 0) (e := 0) (nx := 15) (r1 := 0) (r2 := 0) (r3 := 0) rfl (by decide) ?_
      refine wr_ls (k0 := 259) (a := 0) (f := 0) (x := 0) (bl := -9223372036854775808) (bh := 9223372036854775807) (nx := 16) (r1 := 0) (r2 := 0) (r3 := 0) rfl (by decide) rfl (by omega) (by omega) (by decide) g rfl (by omega) (fun h34 g34 w34 u34 => ?_)
      refine wi_goto (nx := 19) (r1 := 22) (r2 := 0) (r3 := 0) rfl ?_
      refine wi_iconst (n := 0) (nx := 23) (r1 := 0) (r2 := 0) (r3 := 0) rfl ?_
      refine wi_ireturn (nx := 24) (r1 := 0) (r2 := 0) (r3 := 0) rfl rfl ?_
      refine wk_i ?_
      refine wi_istore (i := 5) (e := 0) (lo2 := [(5, vi 0), (0, .ref 1000000), (1, .ref 0), (2, .ref 236), (3, .ref 259), (4, vi i)]) (nx := 924) (r1 := 0) (r2 := 0) (r3 := 0) rfl rfl ?_
      refine wi_aload_n (i := 2) (x := 236) (nx := 925) (r1 := 0) (r2 := 0) (r3 := 0) rfl rfl ?_
      refine wi_aload_n (i := 0) (x := 1000000) (nx := 926) (r1 := 0) (r2 := 0) (r3 := 0) rfl rfl ?_
      refine wi_iload (i := 4) (e := i) (nx := 928) (r1 := 0) (r2 := 0) (r3 := 0) rfl rfl ?_
      refine wi_iconst (n := 1) (nx := 929) (r1 := 0) (r2 := 0) (r3 := 0) rfl ?_
      refine wr_add (nx := 930) (r1 := 0) (r2 := 0) (r3 := 0) rfl (fun e35 (fe35 : e35 = i + 1) => ?_)
      refine wr_sc (a := e35) (f := i28) (nx := 931) (r1 := 0) (r2 := 0) (r3 := 0) rfl (by omega) (by omega) hL ?_
      refine wr_V (k0 := 236) (rest := []) (as := [.ref 236, vi ((xs i28).toInt)]) (nx := 934) (r1 := 266) (r2 := 1) (r3 := 11) rfl rfl rfl (of_decide_eq_true rfl) rfl rfl (by decide) rfl rfl (of_decide_eq_true rfl) (of_decide_eq_true rfl) ?_
      refine ct_266_236 hcr  g34 ((xs i28).toInt) (by omega)  (fun h36 z37 g36 u36 (fz37 : 0 ≤ z37 ∧ z37 ≤ 1) m36_0 => ?_)
      refine wk_i ?_
      refine wi_istore (i := 6) (e := z37) (lo2 := [(6, vi z37), (5, vi 0), (0, .ref 1000000), (1, .ref 0), (2, .ref 236), (3, .ref 259), (4, vi i)]) (nx := 936) (r1 := 0) (r2 := 0) (r3 := 0) rfl rfl ?_
      refine wi_goto (nx := 939) (r1 := 1529) (r2 := 0) (r3 := 0) rfl ?_
      refine wp.lo (lo := [(0, .ref 1000000), (1, .ref 0), (2, .ref 236), (3, .ref 259), (4, vi i)]) ⟨rfl, rfl, rfl, rfl, rfl, trivial⟩ rfl ?_
      have e38 : h36 238 98 = h 238 98 := ((u36 238 98 rfl).trans (u34 238 98 rfl))
      have e39 : h36 238 99 = h 238 99 := ((u36 238 99 rfl).trans (u34 238 99 rfl))
      have e40 : h36 238 100 = h 238 100 := ((u36 238 100 rfl).trans (u34 238 100 rfl))
      have e41 : h36 238 101 = h 238 101 := ((u36 238 101 rfl).trans (u34 238 101 rfl))
      have e42 : h36 238 102 = h 238 102 := ((u36 238 102 rfl).trans (u34 238 102 rfl))
      have e43 : h36 238 106 = h 238 106 := ((u36 238 106 rfl).trans (u34 238 106 rfl))
      have e44 : h36 238 73 = h 238 73 := ((u36 238 73 rfl).trans (u34 238 73 rfl))
      have e45 : h36 238 2 = h 238 2 := ((u36 238 2 rfl).trans (u34 238 2 rfl))
      have e46 : h36 238 119 = h 238 119 := ((u36 238 119 rfl).trans (u34 238 119 rfl))
      have e47 : h36 238 67 = h 238 67 := ((u36 238 67 rfl).trans (u34 238 67 rfl))
      have e48 : h36 238 69 = h 238 69 := ((u36 238 69 rfl).trans (u34 238 69 rfl))
      have e49 : h36 238 5 = h 238 5 := ((u36 238 5 rfl).trans (u34 238 5 rfl))
      have e50 : h36 241 98 = h 241 98 := ((u36 241 98 rfl).trans (u34 241 98 rfl))
      have e51 : h36 241 99 = h 241 99 := ((u36 241 99 rfl).trans (u34 241 99 rfl))
      have e52 : h36 241 100 = h 241 100 := ((u36 241 100 rfl).trans (u34 241 100 rfl))
      have e53 : h36 241 101 = h 241 101 := ((u36 241 101 rfl).trans (u34 241 101 rfl))
      have e54 : h36 241 102 = h 241 102 := ((u36 241 102 rfl).trans (u34 241 102 rfl))
      have e55 : h36 241 106 = h 241 106 := ((u36 241 106 rfl).trans (u34 241 106 rfl))
      have e56 : h36 241 73 = h 241 73 := ((u36 241 73 rfl).trans (u34 241 73 rfl))
      have e57 : h36 241 2 = h 241 2 := ((u36 241 2 rfl).trans (u34 241 2 rfl))
      have e58 : h36 241 119 = h 241 119 := ((u36 241 119 rfl).trans (u34 241 119 rfl))
      have e59 : h36 241 67 = h 241 67 := ((u36 241 67 rfl).trans (u34 241 67 rfl))
      have e60 : h36 241 69 = h 241 69 := ((u36 241 69 rfl).trans (u34 241 69 rfl))
      have e61 : h36 241 5 = h 241 5 := ((u36 241 5 rfl).trans (u34 241 5 rfl))
      have e62 : h36 1 1 = h 1 1 := ((u36 1 1 rfl).trans (u34 1 1 rfl))
      have e63 : h36 236 2 = h 236 2 := ((u36 236 2 rfl).trans (u34 236 2 rfl))
      have gp64 := GPH.fr u34 rfl gp0
      have gp65 := GPH.fr u36 rfl gp64
      exact k h36 b c ⟨g36, (show h36 1 1 = h36 236 2 by omega), (RS.i0 (f := h36 238) (by refine ⟨?_, ?_, ?_, ?_, ?_⟩ <;> omega)), (RS.i0 (f := h36 241) (by refine ⟨?_, ?_, ?_, ?_, ?_⟩ <;> omega)), gp65⟩ (by omega) (by omega)
    ·
      have f33 : 0 ≤ ((xs i28).toInt) ∧ ((xs i28).toInt) ≤ 3 := m30_1 (by omega)
      refine wi_lconst (n := 1) (e := 1) (nx := 11) (r1 := 0) (r2 := 0) (r3 := 0) rfl (by decide) ?_
      refine wi_goto (nx := 14) (r1 := 15) (r2 := 0) (r3 := 0) rfl ?_
      refine wr_ls (k0 := 259) (a := 0) (f := 0) (x := 1) (bl := -9223372036854775808) (bh := 9223372036854775807) (nx := 16) (r1 := 0) (r2 := 0) (r3 := 0) rfl (by decide) rfl (by omega) (by omega) (by decide) g rfl (by omega) (fun h34 g34 w34 u34 => ?_)
      refine wi_goto (nx := 19) (r1 := 22) (r2 := 0) (r3 := 0) rfl ?_
      refine wi_iconst (n := 0) (nx := 23) (r1 := 0) (r2 := 0) (r3 := 0) rfl ?_
      refine wi_ireturn (nx := 24) (r1 := 0) (r2 := 0) (r3 := 0) rfl rfl ?_
      refine wk_i ?_
      refine wi_istore (i := 5) (e := 0) (lo2 := [(5, vi 0), (0, .ref 1000000), (1, .ref 0), (2, .ref 236), (3, .ref 259), (4, vi i)]) (nx := 924) (r1 := 0) (r2 := 0) (r3 := 0) rfl rfl ?_
      refine wi_aload_n (i := 2) (x := 236) (nx := 925) (r1 := 0) (r2 := 0) (r3 := 0) rfl rfl ?_
      refine wi_aload_n (i := 0) (x := 1000000) (nx := 926) (r1 := 0) (r2 := 0) (r3 := 0) rfl rfl ?_
      refine wi_iload (i := 4) (e := i) (nx := 928) (r1 := 0) (r2 := 0) (r3 := 0) rfl rfl ?_
      refine wi_iconst (n := 1) (nx := 929) (r1 := 0) (r2 := 0) (r3 := 0) rfl ?_
      refine wr_add (nx := 930) (r1 := 0) (r2 := 0) (r3 := 0) rfl (fun e35 (fe35 : e35 = i + 1) => ?_)
      refine wr_sc (a := e35) (f := i28) (nx := 931) (r1 := 0) (r2 := 0) (r3 := 0) rfl (by omega) (by omega) hL ?_
      refine wr_V (k0 := 236) (rest := []) (as := [.ref 236, vi ((xs i28).toInt)]) (nx := 934) (r1 := 266) (r2 := 1) (r3 := 11) rfl rfl rfl (of_decide_eq_true rfl) rfl rfl (by decide) rfl rfl (of_decide_eq_true rfl) (of_decide_eq_true rfl) ?_
      refine ct_266_236 hcr  g34 ((xs i28).toInt) (by omega)  (fun h36 z37 g36 u36 (fz37 : 0 ≤ z37 ∧ z37 ≤ 1) m36_0 => ?_)
      refine wk_i ?_
      refine wi_istore (i := 6) (e := z37) (lo2 := [(6, vi z37), (5, vi 0), (0, .ref 1000000), (1, .ref 0), (2, .ref 236), (3, .ref 259), (4, vi i)]) (nx := 936) (r1 := 0) (r2 := 0) (r3 := 0) rfl rfl ?_
      refine wi_goto (nx := 939) (r1 := 1529) (r2 := 0) (r3 := 0) rfl ?_
      refine wp.lo (lo := [(0, .ref 1000000), (1, .ref 0), (2, .ref 236), (3, .ref 259), (4, vi i)]) ⟨rfl, rfl, rfl, rfl, rfl, trivial⟩ rfl ?_
      have e38 : h36 238 98 = h 238 98 := ((u36 238 98 rfl).trans (u34 238 98 rfl))
      have e39 : h36 238 99 = h 238 99 := ((u36 238 99 rfl).trans (u34 238 99 rfl))
      have e40 : h36 238 100 = h 238 100 := ((u36 238 100 rfl).trans (u34 238 100 rfl))
      have e41 : h36 238 101 = h 238 101 := ((u36 238 101 rfl).trans (u34 238 101 rfl))
      have e42 : h36 238 102 = h 238 102 := ((u36 238 102 rfl).trans (u34 238 102 rfl))
      have e43 : h36 238 106 = h 238 106 := ((u36 238 106 rfl).trans (u34 238 106 rfl))
      have e44 : h36 238 73 = h 238 73 := ((u36 238 73 rfl).trans (u34 238 73 rfl))
      have e45 : h36 238 2 = h 238 2 := ((u36 238 2 rfl).trans (u34 238 2 rfl))
      have e46 : h36 238 119 = h 238 119 := ((u36 238 119 rfl).trans (u34 238 119 rfl))
      have e47 : h36 238 67 = h 238 67 := ((u36 238 67 rfl).trans (u34 238 67 rfl))
      have e48 : h36 238 69 = h 238 69 := ((u36 238 69 rfl).trans (u34 238 69 rfl))
      have e49 : h36 238 5 = h 238 5 := ((u36 238 5 rfl).trans (u34 238 5 rfl))
      have e50 : h36 241 98 = h 241 98 := ((u36 241 98 rfl).trans (u34 241 98 rfl))
      have e51 : h36 241 99 = h 241 99 := ((u36 241 99 rfl).trans (u34 241 99 rfl))
      have e52 : h36 241 100 = h 241 100 := ((u36 241 100 rfl).trans (u34 241 100 rfl))
      have e53 : h36 241 101 = h 241 101 := ((u36 241 101 rfl).trans (u34 241 101 rfl))
      have e54 : h36 241 102 = h 241 102 := ((u36 241 102 rfl).trans (u34 241 102 rfl))
      have e55 : h36 241 106 = h 241 106 := ((u36 241 106 rfl).trans (u34 241 106 rfl))
      have e56 : h36 241 73 = h 241 73 := ((u36 241 73 rfl).trans (u34 241 73 rfl))
      have e57 : h36 241 2 = h 241 2 := ((u36 241 2 rfl).trans (u34 241 2 rfl))
      have e58 : h36 241 119 = h 241 119 := ((u36 241 119 rfl).trans (u34 241 119 rfl))
      have e59 : h36 241 67 = h 241 67 := ((u36 241 67 rfl).trans (u34 241 67 rfl))
      have e60 : h36 241 69 = h 241 69 := ((u36 241 69 rfl).trans (u34 241 69 rfl))
      have e61 : h36 241 5 = h 241 5 := ((u36 241 5 rfl).trans (u34 241 5 rfl))
      have e62 : h36 1 1 = h 1 1 := ((u36 1 1 rfl).trans (u34 1 1 rfl))
      have e63 : h36 236 2 = h 236 2 := ((u36 236 2 rfl).trans (u34 236 2 rfl))
      have gp64 := GPH.fr u34 rfl gp0
      have gp65 := GPH.fr u36 rfl gp64
      exact k h36 b c ⟨g36, (show h36 1 1 = h36 236 2 by omega), (RS.i0 (f := h36 238) (by refine ⟨?_, ?_, ?_, ?_, ?_⟩ <;> omega)), (RS.i0 (f := h36 241) (by refine ⟨?_, ?_, ?_, ?_, ?_⟩ <;> omega)), gp65⟩ (by omega) (by omega)
  ·
    refine wk_h 19 (by decide) rfl ?_
    refine wr_astx (i := 3) (lo2 := [(3, .retAddr 0), (0, .ref 0), (1, vi ((xs i28).toInt)), (2, .ref 259)]) (nx := 20) (r1 := 0) (r2 := 0) (r3 := 0) rfl rfl ?_
    refine wi_iconst (n := 1) (nx := 21) (r1 := 0) (r2 := 0) (r3 := 0) rfl ?_
    refine wi_ireturn (nx := 22) (r1 := 0) (r2 := 0) (r3 := 0) rfl rfl ?_
    refine wk_i ?_
    refine wi_istore (i := 5) (e := 1) (lo2 := [(5, vi 1), (0, .ref 1000000), (1, .ref 0), (2, .ref 236), (3, .ref 259), (4, vi i)]) (nx := 924) (r1 := 0) (r2 := 0) (r3 := 0) rfl rfl ?_
    refine wi_aload_n (i := 2) (x := 236) (nx := 925) (r1 := 0) (r2 := 0) (r3 := 0) rfl rfl ?_
    refine wi_aload_n (i := 0) (x := 1000000) (nx := 926) (r1 := 0) (r2 := 0) (r3 := 0) rfl rfl ?_
    refine wi_iload (i := 4) (e := i) (nx := 928) (r1 := 0) (r2 := 0) (r3 := 0) rfl rfl ?_
    refine wi_iconst (n := 1) (nx := 929) (r1 := 0) (r2 := 0) (r3 := 0) rfl ?_
    refine wr_add (nx := 930) (r1 := 0) (r2 := 0) (r3 := 0) rfl (fun e32 (fe32 : e32 = i + 1) => ?_)
    refine wr_sc (a := e32) (f := i28) (nx := 931) (r1 := 0) (r2 := 0) (r3 := 0) rfl (by omega) (by omega) hL ?_
    refine wr_V (k0 := 236) (rest := []) (as := [.ref 236, vi ((xs i28).toInt)]) (nx := 934) (r1 := 266) (r2 := 1) (r3 := 11) rfl rfl rfl (of_decide_eq_true rfl) rfl rfl (by decide) rfl rfl (of_decide_eq_true rfl) (of_decide_eq_true rfl) ?_
    refine ct_266_236 hcr  g ((xs i28).toInt) (by omega)  (fun h33 z34 g33 u33 (fz34 : 0 ≤ z34 ∧ z34 ≤ 1) m33_0 => ?_)
    refine wk_i ?_
    refine wi_istore (i := 6) (e := z34) (lo2 := [(6, vi z34), (5, vi 1), (0, .ref 1000000), (1, .ref 0), (2, .ref 236), (3, .ref 259), (4, vi i)]) (nx := 936) (r1 := 0) (r2 := 0) (r3 := 0) rfl rfl ?_
    refine wi_goto (nx := 939) (r1 := 1529) (r2 := 0) (r3 := 0) rfl ?_
    refine wp.lo (lo := [(0, .ref 1000000), (1, .ref 0), (2, .ref 236), (3, .ref 259), (4, vi i)]) ⟨rfl, rfl, rfl, rfl, rfl, trivial⟩ rfl ?_
    have e35 : h33 238 98 = h 238 98 := (u33 238 98 rfl)
    have e36 : h33 238 99 = h 238 99 := (u33 238 99 rfl)
    have e37 : h33 238 100 = h 238 100 := (u33 238 100 rfl)
    have e38 : h33 238 101 = h 238 101 := (u33 238 101 rfl)
    have e39 : h33 238 102 = h 238 102 := (u33 238 102 rfl)
    have e40 : h33 238 106 = h 238 106 := (u33 238 106 rfl)
    have e41 : h33 238 73 = h 238 73 := (u33 238 73 rfl)
    have e42 : h33 238 2 = h 238 2 := (u33 238 2 rfl)
    have e43 : h33 238 119 = h 238 119 := (u33 238 119 rfl)
    have e44 : h33 238 67 = h 238 67 := (u33 238 67 rfl)
    have e45 : h33 238 69 = h 238 69 := (u33 238 69 rfl)
    have e46 : h33 238 5 = h 238 5 := (u33 238 5 rfl)
    have e47 : h33 241 98 = h 241 98 := (u33 241 98 rfl)
    have e48 : h33 241 99 = h 241 99 := (u33 241 99 rfl)
    have e49 : h33 241 100 = h 241 100 := (u33 241 100 rfl)
    have e50 : h33 241 101 = h 241 101 := (u33 241 101 rfl)
    have e51 : h33 241 102 = h 241 102 := (u33 241 102 rfl)
    have e52 : h33 241 106 = h 241 106 := (u33 241 106 rfl)
    have e53 : h33 241 73 = h 241 73 := (u33 241 73 rfl)
    have e54 : h33 241 2 = h 241 2 := (u33 241 2 rfl)
    have e55 : h33 241 119 = h 241 119 := (u33 241 119 rfl)
    have e56 : h33 241 67 = h 241 67 := (u33 241 67 rfl)
    have e57 : h33 241 69 = h 241 69 := (u33 241 69 rfl)
    have e58 : h33 241 5 = h 241 5 := (u33 241 5 rfl)
    have e59 : h33 1 1 = h 1 1 := (u33 1 1 rfl)
    have e60 : h33 236 2 = h 236 2 := (u33 236 2 rfl)
    have gp61 := GPH.fr u33 rfl gp0
    exact k h33 (b - 1) (c - 6) ⟨g33, (show h33 1 1 = h33 236 2 by omega), (RS.i0 (f := h33 238) (by refine ⟨?_, ?_, ?_, ?_, ?_⟩ <;> omega)), (RS.i0 (f := h33 241) (by refine ⟨?_, ?_, ?_, ?_, ?_⟩ <;> omega)), gp61⟩ (by omega) (by omega)
-- the law, case at 939
set_option maxRecDepth 100000 in
set_option maxHeartbeats 100000000 in
theorem lc_939 {L : Nat} {xs : Nat → Int32} {d b c : Nat} {h : hp} {cr : Nat → Nat → Option Nat} {Q : hp_Q} (hcr : CR cr) (hL : L ≤ 3072) (hr : 1 ≤ b ∧ 6 ≤ c) (I : LI h) (i : Int) (hi : 0 ≤ i ∧ i + 6 ≤ L) (k : ∀ (h2 : hp) (b2 c2 : Nat), LI h2 → b ≤ b2 + 1 → c ≤ c2 + 6 → wp (md_xa (L, xs)) (d + 107) 0 (1529, [(0, .ref 1000000), (1, .ref 0), (2, .ref 236), (3, .ref 259), (4, vi i)], [], hp_w h2 cr, b2, c2) Q) : wp (md_xa (L, xs)) (d + 107) 0 (939, [(0, .ref 1000000), (1, .ref 0), (2, .ref 236), (3, .ref 259), (4, vi i)], [], hp_w h cr, b, c) Q := by
  obtain ⟨g, i11, r238, r241, gp0⟩ := I
  have r238e := r238.e0
  have r241e := r241.e0
  have b1 := gi_b (lo := 0) (hi := 6) g 238 98 rfl
  have b2 := gi_b (lo := 0) (hi := 6) g 238 99 rfl
  have b3 := gi_b (lo := 0) (hi := 6) g 238 100 rfl
  have b4 := gi_b (lo := 0) (hi := 6) g 238 101 rfl
  have b5 := gi_b (lo := 0) (hi := 3) g 238 102 rfl
  have b6 := gi_b (lo := 0) (hi := 12) g 238 106 rfl
  have b7 := gi_b (lo := 0) (hi := 12) g 238 73 rfl
  have b8 := gi_b (lo := 0) (hi := 12) g 238 2 rfl
  have b9 := gi_b (lo := 0) (hi := 9999) g 238 119 rfl
  have b10 := gi_b (lo := 0) (hi := 9999) g 238 67 rfl
  have b11 := gi_b (lo := 0) (hi := 9) g 238 69 rfl
  have b12 := gi_b (lo := 0) (hi := 9) g 238 5 rfl
  have b13 := gi_b (lo := 0) (hi := 6) g 241 98 rfl
  have b14 := gi_b (lo := 0) (hi := 6) g 241 99 rfl
  have b15 := gi_b (lo := 0) (hi := 6) g 241 100 rfl
  have b16 := gi_b (lo := 0) (hi := 6) g 241 101 rfl
  have b17 := gi_b (lo := 0) (hi := 3) g 241 102 rfl
  have b18 := gi_b (lo := 0) (hi := 12) g 241 106 rfl
  have b19 := gi_b (lo := 0) (hi := 12) g 241 73 rfl
  have b20 := gi_b (lo := 0) (hi := 12) g 241 2 rfl
  have b21 := gi_b (lo := 0) (hi := 9999) g 241 119 rfl
  have b22 := gi_b (lo := 0) (hi := 9999) g 241 67 rfl
  have b23 := gi_b (lo := 0) (hi := 9) g 241 69 rfl
  have b24 := gi_b (lo := 0) (hi := 9) g 241 5 rfl
  have b25 := gi_b (lo := 0) (hi := 800) g 1 1 rfl
  have b26 := gi_b (lo := 0) (hi := 800) g 236 2 rfl
  refine wi_aload_n (i := 1) (x := 0) (nx := 940) (r1 := 0) (r2 := 0) (r3 := 0) rfl rfl ?_
  refine wr_V (k0 := 0) (rest := []) (as := [.ref 0]) (nx := 943) (r1 := 38) (r2 := 0) (r3 := 0) rfl rfl rfl (of_decide_eq_true rfl) rfl rfl (by decide) rfl rfl (of_decide_eq_true rfl) (of_decide_eq_true rfl) ?_
  refine ct_38_0 hcr  g    (fun z28  (fz28 : -2147483648 ≤ z28 ∧ z28 ≤ 2147483647) => ?_)
  refine wk_i ?_
  refine wi_pop (nx := 944) (r1 := 0) (r2 := 0) (r3 := 0) rfl rfl ?_
  refine wi_aload_n (i := 2) (x := 236) (nx := 945) (r1 := 0) (r2 := 0) (r3 := 0) rfl rfl ?_
  refine wr_V (k0 := 236) (rest := []) (as := [.ref 236]) (nx := 948) (r1 := 268) (r2 := 0) (r3 := 11) rfl rfl rfl (of_decide_eq_true rfl) rfl rfl (by decide) rfl rfl (of_decide_eq_true rfl) (of_decide_eq_true rfl) ?_
  refine ct_268_236 hcr  g    (fun h29 z30 g29 u29 (fz30 : -1 ≤ z30 ∧ z30 ≤ 4) => ?_)
  refine wk_i ?_
  refine wi_pop (nx := 949) (r1 := 0) (r2 := 0) (r3 := 0) rfl rfl ?_
  refine wi_goto (nx := 952) (r1 := 1529) (r2 := 0) (r3 := 0) rfl ?_
  have e31 : h29 238 98 = h 238 98 := (u29 238 98 rfl)
  have e32 : h29 238 99 = h 238 99 := (u29 238 99 rfl)
  have e33 : h29 238 100 = h 238 100 := (u29 238 100 rfl)
  have e34 : h29 238 101 = h 238 101 := (u29 238 101 rfl)
  have e35 : h29 238 102 = h 238 102 := (u29 238 102 rfl)
  have e36 : h29 238 106 = h 238 106 := (u29 238 106 rfl)
  have e37 : h29 238 73 = h 238 73 := (u29 238 73 rfl)
  have e38 : h29 238 2 = h 238 2 := (u29 238 2 rfl)
  have e39 : h29 238 119 = h 238 119 := (u29 238 119 rfl)
  have e40 : h29 238 67 = h 238 67 := (u29 238 67 rfl)
  have e41 : h29 238 69 = h 238 69 := (u29 238 69 rfl)
  have e42 : h29 238 5 = h 238 5 := (u29 238 5 rfl)
  have e43 : h29 241 98 = h 241 98 := (u29 241 98 rfl)
  have e44 : h29 241 99 = h 241 99 := (u29 241 99 rfl)
  have e45 : h29 241 100 = h 241 100 := (u29 241 100 rfl)
  have e46 : h29 241 101 = h 241 101 := (u29 241 101 rfl)
  have e47 : h29 241 102 = h 241 102 := (u29 241 102 rfl)
  have e48 : h29 241 106 = h 241 106 := (u29 241 106 rfl)
  have e49 : h29 241 73 = h 241 73 := (u29 241 73 rfl)
  have e50 : h29 241 2 = h 241 2 := (u29 241 2 rfl)
  have e51 : h29 241 119 = h 241 119 := (u29 241 119 rfl)
  have e52 : h29 241 67 = h 241 67 := (u29 241 67 rfl)
  have e53 : h29 241 69 = h 241 69 := (u29 241 69 rfl)
  have e54 : h29 241 5 = h 241 5 := (u29 241 5 rfl)
  have e55 : h29 1 1 = h 1 1 := (u29 1 1 rfl)
  have e56 : h29 236 2 = h 236 2 := (u29 236 2 rfl)
  have gp57 := GPH.fr u29 rfl gp0
  exact k h29 b c ⟨g29, (show h29 1 1 = h29 236 2 by omega), (RS.i0 (f := h29 238) (by refine ⟨?_, ?_, ?_, ?_, ?_⟩ <;> omega)), (RS.i0 (f := h29 241) (by refine ⟨?_, ?_, ?_, ?_, ?_⟩ <;> omega)), gp57⟩ (by omega) (by omega)
-- the law, case at 952
set_option maxRecDepth 100000 in
set_option maxHeartbeats 100000000 in
theorem lc_952 {L : Nat} {xs : Nat → Int32} {d b c : Nat} {h : hp} {cr : Nat → Nat → Option Nat} {Q : hp_Q} (hcr : CR cr) (hL : L ≤ 3072) (hr : 1 ≤ b ∧ 6 ≤ c) (I : LI h) (i : Int) (hi : 0 ≤ i ∧ i + 6 ≤ L) (k : ∀ (h2 : hp) (b2 c2 : Nat), LI h2 → b ≤ b2 + 1 → c ≤ c2 + 6 → wp (md_xa (L, xs)) (d + 107) 0 (1529, [(0, .ref 1000000), (1, .ref 0), (2, .ref 236), (3, .ref 259), (4, vi i)], [], hp_w h2 cr, b2, c2) Q) : wp (md_xa (L, xs)) (d + 107) 0 (952, [(0, .ref 1000000), (1, .ref 0), (2, .ref 236), (3, .ref 259), (4, vi i)], [], hp_w h cr, b, c) Q := by
  obtain ⟨g, i11, r238, r241, gp0⟩ := I
  have r238e := r238.e0
  have r241e := r241.e0
  have b1 := gi_b (lo := 0) (hi := 6) g 238 98 rfl
  have b2 := gi_b (lo := 0) (hi := 6) g 238 99 rfl
  have b3 := gi_b (lo := 0) (hi := 6) g 238 100 rfl
  have b4 := gi_b (lo := 0) (hi := 6) g 238 101 rfl
  have b5 := gi_b (lo := 0) (hi := 3) g 238 102 rfl
  have b6 := gi_b (lo := 0) (hi := 12) g 238 106 rfl
  have b7 := gi_b (lo := 0) (hi := 12) g 238 73 rfl
  have b8 := gi_b (lo := 0) (hi := 12) g 238 2 rfl
  have b9 := gi_b (lo := 0) (hi := 9999) g 238 119 rfl
  have b10 := gi_b (lo := 0) (hi := 9999) g 238 67 rfl
  have b11 := gi_b (lo := 0) (hi := 9) g 238 69 rfl
  have b12 := gi_b (lo := 0) (hi := 9) g 238 5 rfl
  have b13 := gi_b (lo := 0) (hi := 6) g 241 98 rfl
  have b14 := gi_b (lo := 0) (hi := 6) g 241 99 rfl
  have b15 := gi_b (lo := 0) (hi := 6) g 241 100 rfl
  have b16 := gi_b (lo := 0) (hi := 6) g 241 101 rfl
  have b17 := gi_b (lo := 0) (hi := 3) g 241 102 rfl
  have b18 := gi_b (lo := 0) (hi := 12) g 241 106 rfl
  have b19 := gi_b (lo := 0) (hi := 12) g 241 73 rfl
  have b20 := gi_b (lo := 0) (hi := 12) g 241 2 rfl
  have b21 := gi_b (lo := 0) (hi := 9999) g 241 119 rfl
  have b22 := gi_b (lo := 0) (hi := 9999) g 241 67 rfl
  have b23 := gi_b (lo := 0) (hi := 9) g 241 69 rfl
  have b24 := gi_b (lo := 0) (hi := 9) g 241 5 rfl
  have b25 := gi_b (lo := 0) (hi := 800) g 1 1 rfl
  have b26 := gi_b (lo := 0) (hi := 800) g 236 2 rfl
  refine wi_aload_n (i := 1) (x := 0) (nx := 953) (r1 := 0) (r2 := 0) (r3 := 0) rfl rfl ?_
  refine wr_V (k0 := 0) (rest := []) (as := [.ref 0]) (nx := 956) (r1 := 39) (r2 := 0) (r3 := 0) rfl rfl rfl (of_decide_eq_true rfl) rfl rfl (by decide) rfl rfl (of_decide_eq_true rfl) (of_decide_eq_true rfl) ?_
  refine ct_39_0 hcr  g    (fun z28  (fz28 : -2147483648 ≤ z28 ∧ z28 ≤ 2147483647) => ?_)
  refine wk_i ?_
  refine wi_pop (nx := 957) (r1 := 0) (r2 := 0) (r3 := 0) rfl rfl ?_
  refine wi_aload_n (i := 2) (x := 236) (nx := 958) (r1 := 0) (r2 := 0) (r3 := 0) rfl rfl ?_
  refine wr_V (k0 := 236) (rest := []) (as := [.ref 236]) (nx := 961) (r1 := 270) (r2 := 0) (r3 := 11) rfl rfl rfl (of_decide_eq_true rfl) rfl rfl (by decide) rfl rfl (of_decide_eq_true rfl) (of_decide_eq_true rfl) ?_
  refine ct_270_236 hcr  g    (fun h29 z30 g29 u29 (fz30 : 0 ≤ z30 ∧ z30 ≤ 9) => ?_)
  refine wk_i ?_
  refine wi_pop (nx := 962) (r1 := 0) (r2 := 0) (r3 := 0) rfl rfl ?_
  refine wi_goto (nx := 965) (r1 := 1529) (r2 := 0) (r3 := 0) rfl ?_
  have e31 : h29 238 98 = h 238 98 := (u29 238 98 rfl)
  have e32 : h29 238 99 = h 238 99 := (u29 238 99 rfl)
  have e33 : h29 238 100 = h 238 100 := (u29 238 100 rfl)
  have e34 : h29 238 101 = h 238 101 := (u29 238 101 rfl)
  have e35 : h29 238 102 = h 238 102 := (u29 238 102 rfl)
  have e36 : h29 238 106 = h 238 106 := (u29 238 106 rfl)
  have e37 : h29 238 73 = h 238 73 := (u29 238 73 rfl)
  have e38 : h29 238 2 = h 238 2 := (u29 238 2 rfl)
  have e39 : h29 238 119 = h 238 119 := (u29 238 119 rfl)
  have e40 : h29 238 67 = h 238 67 := (u29 238 67 rfl)
  have e41 : h29 238 69 = h 238 69 := (u29 238 69 rfl)
  have e42 : h29 238 5 = h 238 5 := (u29 238 5 rfl)
  have e43 : h29 241 98 = h 241 98 := (u29 241 98 rfl)
  have e44 : h29 241 99 = h 241 99 := (u29 241 99 rfl)
  have e45 : h29 241 100 = h 241 100 := (u29 241 100 rfl)
  have e46 : h29 241 101 = h 241 101 := (u29 241 101 rfl)
  have e47 : h29 241 102 = h 241 102 := (u29 241 102 rfl)
  have e48 : h29 241 106 = h 241 106 := (u29 241 106 rfl)
  have e49 : h29 241 73 = h 241 73 := (u29 241 73 rfl)
  have e50 : h29 241 2 = h 241 2 := (u29 241 2 rfl)
  have e51 : h29 241 119 = h 241 119 := (u29 241 119 rfl)
  have e52 : h29 241 67 = h 241 67 := (u29 241 67 rfl)
  have e53 : h29 241 69 = h 241 69 := (u29 241 69 rfl)
  have e54 : h29 241 5 = h 241 5 := (u29 241 5 rfl)
  have e55 : h29 1 1 = h 1 1 := (u29 1 1 rfl)
  have e56 : h29 236 2 = h 236 2 := (u29 236 2 rfl)
  have gp57 := GPH.fr u29 rfl gp0
  exact k h29 b c ⟨g29, (show h29 1 1 = h29 236 2 by omega), (RS.i0 (f := h29 238) (by refine ⟨?_, ?_, ?_, ?_, ?_⟩ <;> omega)), (RS.i0 (f := h29 241) (by refine ⟨?_, ?_, ?_, ?_, ?_⟩ <;> omega)), gp57⟩ (by omega) (by omega)
-- the law, case at 965
set_option maxRecDepth 100000 in
set_option maxHeartbeats 100000000 in
theorem lc_965 {L : Nat} {xs : Nat → Int32} {d b c : Nat} {h : hp} {cr : Nat → Nat → Option Nat} {Q : hp_Q} (hcr : CR cr) (hL : L ≤ 3072) (hr : 1 ≤ b ∧ 6 ≤ c) (I : LI h) (i : Int) (hi : 0 ≤ i ∧ i + 6 ≤ L) (k : ∀ (h2 : hp) (b2 c2 : Nat), LI h2 → b ≤ b2 + 1 → c ≤ c2 + 6 → wp (md_xa (L, xs)) (d + 107) 0 (1529, [(0, .ref 1000000), (1, .ref 0), (2, .ref 236), (3, .ref 259), (4, vi i)], [], hp_w h2 cr, b2, c2) Q) : wp (md_xa (L, xs)) (d + 107) 0 (965, [(0, .ref 1000000), (1, .ref 0), (2, .ref 236), (3, .ref 259), (4, vi i)], [], hp_w h cr, b, c) Q := by
  obtain ⟨g, i11, r238, r241, gp0⟩ := I
  have r238e := r238.e0
  have r241e := r241.e0
  have b1 := gi_b (lo := 0) (hi := 6) g 238 98 rfl
  have b2 := gi_b (lo := 0) (hi := 6) g 238 99 rfl
  have b3 := gi_b (lo := 0) (hi := 6) g 238 100 rfl
  have b4 := gi_b (lo := 0) (hi := 6) g 238 101 rfl
  have b5 := gi_b (lo := 0) (hi := 3) g 238 102 rfl
  have b6 := gi_b (lo := 0) (hi := 12) g 238 106 rfl
  have b7 := gi_b (lo := 0) (hi := 12) g 238 73 rfl
  have b8 := gi_b (lo := 0) (hi := 12) g 238 2 rfl
  have b9 := gi_b (lo := 0) (hi := 9999) g 238 119 rfl
  have b10 := gi_b (lo := 0) (hi := 9999) g 238 67 rfl
  have b11 := gi_b (lo := 0) (hi := 9) g 238 69 rfl
  have b12 := gi_b (lo := 0) (hi := 9) g 238 5 rfl
  have b13 := gi_b (lo := 0) (hi := 6) g 241 98 rfl
  have b14 := gi_b (lo := 0) (hi := 6) g 241 99 rfl
  have b15 := gi_b (lo := 0) (hi := 6) g 241 100 rfl
  have b16 := gi_b (lo := 0) (hi := 6) g 241 101 rfl
  have b17 := gi_b (lo := 0) (hi := 3) g 241 102 rfl
  have b18 := gi_b (lo := 0) (hi := 12) g 241 106 rfl
  have b19 := gi_b (lo := 0) (hi := 12) g 241 73 rfl
  have b20 := gi_b (lo := 0) (hi := 12) g 241 2 rfl
  have b21 := gi_b (lo := 0) (hi := 9999) g 241 119 rfl
  have b22 := gi_b (lo := 0) (hi := 9999) g 241 67 rfl
  have b23 := gi_b (lo := 0) (hi := 9) g 241 69 rfl
  have b24 := gi_b (lo := 0) (hi := 9) g 241 5 rfl
  have b25 := gi_b (lo := 0) (hi := 800) g 1 1 rfl
  have b26 := gi_b (lo := 0) (hi := 800) g 236 2 rfl
  refine wi_aload_n (i := 1) (x := 0) (nx := 966) (r1 := 0) (r2 := 0) (r3 := 0) rfl rfl ?_
  refine wr_V (k0 := 0) (rest := []) (as := [.ref 0]) (nx := 969) (r1 := 40) (r2 := 0) (r3 := 0) rfl rfl rfl (of_decide_eq_true rfl) rfl rfl (by decide) rfl rfl (of_decide_eq_true rfl) (of_decide_eq_true rfl) ?_
  refine ct_40_0 hcr  g    (fun z28  (fz28 : -2147483648 ≤ z28 ∧ z28 ≤ 2147483647) => ?_)
  refine wk_i ?_
  refine wi_pop (nx := 970) (r1 := 0) (r2 := 0) (r3 := 0) rfl rfl ?_
  refine wi_aload_n (i := 2) (x := 236) (nx := 971) (r1 := 0) (r2 := 0) (r3 := 0) rfl rfl ?_
  refine wr_V (k0 := 236) (rest := []) (as := [.ref 236]) (nx := 974) (r1 := 271) (r2 := 0) (r3 := 11) rfl rfl rfl (of_decide_eq_true rfl) rfl rfl (by decide) rfl rfl (of_decide_eq_true rfl) (of_decide_eq_true rfl) ?_
  refine ct_271_236 hcr  g    (fun h29 z30 g29 u29 (fz30 : 0 ≤ z30 ∧ z30 ≤ 9999) => ?_)
  refine wk_i ?_
  refine wi_pop (nx := 975) (r1 := 0) (r2 := 0) (r3 := 0) rfl rfl ?_
  refine wi_goto (nx := 978) (r1 := 1529) (r2 := 0) (r3 := 0) rfl ?_
  have e31 : h29 238 98 = h 238 98 := (u29 238 98 rfl)
  have e32 : h29 238 99 = h 238 99 := (u29 238 99 rfl)
  have e33 : h29 238 100 = h 238 100 := (u29 238 100 rfl)
  have e34 : h29 238 101 = h 238 101 := (u29 238 101 rfl)
  have e35 : h29 238 102 = h 238 102 := (u29 238 102 rfl)
  have e36 : h29 238 106 = h 238 106 := (u29 238 106 rfl)
  have e37 : h29 238 73 = h 238 73 := (u29 238 73 rfl)
  have e38 : h29 238 2 = h 238 2 := (u29 238 2 rfl)
  have e39 : h29 238 119 = h 238 119 := (u29 238 119 rfl)
  have e40 : h29 238 67 = h 238 67 := (u29 238 67 rfl)
  have e41 : h29 238 69 = h 238 69 := (u29 238 69 rfl)
  have e42 : h29 238 5 = h 238 5 := (u29 238 5 rfl)
  have e43 : h29 241 98 = h 241 98 := (u29 241 98 rfl)
  have e44 : h29 241 99 = h 241 99 := (u29 241 99 rfl)
  have e45 : h29 241 100 = h 241 100 := (u29 241 100 rfl)
  have e46 : h29 241 101 = h 241 101 := (u29 241 101 rfl)
  have e47 : h29 241 102 = h 241 102 := (u29 241 102 rfl)
  have e48 : h29 241 106 = h 241 106 := (u29 241 106 rfl)
  have e49 : h29 241 73 = h 241 73 := (u29 241 73 rfl)
  have e50 : h29 241 2 = h 241 2 := (u29 241 2 rfl)
  have e51 : h29 241 119 = h 241 119 := (u29 241 119 rfl)
  have e52 : h29 241 67 = h 241 67 := (u29 241 67 rfl)
  have e53 : h29 241 69 = h 241 69 := (u29 241 69 rfl)
  have e54 : h29 241 5 = h 241 5 := (u29 241 5 rfl)
  have e55 : h29 1 1 = h 1 1 := (u29 1 1 rfl)
  have e56 : h29 236 2 = h 236 2 := (u29 236 2 rfl)
  have gp57 := GPH.fr u29 rfl gp0
  exact k h29 b c ⟨g29, (show h29 1 1 = h29 236 2 by omega), (RS.i0 (f := h29 238) (by refine ⟨?_, ?_, ?_, ?_, ?_⟩ <;> omega)), (RS.i0 (f := h29 241) (by refine ⟨?_, ?_, ?_, ?_, ?_⟩ <;> omega)), gp57⟩ (by omega) (by omega)
-- the law, case at 978
set_option maxRecDepth 100000 in
set_option maxHeartbeats 100000000 in
theorem lc_978 {L : Nat} {xs : Nat → Int32} {d b c : Nat} {h : hp} {cr : Nat → Nat → Option Nat} {Q : hp_Q} (hcr : CR cr) (hL : L ≤ 3072) (hr : 1 ≤ b ∧ 6 ≤ c) (I : LI h) (i : Int) (hi : 0 ≤ i ∧ i + 6 ≤ L) (k : ∀ (h2 : hp) (b2 c2 : Nat), LI h2 → b ≤ b2 + 1 → c ≤ c2 + 6 → wp (md_xa (L, xs)) (d + 107) 0 (1529, [(0, .ref 1000000), (1, .ref 0), (2, .ref 236), (3, .ref 259), (4, vi i)], [], hp_w h2 cr, b2, c2) Q) : wp (md_xa (L, xs)) (d + 107) 0 (978, [(0, .ref 1000000), (1, .ref 0), (2, .ref 236), (3, .ref 259), (4, vi i)], [], hp_w h cr, b, c) Q := by
  obtain ⟨g, i11, r238, r241, gp0⟩ := I
  have r238e := r238.e0
  have r241e := r241.e0
  have b1 := gi_b (lo := 0) (hi := 6) g 238 98 rfl
  have b2 := gi_b (lo := 0) (hi := 6) g 238 99 rfl
  have b3 := gi_b (lo := 0) (hi := 6) g 238 100 rfl
  have b4 := gi_b (lo := 0) (hi := 6) g 238 101 rfl
  have b5 := gi_b (lo := 0) (hi := 3) g 238 102 rfl
  have b6 := gi_b (lo := 0) (hi := 12) g 238 106 rfl
  have b7 := gi_b (lo := 0) (hi := 12) g 238 73 rfl
  have b8 := gi_b (lo := 0) (hi := 12) g 238 2 rfl
  have b9 := gi_b (lo := 0) (hi := 9999) g 238 119 rfl
  have b10 := gi_b (lo := 0) (hi := 9999) g 238 67 rfl
  have b11 := gi_b (lo := 0) (hi := 9) g 238 69 rfl
  have b12 := gi_b (lo := 0) (hi := 9) g 238 5 rfl
  have b13 := gi_b (lo := 0) (hi := 6) g 241 98 rfl
  have b14 := gi_b (lo := 0) (hi := 6) g 241 99 rfl
  have b15 := gi_b (lo := 0) (hi := 6) g 241 100 rfl
  have b16 := gi_b (lo := 0) (hi := 6) g 241 101 rfl
  have b17 := gi_b (lo := 0) (hi := 3) g 241 102 rfl
  have b18 := gi_b (lo := 0) (hi := 12) g 241 106 rfl
  have b19 := gi_b (lo := 0) (hi := 12) g 241 73 rfl
  have b20 := gi_b (lo := 0) (hi := 12) g 241 2 rfl
  have b21 := gi_b (lo := 0) (hi := 9999) g 241 119 rfl
  have b22 := gi_b (lo := 0) (hi := 9999) g 241 67 rfl
  have b23 := gi_b (lo := 0) (hi := 9) g 241 69 rfl
  have b24 := gi_b (lo := 0) (hi := 9) g 241 5 rfl
  have b25 := gi_b (lo := 0) (hi := 800) g 1 1 rfl
  have b26 := gi_b (lo := 0) (hi := 800) g 236 2 rfl
  refine wi_aload_n (i := 1) (x := 0) (nx := 979) (r1 := 0) (r2 := 0) (r3 := 0) rfl rfl ?_
  refine wr_V (k0 := 0) (rest := []) (as := [.ref 0]) (nx := 982) (r1 := 41) (r2 := 0) (r3 := 0) rfl rfl rfl (of_decide_eq_true rfl) rfl rfl (by decide) rfl rfl (of_decide_eq_true rfl) (of_decide_eq_true rfl) ?_
  refine ct_41_0 hcr  g    (fun z28  (fz28 : -2147483648 ≤ z28 ∧ z28 ≤ 2147483647) => ?_)
  refine wk_i ?_
  refine wi_pop (nx := 983) (r1 := 0) (r2 := 0) (r3 := 0) rfl rfl ?_
  refine wi_aload_n (i := 2) (x := 236) (nx := 984) (r1 := 0) (r2 := 0) (r3 := 0) rfl rfl ?_
  refine wr_V (k0 := 236) (rest := []) (as := [.ref 236]) (nx := 987) (r1 := 272) (r2 := 0) (r3 := 11) rfl rfl rfl (of_decide_eq_true rfl) rfl rfl (by decide) rfl rfl (of_decide_eq_true rfl) (of_decide_eq_true rfl) ?_
  refine ct_272_236 hcr  g    (fun h29 z30 g29 u29 (fz30 : -2147483648 ≤ z30 ∧ z30 ≤ 2147483647) => ?_)
  refine wk_i ?_
  refine wi_pop (nx := 988) (r1 := 0) (r2 := 0) (r3 := 0) rfl rfl ?_
  refine wi_goto (nx := 991) (r1 := 1529) (r2 := 0) (r3 := 0) rfl ?_
  have e31 : h29 238 98 = h 238 98 := (u29 238 98 rfl)
  have e32 : h29 238 99 = h 238 99 := (u29 238 99 rfl)
  have e33 : h29 238 100 = h 238 100 := (u29 238 100 rfl)
  have e34 : h29 238 101 = h 238 101 := (u29 238 101 rfl)
  have e35 : h29 238 102 = h 238 102 := (u29 238 102 rfl)
  have e36 : h29 238 106 = h 238 106 := (u29 238 106 rfl)
  have e37 : h29 238 73 = h 238 73 := (u29 238 73 rfl)
  have e38 : h29 238 2 = h 238 2 := (u29 238 2 rfl)
  have e39 : h29 238 119 = h 238 119 := (u29 238 119 rfl)
  have e40 : h29 238 67 = h 238 67 := (u29 238 67 rfl)
  have e41 : h29 238 69 = h 238 69 := (u29 238 69 rfl)
  have e42 : h29 238 5 = h 238 5 := (u29 238 5 rfl)
  have e43 : h29 241 98 = h 241 98 := (u29 241 98 rfl)
  have e44 : h29 241 99 = h 241 99 := (u29 241 99 rfl)
  have e45 : h29 241 100 = h 241 100 := (u29 241 100 rfl)
  have e46 : h29 241 101 = h 241 101 := (u29 241 101 rfl)
  have e47 : h29 241 102 = h 241 102 := (u29 241 102 rfl)
  have e48 : h29 241 106 = h 241 106 := (u29 241 106 rfl)
  have e49 : h29 241 73 = h 241 73 := (u29 241 73 rfl)
  have e50 : h29 241 2 = h 241 2 := (u29 241 2 rfl)
  have e51 : h29 241 119 = h 241 119 := (u29 241 119 rfl)
  have e52 : h29 241 67 = h 241 67 := (u29 241 67 rfl)
  have e53 : h29 241 69 = h 241 69 := (u29 241 69 rfl)
  have e54 : h29 241 5 = h 241 5 := (u29 241 5 rfl)
  have e55 : h29 1 1 = h 1 1 := (u29 1 1 rfl)
  have e56 : h29 236 2 = h 236 2 := (u29 236 2 rfl)
  have gp57 := GPH.fr u29 rfl gp0
  exact k h29 b c ⟨g29, (show h29 1 1 = h29 236 2 by omega), (RS.i0 (f := h29 238) (by refine ⟨?_, ?_, ?_, ?_, ?_⟩ <;> omega)), (RS.i0 (f := h29 241) (by refine ⟨?_, ?_, ?_, ?_, ?_⟩ <;> omega)), gp57⟩ (by omega) (by omega)
-- the law, case at 991
set_option maxRecDepth 100000 in
set_option maxHeartbeats 100000000 in
theorem lc_991 {L : Nat} {xs : Nat → Int32} {d b c : Nat} {h : hp} {cr : Nat → Nat → Option Nat} {Q : hp_Q} (hcr : CR cr) (hL : L ≤ 3072) (hr : 1 ≤ b ∧ 6 ≤ c) (I : LI h) (i : Int) (hi : 0 ≤ i ∧ i + 6 ≤ L) (k : ∀ (h2 : hp) (b2 c2 : Nat), LI h2 → b ≤ b2 + 1 → c ≤ c2 + 6 → wp (md_xa (L, xs)) (d + 107) 0 (1529, [(0, .ref 1000000), (1, .ref 0), (2, .ref 236), (3, .ref 259), (4, vi i)], [], hp_w h2 cr, b2, c2) Q) : wp (md_xa (L, xs)) (d + 107) 0 (991, [(0, .ref 1000000), (1, .ref 0), (2, .ref 236), (3, .ref 259), (4, vi i)], [], hp_w h cr, b, c) Q := by
  obtain ⟨g, i11, r238, r241, gp0⟩ := I
  have r238e := r238.e0
  have r241e := r241.e0
  have b1 := gi_b (lo := 0) (hi := 6) g 238 98 rfl
  have b2 := gi_b (lo := 0) (hi := 6) g 238 99 rfl
  have b3 := gi_b (lo := 0) (hi := 6) g 238 100 rfl
  have b4 := gi_b (lo := 0) (hi := 6) g 238 101 rfl
  have b5 := gi_b (lo := 0) (hi := 3) g 238 102 rfl
  have b6 := gi_b (lo := 0) (hi := 12) g 238 106 rfl
  have b7 := gi_b (lo := 0) (hi := 12) g 238 73 rfl
  have b8 := gi_b (lo := 0) (hi := 12) g 238 2 rfl
  have b9 := gi_b (lo := 0) (hi := 9999) g 238 119 rfl
  have b10 := gi_b (lo := 0) (hi := 9999) g 238 67 rfl
  have b11 := gi_b (lo := 0) (hi := 9) g 238 69 rfl
  have b12 := gi_b (lo := 0) (hi := 9) g 238 5 rfl
  have b13 := gi_b (lo := 0) (hi := 6) g 241 98 rfl
  have b14 := gi_b (lo := 0) (hi := 6) g 241 99 rfl
  have b15 := gi_b (lo := 0) (hi := 6) g 241 100 rfl
  have b16 := gi_b (lo := 0) (hi := 6) g 241 101 rfl
  have b17 := gi_b (lo := 0) (hi := 3) g 241 102 rfl
  have b18 := gi_b (lo := 0) (hi := 12) g 241 106 rfl
  have b19 := gi_b (lo := 0) (hi := 12) g 241 73 rfl
  have b20 := gi_b (lo := 0) (hi := 12) g 241 2 rfl
  have b21 := gi_b (lo := 0) (hi := 9999) g 241 119 rfl
  have b22 := gi_b (lo := 0) (hi := 9999) g 241 67 rfl
  have b23 := gi_b (lo := 0) (hi := 9) g 241 69 rfl
  have b24 := gi_b (lo := 0) (hi := 9) g 241 5 rfl
  have b25 := gi_b (lo := 0) (hi := 800) g 1 1 rfl
  have b26 := gi_b (lo := 0) (hi := 800) g 236 2 rfl
  refine wi_aload_n (i := 1) (x := 0) (nx := 992) (r1 := 0) (r2 := 0) (r3 := 0) rfl rfl ?_
  refine wr_V (k0 := 0) (rest := []) (as := [.ref 0]) (nx := 995) (r1 := 42) (r2 := 0) (r3 := 0) rfl rfl rfl (of_decide_eq_true rfl) rfl rfl (by decide) rfl rfl (of_decide_eq_true rfl) (of_decide_eq_true rfl) ?_
  refine ct_42_0 hcr  g    (fun z28  (fz28 : -2147483648 ≤ z28 ∧ z28 ≤ 2147483647) => ?_)
  refine wk_i ?_
  refine wi_pop (nx := 996) (r1 := 0) (r2 := 0) (r3 := 0) rfl rfl ?_
  refine wi_aload_n (i := 2) (x := 236) (nx := 997) (r1 := 0) (r2 := 0) (r3 := 0) rfl rfl ?_
  refine wr_V (k0 := 236) (rest := []) (as := [.ref 236]) (nx := 1000) (r1 := 273) (r2 := 0) (r3 := 11) rfl rfl rfl (of_decide_eq_true rfl) rfl rfl (by decide) rfl rfl (of_decide_eq_true rfl) (of_decide_eq_true rfl) ?_
  refine ct_273_236 hcr  g    (fun h29 z30 g29 u29 (fz30 : -2147483648 ≤ z30 ∧ z30 ≤ 2147483647) => ?_)
  refine wk_i ?_
  refine wi_pop (nx := 1001) (r1 := 0) (r2 := 0) (r3 := 0) rfl rfl ?_
  refine wi_goto (nx := 1004) (r1 := 1529) (r2 := 0) (r3 := 0) rfl ?_
  have e31 : h29 238 98 = h 238 98 := (u29 238 98 rfl)
  have e32 : h29 238 99 = h 238 99 := (u29 238 99 rfl)
  have e33 : h29 238 100 = h 238 100 := (u29 238 100 rfl)
  have e34 : h29 238 101 = h 238 101 := (u29 238 101 rfl)
  have e35 : h29 238 102 = h 238 102 := (u29 238 102 rfl)
  have e36 : h29 238 106 = h 238 106 := (u29 238 106 rfl)
  have e37 : h29 238 73 = h 238 73 := (u29 238 73 rfl)
  have e38 : h29 238 2 = h 238 2 := (u29 238 2 rfl)
  have e39 : h29 238 119 = h 238 119 := (u29 238 119 rfl)
  have e40 : h29 238 67 = h 238 67 := (u29 238 67 rfl)
  have e41 : h29 238 69 = h 238 69 := (u29 238 69 rfl)
  have e42 : h29 238 5 = h 238 5 := (u29 238 5 rfl)
  have e43 : h29 241 98 = h 241 98 := (u29 241 98 rfl)
  have e44 : h29 241 99 = h 241 99 := (u29 241 99 rfl)
  have e45 : h29 241 100 = h 241 100 := (u29 241 100 rfl)
  have e46 : h29 241 101 = h 241 101 := (u29 241 101 rfl)
  have e47 : h29 241 102 = h 241 102 := (u29 241 102 rfl)
  have e48 : h29 241 106 = h 241 106 := (u29 241 106 rfl)
  have e49 : h29 241 73 = h 241 73 := (u29 241 73 rfl)
  have e50 : h29 241 2 = h 241 2 := (u29 241 2 rfl)
  have e51 : h29 241 119 = h 241 119 := (u29 241 119 rfl)
  have e52 : h29 241 67 = h 241 67 := (u29 241 67 rfl)
  have e53 : h29 241 69 = h 241 69 := (u29 241 69 rfl)
  have e54 : h29 241 5 = h 241 5 := (u29 241 5 rfl)
  have e55 : h29 1 1 = h 1 1 := (u29 1 1 rfl)
  have e56 : h29 236 2 = h 236 2 := (u29 236 2 rfl)
  have gp57 := GPH.fr u29 rfl gp0
  exact k h29 b c ⟨g29, (show h29 1 1 = h29 236 2 by omega), (RS.i0 (f := h29 238) (by refine ⟨?_, ?_, ?_, ?_, ?_⟩ <;> omega)), (RS.i0 (f := h29 241) (by refine ⟨?_, ?_, ?_, ?_, ?_⟩ <;> omega)), gp57⟩ (by omega) (by omega)
-- the law, case at 1004
set_option maxRecDepth 100000 in
set_option maxHeartbeats 100000000 in
theorem lc_1004 {L : Nat} {xs : Nat → Int32} {d b c : Nat} {h : hp} {cr : Nat → Nat → Option Nat} {Q : hp_Q} (hcr : CR cr) (hL : L ≤ 3072) (hr : 1 ≤ b ∧ 6 ≤ c) (I : LI h) (i : Int) (hi : 0 ≤ i ∧ i + 6 ≤ L) (k : ∀ (h2 : hp) (b2 c2 : Nat), LI h2 → b ≤ b2 + 1 → c ≤ c2 + 6 → wp (md_xa (L, xs)) (d + 107) 0 (1529, [(0, .ref 1000000), (1, .ref 0), (2, .ref 236), (3, .ref 259), (4, vi i)], [], hp_w h2 cr, b2, c2) Q) : wp (md_xa (L, xs)) (d + 107) 0 (1004, [(0, .ref 1000000), (1, .ref 0), (2, .ref 236), (3, .ref 259), (4, vi i)], [], hp_w h cr, b, c) Q := by
  obtain ⟨g, i11, r238, r241, gp0⟩ := I
  have r238e := r238.e0
  have r241e := r241.e0
  have b1 := gi_b (lo := 0) (hi := 6) g 238 98 rfl
  have b2 := gi_b (lo := 0) (hi := 6) g 238 99 rfl
  have b3 := gi_b (lo := 0) (hi := 6) g 238 100 rfl
  have b4 := gi_b (lo := 0) (hi := 6) g 238 101 rfl
  have b5 := gi_b (lo := 0) (hi := 3) g 238 102 rfl
  have b6 := gi_b (lo := 0) (hi := 12) g 238 106 rfl
  have b7 := gi_b (lo := 0) (hi := 12) g 238 73 rfl
  have b8 := gi_b (lo := 0) (hi := 12) g 238 2 rfl
  have b9 := gi_b (lo := 0) (hi := 9999) g 238 119 rfl
  have b10 := gi_b (lo := 0) (hi := 9999) g 238 67 rfl
  have b11 := gi_b (lo := 0) (hi := 9) g 238 69 rfl
  have b12 := gi_b (lo := 0) (hi := 9) g 238 5 rfl
  have b13 := gi_b (lo := 0) (hi := 6) g 241 98 rfl
  have b14 := gi_b (lo := 0) (hi := 6) g 241 99 rfl
  have b15 := gi_b (lo := 0) (hi := 6) g 241 100 rfl
  have b16 := gi_b (lo := 0) (hi := 6) g 241 101 rfl
  have b17 := gi_b (lo := 0) (hi := 3) g 241 102 rfl
  have b18 := gi_b (lo := 0) (hi := 12) g 241 106 rfl
  have b19 := gi_b (lo := 0) (hi := 12) g 241 73 rfl
  have b20 := gi_b (lo := 0) (hi := 12) g 241 2 rfl
  have b21 := gi_b (lo := 0) (hi := 9999) g 241 119 rfl
  have b22 := gi_b (lo := 0) (hi := 9999) g 241 67 rfl
  have b23 := gi_b (lo := 0) (hi := 9) g 241 69 rfl
  have b24 := gi_b (lo := 0) (hi := 9) g 241 5 rfl
  have b25 := gi_b (lo := 0) (hi := 800) g 1 1 rfl
  have b26 := gi_b (lo := 0) (hi := 800) g 236 2 rfl
  refine wi_aload_n (i := 1) (x := 0) (nx := 1005) (r1 := 0) (r2 := 0) (r3 := 0) rfl rfl ?_
  refine wr_V (k0 := 0) (rest := []) (as := [.ref 0]) (nx := 1008) (r1 := 43) (r2 := 0) (r3 := 0) rfl rfl rfl (of_decide_eq_true rfl) rfl rfl (by decide) rfl rfl (of_decide_eq_true rfl) (of_decide_eq_true rfl) ?_
  refine ct_43_0 hcr  g    (fun z28  (fz28 : -2147483648 ≤ z28 ∧ z28 ≤ 2147483647) => ?_)
  refine wk_i ?_
  refine wi_pop (nx := 1009) (r1 := 0) (r2 := 0) (r3 := 0) rfl rfl ?_
  refine wi_aload_n (i := 2) (x := 236) (nx := 1010) (r1 := 0) (r2 := 0) (r3 := 0) rfl rfl ?_
  refine wr_V (k0 := 236) (rest := []) (as := [.ref 236]) (nx := 1013) (r1 := 274) (r2 := 0) (r3 := 11) rfl rfl rfl (of_decide_eq_true rfl) rfl rfl (by decide) rfl rfl (of_decide_eq_true rfl) (of_decide_eq_true rfl) ?_
  refine ct_274_236 hcr  g    (fun h29 z30 g29 u29 (fz30 : -2147483648 ≤ z30 ∧ z30 ≤ 2147483647) => ?_)
  refine wk_i ?_
  refine wi_pop (nx := 1014) (r1 := 0) (r2 := 0) (r3 := 0) rfl rfl ?_
  refine wi_goto (nx := 1017) (r1 := 1529) (r2 := 0) (r3 := 0) rfl ?_
  have e31 : h29 238 98 = h 238 98 := (u29 238 98 rfl)
  have e32 : h29 238 99 = h 238 99 := (u29 238 99 rfl)
  have e33 : h29 238 100 = h 238 100 := (u29 238 100 rfl)
  have e34 : h29 238 101 = h 238 101 := (u29 238 101 rfl)
  have e35 : h29 238 102 = h 238 102 := (u29 238 102 rfl)
  have e36 : h29 238 106 = h 238 106 := (u29 238 106 rfl)
  have e37 : h29 238 73 = h 238 73 := (u29 238 73 rfl)
  have e38 : h29 238 2 = h 238 2 := (u29 238 2 rfl)
  have e39 : h29 238 119 = h 238 119 := (u29 238 119 rfl)
  have e40 : h29 238 67 = h 238 67 := (u29 238 67 rfl)
  have e41 : h29 238 69 = h 238 69 := (u29 238 69 rfl)
  have e42 : h29 238 5 = h 238 5 := (u29 238 5 rfl)
  have e43 : h29 241 98 = h 241 98 := (u29 241 98 rfl)
  have e44 : h29 241 99 = h 241 99 := (u29 241 99 rfl)
  have e45 : h29 241 100 = h 241 100 := (u29 241 100 rfl)
  have e46 : h29 241 101 = h 241 101 := (u29 241 101 rfl)
  have e47 : h29 241 102 = h 241 102 := (u29 241 102 rfl)
  have e48 : h29 241 106 = h 241 106 := (u29 241 106 rfl)
  have e49 : h29 241 73 = h 241 73 := (u29 241 73 rfl)
  have e50 : h29 241 2 = h 241 2 := (u29 241 2 rfl)
  have e51 : h29 241 119 = h 241 119 := (u29 241 119 rfl)
  have e52 : h29 241 67 = h 241 67 := (u29 241 67 rfl)
  have e53 : h29 241 69 = h 241 69 := (u29 241 69 rfl)
  have e54 : h29 241 5 = h 241 5 := (u29 241 5 rfl)
  have e55 : h29 1 1 = h 1 1 := (u29 1 1 rfl)
  have e56 : h29 236 2 = h 236 2 := (u29 236 2 rfl)
  have gp57 := GPH.fr u29 rfl gp0
  exact k h29 b c ⟨g29, (show h29 1 1 = h29 236 2 by omega), (RS.i0 (f := h29 238) (by refine ⟨?_, ?_, ?_, ?_, ?_⟩ <;> omega)), (RS.i0 (f := h29 241) (by refine ⟨?_, ?_, ?_, ?_, ?_⟩ <;> omega)), gp57⟩ (by omega) (by omega)
-- the law, case at 1017
set_option maxRecDepth 100000 in
set_option maxHeartbeats 100000000 in
theorem lc_1017 {L : Nat} {xs : Nat → Int32} {d b c : Nat} {h : hp} {cr : Nat → Nat → Option Nat} {Q : hp_Q} (hcr : CR cr) (hL : L ≤ 3072) (hr : 1 ≤ b ∧ 6 ≤ c) (I : LI h) (i : Int) (hi : 0 ≤ i ∧ i + 6 ≤ L) (k : ∀ (h2 : hp) (b2 c2 : Nat), LI h2 → b ≤ b2 + 1 → c ≤ c2 + 6 → wp (md_xa (L, xs)) (d + 107) 0 (1529, [(0, .ref 1000000), (1, .ref 0), (2, .ref 236), (3, .ref 259), (4, vi i)], [], hp_w h2 cr, b2, c2) Q) : wp (md_xa (L, xs)) (d + 107) 0 (1017, [(0, .ref 1000000), (1, .ref 0), (2, .ref 236), (3, .ref 259), (4, vi i)], [], hp_w h cr, b, c) Q := by
  obtain ⟨g, i11, r238, r241, gp0⟩ := I
  have r238e := r238.e0
  have r241e := r241.e0
  have b1 := gi_b (lo := 0) (hi := 6) g 238 98 rfl
  have b2 := gi_b (lo := 0) (hi := 6) g 238 99 rfl
  have b3 := gi_b (lo := 0) (hi := 6) g 238 100 rfl
  have b4 := gi_b (lo := 0) (hi := 6) g 238 101 rfl
  have b5 := gi_b (lo := 0) (hi := 3) g 238 102 rfl
  have b6 := gi_b (lo := 0) (hi := 12) g 238 106 rfl
  have b7 := gi_b (lo := 0) (hi := 12) g 238 73 rfl
  have b8 := gi_b (lo := 0) (hi := 12) g 238 2 rfl
  have b9 := gi_b (lo := 0) (hi := 9999) g 238 119 rfl
  have b10 := gi_b (lo := 0) (hi := 9999) g 238 67 rfl
  have b11 := gi_b (lo := 0) (hi := 9) g 238 69 rfl
  have b12 := gi_b (lo := 0) (hi := 9) g 238 5 rfl
  have b13 := gi_b (lo := 0) (hi := 6) g 241 98 rfl
  have b14 := gi_b (lo := 0) (hi := 6) g 241 99 rfl
  have b15 := gi_b (lo := 0) (hi := 6) g 241 100 rfl
  have b16 := gi_b (lo := 0) (hi := 6) g 241 101 rfl
  have b17 := gi_b (lo := 0) (hi := 3) g 241 102 rfl
  have b18 := gi_b (lo := 0) (hi := 12) g 241 106 rfl
  have b19 := gi_b (lo := 0) (hi := 12) g 241 73 rfl
  have b20 := gi_b (lo := 0) (hi := 12) g 241 2 rfl
  have b21 := gi_b (lo := 0) (hi := 9999) g 241 119 rfl
  have b22 := gi_b (lo := 0) (hi := 9999) g 241 67 rfl
  have b23 := gi_b (lo := 0) (hi := 9) g 241 69 rfl
  have b24 := gi_b (lo := 0) (hi := 9) g 241 5 rfl
  have b25 := gi_b (lo := 0) (hi := 800) g 1 1 rfl
  have b26 := gi_b (lo := 0) (hi := 800) g 236 2 rfl
  refine wi_aload_n (i := 1) (x := 0) (nx := 1018) (r1 := 0) (r2 := 0) (r3 := 0) rfl rfl ?_
  refine wi_aload_n (i := 0) (x := 1000000) (nx := 1019) (r1 := 0) (r2 := 0) (r3 := 0) rfl rfl ?_
  refine wi_iload (i := 4) (e := i) (nx := 1021) (r1 := 0) (r2 := 0) (r3 := 0) rfl rfl ?_
  refine wi_iconst (n := 1) (nx := 1022) (r1 := 0) (r2 := 0) (r3 := 0) rfl ?_
  refine wr_add (nx := 1023) (r1 := 0) (r2 := 0) (r3 := 0) rfl (fun e27 (fe27 : e27 = i + 1) => ?_)
  obtain ⟨i28, ei28⟩ : ∃ q : Nat, e27 = (q : Int) := ⟨(e27).toNat, by omega⟩
  have s29 := sc_b (xs i28)
  refine wr_sc (a := e27) (f := i28) (nx := 1024) (r1 := 0) (r2 := 0) (r3 := 0) rfl (by omega) (by omega) hL ?_
  refine wi_aload_n (i := 3) (x := 259) (nx := 1025) (r1 := 0) (r2 := 0) (r3 := 0) rfl rfl ?_
  refine wi_S (rest := []) (as := [.ref 0, vi ((xs i28).toInt), .ref 259]) (nx := 1028) (r1 := 16) (r2 := 19) (r3 := 0) rfl rfl rfl (of_decide_eq_true rfl) rfl rfl (of_decide_eq_true rfl) (of_decide_eq_true rfl) ?_
  refine wi_aload_n (i := 2) (x := 259) (nx := 1) (r1 := 0) (r2 := 0) (r3 := 0) rfl rfl ?_
  refine wi_iconst (n := 0) (nx := 2) (r1 := 0) (r2 := 0) (r3 := 0) rfl ?_
  refine wi_aload_n (i := 0) (x := 0) (nx := 3) (r1 := 0) (r2 := 0) (r3 := 0) rfl rfl ?_
  refine wi_iload_n (i := 1) (e := (xs i28).toInt) (nx := 4) (r1 := 0) (r2 := 0) (r3 := 0) rfl rfl ?_
  refine wr_V (k0 := 0) (rest := [vi 0, .ref 259]) (as := [.ref 0, vi ((xs i28).toInt)]) (nx := 7) (r1 := 78) (r2 := 1) (r3 := 0) rfl rfl rfl (of_decide_eq_true rfl) rfl rfl (by decide) rfl rfl (of_decide_eq_true rfl) (of_decide_eq_true rfl) ?_
  refine ct_78_0 hcr hr  g ((xs i28).toInt) (by omega)  (fun h30 z31 g30 u30 (fz31 : -2147483648 ≤ z31 ∧ z31 ≤ 2147483647) => ?_) (fun h30 g30 u30 => ?_)
  ·
    refine wk_i ?_
    refine wi_i2l (nx := 8) (r1 := 0) (r2 := 0) (r3 := 0) rfl (by omega) ?_
    refine wr_ls (k0 := 259) (a := 0) (f := 0) (x := z31) (bl := -9223372036854775808) (bh := 9223372036854775807) (nx := 9) (r1 := 0) (r2 := 0) (r3 := 0) rfl (by decide) rfl (by omega) (by omega) (by decide) g30 rfl (by omega) (fun h32 g32 w32 u32 => ?_)
    refine wi_goto (nx := 12) (r1 := 15) (r2 := 0) (r3 := 0) rfl ?_
    refine wi_iconst (n := 0) (nx := 16) (r1 := 0) (r2 := 0) (r3 := 0) rfl ?_
    refine wi_ireturn (nx := 17) (r1 := 0) (r2 := 0) (r3 := 0) rfl rfl ?_
    refine wk_i ?_
    refine wi_istore (i := 5) (e := 0) (lo2 := [(5, vi 0), (0, .ref 1000000), (1, .ref 0), (2, .ref 236), (3, .ref 259), (4, vi i)]) (nx := 1030) (r1 := 0) (r2 := 0) (r3 := 0) rfl rfl ?_
    refine wi_aload_n (i := 2) (x := 236) (nx := 1031) (r1 := 0) (r2 := 0) (r3 := 0) rfl rfl ?_
    refine wi_aload_n (i := 0) (x := 1000000) (nx := 1032) (r1 := 0) (r2 := 0) (r3 := 0) rfl rfl ?_
    refine wi_iload (i := 4) (e := i) (nx := 1034) (r1 := 0) (r2 := 0) (r3 := 0) rfl rfl ?_
    refine wi_iconst (n := 1) (nx := 1035) (r1 := 0) (r2 := 0) (r3 := 0) rfl ?_
    refine wr_add (nx := 1036) (r1 := 0) (r2 := 0) (r3 := 0) rfl (fun e33 (fe33 : e33 = i + 1) => ?_)
    refine wr_sc (a := e33) (f := i28) (nx := 1037) (r1 := 0) (r2 := 0) (r3 := 0) rfl (by omega) (by omega) hL ?_
    refine wr_V (k0 := 236) (rest := []) (as := [.ref 236, vi ((xs i28).toInt)]) (nx := 1040) (r1 := 275) (r2 := 1) (r3 := 11) rfl rfl rfl (of_decide_eq_true rfl) rfl rfl (by decide) rfl rfl (of_decide_eq_true rfl) (of_decide_eq_true rfl) ?_
    have e35 : h32 238 98 = h 238 98 := ((u32 238 98 rfl).trans (u30 238 98 rfl))
    have e36 : h32 238 99 = h 238 99 := ((u32 238 99 rfl).trans (u30 238 99 rfl))
    have e37 : h32 238 100 = h 238 100 := ((u32 238 100 rfl).trans (u30 238 100 rfl))
    have e38 : h32 238 101 = h 238 101 := ((u32 238 101 rfl).trans (u30 238 101 rfl))
    have e39 : h32 238 102 = h 238 102 := ((u32 238 102 rfl).trans (u30 238 102 rfl))
    have e40 : h32 238 106 = h 238 106 := ((u32 238 106 rfl).trans (u30 238 106 rfl))
    have e41 : h32 238 73 = h 238 73 := ((u32 238 73 rfl).trans (u30 238 73 rfl))
    have e42 : h32 238 2 = h 238 2 := ((u32 238 2 rfl).trans (u30 238 2 rfl))
    have e43 : h32 238 119 = h 238 119 := ((u32 238 119 rfl).trans (u30 238 119 rfl))
    have e44 : h32 238 67 = h 238 67 := ((u32 238 67 rfl).trans (u30 238 67 rfl))
    have e45 : h32 238 69 = h 238 69 := ((u32 238 69 rfl).trans (u30 238 69 rfl))
    have e46 : h32 238 5 = h 238 5 := ((u32 238 5 rfl).trans (u30 238 5 rfl))
    have gp48 := GPH.fr u30 rfl gp0
    have gp49 := GPH.fr u32 rfl gp48
    refine ct_275_236 hcr  g32 ((xs i28).toInt) (by omega) (show (h32 238 98) + (h32 238 99) + (h32 238 100) + (h32 238 101) + (h32 238 102) + (h32 238 106) = (h32 238 73) by omega) (show (h32 238 73) ≤ (h32 238 2) by omega) (show (h32 238 119) ≤ (h32 238 67) by omega) (show (h32 238 69) ≤ (h32 238 5) by omega) (show (h32 238 2) ≤ 12 * (h32 238 5) by omega) gp49 (fun h34 z47 g34 u34 (fz47 : -1 ≤ z47 ∧ z47 ≤ 11) (p34_0 : (h34 238 98) + (h34 238 99) + (h34 238 100) + (h34 238 101) + (h34 238 102) + (h34 238 106) = (h34 238 73)) (p34_1 : (h34 238 73) ≤ (h34 238 2)) (p34_2 : (h34 238 119) ≤ (h34 238 67)) (p34_3 : (h34 238 69) ≤ (h34 238 5)) (p34_4 : (h34 238 2) ≤ 12 * (h34 238 5)) y34_0 => ?_)
    have b50 := gi_b (lo := 0) (hi := 6) g34 238 98 rfl
    have b51 := gi_b (lo := 0) (hi := 6) g34 238 99 rfl
    have b52 := gi_b (lo := 0) (hi := 6) g34 238 100 rfl
    have b53 := gi_b (lo := 0) (hi := 6) g34 238 101 rfl
    have e54 : h34 238 102 = h 238 102 := ((u34 238 102 rfl).trans ((u32 238 102 rfl).trans (u30 238 102 rfl)))
    have e55 : h34 238 106 = h 238 106 := ((u34 238 106 rfl).trans ((u32 238 106 rfl).trans (u30 238 106 rfl)))
    have b56 := gi_b (lo := 0) (hi := 12) g34 238 73 rfl
    have e57 : h34 238 2 = h 238 2 := ((u34 238 2 rfl).trans ((u32 238 2 rfl).trans (u30 238 2 rfl)))
    have e58 : h34 238 119 = h 238 119 := ((u34 238 119 rfl).trans ((u32 238 119 rfl).trans (u30 238 119 rfl)))
    have e59 : h34 238 67 = h 238 67 := ((u34 238 67 rfl).trans ((u32 238 67 rfl).trans (u30 238 67 rfl)))
    have e60 : h34 238 69 = h 238 69 := ((u34 238 69 rfl).trans ((u32 238 69 rfl).trans (u30 238 69 rfl)))
    have e61 : h34 238 5 = h 238 5 := ((u34 238 5 rfl).trans ((u32 238 5 rfl).trans (u30 238 5 rfl)))
    refine wk_i ?_
    refine wi_istore (i := 6) (e := z47) (lo2 := [(6, vi z47), (5, vi 0), (0, .ref 1000000), (1, .ref 0), (2, .ref 236), (3, .ref 259), (4, vi i)]) (nx := 1042) (r1 := 0) (r2 := 0) (r3 := 0) rfl rfl ?_
    refine wi_goto (nx := 1045) (r1 := 1529) (r2 := 0) (r3 := 0) rfl ?_
    refine wp.lo (lo := [(0, .ref 1000000), (1, .ref 0), (2, .ref 236), (3, .ref 259), (4, vi i)]) ⟨rfl, rfl, rfl, rfl, rfl, trivial⟩ rfl ?_
    have e62 : h34 241 98 = h 241 98 := ((u34 241 98 rfl).trans ((u32 241 98 rfl).trans (u30 241 98 rfl)))
    have e63 : h34 241 99 = h 241 99 := ((u34 241 99 rfl).trans ((u32 241 99 rfl).trans (u30 241 99 rfl)))
    have e64 : h34 241 100 = h 241 100 := ((u34 241 100 rfl).trans ((u32 241 100 rfl).trans (u30 241 100 rfl)))
    have e65 : h34 241 101 = h 241 101 := ((u34 241 101 rfl).trans ((u32 241 101 rfl).trans (u30 241 101 rfl)))
    have e66 : h34 241 102 = h 241 102 := ((u34 241 102 rfl).trans ((u32 241 102 rfl).trans (u30 241 102 rfl)))
    have e67 : h34 241 106 = h 241 106 := ((u34 241 106 rfl).trans ((u32 241 106 rfl).trans (u30 241 106 rfl)))
    have e68 : h34 241 73 = h 241 73 := ((u34 241 73 rfl).trans ((u32 241 73 rfl).trans (u30 241 73 rfl)))
    have e69 : h34 241 2 = h 241 2 := ((u34 241 2 rfl).trans ((u32 241 2 rfl).trans (u30 241 2 rfl)))
    have e70 : h34 241 119 = h 241 119 := ((u34 241 119 rfl).trans ((u32 241 119 rfl).trans (u30 241 119 rfl)))
    have e71 : h34 241 67 = h 241 67 := ((u34 241 67 rfl).trans ((u32 241 67 rfl).trans (u30 241 67 rfl)))
    have e72 : h34 241 69 = h 241 69 := ((u34 241 69 rfl).trans ((u32 241 69 rfl).trans (u30 241 69 rfl)))
    have e73 : h34 241 5 = h 241 5 := ((u34 241 5 rfl).trans ((u32 241 5 rfl).trans (u30 241 5 rfl)))
    have e74 : h34 1 1 = h 1 1 := ((u34 1 1 rfl).trans ((u32 1 1 rfl).trans (u30 1 1 rfl)))
    have e75 : h34 236 2 = h 236 2 := ((u34 236 2 rfl).trans ((u32 236 2 rfl).trans (u30 236 2 rfl)))
    exact k h34 b c ⟨g34, (show h34 1 1 = h34 236 2 by omega), (RS.i0 (f := h34 238) (by refine ⟨?_, ?_, ?_, ?_, ?_⟩ <;> omega)), (RS.i0 (f := h34 241) (by refine ⟨?_, ?_, ?_, ?_, ?_⟩ <;> omega)), y34_0⟩ (by omega) (by omega)
  ·
    refine wk_h 12 (by decide) rfl ?_
    refine wr_astx (i := 3) (lo2 := [(3, .retAddr 0), (0, .ref 0), (1, vi ((xs i28).toInt)), (2, .ref 259)]) (nx := 13) (r1 := 0) (r2 := 0) (r3 := 0) rfl rfl ?_
    refine wi_iconst (n := 1) (nx := 14) (r1 := 0) (r2 := 0) (r3 := 0) rfl ?_
    refine wi_ireturn (nx := 15) (r1 := 0) (r2 := 0) (r3 := 0) rfl rfl ?_
    refine wk_i ?_
    refine wi_istore (i := 5) (e := 1) (lo2 := [(5, vi 1), (0, .ref 1000000), (1, .ref 0), (2, .ref 236), (3, .ref 259), (4, vi i)]) (nx := 1030) (r1 := 0) (r2 := 0) (r3 := 0) rfl rfl ?_
    refine wi_aload_n (i := 2) (x := 236) (nx := 1031) (r1 := 0) (r2 := 0) (r3 := 0) rfl rfl ?_
    refine wi_aload_n (i := 0) (x := 1000000) (nx := 1032) (r1 := 0) (r2 := 0) (r3 := 0) rfl rfl ?_
    refine wi_iload (i := 4) (e := i) (nx := 1034) (r1 := 0) (r2 := 0) (r3 := 0) rfl rfl ?_
    refine wi_iconst (n := 1) (nx := 1035) (r1 := 0) (r2 := 0) (r3 := 0) rfl ?_
    refine wr_add (nx := 1036) (r1 := 0) (r2 := 0) (r3 := 0) rfl (fun e32 (fe32 : e32 = i + 1) => ?_)
    refine wr_sc (a := e32) (f := i28) (nx := 1037) (r1 := 0) (r2 := 0) (r3 := 0) rfl (by omega) (by omega) hL ?_
    refine wr_V (k0 := 236) (rest := []) (as := [.ref 236, vi ((xs i28).toInt)]) (nx := 1040) (r1 := 275) (r2 := 1) (r3 := 11) rfl rfl rfl (of_decide_eq_true rfl) rfl rfl (by decide) rfl rfl (of_decide_eq_true rfl) (of_decide_eq_true rfl) ?_
    have e34 : h30 238 98 = h 238 98 := (u30 238 98 rfl)
    have e35 : h30 238 99 = h 238 99 := (u30 238 99 rfl)
    have e36 : h30 238 100 = h 238 100 := (u30 238 100 rfl)
    have e37 : h30 238 101 = h 238 101 := (u30 238 101 rfl)
    have e38 : h30 238 102 = h 238 102 := (u30 238 102 rfl)
    have e39 : h30 238 106 = h 238 106 := (u30 238 106 rfl)
    have e40 : h30 238 73 = h 238 73 := (u30 238 73 rfl)
    have e41 : h30 238 2 = h 238 2 := (u30 238 2 rfl)
    have e42 : h30 238 119 = h 238 119 := (u30 238 119 rfl)
    have e43 : h30 238 67 = h 238 67 := (u30 238 67 rfl)
    have e44 : h30 238 69 = h 238 69 := (u30 238 69 rfl)
    have e45 : h30 238 5 = h 238 5 := (u30 238 5 rfl)
    have gp47 := GPH.fr u30 rfl gp0
    refine ct_275_236 hcr  g30 ((xs i28).toInt) (by omega) (show (h30 238 98) + (h30 238 99) + (h30 238 100) + (h30 238 101) + (h30 238 102) + (h30 238 106) = (h30 238 73) by omega) (show (h30 238 73) ≤ (h30 238 2) by omega) (show (h30 238 119) ≤ (h30 238 67) by omega) (show (h30 238 69) ≤ (h30 238 5) by omega) (show (h30 238 2) ≤ 12 * (h30 238 5) by omega) gp47 (fun h33 z46 g33 u33 (fz46 : -1 ≤ z46 ∧ z46 ≤ 11) (p33_0 : (h33 238 98) + (h33 238 99) + (h33 238 100) + (h33 238 101) + (h33 238 102) + (h33 238 106) = (h33 238 73)) (p33_1 : (h33 238 73) ≤ (h33 238 2)) (p33_2 : (h33 238 119) ≤ (h33 238 67)) (p33_3 : (h33 238 69) ≤ (h33 238 5)) (p33_4 : (h33 238 2) ≤ 12 * (h33 238 5)) y33_0 => ?_)
    have b48 := gi_b (lo := 0) (hi := 6) g33 238 98 rfl
    have b49 := gi_b (lo := 0) (hi := 6) g33 238 99 rfl
    have b50 := gi_b (lo := 0) (hi := 6) g33 238 100 rfl
    have b51 := gi_b (lo := 0) (hi := 6) g33 238 101 rfl
    have e52 : h33 238 102 = h 238 102 := ((u33 238 102 rfl).trans (u30 238 102 rfl))
    have e53 : h33 238 106 = h 238 106 := ((u33 238 106 rfl).trans (u30 238 106 rfl))
    have b54 := gi_b (lo := 0) (hi := 12) g33 238 73 rfl
    have e55 : h33 238 2 = h 238 2 := ((u33 238 2 rfl).trans (u30 238 2 rfl))
    have e56 : h33 238 119 = h 238 119 := ((u33 238 119 rfl).trans (u30 238 119 rfl))
    have e57 : h33 238 67 = h 238 67 := ((u33 238 67 rfl).trans (u30 238 67 rfl))
    have e58 : h33 238 69 = h 238 69 := ((u33 238 69 rfl).trans (u30 238 69 rfl))
    have e59 : h33 238 5 = h 238 5 := ((u33 238 5 rfl).trans (u30 238 5 rfl))
    refine wk_i ?_
    refine wi_istore (i := 6) (e := z46) (lo2 := [(6, vi z46), (5, vi 1), (0, .ref 1000000), (1, .ref 0), (2, .ref 236), (3, .ref 259), (4, vi i)]) (nx := 1042) (r1 := 0) (r2 := 0) (r3 := 0) rfl rfl ?_
    refine wi_goto (nx := 1045) (r1 := 1529) (r2 := 0) (r3 := 0) rfl ?_
    refine wp.lo (lo := [(0, .ref 1000000), (1, .ref 0), (2, .ref 236), (3, .ref 259), (4, vi i)]) ⟨rfl, rfl, rfl, rfl, rfl, trivial⟩ rfl ?_
    have e60 : h33 241 98 = h 241 98 := ((u33 241 98 rfl).trans (u30 241 98 rfl))
    have e61 : h33 241 99 = h 241 99 := ((u33 241 99 rfl).trans (u30 241 99 rfl))
    have e62 : h33 241 100 = h 241 100 := ((u33 241 100 rfl).trans (u30 241 100 rfl))
    have e63 : h33 241 101 = h 241 101 := ((u33 241 101 rfl).trans (u30 241 101 rfl))
    have e64 : h33 241 102 = h 241 102 := ((u33 241 102 rfl).trans (u30 241 102 rfl))
    have e65 : h33 241 106 = h 241 106 := ((u33 241 106 rfl).trans (u30 241 106 rfl))
    have e66 : h33 241 73 = h 241 73 := ((u33 241 73 rfl).trans (u30 241 73 rfl))
    have e67 : h33 241 2 = h 241 2 := ((u33 241 2 rfl).trans (u30 241 2 rfl))
    have e68 : h33 241 119 = h 241 119 := ((u33 241 119 rfl).trans (u30 241 119 rfl))
    have e69 : h33 241 67 = h 241 67 := ((u33 241 67 rfl).trans (u30 241 67 rfl))
    have e70 : h33 241 69 = h 241 69 := ((u33 241 69 rfl).trans (u30 241 69 rfl))
    have e71 : h33 241 5 = h 241 5 := ((u33 241 5 rfl).trans (u30 241 5 rfl))
    have e72 : h33 1 1 = h 1 1 := ((u33 1 1 rfl).trans (u30 1 1 rfl))
    have e73 : h33 236 2 = h 236 2 := ((u33 236 2 rfl).trans (u30 236 2 rfl))
    exact k h33 (b - 1) (c - 6) ⟨g33, (show h33 1 1 = h33 236 2 by omega), (RS.i0 (f := h33 238) (by refine ⟨?_, ?_, ?_, ?_, ?_⟩ <;> omega)), (RS.i0 (f := h33 241) (by refine ⟨?_, ?_, ?_, ?_, ?_⟩ <;> omega)), y33_0⟩ (by omega) (by omega)
