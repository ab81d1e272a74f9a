-- the law, case at 857
set_option maxRecDepth 100000 in
set_option maxHeartbeats 100000000 in
theorem lc_857 {L : Nat} {xs : Nat → Int32} {d b c : Nat} {h : hp} {cr : Nat → Nat → Option Nat} {Q : hp_Q} (hcr : CR cr) (hL : L ≤ 3072) (hr : 1 ≤ b ∧ 6 ≤ c) (I : LI h) (i : Int) (hi : 0 ≤ i ∧ i + 6 ≤ L) (k : ∀ (h2 : hp) (b2 c2 : Nat), LI h2 → b ≤ b2 + 1 → c ≤ c2 + 6 → wp (md_xa (L, xs)) (d + 107) 0 (1529, [(0, .ref 1000000), (1, .ref 0), (2, .ref 236), (3, .ref 259), (4, vi i)], [], hp_w h2 cr, b2, c2) Q) : wp (md_xa (L, xs)) (d + 107) 0 (857, [(0, .ref 1000000), (1, .ref 0), (2, .ref 236), (3, .ref 259), (4, vi i)], [], hp_w h cr, b, c) Q := by
  obtain ⟨g, i11, r238, r241, gp0, br0, er2, er3, sv0, sf0, ss0, gs0⟩ := I
  have r238e := r238.e0
  have r241e := r241.e0
  obtain ⟨⟨se0, se1, se2, se3, se4, se5, se6, se7, se8, se9⟩, -⟩ := id sv0
  have b1 := gi_b (lo := 0) (hi := 5) g 3 0 rfl
  have b2 := gi_b (lo := 0) (hi := 5) g 238 0 rfl
  have b3 := gi_b (lo := 0) (hi := 4) g 3 1 rfl
  have b4 := gi_b (lo := 0) (hi := 4) g 238 1 rfl
  have b5 := gi_b (lo := 0) (hi := 12) g 3 2 rfl
  have b6 := gi_b (lo := 0) (hi := 12) g 238 2 rfl
  have b7 := gi_b (lo := -2147483648) (hi := 2147483647) g 3 3 rfl
  have b8 := gi_b (lo := 0) (hi := 999) g 238 3 rfl
  have b9 := gi_b (lo := -2147483648) (hi := 2147483647) g 3 4 rfl
  have b10 := gi_b (lo := 0) (hi := 999) g 238 4 rfl
  have b11 := gi_b (lo := -2147483648) (hi := 2147483647) g 3 5 rfl
  have b12 := gi_b (lo := 0) (hi := 9) g 238 5 rfl
  have b13 := gi_b (lo := -2147483648) (hi := 2147483647) g 3 6 rfl
  have b14 := gi_b (lo := 0) (hi := 999) g 238 6 rfl
  have b15 := gi_b (lo := -2147483648) (hi := 2147483647) g 3 7 rfl
  have b16 := gi_b (lo := 0) (hi := 3) g 238 7 rfl
  have b17 := gi_b (lo := -2147483648) (hi := 2147483647) g 3 8 rfl
  have b18 := gi_b (lo := 0) (hi := 999) g 238 8 rfl
  have b19 := gi_b (lo := -2147483648) (hi := 2147483647) g 3 9 rfl
  have b20 := gi_b (lo := 0) (hi := 999) g 238 9 rfl
  have b21 := gi_b (lo := 0) (hi := 1) g 0 12 rfl
  have b22 := gi_b (lo := 0) (hi := 1) g 236 21 rfl
  have bl_ := gi_b (lo := 0) (hi := 800) g 1 1 rfl
  have tb0 : BufC (h 2) (h 1 1) h := ⟨fun _ => rfl, rfl, by omega, by omega⟩
  have b23 := gi_b (lo := 0) (hi := 6) g 238 98 rfl
  have b24 := gi_b (lo := 0) (hi := 6) g 238 99 rfl
  have b25 := gi_b (lo := 0) (hi := 6) g 238 100 rfl
  have b26 := gi_b (lo := 0) (hi := 6) g 238 101 rfl
  have b27 := gi_b (lo := 0) (hi := 3) g 238 102 rfl
  have b28 := gi_b (lo := 0) (hi := 12) g 238 106 rfl
  have b29 := gi_b (lo := 0) (hi := 12) g 238 73 rfl
  have b30 := gi_b (lo := 0) (hi := 9999) g 238 119 rfl
  have b31 := gi_b (lo := 0) (hi := 9999) g 238 67 rfl
  have b32 := gi_b (lo := 0) (hi := 9) g 238 69 rfl
  have b33 := gi_b (lo := 0) (hi := 6) g 241 98 rfl
  have b34 := gi_b (lo := 0) (hi := 6) g 241 99 rfl
  have b35 := gi_b (lo := 0) (hi := 6) g 241 100 rfl
  have b36 := gi_b (lo := 0) (hi := 6) g 241 101 rfl
  have b37 := gi_b (lo := 0) (hi := 3) g 241 102 rfl
  have b38 := gi_b (lo := 0) (hi := 12) g 241 106 rfl
  have b39 := gi_b (lo := 0) (hi := 12) g 241 73 rfl
  have b40 := gi_b (lo := 0) (hi := 12) g 241 2 rfl
  have b41 := gi_b (lo := 0) (hi := 9999) g 241 119 rfl
  have b42 := gi_b (lo := 0) (hi := 9999) g 241 67 rfl
  have b43 := gi_b (lo := 0) (hi := 9) g 241 69 rfl
  have b44 := gi_b (lo := 0) (hi := 9) g 241 5 rfl
  have b45 := gi_b (lo := 0) (hi := 800) g 1 1 rfl
  have b46 := gi_b (lo := 0) (hi := 800) g 236 2 rfl
  have b47 := gi_b (lo := -2147483648) (hi := 2147483647) g 1 2 rfl
  have b48 := gi_b (lo := -2147483648) (hi := 2147483647) g 236 10 rfl
  have b49 := gi_b (lo := -2147483648) (hi := 2147483647) g 1 3 rfl
  have b50 := gi_b (lo := -2147483648) (hi := 2147483647) g 236 11 rfl
  refine wi_aload_n (i := 1) (x := 0) (nx := 858) (r1 := 0) (r2 := 0) (r3 := 0) rfl rfl ?_
  refine wi_aload_n (i := 0) (x := 1000000) (nx := 859) (r1 := 0) (r2 := 0) (r3 := 0) rfl rfl ?_
  refine wi_iload (i := 4) (e := i) (nx := 861) (r1 := 0) (r2 := 0) (r3 := 0) rfl rfl ?_
  refine wi_iconst (n := 1) (nx := 862) (r1 := 0) (r2 := 0) (r3 := 0) rfl ?_
  refine wr_add (nx := 863) (r1 := 0) (r2 := 0) (r3 := 0) rfl (fun e51 (fe51 : e51 = i + 1) => ?_)
  obtain ⟨i52, ei52⟩ : ∃ q : Nat, e51 = (q : Int) := ⟨(e51).toNat, by omega⟩
  have s53 := sc_b (xs i52)
  refine wr_sc (a := e51) (f := i52) (nx := 864) (r1 := 0) (r2 := 0) (r3 := 0) rfl (by omega) (by omega) hL ?_
  refine wi_aload_n (i := 3) (x := 259) (nx := 865) (r1 := 0) (r2 := 0) (r3 := 0) rfl rfl ?_
  refine wi_S (rest := []) (as := [.ref 0, vi ((xs i52).toInt), .ref 259]) (nx := 868) (r1 := 14) (r2 := 19) (r3 := 0) rfl rfl rfl (of_decide_eq_true rfl) rfl rfl (of_decide_eq_true rfl) (of_decide_eq_true rfl) ?_
  refine wi_aload_n (i := 2) (x := 259) (nx := 1) (r1 := 0) (r2 := 0) (r3 := 0) rfl rfl ?_
  refine wi_iconst (n := 0) (nx := 2) (r1 := 0) (r2 := 0) (r3 := 0) rfl ?_
  refine wi_aload_n (i := 0) (x := 0) (nx := 3) (r1 := 0) (r2 := 0) (r3 := 0) rfl rfl ?_
  refine wi_iload_n (i := 1) (e := (xs i52).toInt) (nx := 4) (r1 := 0) (r2 := 0) (r3 := 0) rfl rfl ?_
  refine wr_V (k0 := 0) (rest := [vi 0, .ref 259]) (as := [.ref 0, vi ((xs i52).toInt)]) (nx := 7) (r1 := 76) (r2 := 1) (r3 := 0) rfl rfl rfl (of_decide_eq_true rfl) rfl rfl (by decide) rfl rfl (of_decide_eq_true rfl) (of_decide_eq_true rfl) ?_
  refine ct_76_0 hcr hr  g ((xs i52).toInt) (by omega)  (fun z55  (fz55 : -11 ≤ z55 ∧ z55 ≤ 11) => ?_) ?_ ?_
  ·
    refine wk_i ?_
    refine wi_i2l (nx := 8) (r1 := 0) (r2 := 0) (r3 := 0) rfl (by omega) ?_
    refine wr_ls (k0 := 259) (a := 0) (f := 0) (x := z55) (bl := -9223372036854775808) (bh := 9223372036854775807) (nx := 9) (r1 := 0) (r2 := 0) (r3 := 0) rfl (by decide) rfl (by omega) (by omega) (by decide) g rfl (by omega) (fun h56 g56 w56 u56 => ?_)
    refine wi_goto (nx := 12) (r1 := 18) (r2 := 0) (r3 := 0) rfl ?_
    refine wi_iconst (n := 0) (nx := 19) (r1 := 0) (r2 := 0) (r3 := 0) rfl ?_
    refine wi_ireturn (nx := 20) (r1 := 0) (r2 := 0) (r3 := 0) rfl rfl ?_
    refine wk_i ?_
    refine wi_istore (i := 5) (e := 0) (lo2 := [(5, vi 0), (0, .ref 1000000), (1, .ref 0), (2, .ref 236), (3, .ref 259), (4, vi i)]) (nx := 870) (r1 := 0) (r2 := 0) (r3 := 0) rfl rfl ?_
    refine wi_aload_n (i := 2) (x := 236) (nx := 871) (r1 := 0) (r2 := 0) (r3 := 0) rfl rfl ?_
    refine wi_aload_n (i := 0) (x := 1000000) (nx := 872) (r1 := 0) (r2 := 0) (r3 := 0) rfl rfl ?_
    refine wi_iload (i := 4) (e := i) (nx := 874) (r1 := 0) (r2 := 0) (r3 := 0) rfl rfl ?_
    refine wi_iconst (n := 1) (nx := 875) (r1 := 0) (r2 := 0) (r3 := 0) rfl ?_
    refine wr_add (nx := 876) (r1 := 0) (r2 := 0) (r3 := 0) rfl (fun e57 (fe57 : e57 = i + 1) => ?_)
    refine wr_sc (a := e57) (f := i52) (nx := 877) (r1 := 0) (r2 := 0) (r3 := 0) rfl (by omega) (by omega) hL ?_
    refine wr_V (k0 := 236) (rest := []) (as := [.ref 236, vi ((xs i52).toInt)]) (nx := 880) (r1 := 263) (r2 := 1) (r3 := 11) rfl rfl rfl (of_decide_eq_true rfl) rfl rfl (by decide) rfl rfl (of_decide_eq_true rfl) (of_decide_eq_true rfl) ?_
    refine ct_263_236 hcr  g56 ((xs i52).toInt) (by omega)  (fun h58 z59 g58 u58 (fz59 : -12 ≤ z59 ∧ z59 ≤ 11) => ?_)
    refine wk_i ?_
    refine wi_istore (i := 6) (e := z59) (lo2 := [(6, vi z59), (5, vi 0), (0, .ref 1000000), (1, .ref 0), (2, .ref 236), (3, .ref 259), (4, vi i)]) (nx := 882) (r1 := 0) (r2 := 0) (r3 := 0) rfl rfl ?_
    refine wi_goto (nx := 885) (r1 := 1529) (r2 := 0) (r3 := 0) rfl ?_
    refine wp.lo (lo := [(0, .ref 1000000), (1, .ref 0), (2, .ref 236), (3, .ref 259), (4, vi i)]) ⟨rfl, rfl, rfl, rfl, rfl, trivial⟩ rfl ?_
    have e60 : h58 238 98 = h 238 98 := ((u58 238 98 rfl).trans (u56 238 98 rfl))
    have e61 : h58 238 99 = h 238 99 := ((u58 238 99 rfl).trans (u56 238 99 rfl))
    have e62 : h58 238 100 = h 238 100 := ((u58 238 100 rfl).trans (u56 238 100 rfl))
    have e63 : h58 238 101 = h 238 101 := ((u58 238 101 rfl).trans (u56 238 101 rfl))
    have e64 : h58 238 102 = h 238 102 := ((u58 238 102 rfl).trans (u56 238 102 rfl))
    have e65 : h58 238 106 = h 238 106 := ((u58 238 106 rfl).trans (u56 238 106 rfl))
    have e66 : h58 238 73 = h 238 73 := ((u58 238 73 rfl).trans (u56 238 73 rfl))
    have e67 : h58 238 2 = h 238 2 := ((u58 238 2 rfl).trans (u56 238 2 rfl))
    have e68 : h58 238 119 = h 238 119 := ((u58 238 119 rfl).trans (u56 238 119 rfl))
    have e69 : h58 238 67 = h 238 67 := ((u58 238 67 rfl).trans (u56 238 67 rfl))
    have e70 : h58 238 69 = h 238 69 := ((u58 238 69 rfl).trans (u56 238 69 rfl))
    have e71 : h58 238 5 = h 238 5 := ((u58 238 5 rfl).trans (u56 238 5 rfl))
    have e72 : h58 241 98 = h 241 98 := ((u58 241 98 rfl).trans (u56 241 98 rfl))
    have e73 : h58 241 99 = h 241 99 := ((u58 241 99 rfl).trans (u56 241 99 rfl))
    have e74 : h58 241 100 = h 241 100 := ((u58 241 100 rfl).trans (u56 241 100 rfl))
    have e75 : h58 241 101 = h 241 101 := ((u58 241 101 rfl).trans (u56 241 101 rfl))
    have e76 : h58 241 102 = h 241 102 := ((u58 241 102 rfl).trans (u56 241 102 rfl))
    have e77 : h58 241 106 = h 241 106 := ((u58 241 106 rfl).trans (u56 241 106 rfl))
    have e78 : h58 241 73 = h 241 73 := ((u58 241 73 rfl).trans (u56 241 73 rfl))
    have e79 : h58 241 2 = h 241 2 := ((u58 241 2 rfl).trans (u56 241 2 rfl))
    have e80 : h58 241 119 = h 241 119 := ((u58 241 119 rfl).trans (u56 241 119 rfl))
    have e81 : h58 241 67 = h 241 67 := ((u58 241 67 rfl).trans (u56 241 67 rfl))
    have e82 : h58 241 69 = h 241 69 := ((u58 241 69 rfl).trans (u56 241 69 rfl))
    have e83 : h58 241 5 = h 241 5 := ((u58 241 5 rfl).trans (u56 241 5 rfl))
    have e84 : h58 1 1 = h 1 1 := ((u58 1 1 rfl).trans (u56 1 1 rfl))
    have e85 : h58 236 2 = h 236 2 := ((u58 236 2 rfl).trans (u56 236 2 rfl))
    have e86 : h58 1 2 = h 1 2 := ((u58 1 2 rfl).trans (u56 1 2 rfl))
    have e87 : h58 236 10 = h 236 10 := ((u58 236 10 rfl).trans (u56 236 10 rfl))
    have e88 : h58 1 3 = h 1 3 := ((u58 1 3 rfl).trans (u56 1 3 rfl))
    have e89 : h58 236 11 = h 236 11 := ((u58 236 11 rfl).trans (u56 236 11 rfl))
    have gp90 := GPH.fr u56 rfl gp0
    have gp91 := GPH.fr u58 rfl gp90
    have b92 := gi_b (lo := 0) (hi := 5) g 241 0 rfl
    have b93 := gi_b (lo := 0) (hi := 4) g 241 1 rfl
    have gs94 := GPS.fr u56 rfl gs0
    have gs95 := GPS.fr u58 rfl gs94
    have e96 : h58 0 12 = h 0 12 := ((u58 0 12 rfl).trans (u56 0 12 rfl))
    have e97 : h58 236 21 = h 236 21 := ((u58 236 21 rfl).trans (u56 236 21 rfl))
    exact k h58 b c ⟨g58, (show h58 1 1 = h58 236 2 by omega), (RS.i0 (f := h58 238) (by refine ⟨?_, ?_, ?_, ?_, ?_⟩ <;> omega)), (RS.i0 (f := h58 241) (by refine ⟨?_, ?_, ?_, ?_, ?_⟩ <;> omega)), gp91, (BRh.keep br0 (fun i => ((u58 2 i (fn_a (by decide) fn_0)).trans (u56 2 i (fn_a (by omega) fn_0)))) (fun i => ((u58 237 i (fn_a (by decide) fn_0)).trans (u56 237 i (fn_a (by omega) fn_0)))) (by omega)), (show h58 1 2 = h58 236 10 by omega), (show h58 1 3 = h58 236 11 by omega), (SVx.keep sv0 (by omega) (fun i _ => ((u58 3 i (fn_a (by decide) fn_0)).trans (u56 3 i (fn_a (by omega) fn_0)))) (fun i _ => ((u58 5 i (fn_a (by decide) fn_0)).trans (u56 5 i (fn_a (by omega) fn_0)))) (fun i _ => ((u58 6 i (fn_a (by decide) fn_0)).trans (u56 6 i (fn_a (by omega) fn_0)))) (fun i _ => ((u58 8 i (fn_a (by decide) fn_0)).trans (u56 8 i (fn_a (by omega) fn_0)))) (fun i _ => ((u58 238 i (fn_a (by decide) fn_0)).trans (u56 238 i (fn_a (by omega) fn_0))))), (show h58 0 12 = h58 236 21 by omega), (fun e => (SVx.keep (ss0 (by omega)) (by omega) (fun i _ => ((u58 210 i (fn_a (by decide) fn_0)).trans (u56 210 i (fn_a (by omega) fn_0)))) (fun i _ => ((u58 212 i (fn_a (by decide) fn_0)).trans (u56 212 i (fn_a (by omega) fn_0)))) (fun i _ => ((u58 213 i (fn_a (by decide) fn_0)).trans (u56 213 i (fn_a (by omega) fn_0)))) (fun i _ => ((u58 215 i (fn_a (by decide) fn_0)).trans (u56 215 i (fn_a (by omega) fn_0)))) (fun i _ => ((u58 241 i (fn_a (by decide) fn_0)).trans (u56 241 i (fn_a (by omega) fn_0)))))), gs95⟩ (by omega) (by omega)
  ·
    refine wk_h 15 (by decide) rfl ?_
    refine wr_astx (i := 3) (lo2 := [(3, .retAddr 0), (0, .ref 0), (1, vi ((xs i52).toInt)), (2, .ref 259)]) (nx := 16) (r1 := 0) (r2 := 0) (r3 := 0) rfl rfl ?_
    refine wi_iconst (n := 2) (nx := 17) (r1 := 0) (r2 := 0) (r3 := 0) rfl ?_
    refine wi_ireturn (nx := 18) (r1 := 0) (r2 := 0) (r3 := 0) rfl rfl ?_
    refine wk_i ?_
    refine wi_istore (i := 5) (e := 2) (lo2 := [(5, vi 2), (0, .ref 1000000), (1, .ref 0), (2, .ref 236), (3, .ref 259), (4, vi i)]) (nx := 870) (r1 := 0) (r2 := 0) (r3 := 0) rfl rfl ?_
    refine wi_aload_n (i := 2) (x := 236) (nx := 871) (r1 := 0) (r2 := 0) (r3 := 0) rfl rfl ?_
    refine wi_aload_n (i := 0) (x := 1000000) (nx := 872) (r1 := 0) (r2 := 0) (r3 := 0) rfl rfl ?_
    refine wi_iload (i := 4) (e := i) (nx := 874) (r1 := 0) (r2 := 0) (r3 := 0) rfl rfl ?_
    refine wi_iconst (n := 1) (nx := 875) (r1 := 0) (r2 := 0) (r3 := 0) rfl ?_
    refine wr_add (nx := 876) (r1 := 0) (r2 := 0) (r3 := 0) rfl (fun e56 (fe56 : e56 = i + 1) => ?_)
    refine wr_sc (a := e56) (f := i52) (nx := 877) (r1 := 0) (r2 := 0) (r3 := 0) rfl (by omega) (by omega) hL ?_
    refine wr_V (k0 := 236) (rest := []) (as := [.ref 236, vi ((xs i52).toInt)]) (nx := 880) (r1 := 263) (r2 := 1) (r3 := 11) rfl rfl rfl (of_decide_eq_true rfl) rfl rfl (by decide) rfl rfl (of_decide_eq_true rfl) (of_decide_eq_true rfl) ?_
    refine ct_263_236 hcr  g ((xs i52).toInt) (by omega)  (fun h57 z58 g57 u57 (fz58 : -12 ≤ z58 ∧ z58 ≤ 11) => ?_)
    refine wk_i ?_
    refine wi_istore (i := 6) (e := z58) (lo2 := [(6, vi z58), (5, vi 2), (0, .ref 1000000), (1, .ref 0), (2, .ref 236), (3, .ref 259), (4, vi i)]) (nx := 882) (r1 := 0) (r2 := 0) (r3 := 0) rfl rfl ?_
    refine wi_goto (nx := 885) (r1 := 1529) (r2 := 0) (r3 := 0) rfl ?_
    refine wp.lo (lo := [(0, .ref 1000000), (1, .ref 0), (2, .ref 236), (3, .ref 259), (4, vi i)]) ⟨rfl, rfl, rfl, rfl, rfl, trivial⟩ rfl ?_
    have e59 : h57 238 98 = h 238 98 := (u57 238 98 rfl)
    have e60 : h57 238 99 = h 238 99 := (u57 238 99 rfl)
    have e61 : h57 238 100 = h 238 100 := (u57 238 100 rfl)
    have e62 : h57 238 101 = h 238 101 := (u57 238 101 rfl)
    have e63 : h57 238 102 = h 238 102 := (u57 238 102 rfl)
    have e64 : h57 238 106 = h 238 106 := (u57 238 106 rfl)
    have e65 : h57 238 73 = h 238 73 := (u57 238 73 rfl)
    have e66 : h57 238 2 = h 238 2 := (u57 238 2 rfl)
    have e67 : h57 238 119 = h 238 119 := (u57 238 119 rfl)
    have e68 : h57 238 67 = h 238 67 := (u57 238 67 rfl)
    have e69 : h57 238 69 = h 238 69 := (u57 238 69 rfl)
    have e70 : h57 238 5 = h 238 5 := (u57 238 5 rfl)
    have e71 : h57 241 98 = h 241 98 := (u57 241 98 rfl)
    have e72 : h57 241 99 = h 241 99 := (u57 241 99 rfl)
    have e73 : h57 241 100 = h 241 100 := (u57 241 100 rfl)
    have e74 : h57 241 101 = h 241 101 := (u57 241 101 rfl)
    have e75 : h57 241 102 = h 241 102 := (u57 241 102 rfl)
    have e76 : h57 241 106 = h 241 106 := (u57 241 106 rfl)
    have e77 : h57 241 73 = h 241 73 := (u57 241 73 rfl)
    have e78 : h57 241 2 = h 241 2 := (u57 241 2 rfl)
    have e79 : h57 241 119 = h 241 119 := (u57 241 119 rfl)
    have e80 : h57 241 67 = h 241 67 := (u57 241 67 rfl)
    have e81 : h57 241 69 = h 241 69 := (u57 241 69 rfl)
    have e82 : h57 241 5 = h 241 5 := (u57 241 5 rfl)
    have e83 : h57 1 1 = h 1 1 := (u57 1 1 rfl)
    have e84 : h57 236 2 = h 236 2 := (u57 236 2 rfl)
    have e85 : h57 1 2 = h 1 2 := (u57 1 2 rfl)
    have e86 : h57 236 10 = h 236 10 := (u57 236 10 rfl)
    have e87 : h57 1 3 = h 1 3 := (u57 1 3 rfl)
    have e88 : h57 236 11 = h 236 11 := (u57 236 11 rfl)
    have gp89 := GPH.fr u57 rfl gp0
    have b90 := gi_b (lo := 0) (hi := 5) g 241 0 rfl
    have b91 := gi_b (lo := 0) (hi := 4) g 241 1 rfl
    have gs92 := GPS.fr u57 rfl gs0
    have e93 : h57 0 12 = h 0 12 := (u57 0 12 rfl)
    have e94 : h57 236 21 = h 236 21 := (u57 236 21 rfl)
    exact k h57 (b - 1) (c - 6) ⟨g57, (show h57 1 1 = h57 236 2 by omega), (RS.i0 (f := h57 238) (by refine ⟨?_, ?_, ?_, ?_, ?_⟩ <;> omega)), (RS.i0 (f := h57 241) (by refine ⟨?_, ?_, ?_, ?_, ?_⟩ <;> omega)), gp89, (BRh.keep br0 (fun i => (u57 2 i (fn_a (by decide) fn_0))) (fun i => (u57 237 i (fn_a (by decide) fn_0))) (by omega)), (show h57 1 2 = h57 236 10 by omega), (show h57 1 3 = h57 236 11 by omega), (SVx.keep sv0 (by omega) (fun i _ => (u57 3 i (fn_a (by decide) fn_0))) (fun i _ => (u57 5 i (fn_a (by decide) fn_0))) (fun i _ => (u57 6 i (fn_a (by decide) fn_0))) (fun i _ => (u57 8 i (fn_a (by decide) fn_0))) (fun i _ => (u57 238 i (fn_a (by decide) fn_0)))), (show h57 0 12 = h57 236 21 by omega), (fun e => (SVx.keep (ss0 (by omega)) (by omega) (fun i _ => (u57 210 i (fn_a (by decide) fn_0))) (fun i _ => (u57 212 i (fn_a (by decide) fn_0))) (fun i _ => (u57 213 i (fn_a (by decide) fn_0))) (fun i _ => (u57 215 i (fn_a (by decide) fn_0))) (fun i _ => (u57 241 i (fn_a (by decide) fn_0))))), gs92⟩ (by omega) (by omega)
  ·
    refine wk_h 12 (by decide) rfl ?_
    refine wr_astx (i := 3) (lo2 := [(3, .retAddr 0), (0, .ref 0), (1, vi ((xs i52).toInt)), (2, .ref 259)]) (nx := 13) (r1 := 0) (r2 := 0) (r3 := 0) rfl rfl ?_
    refine wi_iconst (n := 1) (nx := 14) (r1 := 0) (r2 := 0) (r3 := 0) rfl ?_
    refine wi_ireturn (nx := 15) (r1 := 0) (r2 := 0) (r3 := 0) rfl rfl ?_
    refine wk_i ?_
    refine wi_istore (i := 5) (e := 1) (lo2 := [(5, vi 1), (0, .ref 1000000), (1, .ref 0), (2, .ref 236), (3, .ref 259), (4, vi i)]) (nx := 870) (r1 := 0) (r2 := 0) (r3 := 0) rfl rfl ?_
    refine wi_aload_n (i := 2) (x := 236) (nx := 871) (r1 := 0) (r2 := 0) (r3 := 0) rfl rfl ?_
    refine wi_aload_n (i := 0) (x := 1000000) (nx := 872) (r1 := 0) (r2 := 0) (r3 := 0) rfl rfl ?_
    refine wi_iload (i := 4) (e := i) (nx := 874) (r1 := 0) (r2 := 0) (r3 := 0) rfl rfl ?_
    refine wi_iconst (n := 1) (nx := 875) (r1 := 0) (r2 := 0) (r3 := 0) rfl ?_
    refine wr_add (nx := 876) (r1 := 0) (r2 := 0) (r3 := 0) rfl (fun e56 (fe56 : e56 = i + 1) => ?_)
    refine wr_sc (a := e56) (f := i52) (nx := 877) (r1 := 0) (r2 := 0) (r3 := 0) rfl (by omega) (by omega) hL ?_
    refine wr_V (k0 := 236) (rest := []) (as := [.ref 236, vi ((xs i52).toInt)]) (nx := 880) (r1 := 263) (r2 := 1) (r3 := 11) rfl rfl rfl (of_decide_eq_true rfl) rfl rfl (by decide) rfl rfl (of_decide_eq_true rfl) (of_decide_eq_true rfl) ?_
    refine ct_263_236 hcr  g ((xs i52).toInt) (by omega)  (fun h57 z58 g57 u57 (fz58 : -12 ≤ z58 ∧ z58 ≤ 11) => ?_)
    refine wk_i ?_
    refine wi_istore (i := 6) (e := z58) (lo2 := [(6, vi z58), (5, vi 1), (0, .ref 1000000), (1, .ref 0), (2, .ref 236), (3, .ref 259), (4, vi i)]) (nx := 882) (r1 := 0) (r2 := 0) (r3 := 0) rfl rfl ?_
    refine wi_goto (nx := 885) (r1 := 1529) (r2 := 0) (r3 := 0) rfl ?_
    refine wp.lo (lo := [(0, .ref 1000000), (1, .ref 0), (2, .ref 236), (3, .ref 259), (4, vi i)]) ⟨rfl, rfl, rfl, rfl, rfl, trivial⟩ rfl ?_
    have e59 : h57 238 98 = h 238 98 := (u57 238 98 rfl)
    have e60 : h57 238 99 = h 238 99 := (u57 238 99 rfl)
    have e61 : h57 238 100 = h 238 100 := (u57 238 100 rfl)
    have e62 : h57 238 101 = h 238 101 := (u57 238 101 rfl)
    have e63 : h57 238 102 = h 238 102 := (u57 238 102 rfl)
    have e64 : h57 238 106 = h 238 106 := (u57 238 106 rfl)
    have e65 : h57 238 73 = h 238 73 := (u57 238 73 rfl)
    have e66 : h57 238 2 = h 238 2 := (u57 238 2 rfl)
    have e67 : h57 238 119 = h 238 119 := (u57 238 119 rfl)
    have e68 : h57 238 67 = h 238 67 := (u57 238 67 rfl)
    have e69 : h57 238 69 = h 238 69 := (u57 238 69 rfl)
    have e70 : h57 238 5 = h 238 5 := (u57 238 5 rfl)
    have e71 : h57 241 98 = h 241 98 := (u57 241 98 rfl)
    have e72 : h57 241 99 = h 241 99 := (u57 241 99 rfl)
    have e73 : h57 241 100 = h 241 100 := (u57 241 100 rfl)
    have e74 : h57 241 101 = h 241 101 := (u57 241 101 rfl)
    have e75 : h57 241 102 = h 241 102 := (u57 241 102 rfl)
    have e76 : h57 241 106 = h 241 106 := (u57 241 106 rfl)
    have e77 : h57 241 73 = h 241 73 := (u57 241 73 rfl)
    have e78 : h57 241 2 = h 241 2 := (u57 241 2 rfl)
    have e79 : h57 241 119 = h 241 119 := (u57 241 119 rfl)
    have e80 : h57 241 67 = h 241 67 := (u57 241 67 rfl)
    have e81 : h57 241 69 = h 241 69 := (u57 241 69 rfl)
    have e82 : h57 241 5 = h 241 5 := (u57 241 5 rfl)
    have e83 : h57 1 1 = h 1 1 := (u57 1 1 rfl)
    have e84 : h57 236 2 = h 236 2 := (u57 236 2 rfl)
    have e85 : h57 1 2 = h 1 2 := (u57 1 2 rfl)
    have e86 : h57 236 10 = h 236 10 := (u57 236 10 rfl)
    have e87 : h57 1 3 = h 1 3 := (u57 1 3 rfl)
    have e88 : h57 236 11 = h 236 11 := (u57 236 11 rfl)
    have gp89 := GPH.fr u57 rfl gp0
    have b90 := gi_b (lo := 0) (hi := 5) g 241 0 rfl
    have b91 := gi_b (lo := 0) (hi := 4) g 241 1 rfl
    have gs92 := GPS.fr u57 rfl gs0
    have e93 : h57 0 12 = h 0 12 := (u57 0 12 rfl)
    have e94 : h57 236 21 = h 236 21 := (u57 236 21 rfl)
    exact k h57 (b - 1) (c - 6) ⟨g57, (show h57 1 1 = h57 236 2 by omega), (RS.i0 (f := h57 238) (by refine ⟨?_, ?_, ?_, ?_, ?_⟩ <;> omega)), (RS.i0 (f := h57 241) (by refine ⟨?_, ?_, ?_, ?_, ?_⟩ <;> omega)), gp89, (BRh.keep br0 (fun i => (u57 2 i (fn_a (by decide) fn_0))) (fun i => (u57 237 i (fn_a (by decide) fn_0))) (by omega)), (show h57 1 2 = h57 236 10 by omega), (show h57 1 3 = h57 236 11 by omega), (SVx.keep sv0 (by omega) (fun i _ => (u57 3 i (fn_a (by decide) fn_0))) (fun i _ => (u57 5 i (fn_a (by decide) fn_0))) (fun i _ => (u57 6 i (fn_a (by decide) fn_0))) (fun i _ => (u57 8 i (fn_a (by decide) fn_0))) (fun i _ => (u57 238 i (fn_a (by decide) fn_0)))), (show h57 0 12 = h57 236 21 by omega), (fun e => (SVx.keep (ss0 (by omega)) (by omega) (fun i _ => (u57 210 i (fn_a (by decide) fn_0))) (fun i _ => (u57 212 i (fn_a (by decide) fn_0))) (fun i _ => (u57 213 i (fn_a (by decide) fn_0))) (fun i _ => (u57 215 i (fn_a (by decide) fn_0))) (fun i _ => (u57 241 i (fn_a (by decide) fn_0))))), gs92⟩ (by omega) (by omega)
-- the law, case at 885
set_option maxRecDepth 100000 in
set_option maxHeartbeats 100000000 in
theorem lc_885 {L : Nat} {xs : Nat → Int32} {d b c : Nat} {h : hp} {cr : Nat → Nat → Option Nat} {Q : hp_Q} (hcr : CR cr) (hL : L ≤ 3072) (hr : 1 ≤ b ∧ 6 ≤ c) (I : LI h) (i : Int) (hi : 0 ≤ i ∧ i + 6 ≤ L) (k : ∀ (h2 : hp) (b2 c2 : Nat), LI h2 → b ≤ b2 + 1 → c ≤ c2 + 6 → wp (md_xa (L, xs)) (d + 107) 0 (1529, [(0, .ref 1000000), (1, .ref 0), (2, .ref 236), (3, .ref 259), (4, vi i)], [], hp_w h2 cr, b2, c2) Q) : wp (md_xa (L, xs)) (d + 107) 0 (885, [(0, .ref 1000000), (1, .ref 0), (2, .ref 236), (3, .ref 259), (4, vi i)], [], hp_w h cr, b, c) Q := by
  obtain ⟨g, i11, r238, r241, gp0, br0, er2, er3, sv0, sf0, ss0, gs0⟩ := I
  have r238e := r238.e0
  have r241e := r241.e0
  obtain ⟨⟨se0, se1, se2, se3, se4, se5, se6, se7, se8, se9⟩, -⟩ := id sv0
  have b1 := gi_b (lo := 0) (hi := 5) g 3 0 rfl
  have b2 := gi_b (lo := 0) (hi := 5) g 238 0 rfl
  have b3 := gi_b (lo := 0) (hi := 4) g 3 1 rfl
  have b4 := gi_b (lo := 0) (hi := 4) g 238 1 rfl
  have b5 := gi_b (lo := 0) (hi := 12) g 3 2 rfl
  have b6 := gi_b (lo := 0) (hi := 12) g 238 2 rfl
  have b7 := gi_b (lo := -2147483648) (hi := 2147483647) g 3 3 rfl
  have b8 := gi_b (lo := 0) (hi := 999) g 238 3 rfl
  have b9 := gi_b (lo := -2147483648) (hi := 2147483647) g 3 4 rfl
  have b10 := gi_b (lo := 0) (hi := 999) g 238 4 rfl
  have b11 := gi_b (lo := -2147483648) (hi := 2147483647) g 3 5 rfl
  have b12 := gi_b (lo := 0) (hi := 9) g 238 5 rfl
  have b13 := gi_b (lo := -2147483648) (hi := 2147483647) g 3 6 rfl
  have b14 := gi_b (lo := 0) (hi := 999) g 238 6 rfl
  have b15 := gi_b (lo := -2147483648) (hi := 2147483647) g 3 7 rfl
  have b16 := gi_b (lo := 0) (hi := 3) g 238 7 rfl
  have b17 := gi_b (lo := -2147483648) (hi := 2147483647) g 3 8 rfl
  have b18 := gi_b (lo := 0) (hi := 999) g 238 8 rfl
  have b19 := gi_b (lo := -2147483648) (hi := 2147483647) g 3 9 rfl
  have b20 := gi_b (lo := 0) (hi := 999) g 238 9 rfl
  have b21 := gi_b (lo := 0) (hi := 1) g 0 12 rfl
  have b22 := gi_b (lo := 0) (hi := 1) g 236 21 rfl
  have bl_ := gi_b (lo := 0) (hi := 800) g 1 1 rfl
  have tb0 : BufC (h 2) (h 1 1) h := ⟨fun _ => rfl, rfl, by omega, by omega⟩
  have b23 := gi_b (lo := 0) (hi := 6) g 238 98 rfl
  have b24 := gi_b (lo := 0) (hi := 6) g 238 99 rfl
  have b25 := gi_b (lo := 0) (hi := 6) g 238 100 rfl
  have b26 := gi_b (lo := 0) (hi := 6) g 238 101 rfl
  have b27 := gi_b (lo := 0) (hi := 3) g 238 102 rfl
  have b28 := gi_b (lo := 0) (hi := 12) g 238 106 rfl
  have b29 := gi_b (lo := 0) (hi := 12) g 238 73 rfl
  have b30 := gi_b (lo := 0) (hi := 9999) g 238 119 rfl
  have b31 := gi_b (lo := 0) (hi := 9999) g 238 67 rfl
  have b32 := gi_b (lo := 0) (hi := 9) g 238 69 rfl
  have b33 := gi_b (lo := 0) (hi := 6) g 241 98 rfl
  have b34 := gi_b (lo := 0) (hi := 6) g 241 99 rfl
  have b35 := gi_b (lo := 0) (hi := 6) g 241 100 rfl
  have b36 := gi_b (lo := 0) (hi := 6) g 241 101 rfl
  have b37 := gi_b (lo := 0) (hi := 3) g 241 102 rfl
  have b38 := gi_b (lo := 0) (hi := 12) g 241 106 rfl
  have b39 := gi_b (lo := 0) (hi := 12) g 241 73 rfl
  have b40 := gi_b (lo := 0) (hi := 12) g 241 2 rfl
  have b41 := gi_b (lo := 0) (hi := 9999) g 241 119 rfl
  have b42 := gi_b (lo := 0) (hi := 9999) g 241 67 rfl
  have b43 := gi_b (lo := 0) (hi := 9) g 241 69 rfl
  have b44 := gi_b (lo := 0) (hi := 9) g 241 5 rfl
  have b45 := gi_b (lo := 0) (hi := 800) g 1 1 rfl
  have b46 := gi_b (lo := 0) (hi := 800) g 236 2 rfl
  have b47 := gi_b (lo := -2147483648) (hi := 2147483647) g 1 2 rfl
  have b48 := gi_b (lo := -2147483648) (hi := 2147483647) g 236 10 rfl
  have b49 := gi_b (lo := -2147483648) (hi := 2147483647) g 1 3 rfl
  have b50 := gi_b (lo := -2147483648) (hi := 2147483647) g 236 11 rfl
  refine wi_aload_n (i := 1) (x := 0) (nx := 886) (r1 := 0) (r2 := 0) (r3 := 0) rfl rfl ?_
  refine wr_V (k0 := 0) (rest := []) (as := [.ref 0]) (nx := 889) (r1 := 36) (r2 := 0) (r3 := 0) rfl rfl rfl (of_decide_eq_true rfl) rfl rfl (by decide) rfl rfl (of_decide_eq_true rfl) (of_decide_eq_true rfl) ?_
  refine ct_36_0 hcr  g    (fun z52  (fz52 : -2147483648 ≤ z52 ∧ z52 ≤ 2147483647) => ?_)
  refine wk_i ?_
  refine wi_pop (nx := 890) (r1 := 0) (r2 := 0) (r3 := 0) rfl rfl ?_
  refine wi_aload_n (i := 2) (x := 236) (nx := 891) (r1 := 0) (r2 := 0) (r3 := 0) rfl rfl ?_
  refine wr_V (k0 := 236) (rest := []) (as := [.ref 236]) (nx := 894) (r1 := 264) (r2 := 0) (r3 := 11) rfl rfl rfl (of_decide_eq_true rfl) rfl rfl (by decide) rfl rfl (of_decide_eq_true rfl) (of_decide_eq_true rfl) ?_
  refine ct_264_236 hcr  g    (fun h53 z54 g53 u53 (fz54 : -2147483648 ≤ z54 ∧ z54 ≤ 2147483647) => ?_)
  refine wk_i ?_
  refine wi_pop (nx := 895) (r1 := 0) (r2 := 0) (r3 := 0) rfl rfl ?_
  refine wi_goto (nx := 898) (r1 := 1529) (r2 := 0) (r3 := 0) rfl ?_
  have e55 : h53 238 98 = h 238 98 := (u53 238 98 rfl)
  have e56 : h53 238 99 = h 238 99 := (u53 238 99 rfl)
  have e57 : h53 238 100 = h 238 100 := (u53 238 100 rfl)
  have e58 : h53 238 101 = h 238 101 := (u53 238 101 rfl)
  have e59 : h53 238 102 = h 238 102 := (u53 238 102 rfl)
  have e60 : h53 238 106 = h 238 106 := (u53 238 106 rfl)
  have e61 : h53 238 73 = h 238 73 := (u53 238 73 rfl)
  have e62 : h53 238 2 = h 238 2 := (u53 238 2 rfl)
  have e63 : h53 238 119 = h 238 119 := (u53 238 119 rfl)
  have e64 : h53 238 67 = h 238 67 := (u53 238 67 rfl)
  have e65 : h53 238 69 = h 238 69 := (u53 238 69 rfl)
  have e66 : h53 238 5 = h 238 5 := (u53 238 5 rfl)
  have e67 : h53 241 98 = h 241 98 := (u53 241 98 rfl)
  have e68 : h53 241 99 = h 241 99 := (u53 241 99 rfl)
  have e69 : h53 241 100 = h 241 100 := (u53 241 100 rfl)
  have e70 : h53 241 101 = h 241 101 := (u53 241 101 rfl)
  have e71 : h53 241 102 = h 241 102 := (u53 241 102 rfl)
  have e72 : h53 241 106 = h 241 106 := (u53 241 106 rfl)
  have e73 : h53 241 73 = h 241 73 := (u53 241 73 rfl)
  have e74 : h53 241 2 = h 241 2 := (u53 241 2 rfl)
  have e75 : h53 241 119 = h 241 119 := (u53 241 119 rfl)
  have e76 : h53 241 67 = h 241 67 := (u53 241 67 rfl)
  have e77 : h53 241 69 = h 241 69 := (u53 241 69 rfl)
  have e78 : h53 241 5 = h 241 5 := (u53 241 5 rfl)
  have e79 : h53 1 1 = h 1 1 := (u53 1 1 rfl)
  have e80 : h53 236 2 = h 236 2 := (u53 236 2 rfl)
  have e81 : h53 1 2 = h 1 2 := (u53 1 2 rfl)
  have e82 : h53 236 10 = h 236 10 := (u53 236 10 rfl)
  have e83 : h53 1 3 = h 1 3 := (u53 1 3 rfl)
  have e84 : h53 236 11 = h 236 11 := (u53 236 11 rfl)
  have gp85 := GPH.fr u53 rfl gp0
  have b86 := gi_b (lo := 0) (hi := 5) g 241 0 rfl
  have b87 := gi_b (lo := 0) (hi := 4) g 241 1 rfl
  have gs88 := GPS.fr u53 rfl gs0
  have e89 : h53 0 12 = h 0 12 := (u53 0 12 rfl)
  have e90 : h53 236 21 = h 236 21 := (u53 236 21 rfl)
  exact k h53 b c ⟨g53, (show h53 1 1 = h53 236 2 by omega), (RS.i0 (f := h53 238) (by refine ⟨?_, ?_, ?_, ?_, ?_⟩ <;> omega)), (RS.i0 (f := h53 241) (by refine ⟨?_, ?_, ?_, ?_, ?_⟩ <;> omega)), gp85, (BRh.keep br0 (fun i => (u53 2 i (fn_a (by decide) fn_0))) (fun i => (u53 237 i (fn_a (by decide) fn_0))) (by omega)), (show h53 1 2 = h53 236 10 by omega), (show h53 1 3 = h53 236 11 by omega), (SVx.keep sv0 (by omega) (fun i _ => (u53 3 i (fn_a (by decide) fn_0))) (fun i _ => (u53 5 i (fn_a (by decide) fn_0))) (fun i _ => (u53 6 i (fn_a (by decide) fn_0))) (fun i _ => (u53 8 i (fn_a (by decide) fn_0))) (fun i _ => (u53 238 i (fn_a (by decide) fn_0)))), (show h53 0 12 = h53 236 21 by omega), (fun e => (SVx.keep (ss0 (by omega)) (by omega) (fun i _ => (u53 210 i (fn_a (by decide) fn_0))) (fun i _ => (u53 212 i (fn_a (by decide) fn_0))) (fun i _ => (u53 213 i (fn_a (by decide) fn_0))) (fun i _ => (u53 215 i (fn_a (by decide) fn_0))) (fun i _ => (u53 241 i (fn_a (by decide) fn_0))))), gs88⟩ (by omega) (by omega)
-- the law, case at 898
set_option maxRecDepth 100000 in
set_option maxHeartbeats 100000000 in
theorem lc_898 {L : Nat} {xs : Nat → Int32} {d b c : Nat} {h : hp} {cr : Nat → Nat → Option Nat} {Q : hp_Q} (hcr : CR cr) (hL : L ≤ 3072) (hr : 1 ≤ b ∧ 6 ≤ c) (I : LI h) (i : Int) (hi : 0 ≤ i ∧ i + 6 ≤ L) (k : ∀ (h2 : hp) (b2 c2 : Nat), LI h2 → b ≤ b2 + 1 → c ≤ c2 + 6 → wp (md_xa (L, xs)) (d + 107) 0 (1529, [(0, .ref 1000000), (1, .ref 0), (2, .ref 236), (3, .ref 259), (4, vi i)], [], hp_w h2 cr, b2, c2) Q) : wp (md_xa (L, xs)) (d + 107) 0 (898, [(0, .ref 1000000), (1, .ref 0), (2, .ref 236), (3, .ref 259), (4, vi i)], [], hp_w h cr, b, c) Q := by
  obtain ⟨g, i11, r238, r241, gp0, br0, er2, er3, sv0, sf0, ss0, gs0⟩ := I
  have r238e := r238.e0
  have r241e := r241.e0
  obtain ⟨⟨se0, se1, se2, se3, se4, se5, se6, se7, se8, se9⟩, -⟩ := id sv0
  have b1 := gi_b (lo := 0) (hi := 5) g 3 0 rfl
  have b2 := gi_b (lo := 0) (hi := 5) g 238 0 rfl
  have b3 := gi_b (lo := 0) (hi := 4) g 3 1 rfl
  have b4 := gi_b (lo := 0) (hi := 4) g 238 1 rfl
  have b5 := gi_b (lo := 0) (hi := 12) g 3 2 rfl
  have b6 := gi_b (lo := 0) (hi := 12) g 238 2 rfl
  have b7 := gi_b (lo := -2147483648) (hi := 2147483647) g 3 3 rfl
  have b8 := gi_b (lo := 0) (hi := 999) g 238 3 rfl
  have b9 := gi_b (lo := -2147483648) (hi := 2147483647) g 3 4 rfl
  have b10 := gi_b (lo := 0) (hi := 999) g 238 4 rfl
  have b11 := gi_b (lo := -2147483648) (hi := 2147483647) g 3 5 rfl
  have b12 := gi_b (lo := 0) (hi := 9) g 238 5 rfl
  have b13 := gi_b (lo := -2147483648) (hi := 2147483647) g 3 6 rfl
  have b14 := gi_b (lo := 0) (hi := 999) g 238 6 rfl
  have b15 := gi_b (lo := -2147483648) (hi := 2147483647) g 3 7 rfl
  have b16 := gi_b (lo := 0) (hi := 3) g 238 7 rfl
  have b17 := gi_b (lo := -2147483648) (hi := 2147483647) g 3 8 rfl
  have b18 := gi_b (lo := 0) (hi := 999) g 238 8 rfl
  have b19 := gi_b (lo := -2147483648) (hi := 2147483647) g 3 9 rfl
  have b20 := gi_b (lo := 0) (hi := 999) g 238 9 rfl
  have b21 := gi_b (lo := 0) (hi := 1) g 0 12 rfl
  have b22 := gi_b (lo := 0) (hi := 1) g 236 21 rfl
  have bl_ := gi_b (lo := 0) (hi := 800) g 1 1 rfl
  have tb0 : BufC (h 2) (h 1 1) h := ⟨fun _ => rfl, rfl, by omega, by omega⟩
  have b23 := gi_b (lo := 0) (hi := 6) g 238 98 rfl
  have b24 := gi_b (lo := 0) (hi := 6) g 238 99 rfl
  have b25 := gi_b (lo := 0) (hi := 6) g 238 100 rfl
  have b26 := gi_b (lo := 0) (hi := 6) g 238 101 rfl
  have b27 := gi_b (lo := 0) (hi := 3) g 238 102 rfl
  have b28 := gi_b (lo := 0) (hi := 12) g 238 106 rfl
  have b29 := gi_b (lo := 0) (hi := 12) g 238 73 rfl
  have b30 := gi_b (lo := 0) (hi := 9999) g 238 119 rfl
  have b31 := gi_b (lo := 0) (hi := 9999) g 238 67 rfl
  have b32 := gi_b (lo := 0) (hi := 9) g 238 69 rfl
  have b33 := gi_b (lo := 0) (hi := 6) g 241 98 rfl
  have b34 := gi_b (lo := 0) (hi := 6) g 241 99 rfl
  have b35 := gi_b (lo := 0) (hi := 6) g 241 100 rfl
  have b36 := gi_b (lo := 0) (hi := 6) g 241 101 rfl
  have b37 := gi_b (lo := 0) (hi := 3) g 241 102 rfl
  have b38 := gi_b (lo := 0) (hi := 12) g 241 106 rfl
  have b39 := gi_b (lo := 0) (hi := 12) g 241 73 rfl
  have b40 := gi_b (lo := 0) (hi := 12) g 241 2 rfl
  have b41 := gi_b (lo := 0) (hi := 9999) g 241 119 rfl
  have b42 := gi_b (lo := 0) (hi := 9999) g 241 67 rfl
  have b43 := gi_b (lo := 0) (hi := 9) g 241 69 rfl
  have b44 := gi_b (lo := 0) (hi := 9) g 241 5 rfl
  have b45 := gi_b (lo := 0) (hi := 800) g 1 1 rfl
  have b46 := gi_b (lo := 0) (hi := 800) g 236 2 rfl
  have b47 := gi_b (lo := -2147483648) (hi := 2147483647) g 1 2 rfl
  have b48 := gi_b (lo := -2147483648) (hi := 2147483647) g 236 10 rfl
  have b49 := gi_b (lo := -2147483648) (hi := 2147483647) g 1 3 rfl
  have b50 := gi_b (lo := -2147483648) (hi := 2147483647) g 236 11 rfl
  refine wi_aload_n (i := 1) (x := 0) (nx := 899) (r1 := 0) (r2 := 0) (r3 := 0) rfl rfl ?_
  refine wr_V (k0 := 0) (rest := []) (as := [.ref 0]) (nx := 902) (r1 := 37) (r2 := 0) (r3 := 0) rfl rfl rfl (of_decide_eq_true rfl) rfl rfl (by decide) rfl rfl (of_decide_eq_true rfl) (of_decide_eq_true rfl) ?_
  refine ct_37_0 hcr  g    (fun z52  (fz52 : 0 ≤ z52 ∧ z52 ≤ 2147483647) => ?_)
  refine wk_i ?_
  refine wi_pop (nx := 903) (r1 := 0) (r2 := 0) (r3 := 0) rfl rfl ?_
  refine wi_aload_n (i := 2) (x := 236) (nx := 904) (r1 := 0) (r2 := 0) (r3 := 0) rfl rfl ?_
  refine wr_V (k0 := 236) (rest := []) (as := [.ref 236]) (nx := 907) (r1 := 265) (r2 := 0) (r3 := 11) rfl rfl rfl (of_decide_eq_true rfl) rfl rfl (by decide) rfl rfl (of_decide_eq_true rfl) (of_decide_eq_true rfl) ?_
  refine ct_265_236 hcr  g    (fun h53 z54 g53 u53 (fz54 : 0 ≤ z54 ∧ z54 ≤ 2147483647) => ?_)
  refine wk_i ?_
  refine wi_pop (nx := 908) (r1 := 0) (r2 := 0) (r3 := 0) rfl rfl ?_
  refine wi_goto (nx := 911) (r1 := 1529) (r2 := 0) (r3 := 0) rfl ?_
  have e55 : h53 238 98 = h 238 98 := (u53 238 98 rfl)
  have e56 : h53 238 99 = h 238 99 := (u53 238 99 rfl)
  have e57 : h53 238 100 = h 238 100 := (u53 238 100 rfl)
  have e58 : h53 238 101 = h 238 101 := (u53 238 101 rfl)
  have e59 : h53 238 102 = h 238 102 := (u53 238 102 rfl)
  have e60 : h53 238 106 = h 238 106 := (u53 238 106 rfl)
  have e61 : h53 238 73 = h 238 73 := (u53 238 73 rfl)
  have e62 : h53 238 2 = h 238 2 := (u53 238 2 rfl)
  have e63 : h53 238 119 = h 238 119 := (u53 238 119 rfl)
  have e64 : h53 238 67 = h 238 67 := (u53 238 67 rfl)
  have e65 : h53 238 69 = h 238 69 := (u53 238 69 rfl)
  have e66 : h53 238 5 = h 238 5 := (u53 238 5 rfl)
  have e67 : h53 241 98 = h 241 98 := (u53 241 98 rfl)
  have e68 : h53 241 99 = h 241 99 := (u53 241 99 rfl)
  have e69 : h53 241 100 = h 241 100 := (u53 241 100 rfl)
  have e70 : h53 241 101 = h 241 101 := (u53 241 101 rfl)
  have e71 : h53 241 102 = h 241 102 := (u53 241 102 rfl)
  have e72 : h53 241 106 = h 241 106 := (u53 241 106 rfl)
  have e73 : h53 241 73 = h 241 73 := (u53 241 73 rfl)
  have e74 : h53 241 2 = h 241 2 := (u53 241 2 rfl)
  have e75 : h53 241 119 = h 241 119 := (u53 241 119 rfl)
  have e76 : h53 241 67 = h 241 67 := (u53 241 67 rfl)
  have e77 : h53 241 69 = h 241 69 := (u53 241 69 rfl)
  have e78 : h53 241 5 = h 241 5 := (u53 241 5 rfl)
  have e79 : h53 1 1 = h 1 1 := (u53 1 1 rfl)
  have e80 : h53 236 2 = h 236 2 := (u53 236 2 rfl)
  have e81 : h53 1 2 = h 1 2 := (u53 1 2 rfl)
  have e82 : h53 236 10 = h 236 10 := (u53 236 10 rfl)
  have e83 : h53 1 3 = h 1 3 := (u53 1 3 rfl)
  have e84 : h53 236 11 = h 236 11 := (u53 236 11 rfl)
  have gp85 := GPH.fr u53 rfl gp0
  have b86 := gi_b (lo := 0) (hi := 5) g 241 0 rfl
  have b87 := gi_b (lo := 0) (hi := 4) g 241 1 rfl
  have gs88 := GPS.fr u53 rfl gs0
  have e89 : h53 0 12 = h 0 12 := (u53 0 12 rfl)
  have e90 : h53 236 21 = h 236 21 := (u53 236 21 rfl)
  exact k h53 b c ⟨g53, (show h53 1 1 = h53 236 2 by omega), (RS.i0 (f := h53 238) (by refine ⟨?_, ?_, ?_, ?_, ?_⟩ <;> omega)), (RS.i0 (f := h53 241) (by refine ⟨?_, ?_, ?_, ?_, ?_⟩ <;> omega)), gp85, (BRh.keep br0 (fun i => (u53 2 i (fn_a (by decide) fn_0))) (fun i => (u53 237 i (fn_a (by decide) fn_0))) (by omega)), (show h53 1 2 = h53 236 10 by omega), (show h53 1 3 = h53 236 11 by omega), (SVx.keep sv0 (by omega) (fun i _ => (u53 3 i (fn_a (by decide) fn_0))) (fun i _ => (u53 5 i (fn_a (by decide) fn_0))) (fun i _ => (u53 6 i (fn_a (by decide) fn_0))) (fun i _ => (u53 8 i (fn_a (by decide) fn_0))) (fun i _ => (u53 238 i (fn_a (by decide) fn_0)))), (show h53 0 12 = h53 236 21 by omega), (fun e => (SVx.keep (ss0 (by omega)) (by omega) (fun i _ => (u53 210 i (fn_a (by decide) fn_0))) (fun i _ => (u53 212 i (fn_a (by decide) fn_0))) (fun i _ => (u53 213 i (fn_a (by decide) fn_0))) (fun i _ => (u53 215 i (fn_a (by decide) fn_0))) (fun i _ => (u53 241 i (fn_a (by decide) fn_0))))), gs88⟩ (by omega) (by omega)
-- the law, case at 911
set_option maxRecDepth 100000 in
set_option maxHeartbeats 100000000 in
theorem lc_911 {L : Nat} {xs : Nat → Int32} {d b c : Nat} {h : hp} {cr : Nat → Nat → Option Nat} {Q : hp_Q} (hcr : CR cr) (hL : L ≤ 3072) (hr : 1 ≤ b ∧ 6 ≤ c) (I : LI h) (i : Int) (hi : 0 ≤ i ∧ i + 6 ≤ L) (k : ∀ (h2 : hp) (b2 c2 : Nat), LI h2 → b ≤ b2 + 1 → c ≤ c2 + 6 → wp (md_xa (L, xs)) (d + 107) 0 (1529, [(0, .ref 1000000), (1, .ref 0), (2, .ref 236), (3, .ref 259), (4, vi i)], [], hp_w h2 cr, b2, c2) Q) : wp (md_xa (L, xs)) (d + 107) 0 (911, [(0, .ref 1000000), (1, .ref 0), (2, .ref 236), (3, .ref 259), (4, vi i)], [], hp_w h cr, b, c) Q := by
  obtain ⟨g, i11, r238, r241, gp0, br0, er2, er3, sv0, sf0, ss0, gs0⟩ := I
  have r238e := r238.e0
  have r241e := r241.e0
  obtain ⟨⟨se0, se1, se2, se3, se4, se5, se6, se7, se8, se9⟩, -⟩ := id sv0
  have b1 := gi_b (lo := 0) (hi := 5) g 3 0 rfl
  have b2 := gi_b (lo := 0) (hi := 5) g 238 0 rfl
  have b3 := gi_b (lo := 0) (hi := 4) g 3 1 rfl
  have b4 := gi_b (lo := 0) (hi := 4) g 238 1 rfl
  have b5 := gi_b (lo := 0) (hi := 12) g 3 2 rfl
  have b6 := gi_b (lo := 0) (hi := 12) g 238 2 rfl
  have b7 := gi_b (lo := -2147483648) (hi := 2147483647) g 3 3 rfl
  have b8 := gi_b (lo := 0) (hi := 999) g 238 3 rfl
  have b9 := gi_b (lo := -2147483648) (hi := 2147483647) g 3 4 rfl
  have b10 := gi_b (lo := 0) (hi := 999) g 238 4 rfl
  have b11 := gi_b (lo := -2147483648) (hi := 2147483647) g 3 5 rfl
  have b12 := gi_b (lo := 0) (hi := 9) g 238 5 rfl
  have b13 := gi_b (lo := -2147483648) (hi := 2147483647) g 3 6 rfl
  have b14 := gi_b (lo := 0) (hi := 999) g 238 6 rfl
  have b15 := gi_b (lo := -2147483648) (hi := 2147483647) g 3 7 rfl
  have b16 := gi_b (lo := 0) (hi := 3) g 238 7 rfl
  have b17 := gi_b (lo := -2147483648) (hi := 2147483647) g 3 8 rfl
  have b18 := gi_b (lo := 0) (hi := 999) g 238 8 rfl
  have b19 := gi_b (lo := -2147483648) (hi := 2147483647) g 3 9 rfl
  have b20 := gi_b (lo := 0) (hi := 999) g 238 9 rfl
  have b21 := gi_b (lo := 0) (hi := 1) g 0 12 rfl
  have b22 := gi_b (lo := 0) (hi := 1) g 236 21 rfl
  have bl_ := gi_b (lo := 0) (hi := 800) g 1 1 rfl
  have tb0 : BufC (h 2) (h 1 1) h := ⟨fun _ => rfl, rfl, by omega, by omega⟩
  have b23 := gi_b (lo := 0) (hi := 6) g 238 98 rfl
  have b24 := gi_b (lo := 0) (hi := 6) g 238 99 rfl
  have b25 := gi_b (lo := 0) (hi := 6) g 238 100 rfl
  have b26 := gi_b (lo := 0) (hi := 6) g 238 101 rfl
  have b27 := gi_b (lo := 0) (hi := 3) g 238 102 rfl
  have b28 := gi_b (lo := 0) (hi := 12) g 238 106 rfl
  have b29 := gi_b (lo := 0) (hi := 12) g 238 73 rfl
  have b30 := gi_b (lo := 0) (hi := 9999) g 238 119 rfl
  have b31 := gi_b (lo := 0) (hi := 9999) g 238 67 rfl
  have b32 := gi_b (lo := 0) (hi := 9) g 238 69 rfl
  have b33 := gi_b (lo := 0) (hi := 6) g 241 98 rfl
  have b34 := gi_b (lo := 0) (hi := 6) g 241 99 rfl
  have b35 := gi_b (lo := 0) (hi := 6) g 241 100 rfl
  have b36 := gi_b (lo := 0) (hi := 6) g 241 101 rfl
  have b37 := gi_b (lo := 0) (hi := 3) g 241 102 rfl
  have b38 := gi_b (lo := 0) (hi := 12) g 241 106 rfl
  have b39 := gi_b (lo := 0) (hi := 12) g 241 73 rfl
  have b40 := gi_b (lo := 0) (hi := 12) g 241 2 rfl
  have b41 := gi_b (lo := 0) (hi := 9999) g 241 119 rfl
  have b42 := gi_b (lo := 0) (hi := 9999) g 241 67 rfl
  have b43 := gi_b (lo := 0) (hi := 9) g 241 69 rfl
  have b44 := gi_b (lo := 0) (hi := 9) g 241 5 rfl
  have b45 := gi_b (lo := 0) (hi := 800) g 1 1 rfl
  have b46 := gi_b (lo := 0) (hi := 800) g 236 2 rfl
  have b47 := gi_b (lo := -2147483648) (hi := 2147483647) g 1 2 rfl
  have b48 := gi_b (lo := -2147483648) (hi := 2147483647) g 236 10 rfl
  have b49 := gi_b (lo := -2147483648) (hi := 2147483647) g 1 3 rfl
  have b50 := gi_b (lo := -2147483648) (hi := 2147483647) g 236 11 rfl
  refine wi_aload_n (i := 1) (x := 0) (nx := 912) (r1 := 0) (r2 := 0) (r3 := 0) rfl rfl ?_
  refine wi_aload_n (i := 0) (x := 1000000) (nx := 913) (r1 := 0) (r2 := 0) (r3 := 0) rfl rfl ?_
  refine wi_iload (i := 4) (e := i) (nx := 915) (r1 := 0) (r2 := 0) (r3 := 0) rfl rfl ?_
  refine wi_iconst (n := 1) (nx := 916) (r1 := 0) (r2 := 0) (r3 := 0) rfl ?_
  refine wr_add (nx := 917) (r1 := 0) (r2 := 0) (r3 := 0) rfl (fun e51 (fe51 : e51 = i + 1) => ?_)
  obtain ⟨i52, ei52⟩ : ∃ q : Nat, e51 = (q : Int) := ⟨(e51).toNat, by omega⟩
  have s53 := sc_b (xs i52)
  refine wr_sc (a := e51) (f := i52) (nx := 918) (r1 := 0) (r2 := 0) (r3 := 0) rfl (by omega) (by omega) hL ?_
  refine wi_aload_n (i := 3) (x := 259) (nx := 919) (r1 := 0) (r2 := 0) (r3 := 0) rfl rfl ?_
  refine wi_S (rest := []) (as := [.ref 0, vi ((xs i52).toInt), .ref 259]) (nx := 922) (r1 := 15) (r2 := 19) (r3 := 0) rfl rfl rfl (of_decide_eq_true rfl) rfl rfl (of_decide_eq_true rfl) (of_decide_eq_true rfl) ?_
  refine wi_aload_n (i := 2) (x := 259) (nx := 1) (r1 := 0) (r2 := 0) (r3 := 0) rfl rfl ?_
  refine wi_iconst (n := 0) (nx := 2) (r1 := 0) (r2 := 0) (r3 := 0) rfl ?_
  refine wi_aload_n (i := 0) (x := 0) (nx := 3) (r1 := 0) (r2 := 0) (r3 := 0) rfl rfl ?_
  refine wi_iload_n (i := 1) (e := (xs i52).toInt) (nx := 4) (r1 := 0) (r2 := 0) (r3 := 0) rfl rfl ?_
  refine wr_V (k0 := 0) (rest := [vi 0, .ref 259]) (as := [.ref 0, vi ((xs i52).toInt)]) (nx := 7) (r1 := 77) (r2 := 1) (r3 := 0) rfl rfl rfl (of_decide_eq_true rfl) rfl rfl (by decide) rfl rfl (of_decide_eq_true rfl) (of_decide_eq_true rfl) ?_
  refine ct_77_0 hcr hr  g ((xs i52).toInt) (by omega)  (fun z55  (fz55 : 0 ≤ z55 ∧ z55 ≤ 1) m54_0 m54_1 => ?_) ?_
  ·
    refine wk_i ?_
    refine wi_if (cd := .eq) (nx := 10) (r1 := 14) (r2 := 0) (r3 := 0) rfl (by omega) (fun (q56 : z55 = 0) => ?_) (fun (q56 : ¬ (z55 = 0)) => ?_)
    ·
      have f57 : 0 ≤ ((xs i52).toInt) ∧ ((xs i52).toInt) ≤ 3 := m54_0 (by omega)
      refine wi_lconst (n := 0) (e := 0) (nx := 15) (r1 := 0) (r2 := 0) (r3 := 0) rfl (by decide) ?_
      refine wr_ls (k0 := 259) (a := 0) (f := 0) (x := 0) (bl := -9223372036854775808) (bh := 9223372036854775807) (nx := 16) (r1 := 0) (r2 := 0) (r3 := 0) rfl (by decide) rfl (by omega) (by omega) (by decide) g rfl (by omega) (fun h58 g58 w58 u58 => ?_)
      refine wi_goto (nx := 19) (r1 := 22) (r2 := 0) (r3 := 0) rfl ?_
      refine wi_iconst (n := 0) (nx := 23) (r1 := 0) (r2 := 0) (r3 := 0) rfl ?_
      refine wi_ireturn (nx := 24) (r1 := 0) (r2 := 0) (r3 := 0) rfl rfl ?_
      refine wk_i ?_
      refine wi_istore (i := 5) (e := 0) (lo2 := [(5, vi 0), (0, .ref 1000000), (1, .ref 0), (2, .ref 236), (3, .ref 259), (4, vi i)]) (nx := 924) (r1 := 0) (r2 := 0) (r3 := 0) rfl rfl ?_
      refine wi_aload_n (i := 2) (x := 236) (nx := 925) (r1 := 0) (r2 := 0) (r3 := 0) rfl rfl ?_
      refine wi_aload_n (i := 0) (x := 1000000) (nx := 926) (r1 := 0) (r2 := 0) (r3 := 0) rfl rfl ?_
      refine wi_iload (i := 4) (e := i) (nx := 928) (r1 := 0) (r2 := 0) (r3 := 0) rfl rfl ?_
      refine wi_iconst (n := 1) (nx := 929) (r1 := 0) (r2 := 0) (r3 := 0) rfl ?_
      refine wr_add (nx := 930) (r1 := 0) (r2 := 0) (r3 := 0) rfl (fun e59 (fe59 : e59 = i + 1) => ?_)
      refine wr_sc (a := e59) (f := i52) (nx := 931) (r1 := 0) (r2 := 0) (r3 := 0) rfl (by omega) (by omega) hL ?_
      refine wr_V (k0 := 236) (rest := []) (as := [.ref 236, vi ((xs i52).toInt)]) (nx := 934) (r1 := 266) (r2 := 1) (r3 := 11) rfl rfl rfl (of_decide_eq_true rfl) rfl rfl (by decide) rfl rfl (of_decide_eq_true rfl) (of_decide_eq_true rfl) ?_
      refine ct_266_236 hcr  g58 ((xs i52).toInt) (by omega)  (fun h60 z61 g60 u60 (fz61 : 0 ≤ z61 ∧ z61 ≤ 1) m60_0 => ?_)
      refine wk_i ?_
      refine wi_istore (i := 6) (e := z61) (lo2 := [(6, vi z61), (5, vi 0), (0, .ref 1000000), (1, .ref 0), (2, .ref 236), (3, .ref 259), (4, vi i)]) (nx := 936) (r1 := 0) (r2 := 0) (r3 := 0) rfl rfl ?_
      refine wi_goto (nx := 939) (r1 := 1529) (r2 := 0) (r3 := 0) rfl ?_
      refine wp.lo (lo := [(0, .ref 1000000), (1, .ref 0), (2, .ref 236), (3, .ref 259), (4, vi i)]) ⟨rfl, rfl, rfl, rfl, rfl, trivial⟩ rfl ?_
      have e62 : h60 238 98 = h 238 98 := ((u60 238 98 rfl).trans (u58 238 98 rfl))
      have e63 : h60 238 99 = h 238 99 := ((u60 238 99 rfl).trans (u58 238 99 rfl))
      have e64 : h60 238 100 = h 238 100 := ((u60 238 100 rfl).trans (u58 238 100 rfl))
      have e65 : h60 238 101 = h 238 101 := ((u60 238 101 rfl).trans (u58 238 101 rfl))
      have e66 : h60 238 102 = h 238 102 := ((u60 238 102 rfl).trans (u58 238 102 rfl))
      have e67 : h60 238 106 = h 238 106 := ((u60 238 106 rfl).trans (u58 238 106 rfl))
      have e68 : h60 238 73 = h 238 73 := ((u60 238 73 rfl).trans (u58 238 73 rfl))
      have e69 : h60 238 2 = h 238 2 := ((u60 238 2 rfl).trans (u58 238 2 rfl))
      have e70 : h60 238 119 = h 238 119 := ((u60 238 119 rfl).trans (u58 238 119 rfl))
      have e71 : h60 238 67 = h 238 67 := ((u60 238 67 rfl).trans (u58 238 67 rfl))
      have e72 : h60 238 69 = h 238 69 := ((u60 238 69 rfl).trans (u58 238 69 rfl))
      have e73 : h60 238 5 = h 238 5 := ((u60 238 5 rfl).trans (u58 238 5 rfl))
      have e74 : h60 241 98 = h 241 98 := ((u60 241 98 rfl).trans (u58 241 98 rfl))
      have e75 : h60 241 99 = h 241 99 := ((u60 241 99 rfl).trans (u58 241 99 rfl))
      have e76 : h60 241 100 = h 241 100 := ((u60 241 100 rfl).trans (u58 241 100 rfl))
      have e77 : h60 241 101 = h 241 101 := ((u60 241 101 rfl).trans (u58 241 101 rfl))
      have e78 : h60 241 102 = h 241 102 := ((u60 241 102 rfl).trans (u58 241 102 rfl))
      have e79 : h60 241 106 = h 241 106 := ((u60 241 106 rfl).trans (u58 241 106 rfl))
      have e80 : h60 241 73 = h 241 73 := ((u60 241 73 rfl).trans (u58 241 73 rfl))
      have e81 : h60 241 2 = h 241 2 := ((u60 241 2 rfl).trans (u58 241 2 rfl))
      have e82 : h60 241 119 = h 241 119 := ((u60 241 119 rfl).trans (u58 241 119 rfl))
      have e83 : h60 241 67 = h 241 67 := ((u60 241 67 rfl).trans (u58 241 67 rfl))
      have e84 : h60 241 69 = h 241 69 := ((u60 241 69 rfl).trans (u58 241 69 rfl))
      have e85 : h60 241 5 = h 241 5 := ((u60 241 5 rfl).trans (u58 241 5 rfl))
      have e86 : h60 1 1 = h 1 1 := ((u60 1 1 rfl).trans (u58 1 1 rfl))
      have e87 : h60 236 2 = h 236 2 := ((u60 236 2 rfl).trans (u58 236 2 rfl))
      have e88 : h60 1 2 = h 1 2 := ((u60 1 2 rfl).trans (u58 1 2 rfl))
      have e89 : h60 236 10 = h 236 10 := ((u60 236 10 rfl).trans (u58 236 10 rfl))
      have e90 : h60 1 3 = h 1 3 := ((u60 1 3 rfl).trans (u58 1 3 rfl))
      have e91 : h60 236 11 = h 236 11 := ((u60 236 11 rfl).trans (u58 236 11 rfl))
      have gp92 := GPH.fr u58 rfl gp0
      have gp93 := GPH.fr u60 rfl gp92
      have b94 := gi_b (lo := 0) (hi := 5) g 241 0 rfl
      have b95 := gi_b (lo := 0) (hi := 4) g 241 1 rfl
      have gs96 := GPS.fr u58 rfl gs0
      have gs97 := GPS.fr u60 rfl gs96
      have e98 : h60 0 12 = h 0 12 := ((u60 0 12 rfl).trans (u58 0 12 rfl))
      have e99 : h60 236 21 = h 236 21 := ((u60 236 21 rfl).trans (u58 236 21 rfl))
      exact k h60 b c ⟨g60, (show h60 1 1 = h60 236 2 by omega), (RS.i0 (f := h60 238) (by refine ⟨?_, ?_, ?_, ?_, ?_⟩ <;> omega)), (RS.i0 (f := h60 241) (by refine ⟨?_, ?_, ?_, ?_, ?_⟩ <;> omega)), gp93, (BRh.keep br0 (fun i => ((u60 2 i (fn_a (by decide) fn_0)).trans (u58 2 i (fn_a (by omega) fn_0)))) (fun i => ((u60 237 i (fn_a (by decide) fn_0)).trans (u58 237 i (fn_a (by omega) fn_0)))) (by omega)), (show h60 1 2 = h60 236 10 by omega), (show h60 1 3 = h60 236 11 by omega), (SVx.keep sv0 (by omega) (fun i _ => ((u60 3 i (fn_a (by decide) fn_0)).trans (u58 3 i (fn_a (by omega) fn_0)))) (fun i _ => ((u60 5 i (fn_a (by decide) fn_0)).trans (u58 5 i (fn_a (by omega) fn_0)))) (fun i _ => ((u60 6 i (fn_a (by decide) fn_0)).trans (u58 6 i (fn_a (by omega) fn_0)))) (fun i _ => ((u60 8 i (fn_a (by decide) fn_0)).trans (u58 8 i (fn_a (by omega) fn_0)))) (fun i _ => ((u60 238 i (fn_a (by decide) fn_0)).trans (u58 238 i (fn_a (by omega) fn_0))))), (show h60 0 12 = h60 236 21 by omega), (fun e => (SVx.keep (ss0 (by omega)) (by omega) (fun i _ => ((u60 210 i (fn_a (by decide) fn_0)).trans (u58 210 i (fn_a (by omega) fn_0)))) (fun i _ => ((u60 212 i (fn_a (by decide) fn_0)).trans (u58 212 i (fn_a (by omega) fn_0)))) (fun i _ => ((u60 213 i (fn_a (by decide) fn_0)).trans (u58 213 i (fn_a (by omega) fn_0)))) (fun i _ => ((u60 215 i (fn_a (by decide) fn_0)).trans (u58 215 i (fn_a (by omega) fn_0)))) (fun i _ => ((u60 241 i (fn_a (by decide) fn_0)).trans (u58 241 i (fn_a (by omega) fn_0)))))), gs97⟩ (by omega) (by omega)
    ·
      have f57 : 0 ≤ ((xs i52).toInt) ∧ ((xs i52).toInt) ≤ 3 := m54_1 (by omega)
      refine wi_lconst (n := 1) (e := 1) (nx := 11) (r1 := 0) (r2 := 0) (r3 := 0) rfl (by decide) ?_
      refine wi_goto (nx := 14) (r1 := 15) (r2 := 0) (r3 := 0) rfl ?_
      refine wr_ls (k0 := 259) (a := 0) (f := 0) (x := 1) (bl := -9223372036854775808) (bh := 9223372036854775807) (nx := 16) (r1 := 0) (r2 := 0) (r3 := 0) rfl (by decide) rfl (by omega) (by omega) (by decide) g rfl (by omega) (fun h58 g58 w58 u58 => ?_)
      refine wi_goto (nx := 19) (r1 := 22) (r2 := 0) (r3 := 0) rfl ?_
      refine wi_iconst (n := 0) (nx := 23) (r1 := 0) (r2 := 0) (r3 := 0) rfl ?_
      refine wi_ireturn (nx := 24) (r1 := 0) (r2 := 0) (r3 := 0) rfl rfl ?_
      refine wk_i ?_
      refine wi_istore (i := 5) (e := 0) (lo2 := [(5, vi 0), (0, .ref 1000000), (1, .ref 0), (2, .ref 236), (3, .ref 259), (4, vi i)]) (nx := 924) (r1 := 0) (r2 := 0) (r3 := 0) rfl rfl ?_
      refine wi_aload_n (i := 2) (x := 236) (nx := 925) (r1 := 0) (r2 := 0) (r3 := 0) rfl rfl ?_
      refine wi_aload_n (i := 0) (x := 1000000) (nx := 926) (r1 := 0) (r2 := 0) (r3 := 0) rfl rfl ?_
      refine wi_iload (i := 4) (e := i) (nx := 928) (r1 := 0) (r2 := 0) (r3 := 0) rfl rfl ?_
      refine wi_iconst (n := 1) (nx := 929) (r1 := 0) (r2 := 0) (r3 := 0) rfl ?_
      refine wr_add (nx := 930) (r1 := 0) (r2 := 0) (r3 := 0) rfl (fun e59 (fe59 : e59 = i + 1) => ?_)
      refine wr_sc (a := e59) (f := i52) (nx := 931) (r1 := 0) (r2 := 0) (r3 := 0) rfl (by omega) (by omega) hL ?_
      refine wr_V (k0 := 236) (rest := []) (as := [.ref 236, vi ((xs i52).toInt)]) (nx := 934) (r1 := 266) (r2 := 1) (r3 := 11) rfl rfl rfl (of_decide_eq_true rfl) rfl rfl (by decide) rfl rfl (of_decide_eq_true rfl) (of_decide_eq_true rfl) ?_
      refine ct_266_236 hcr  g58 ((xs i52).toInt) (by omega)  (fun h60 z61 g60 u60 (fz61 : 0 ≤ z61 ∧ z61 ≤ 1) m60_0 => ?_)
      refine wk_i ?_
      refine wi_istore (i := 6) (e := z61) (lo2 := [(6, vi z61), (5, vi 0), (0, .ref 1000000), (1, .ref 0), (2, .ref 236), (3, .ref 259), (4, vi i)]) (nx := 936) (r1 := 0) (r2 := 0) (r3 := 0) rfl rfl ?_
      refine wi_goto (nx := 939) (r1 := 1529) (r2 := 0) (r3 := 0) rfl ?_
      refine wp.lo (lo := [(0, .ref 1000000), (1, .ref 0), (2, .ref 236), (3, .ref 259), (4, vi i)]) ⟨rfl, rfl, rfl, rfl, rfl, trivial⟩ rfl ?_
      have e62 : h60 238 98 = h 238 98 := ((u60 238 98 rfl).trans (u58 238 98 rfl))
      have e63 : h60 238 99 = h 238 99 := ((u60 238 99 rfl).trans (u58 238 99 rfl))
      have e64 : h60 238 100 = h 238 100 := ((u60 238 100 rfl).trans (u58 238 100 rfl))
      have e65 : h60 238 101 = h 238 101 := ((u60 238 101 rfl).trans (u58 238 101 rfl))
      have e66 : h60 238 102 = h 238 102 := ((u60 238 102 rfl).trans (u58 238 102 rfl))
      have e67 : h60 238 106 = h 238 106 := ((u60 238 106 rfl).trans (u58 238 106 rfl))
      have e68 : h60 238 73 = h 238 73 := ((u60 238 73 rfl).trans (u58 238 73 rfl))
      have e69 : h60 238 2 = h 238 2 := ((u60 238 2 rfl).trans (u58 238 2 rfl))
      have e70 : h60 238 119 = h 238 119 := ((u60 238 119 rfl).trans (u58 238 119 rfl))
      have e71 : h60 238 67 = h 238 67 := ((u60 238 67 rfl).trans (u58 238 67 rfl))
      have e72 : h60 238 69 = h 238 69 := ((u60 238 69 rfl).trans (u58 238 69 rfl))
      have e73 : h60 238 5 = h 238 5 := ((u60 238 5 rfl).trans (u58 238 5 rfl))
      have e74 : h60 241 98 = h 241 98 := ((u60 241 98 rfl).trans (u58 241 98 rfl))
      have e75 : h60 241 99 = h 241 99 := ((u60 241 99 rfl).trans (u58 241 99 rfl))
      have e76 : h60 241 100 = h 241 100 := ((u60 241 100 rfl).trans (u58 241 100 rfl))
      have e77 : h60 241 101 = h 241 101 := ((u60 241 101 rfl).trans (u58 241 101 rfl))
      have e78 : h60 241 102 = h 241 102 := ((u60 241 102 rfl).trans (u58 241 102 rfl))
      have e79 : h60 241 106 = h 241 106 := ((u60 241 106 rfl).trans (u58 241 106 rfl))
      have e80 : h60 241 73 = h 241 73 := ((u60 241 73 rfl).trans (u58 241 73 rfl))
      have e81 : h60 241 2 = h 241 2 := ((u60 241 2 rfl).trans (u58 241 2 rfl))
      have e82 : h60 241 119 = h 241 119 := ((u60 241 119 rfl).trans (u58 241 119 rfl))
      have e83 : h60 241 67 = h 241 67 := ((u60 241 67 rfl).trans (u58 241 67 rfl))
      have e84 : h60 241 69 = h 241 69 := ((u60 241 69 rfl).trans (u58 241 69 rfl))
      have e85 : h60 241 5 = h 241 5 := ((u60 241 5 rfl).trans (u58 241 5 rfl))
      have e86 : h60 1 1 = h 1 1 := ((u60 1 1 rfl).trans (u58 1 1 rfl))
      have e87 : h60 236 2 = h 236 2 := ((u60 236 2 rfl).trans (u58 236 2 rfl))
      have e88 : h60 1 2 = h 1 2 := ((u60 1 2 rfl).trans (u58 1 2 rfl))
      have e89 : h60 236 10 = h 236 10 := ((u60 236 10 rfl).trans (u58 236 10 rfl))
      have e90 : h60 1 3 = h 1 3 := ((u60 1 3 rfl).trans (u58 1 3 rfl))
      have e91 : h60 236 11 = h 236 11 := ((u60 236 11 rfl).trans (u58 236 11 rfl))
      have gp92 := GPH.fr u58 rfl gp0
      have gp93 := GPH.fr u60 rfl gp92
      have b94 := gi_b (lo := 0) (hi := 5) g 241 0 rfl
      have b95 := gi_b (lo := 0) (hi := 4) g 241 1 rfl
      have gs96 := GPS.fr u58 rfl gs0
      have gs97 := GPS.fr u60 rfl gs96
      have e98 : h60 0 12 = h 0 12 := ((u60 0 12 rfl).trans (u58 0 12 rfl))
      have e99 : h60 236 21 = h 236 21 := ((u60 236 21 rfl).trans (u58 236 21 rfl))
      exact k h60 b c ⟨g60, (show h60 1 1 = h60 236 2 by omega), (RS.i0 (f := h60 238) (by refine ⟨?_, ?_, ?_, ?_, ?_⟩ <;> omega)), (RS.i0 (f := h60 241) (by refine ⟨?_, ?_, ?_, ?_, ?_⟩ <;> omega)), gp93, (BRh.keep br0 (fun i => ((u60 2 i (fn_a (by decide) fn_0)).trans (u58 2 i (fn_a (by omega) fn_0)))) (fun i => ((u60 237 i (fn_a (by decide) fn_0)).trans (u58 237 i (fn_a (by omega) fn_0)))) (by omega)), (show h60 1 2 = h60 236 10 by omega), (show h60 1 3 = h60 236 11 by omega), (SVx.keep sv0 (by omega) (fun i _ => ((u60 3 i (fn_a (by decide) fn_0)).trans (u58 3 i (fn_a (by omega) fn_0)))) (fun i _ => ((u60 5 i (fn_a (by decide) fn_0)).trans (u58 5 i (fn_a (by omega) fn_0)))) (fun i _ => ((u60 6 i (fn_a (by decide) fn_0)).trans (u58 6 i (fn_a (by omega) fn_0)))) (fun i _ => ((u60 8 i (fn_a (by decide) fn_0)).trans (u58 8 i (fn_a (by omega) fn_0)))) (fun i _ => ((u60 238 i (fn_a (by decide) fn_0)).trans (u58 238 i (fn_a (by omega) fn_0))))), (show h60 0 12 = h60 236 21 by omega), (fun e => (SVx.keep (ss0 (by omega)) (by omega) (fun i _ => ((u60 210 i (fn_a (by decide) fn_0)).trans (u58 210 i (fn_a (by omega) fn_0)))) (fun i _ => ((u60 212 i (fn_a (by decide) fn_0)).trans (u58 212 i (fn_a (by omega) fn_0)))) (fun i _ => ((u60 213 i (fn_a (by decide) fn_0)).trans (u58 213 i (fn_a (by omega) fn_0)))) (fun i _ => ((u60 215 i (fn_a (by decide) fn_0)).trans (u58 215 i (fn_a (by omega) fn_0)))) (fun i _ => ((u60 241 i (fn_a (by decide) fn_0)).trans (u58 241 i (fn_a (by omega) fn_0)))))), gs97⟩ (by omega) (by omega)
  ·
    refine wk_h 19 (by decide) rfl ?_
    refine wr_astx (i := 3) (lo2 := [(3, .retAddr 0), (0, .ref 0), (1, vi ((xs i52).toInt)), (2, .ref 259)]) (nx := 20) (r1 := 0) (r2 := 0) (r3 := 0) rfl rfl ?_
    refine wi_iconst (n := 1) (nx := 21) (r1 := 0) (r2 := 0) (r3 := 0) rfl ?_
    refine wi_ireturn (nx := 22) (r1 := 0) (r2 := 0) (r3 := 0) rfl rfl ?_
    refine wk_i ?_
    refine wi_istore (i := 5) (e := 1) (lo2 := [(5, vi 1), (0, .ref 1000000), (1, .ref 0), (2, .ref 236), (3, .ref 259), (4, vi i)]) (nx := 924) (r1 := 0) (r2 := 0) (r3 := 0) rfl rfl ?_
    refine wi_aload_n (i := 2) (x := 236) (nx := 925) (r1 := 0) (r2 := 0) (r3 := 0) rfl rfl ?_
    refine wi_aload_n (i := 0) (x := 1000000) (nx := 926) (r1 := 0) (r2 := 0) (r3 := 0) rfl rfl ?_
    refine wi_iload (i := 4) (e := i) (nx := 928) (r1 := 0) (r2 := 0) (r3 := 0) rfl rfl ?_
    refine wi_iconst (n := 1) (nx := 929) (r1 := 0) (r2 := 0) (r3 := 0) rfl ?_
    refine wr_add (nx := 930) (r1 := 0) (r2 := 0) (r3 := 0) rfl (fun e56 (fe56 : e56 = i + 1) => ?_)
    refine wr_sc (a := e56) (f := i52) (nx := 931) (r1 := 0) (r2 := 0) (r3 := 0) rfl (by omega) (by omega) hL ?_
    refine wr_V (k0 := 236) (rest := []) (as := [.ref 236, vi ((xs i52).toInt)]) (nx := 934) (r1 := 266) (r2 := 1) (r3 := 11) rfl rfl rfl (of_decide_eq_true rfl) rfl rfl (by decide) rfl rfl (of_decide_eq_true rfl) (of_decide_eq_true rfl) ?_
    refine ct_266_236 hcr  g ((xs i52).toInt) (by omega)  (fun h57 z58 g57 u57 (fz58 : 0 ≤ z58 ∧ z58 ≤ 1) m57_0 => ?_)
    refine wk_i ?_
    refine wi_istore (i := 6) (e := z58) (lo2 := [(6, vi z58), (5, vi 1), (0, .ref 1000000), (1, .ref 0), (2, .ref 236), (3, .ref 259), (4, vi i)]) (nx := 936) (r1 := 0) (r2 := 0) (r3 := 0) rfl rfl ?_
    refine wi_goto (nx := 939) (r1 := 1529) (r2 := 0) (r3 := 0) rfl ?_
    refine wp.lo (lo := [(0, .ref 1000000), (1, .ref 0), (2, .ref 236), (3, .ref 259), (4, vi i)]) ⟨rfl, rfl, rfl, rfl, rfl, trivial⟩ rfl ?_
    have e59 : h57 238 98 = h 238 98 := (u57 238 98 rfl)
    have e60 : h57 238 99 = h 238 99 := (u57 238 99 rfl)
    have e61 : h57 238 100 = h 238 100 := (u57 238 100 rfl)
    have e62 : h57 238 101 = h 238 101 := (u57 238 101 rfl)
    have e63 : h57 238 102 = h 238 102 := (u57 238 102 rfl)
    have e64 : h57 238 106 = h 238 106 := (u57 238 106 rfl)
    have e65 : h57 238 73 = h 238 73 := (u57 238 73 rfl)
    have e66 : h57 238 2 = h 238 2 := (u57 238 2 rfl)
    have e67 : h57 238 119 = h 238 119 := (u57 238 119 rfl)
    have e68 : h57 238 67 = h 238 67 := (u57 238 67 rfl)
    have e69 : h57 238 69 = h 238 69 := (u57 238 69 rfl)
    have e70 : h57 238 5 = h 238 5 := (u57 238 5 rfl)
    have e71 : h57 241 98 = h 241 98 := (u57 241 98 rfl)
    have e72 : h57 241 99 = h 241 99 := (u57 241 99 rfl)
    have e73 : h57 241 100 = h 241 100 := (u57 241 100 rfl)
    have e74 : h57 241 101 = h 241 101 := (u57 241 101 rfl)
    have e75 : h57 241 102 = h 241 102 := (u57 241 102 rfl)
    have e76 : h57 241 106 = h 241 106 := (u57 241 106 rfl)
    have e77 : h57 241 73 = h 241 73 := (u57 241 73 rfl)
    have e78 : h57 241 2 = h 241 2 := (u57 241 2 rfl)
    have e79 : h57 241 119 = h 241 119 := (u57 241 119 rfl)
    have e80 : h57 241 67 = h 241 67 := (u57 241 67 rfl)
    have e81 : h57 241 69 = h 241 69 := (u57 241 69 rfl)
    have e82 : h57 241 5 = h 241 5 := (u57 241 5 rfl)
    have e83 : h57 1 1 = h 1 1 := (u57 1 1 rfl)
    have e84 : h57 236 2 = h 236 2 := (u57 236 2 rfl)
    have e85 : h57 1 2 = h 1 2 := (u57 1 2 rfl)
    have e86 : h57 236 10 = h 236 10 := (u57 236 10 rfl)
    have e87 : h57 1 3 = h 1 3 := (u57 1 3 rfl)
    have e88 : h57 236 11 = h 236 11 := (u57 236 11 rfl)
    have gp89 := GPH.fr u57 rfl gp0
    have b90 := gi_b (lo := 0) (hi := 5) g 241 0 rfl
    have b91 := gi_b (lo := 0) (hi := 4) g 241 1 rfl
    have gs92 := GPS.fr u57 rfl gs0
    have e93 : h57 0 12 = h 0 12 := (u57 0 12 rfl)
    have e94 : h57 236 21 = h 236 21 := (u57 236 21 rfl)
    exact k h57 (b - 1) (c - 6) ⟨g57, (show h57 1 1 = h57 236 2 by omega), (RS.i0 (f := h57 238) (by refine ⟨?_, ?_, ?_, ?_, ?_⟩ <;> omega)), (RS.i0 (f := h57 241) (by refine ⟨?_, ?_, ?_, ?_, ?_⟩ <;> omega)), gp89, (BRh.keep br0 (fun i => (u57 2 i (fn_a (by decide) fn_0))) (fun i => (u57 237 i (fn_a (by decide) fn_0))) (by omega)), (show h57 1 2 = h57 236 10 by omega), (show h57 1 3 = h57 236 11 by omega), (SVx.keep sv0 (by omega) (fun i _ => (u57 3 i (fn_a (by decide) fn_0))) (fun i _ => (u57 5 i (fn_a (by decide) fn_0))) (fun i _ => (u57 6 i (fn_a (by decide) fn_0))) (fun i _ => (u57 8 i (fn_a (by decide) fn_0))) (fun i _ => (u57 238 i (fn_a (by decide) fn_0)))), (show h57 0 12 = h57 236 21 by omega), (fun e => (SVx.keep (ss0 (by omega)) (by omega) (fun i _ => (u57 210 i (fn_a (by decide) fn_0))) (fun i _ => (u57 212 i (fn_a (by decide) fn_0))) (fun i _ => (u57 213 i (fn_a (by decide) fn_0))) (fun i _ => (u57 215 i (fn_a (by decide) fn_0))) (fun i _ => (u57 241 i (fn_a (by decide) fn_0))))), gs92⟩ (by omega) (by omega)
-- the law, case at 939
set_option maxRecDepth 100000 in
set_option maxHeartbeats 100000000 in
theorem lc_939 {L : Nat} {xs : Nat → Int32} {d b c : Nat} {h : hp} {cr : Nat → Nat → Option Nat} {Q : hp_Q} (hcr : CR cr) (hL : L ≤ 3072) (hr : 1 ≤ b ∧ 6 ≤ c) (I : LI h) (i : Int) (hi : 0 ≤ i ∧ i + 6 ≤ L) (k : ∀ (h2 : hp) (b2 c2 : Nat), LI h2 → b ≤ b2 + 1 → c ≤ c2 + 6 → wp (md_xa (L, xs)) (d + 107) 0 (1529, [(0, .ref 1000000), (1, .ref 0), (2, .ref 236), (3, .ref 259), (4, vi i)], [], hp_w h2 cr, b2, c2) Q) : wp (md_xa (L, xs)) (d + 107) 0 (939, [(0, .ref 1000000), (1, .ref 0), (2, .ref 236), (3, .ref 259), (4, vi i)], [], hp_w h cr, b, c) Q := by
  obtain ⟨g, i11, r238, r241, gp0, br0, er2, er3, sv0, sf0, ss0, gs0⟩ := I
  have r238e := r238.e0
  have r241e := r241.e0
  obtain ⟨⟨se0, se1, se2, se3, se4, se5, se6, se7, se8, se9⟩, -⟩ := id sv0
  have b1 := gi_b (lo := 0) (hi := 5) g 3 0 rfl
  have b2 := gi_b (lo := 0) (hi := 5) g 238 0 rfl
  have b3 := gi_b (lo := 0) (hi := 4) g 3 1 rfl
  have b4 := gi_b (lo := 0) (hi := 4) g 238 1 rfl
  have b5 := gi_b (lo := 0) (hi := 12) g 3 2 rfl
  have b6 := gi_b (lo := 0) (hi := 12) g 238 2 rfl
  have b7 := gi_b (lo := -2147483648) (hi := 2147483647) g 3 3 rfl
  have b8 := gi_b (lo := 0) (hi := 999) g 238 3 rfl
  have b9 := gi_b (lo := -2147483648) (hi := 2147483647) g 3 4 rfl
  have b10 := gi_b (lo := 0) (hi := 999) g 238 4 rfl
  have b11 := gi_b (lo := -2147483648) (hi := 2147483647) g 3 5 rfl
  have b12 := gi_b (lo := 0) (hi := 9) g 238 5 rfl
  have b13 := gi_b (lo := -2147483648) (hi := 2147483647) g 3 6 rfl
  have b14 := gi_b (lo := 0) (hi := 999) g 238 6 rfl
  have b15 := gi_b (lo := -2147483648) (hi := 2147483647) g 3 7 rfl
  have b16 := gi_b (lo := 0) (hi := 3) g 238 7 rfl
  have b17 := gi_b (lo := -2147483648) (hi := 2147483647) g 3 8 rfl
  have b18 := gi_b (lo := 0) (hi := 999) g 238 8 rfl
  have b19 := gi_b (lo := -2147483648) (hi := 2147483647) g 3 9 rfl
  have b20 := gi_b (lo := 0) (hi := 999) g 238 9 rfl
  have b21 := gi_b (lo := 0) (hi := 1) g 0 12 rfl
  have b22 := gi_b (lo := 0) (hi := 1) g 236 21 rfl
  have bl_ := gi_b (lo := 0) (hi := 800) g 1 1 rfl
  have tb0 : BufC (h 2) (h 1 1) h := ⟨fun _ => rfl, rfl, by omega, by omega⟩
  have b23 := gi_b (lo := 0) (hi := 6) g 238 98 rfl
  have b24 := gi_b (lo := 0) (hi := 6) g 238 99 rfl
  have b25 := gi_b (lo := 0) (hi := 6) g 238 100 rfl
  have b26 := gi_b (lo := 0) (hi := 6) g 238 101 rfl
  have b27 := gi_b (lo := 0) (hi := 3) g 238 102 rfl
  have b28 := gi_b (lo := 0) (hi := 12) g 238 106 rfl
  have b29 := gi_b (lo := 0) (hi := 12) g 238 73 rfl
  have b30 := gi_b (lo := 0) (hi := 9999) g 238 119 rfl
  have b31 := gi_b (lo := 0) (hi := 9999) g 238 67 rfl
  have b32 := gi_b (lo := 0) (hi := 9) g 238 69 rfl
  have b33 := gi_b (lo := 0) (hi := 6) g 241 98 rfl
  have b34 := gi_b (lo := 0) (hi := 6) g 241 99 rfl
  have b35 := gi_b (lo := 0) (hi := 6) g 241 100 rfl
  have b36 := gi_b (lo := 0) (hi := 6) g 241 101 rfl
  have b37 := gi_b (lo := 0) (hi := 3) g 241 102 rfl
  have b38 := gi_b (lo := 0) (hi := 12) g 241 106 rfl
  have b39 := gi_b (lo := 0) (hi := 12) g 241 73 rfl
  have b40 := gi_b (lo := 0) (hi := 12) g 241 2 rfl
  have b41 := gi_b (lo := 0) (hi := 9999) g 241 119 rfl
  have b42 := gi_b (lo := 0) (hi := 9999) g 241 67 rfl
  have b43 := gi_b (lo := 0) (hi := 9) g 241 69 rfl
  have b44 := gi_b (lo := 0) (hi := 9) g 241 5 rfl
  have b45 := gi_b (lo := 0) (hi := 800) g 1 1 rfl
  have b46 := gi_b (lo := 0) (hi := 800) g 236 2 rfl
  have b47 := gi_b (lo := -2147483648) (hi := 2147483647) g 1 2 rfl
  have b48 := gi_b (lo := -2147483648) (hi := 2147483647) g 236 10 rfl
  have b49 := gi_b (lo := -2147483648) (hi := 2147483647) g 1 3 rfl
  have b50 := gi_b (lo := -2147483648) (hi := 2147483647) g 236 11 rfl
  refine wi_aload_n (i := 1) (x := 0) (nx := 940) (r1 := 0) (r2 := 0) (r3 := 0) rfl rfl ?_
  refine wr_V (k0 := 0) (rest := []) (as := [.ref 0]) (nx := 943) (r1 := 38) (r2 := 0) (r3 := 0) rfl rfl rfl (of_decide_eq_true rfl) rfl rfl (by decide) rfl rfl (of_decide_eq_true rfl) (of_decide_eq_true rfl) ?_
  refine ct_38_0 hcr  g    (fun z52  (fz52 : -2147483648 ≤ z52 ∧ z52 ≤ 2147483647) => ?_)
  refine wk_i ?_
  refine wi_pop (nx := 944) (r1 := 0) (r2 := 0) (r3 := 0) rfl rfl ?_
  refine wi_aload_n (i := 2) (x := 236) (nx := 945) (r1 := 0) (r2 := 0) (r3 := 0) rfl rfl ?_
  refine wr_V (k0 := 236) (rest := []) (as := [.ref 236]) (nx := 948) (r1 := 268) (r2 := 0) (r3 := 11) rfl rfl rfl (of_decide_eq_true rfl) rfl rfl (by decide) rfl rfl (of_decide_eq_true rfl) (of_decide_eq_true rfl) ?_
  refine ct_268_236 hcr  g    (fun h53 z54 g53 u53 (fz54 : -1 ≤ z54 ∧ z54 ≤ 4) => ?_)
  refine wk_i ?_
  refine wi_pop (nx := 949) (r1 := 0) (r2 := 0) (r3 := 0) rfl rfl ?_
  refine wi_goto (nx := 952) (r1 := 1529) (r2 := 0) (r3 := 0) rfl ?_
  have e55 : h53 238 98 = h 238 98 := (u53 238 98 rfl)
  have e56 : h53 238 99 = h 238 99 := (u53 238 99 rfl)
  have e57 : h53 238 100 = h 238 100 := (u53 238 100 rfl)
  have e58 : h53 238 101 = h 238 101 := (u53 238 101 rfl)
  have e59 : h53 238 102 = h 238 102 := (u53 238 102 rfl)
  have e60 : h53 238 106 = h 238 106 := (u53 238 106 rfl)
  have e61 : h53 238 73 = h 238 73 := (u53 238 73 rfl)
  have e62 : h53 238 2 = h 238 2 := (u53 238 2 rfl)
  have e63 : h53 238 119 = h 238 119 := (u53 238 119 rfl)
  have e64 : h53 238 67 = h 238 67 := (u53 238 67 rfl)
  have e65 : h53 238 69 = h 238 69 := (u53 238 69 rfl)
  have e66 : h53 238 5 = h 238 5 := (u53 238 5 rfl)
  have e67 : h53 241 98 = h 241 98 := (u53 241 98 rfl)
  have e68 : h53 241 99 = h 241 99 := (u53 241 99 rfl)
  have e69 : h53 241 100 = h 241 100 := (u53 241 100 rfl)
  have e70 : h53 241 101 = h 241 101 := (u53 241 101 rfl)
  have e71 : h53 241 102 = h 241 102 := (u53 241 102 rfl)
  have e72 : h53 241 106 = h 241 106 := (u53 241 106 rfl)
  have e73 : h53 241 73 = h 241 73 := (u53 241 73 rfl)
  have e74 : h53 241 2 = h 241 2 := (u53 241 2 rfl)
  have e75 : h53 241 119 = h 241 119 := (u53 241 119 rfl)
  have e76 : h53 241 67 = h 241 67 := (u53 241 67 rfl)
  have e77 : h53 241 69 = h 241 69 := (u53 241 69 rfl)
  have e78 : h53 241 5 = h 241 5 := (u53 241 5 rfl)
  have e79 : h53 1 1 = h 1 1 := (u53 1 1 rfl)
  have e80 : h53 236 2 = h 236 2 := (u53 236 2 rfl)
  have e81 : h53 1 2 = h 1 2 := (u53 1 2 rfl)
  have e82 : h53 236 10 = h 236 10 := (u53 236 10 rfl)
  have e83 : h53 1 3 = h 1 3 := (u53 1 3 rfl)
  have e84 : h53 236 11 = h 236 11 := (u53 236 11 rfl)
  have gp85 := GPH.fr u53 rfl gp0
  have b86 := gi_b (lo := 0) (hi := 5) g 241 0 rfl
  have b87 := gi_b (lo := 0) (hi := 4) g 241 1 rfl
  have gs88 := GPS.fr u53 rfl gs0
  have e89 : h53 0 12 = h 0 12 := (u53 0 12 rfl)
  have e90 : h53 236 21 = h 236 21 := (u53 236 21 rfl)
  exact k h53 b c ⟨g53, (show h53 1 1 = h53 236 2 by omega), (RS.i0 (f := h53 238) (by refine ⟨?_, ?_, ?_, ?_, ?_⟩ <;> omega)), (RS.i0 (f := h53 241) (by refine ⟨?_, ?_, ?_, ?_, ?_⟩ <;> omega)), gp85, (BRh.keep br0 (fun i => (u53 2 i (fn_a (by decide) fn_0))) (fun i => (u53 237 i (fn_a (by decide) fn_0))) (by omega)), (show h53 1 2 = h53 236 10 by omega), (show h53 1 3 = h53 236 11 by omega), (SVx.keep sv0 (by omega) (fun i _ => (u53 3 i (fn_a (by decide) fn_0))) (fun i _ => (u53 5 i (fn_a (by decide) fn_0))) (fun i _ => (u53 6 i (fn_a (by decide) fn_0))) (fun i _ => (u53 8 i (fn_a (by decide) fn_0))) (fun i _ => (u53 238 i (fn_a (by decide) fn_0)))), (show h53 0 12 = h53 236 21 by omega), (fun e => (SVx.keep (ss0 (by omega)) (by omega) (fun i _ => (u53 210 i (fn_a (by decide) fn_0))) (fun i _ => (u53 212 i (fn_a (by decide) fn_0))) (fun i _ => (u53 213 i (fn_a (by decide) fn_0))) (fun i _ => (u53 215 i (fn_a (by decide) fn_0))) (fun i _ => (u53 241 i (fn_a (by decide) fn_0))))), gs88⟩ (by omega) (by omega)
-- the law, case at 952
set_option maxRecDepth 100000 in
set_option maxHeartbeats 100000000 in
theorem lc_952 {L : Nat} {xs : Nat → Int32} {d b c : Nat} {h : hp} {cr : Nat → Nat → Option Nat} {Q : hp_Q} (hcr : CR cr) (hL : L ≤ 3072) (hr : 1 ≤ b ∧ 6 ≤ c) (I : LI h) (i : Int) (hi : 0 ≤ i ∧ i + 6 ≤ L) (k : ∀ (h2 : hp) (b2 c2 : Nat), LI h2 → b ≤ b2 + 1 → c ≤ c2 + 6 → wp (md_xa (L, xs)) (d + 107) 0 (1529, [(0, .ref 1000000), (1, .ref 0), (2, .ref 236), (3, .ref 259), (4, vi i)], [], hp_w h2 cr, b2, c2) Q) : wp (md_xa (L, xs)) (d + 107) 0 (952, [(0, .ref 1000000), (1, .ref 0), (2, .ref 236), (3, .ref 259), (4, vi i)], [], hp_w h cr, b, c) Q := by
  obtain ⟨g, i11, r238, r241, gp0, br0, er2, er3, sv0, sf0, ss0, gs0⟩ := I
  have r238e := r238.e0
  have r241e := r241.e0
  obtain ⟨⟨se0, se1, se2, se3, se4, se5, se6, se7, se8, se9⟩, -⟩ := id sv0
  have b1 := gi_b (lo := 0) (hi := 5) g 3 0 rfl
  have b2 := gi_b (lo := 0) (hi := 5) g 238 0 rfl
  have b3 := gi_b (lo := 0) (hi := 4) g 3 1 rfl
  have b4 := gi_b (lo := 0) (hi := 4) g 238 1 rfl
  have b5 := gi_b (lo := 0) (hi := 12) g 3 2 rfl
  have b6 := gi_b (lo := 0) (hi := 12) g 238 2 rfl
  have b7 := gi_b (lo := -2147483648) (hi := 2147483647) g 3 3 rfl
  have b8 := gi_b (lo := 0) (hi := 999) g 238 3 rfl
  have b9 := gi_b (lo := -2147483648) (hi := 2147483647) g 3 4 rfl
  have b10 := gi_b (lo := 0) (hi := 999) g 238 4 rfl
  have b11 := gi_b (lo := -2147483648) (hi := 2147483647) g 3 5 rfl
  have b12 := gi_b (lo := 0) (hi := 9) g 238 5 rfl
  have b13 := gi_b (lo := -2147483648) (hi := 2147483647) g 3 6 rfl
  have b14 := gi_b (lo := 0) (hi := 999) g 238 6 rfl
  have b15 := gi_b (lo := -2147483648) (hi := 2147483647) g 3 7 rfl
  have b16 := gi_b (lo := 0) (hi := 3) g 238 7 rfl
  have b17 := gi_b (lo := -2147483648) (hi := 2147483647) g 3 8 rfl
  have b18 := gi_b (lo := 0) (hi := 999) g 238 8 rfl
  have b19 := gi_b (lo := -2147483648) (hi := 2147483647) g 3 9 rfl
  have b20 := gi_b (lo := 0) (hi := 999) g 238 9 rfl
  have b21 := gi_b (lo := 0) (hi := 1) g 0 12 rfl
  have b22 := gi_b (lo := 0) (hi := 1) g 236 21 rfl
  have bl_ := gi_b (lo := 0) (hi := 800) g 1 1 rfl
  have tb0 : BufC (h 2) (h 1 1) h := ⟨fun _ => rfl, rfl, by omega, by omega⟩
  have b23 := gi_b (lo := 0) (hi := 6) g 238 98 rfl
  have b24 := gi_b (lo := 0) (hi := 6) g 238 99 rfl
  have b25 := gi_b (lo := 0) (hi := 6) g 238 100 rfl
  have b26 := gi_b (lo := 0) (hi := 6) g 238 101 rfl
  have b27 := gi_b (lo := 0) (hi := 3) g 238 102 rfl
  have b28 := gi_b (lo := 0) (hi := 12) g 238 106 rfl
  have b29 := gi_b (lo := 0) (hi := 12) g 238 73 rfl
  have b30 := gi_b (lo := 0) (hi := 9999) g 238 119 rfl
  have b31 := gi_b (lo := 0) (hi := 9999) g 238 67 rfl
  have b32 := gi_b (lo := 0) (hi := 9) g 238 69 rfl
  have b33 := gi_b (lo := 0) (hi := 6) g 241 98 rfl
  have b34 := gi_b (lo := 0) (hi := 6) g 241 99 rfl
  have b35 := gi_b (lo := 0) (hi := 6) g 241 100 rfl
  have b36 := gi_b (lo := 0) (hi := 6) g 241 101 rfl
  have b37 := gi_b (lo := 0) (hi := 3) g 241 102 rfl
  have b38 := gi_b (lo := 0) (hi := 12) g 241 106 rfl
  have b39 := gi_b (lo := 0) (hi := 12) g 241 73 rfl
  have b40 := gi_b (lo := 0) (hi := 12) g 241 2 rfl
  have b41 := gi_b (lo := 0) (hi := 9999) g 241 119 rfl
  have b42 := gi_b (lo := 0) (hi := 9999) g 241 67 rfl
  have b43 := gi_b (lo := 0) (hi := 9) g 241 69 rfl
  have b44 := gi_b (lo := 0) (hi := 9) g 241 5 rfl
  have b45 := gi_b (lo := 0) (hi := 800) g 1 1 rfl
  have b46 := gi_b (lo := 0) (hi := 800) g 236 2 rfl
  have b47 := gi_b (lo := -2147483648) (hi := 2147483647) g 1 2 rfl
  have b48 := gi_b (lo := -2147483648) (hi := 2147483647) g 236 10 rfl
  have b49 := gi_b (lo := -2147483648) (hi := 2147483647) g 1 3 rfl
  have b50 := gi_b (lo := -2147483648) (hi := 2147483647) g 236 11 rfl
  refine wi_aload_n (i := 1) (x := 0) (nx := 953) (r1 := 0) (r2 := 0) (r3 := 0) rfl rfl ?_
  refine wr_V (k0 := 0) (rest := []) (as := [.ref 0]) (nx := 956) (r1 := 39) (r2 := 0) (r3 := 0) rfl rfl rfl (of_decide_eq_true rfl) rfl rfl (by decide) rfl rfl (of_decide_eq_true rfl) (of_decide_eq_true rfl) ?_
  refine ct_39_0 hcr  g    (fun z52  (fz52 : -2147483648 ≤ z52 ∧ z52 ≤ 2147483647) => ?_)
  refine wk_i ?_
  refine wi_pop (nx := 957) (r1 := 0) (r2 := 0) (r3 := 0) rfl rfl ?_
  refine wi_aload_n (i := 2) (x := 236) (nx := 958) (r1 := 0) (r2 := 0) (r3 := 0) rfl rfl ?_
  refine wr_V (k0 := 236) (rest := []) (as := [.ref 236]) (nx := 961) (r1 := 270) (r2 := 0) (r3 := 11) rfl rfl rfl (of_decide_eq_true rfl) rfl rfl (by decide) rfl rfl (of_decide_eq_true rfl) (of_decide_eq_true rfl) ?_
  refine ct_270_236 hcr  g    (fun h53 z54 g53 u53 (fz54 : 0 ≤ z54 ∧ z54 ≤ 9) => ?_)
  refine wk_i ?_
  refine wi_pop (nx := 962) (r1 := 0) (r2 := 0) (r3 := 0) rfl rfl ?_
  refine wi_goto (nx := 965) (r1 := 1529) (r2 := 0) (r3 := 0) rfl ?_
  have e55 : h53 238 98 = h 238 98 := (u53 238 98 rfl)
  have e56 : h53 238 99 = h 238 99 := (u53 238 99 rfl)
  have e57 : h53 238 100 = h 238 100 := (u53 238 100 rfl)
  have e58 : h53 238 101 = h 238 101 := (u53 238 101 rfl)
  have e59 : h53 238 102 = h 238 102 := (u53 238 102 rfl)
  have e60 : h53 238 106 = h 238 106 := (u53 238 106 rfl)
  have e61 : h53 238 73 = h 238 73 := (u53 238 73 rfl)
  have e62 : h53 238 2 = h 238 2 := (u53 238 2 rfl)
  have e63 : h53 238 119 = h 238 119 := (u53 238 119 rfl)
  have e64 : h53 238 67 = h 238 67 := (u53 238 67 rfl)
  have e65 : h53 238 69 = h 238 69 := (u53 238 69 rfl)
  have e66 : h53 238 5 = h 238 5 := (u53 238 5 rfl)
  have e67 : h53 241 98 = h 241 98 := (u53 241 98 rfl)
  have e68 : h53 241 99 = h 241 99 := (u53 241 99 rfl)
  have e69 : h53 241 100 = h 241 100 := (u53 241 100 rfl)
  have e70 : h53 241 101 = h 241 101 := (u53 241 101 rfl)
  have e71 : h53 241 102 = h 241 102 := (u53 241 102 rfl)
  have e72 : h53 241 106 = h 241 106 := (u53 241 106 rfl)
  have e73 : h53 241 73 = h 241 73 := (u53 241 73 rfl)
  have e74 : h53 241 2 = h 241 2 := (u53 241 2 rfl)
  have e75 : h53 241 119 = h 241 119 := (u53 241 119 rfl)
  have e76 : h53 241 67 = h 241 67 := (u53 241 67 rfl)
  have e77 : h53 241 69 = h 241 69 := (u53 241 69 rfl)
  have e78 : h53 241 5 = h 241 5 := (u53 241 5 rfl)
  have e79 : h53 1 1 = h 1 1 := (u53 1 1 rfl)
  have e80 : h53 236 2 = h 236 2 := (u53 236 2 rfl)
  have e81 : h53 1 2 = h 1 2 := (u53 1 2 rfl)
  have e82 : h53 236 10 = h 236 10 := (u53 236 10 rfl)
  have e83 : h53 1 3 = h 1 3 := (u53 1 3 rfl)
  have e84 : h53 236 11 = h 236 11 := (u53 236 11 rfl)
  have gp85 := GPH.fr u53 rfl gp0
  have b86 := gi_b (lo := 0) (hi := 5) g 241 0 rfl
  have b87 := gi_b (lo := 0) (hi := 4) g 241 1 rfl
  have gs88 := GPS.fr u53 rfl gs0
  have e89 : h53 0 12 = h 0 12 := (u53 0 12 rfl)
  have e90 : h53 236 21 = h 236 21 := (u53 236 21 rfl)
  exact k h53 b c ⟨g53, (show h53 1 1 = h53 236 2 by omega), (RS.i0 (f := h53 238) (by refine ⟨?_, ?_, ?_, ?_, ?_⟩ <;> omega)), (RS.i0 (f := h53 241) (by refine ⟨?_, ?_, ?_, ?_, ?_⟩ <;> omega)), gp85, (BRh.keep br0 (fun i => (u53 2 i (fn_a (by decide) fn_0))) (fun i => (u53 237 i (fn_a (by decide) fn_0))) (by omega)), (show h53 1 2 = h53 236 10 by omega), (show h53 1 3 = h53 236 11 by omega), (SVx.keep sv0 (by omega) (fun i _ => (u53 3 i (fn_a (by decide) fn_0))) (fun i _ => (u53 5 i (fn_a (by decide) fn_0))) (fun i _ => (u53 6 i (fn_a (by decide) fn_0))) (fun i _ => (u53 8 i (fn_a (by decide) fn_0))) (fun i _ => (u53 238 i (fn_a (by decide) fn_0)))), (show h53 0 12 = h53 236 21 by omega), (fun e => (SVx.keep (ss0 (by omega)) (by omega) (fun i _ => (u53 210 i (fn_a (by decide) fn_0))) (fun i _ => (u53 212 i (fn_a (by decide) fn_0))) (fun i _ => (u53 213 i (fn_a (by decide) fn_0))) (fun i _ => (u53 215 i (fn_a (by decide) fn_0))) (fun i _ => (u53 241 i (fn_a (by decide) fn_0))))), gs88⟩ (by omega) (by omega)
-- the law, case at 965
set_option maxRecDepth 100000 in
set_option maxHeartbeats 100000000 in
theorem lc_965 {L : Nat} {xs : Nat → Int32} {d b c : Nat} {h : hp} {cr : Nat → Nat → Option Nat} {Q : hp_Q} (hcr : CR cr) (hL : L ≤ 3072) (hr : 1 ≤ b ∧ 6 ≤ c) (I : LI h) (i : Int) (hi : 0 ≤ i ∧ i + 6 ≤ L) (k : ∀ (h2 : hp) (b2 c2 : Nat), LI h2 → b ≤ b2 + 1 → c ≤ c2 + 6 → wp (md_xa (L, xs)) (d + 107) 0 (1529, [(0, .ref 1000000), (1, .ref 0), (2, .ref 236), (3, .ref 259), (4, vi i)], [], hp_w h2 cr, b2, c2) Q) : wp (md_xa (L, xs)) (d + 107) 0 (965, [(0, .ref 1000000), (1, .ref 0), (2, .ref 236), (3, .ref 259), (4, vi i)], [], hp_w h cr, b, c) Q := by
  obtain ⟨g, i11, r238, r241, gp0, br0, er2, er3, sv0, sf0, ss0, gs0⟩ := I
  have r238e := r238.e0
  have r241e := r241.e0
  obtain ⟨⟨se0, se1, se2, se3, se4, se5, se6, se7, se8, se9⟩, -⟩ := id sv0
  have b1 := gi_b (lo := 0) (hi := 5) g 3 0 rfl
  have b2 := gi_b (lo := 0) (hi := 5) g 238 0 rfl
  have b3 := gi_b (lo := 0) (hi := 4) g 3 1 rfl
  have b4 := gi_b (lo := 0) (hi := 4) g 238 1 rfl
  have b5 := gi_b (lo := 0) (hi := 12) g 3 2 rfl
  have b6 := gi_b (lo := 0) (hi := 12) g 238 2 rfl
  have b7 := gi_b (lo := -2147483648) (hi := 2147483647) g 3 3 rfl
  have b8 := gi_b (lo := 0) (hi := 999) g 238 3 rfl
  have b9 := gi_b (lo := -2147483648) (hi := 2147483647) g 3 4 rfl
  have b10 := gi_b (lo := 0) (hi := 999) g 238 4 rfl
  have b11 := gi_b (lo := -2147483648) (hi := 2147483647) g 3 5 rfl
  have b12 := gi_b (lo := 0) (hi := 9) g 238 5 rfl
  have b13 := gi_b (lo := -2147483648) (hi := 2147483647) g 3 6 rfl
  have b14 := gi_b (lo := 0) (hi := 999) g 238 6 rfl
  have b15 := gi_b (lo := -2147483648) (hi := 2147483647) g 3 7 rfl
  have b16 := gi_b (lo := 0) (hi := 3) g 238 7 rfl
  have b17 := gi_b (lo := -2147483648) (hi := 2147483647) g 3 8 rfl
  have b18 := gi_b (lo := 0) (hi := 999) g 238 8 rfl
  have b19 := gi_b (lo := -2147483648) (hi := 2147483647) g 3 9 rfl
  have b20 := gi_b (lo := 0) (hi := 999) g 238 9 rfl
  have b21 := gi_b (lo := 0) (hi := 1) g 0 12 rfl
  have b22 := gi_b (lo := 0) (hi := 1) g 236 21 rfl
  have bl_ := gi_b (lo := 0) (hi := 800) g 1 1 rfl
  have tb0 : BufC (h 2) (h 1 1) h := ⟨fun _ => rfl, rfl, by omega, by omega⟩
  have b23 := gi_b (lo := 0) (hi := 6) g 238 98 rfl
  have b24 := gi_b (lo := 0) (hi := 6) g 238 99 rfl
  have b25 := gi_b (lo := 0) (hi := 6) g 238 100 rfl
  have b26 := gi_b (lo := 0) (hi := 6) g 238 101 rfl
  have b27 := gi_b (lo := 0) (hi := 3) g 238 102 rfl
  have b28 := gi_b (lo := 0) (hi := 12) g 238 106 rfl
  have b29 := gi_b (lo := 0) (hi := 12) g 238 73 rfl
  have b30 := gi_b (lo := 0) (hi := 9999) g 238 119 rfl
  have b31 := gi_b (lo := 0) (hi := 9999) g 238 67 rfl
  have b32 := gi_b (lo := 0) (hi := 9) g 238 69 rfl
  have b33 := gi_b (lo := 0) (hi := 6) g 241 98 rfl
  have b34 := gi_b (lo := 0) (hi := 6) g 241 99 rfl
  have b35 := gi_b (lo := 0) (hi := 6) g 241 100 rfl
  have b36 := gi_b (lo := 0) (hi := 6) g 241 101 rfl
  have b37 := gi_b (lo := 0) (hi := 3) g 241 102 rfl
  have b38 := gi_b (lo := 0) (hi := 12) g 241 106 rfl
  have b39 := gi_b (lo := 0) (hi := 12) g 241 73 rfl
  have b40 := gi_b (lo := 0) (hi := 12) g 241 2 rfl
  have b41 := gi_b (lo := 0) (hi := 9999) g 241 119 rfl
  have b42 := gi_b (lo := 0) (hi := 9999) g 241 67 rfl
  have b43 := gi_b (lo := 0) (hi := 9) g 241 69 rfl
  have b44 := gi_b (lo := 0) (hi := 9) g 241 5 rfl
  have b45 := gi_b (lo := 0) (hi := 800) g 1 1 rfl
  have b46 := gi_b (lo := 0) (hi := 800) g 236 2 rfl
  have b47 := gi_b (lo := -2147483648) (hi := 2147483647) g 1 2 rfl
  have b48 := gi_b (lo := -2147483648) (hi := 2147483647) g 236 10 rfl
  have b49 := gi_b (lo := -2147483648) (hi := 2147483647) g 1 3 rfl
  have b50 := gi_b (lo := -2147483648) (hi := 2147483647) g 236 11 rfl
  refine wi_aload_n (i := 1) (x := 0) (nx := 966) (r1 := 0) (r2 := 0) (r3 := 0) rfl rfl ?_
  refine wr_V (k0 := 0) (rest := []) (as := [.ref 0]) (nx := 969) (r1 := 40) (r2 := 0) (r3 := 0) rfl rfl rfl (of_decide_eq_true rfl) rfl rfl (by decide) rfl rfl (of_decide_eq_true rfl) (of_decide_eq_true rfl) ?_
  refine ct_40_0 hcr  g    (fun z52  (fz52 : -2147483648 ≤ z52 ∧ z52 ≤ 2147483647) => ?_)
  refine wk_i ?_
  refine wi_pop (nx := 970) (r1 := 0) (r2 := 0) (r3 := 0) rfl rfl ?_
  refine wi_aload_n (i := 2) (x := 236) (nx := 971) (r1 := 0) (r2 := 0) (r3 := 0) rfl rfl ?_
  refine wr_V (k0 := 236) (rest := []) (as := [.ref 236]) (nx := 974) (r1 := 271) (r2 := 0) (r3 := 11) rfl rfl rfl (of_decide_eq_true rfl) rfl rfl (by decide) rfl rfl (of_decide_eq_true rfl) (of_decide_eq_true rfl) ?_
  refine ct_271_236 hcr  g    (fun h53 z54 g53 u53 (fz54 : 0 ≤ z54 ∧ z54 ≤ 9999) => ?_)
  refine wk_i ?_
  refine wi_pop (nx := 975) (r1 := 0) (r2 := 0) (r3 := 0) rfl rfl ?_
  refine wi_goto (nx := 978) (r1 := 1529) (r2 := 0) (r3 := 0) rfl ?_
  have e55 : h53 238 98 = h 238 98 := (u53 238 98 rfl)
  have e56 : h53 238 99 = h 238 99 := (u53 238 99 rfl)
  have e57 : h53 238 100 = h 238 100 := (u53 238 100 rfl)
  have e58 : h53 238 101 = h 238 101 := (u53 238 101 rfl)
  have e59 : h53 238 102 = h 238 102 := (u53 238 102 rfl)
  have e60 : h53 238 106 = h 238 106 := (u53 238 106 rfl)
  have e61 : h53 238 73 = h 238 73 := (u53 238 73 rfl)
  have e62 : h53 238 2 = h 238 2 := (u53 238 2 rfl)
  have e63 : h53 238 119 = h 238 119 := (u53 238 119 rfl)
  have e64 : h53 238 67 = h 238 67 := (u53 238 67 rfl)
  have e65 : h53 238 69 = h 238 69 := (u53 238 69 rfl)
  have e66 : h53 238 5 = h 238 5 := (u53 238 5 rfl)
  have e67 : h53 241 98 = h 241 98 := (u53 241 98 rfl)
  have e68 : h53 241 99 = h 241 99 := (u53 241 99 rfl)
  have e69 : h53 241 100 = h 241 100 := (u53 241 100 rfl)
  have e70 : h53 241 101 = h 241 101 := (u53 241 101 rfl)
  have e71 : h53 241 102 = h 241 102 := (u53 241 102 rfl)
  have e72 : h53 241 106 = h 241 106 := (u53 241 106 rfl)
  have e73 : h53 241 73 = h 241 73 := (u53 241 73 rfl)
  have e74 : h53 241 2 = h 241 2 := (u53 241 2 rfl)
  have e75 : h53 241 119 = h 241 119 := (u53 241 119 rfl)
  have e76 : h53 241 67 = h 241 67 := (u53 241 67 rfl)
  have e77 : h53 241 69 = h 241 69 := (u53 241 69 rfl)
  have e78 : h53 241 5 = h 241 5 := (u53 241 5 rfl)
  have e79 : h53 1 1 = h 1 1 := (u53 1 1 rfl)
  have e80 : h53 236 2 = h 236 2 := (u53 236 2 rfl)
  have e81 : h53 1 2 = h 1 2 := (u53 1 2 rfl)
  have e82 : h53 236 10 = h 236 10 := (u53 236 10 rfl)
  have e83 : h53 1 3 = h 1 3 := (u53 1 3 rfl)
  have e84 : h53 236 11 = h 236 11 := (u53 236 11 rfl)
  have gp85 := GPH.fr u53 rfl gp0
  have b86 := gi_b (lo := 0) (hi := 5) g 241 0 rfl
  have b87 := gi_b (lo := 0) (hi := 4) g 241 1 rfl
  have gs88 := GPS.fr u53 rfl gs0
  have e89 : h53 0 12 = h 0 12 := (u53 0 12 rfl)
  have e90 : h53 236 21 = h 236 21 := (u53 236 21 rfl)
  exact k h53 b c ⟨g53, (show h53 1 1 = h53 236 2 by omega), (RS.i0 (f := h53 238) (by refine ⟨?_, ?_, ?_, ?_, ?_⟩ <;> omega)), (RS.i0 (f := h53 241) (by refine ⟨?_, ?_, ?_, ?_, ?_⟩ <;> omega)), gp85, (BRh.keep br0 (fun i => (u53 2 i (fn_a (by decide) fn_0))) (fun i => (u53 237 i (fn_a (by decide) fn_0))) (by omega)), (show h53 1 2 = h53 236 10 by omega), (show h53 1 3 = h53 236 11 by omega), (SVx.keep sv0 (by omega) (fun i _ => (u53 3 i (fn_a (by decide) fn_0))) (fun i _ => (u53 5 i (fn_a (by decide) fn_0))) (fun i _ => (u53 6 i (fn_a (by decide) fn_0))) (fun i _ => (u53 8 i (fn_a (by decide) fn_0))) (fun i _ => (u53 238 i (fn_a (by decide) fn_0)))), (show h53 0 12 = h53 236 21 by omega), (fun e => (SVx.keep (ss0 (by omega)) (by omega) (fun i _ => (u53 210 i (fn_a (by decide) fn_0))) (fun i _ => (u53 212 i (fn_a (by decide) fn_0))) (fun i _ => (u53 213 i (fn_a (by decide) fn_0))) (fun i _ => (u53 215 i (fn_a (by decide) fn_0))) (fun i _ => (u53 241 i (fn_a (by decide) fn_0))))), gs88⟩ (by omega) (by omega)
-- the law, case at 978
set_option maxRecDepth 100000 in
set_option maxHeartbeats 100000000 in
theorem lc_978 {L : Nat} {xs : Nat → Int32} {d b c : Nat} {h : hp} {cr : Nat → Nat → Option Nat} {Q : hp_Q} (hcr : CR cr) (hL : L ≤ 3072) (hr : 1 ≤ b ∧ 6 ≤ c) (I : LI h) (i : Int) (hi : 0 ≤ i ∧ i + 6 ≤ L) (k : ∀ (h2 : hp) (b2 c2 : Nat), LI h2 → b ≤ b2 + 1 → c ≤ c2 + 6 → wp (md_xa (L, xs)) (d + 107) 0 (1529, [(0, .ref 1000000), (1, .ref 0), (2, .ref 236), (3, .ref 259), (4, vi i)], [], hp_w h2 cr, b2, c2) Q) : wp (md_xa (L, xs)) (d + 107) 0 (978, [(0, .ref 1000000), (1, .ref 0), (2, .ref 236), (3, .ref 259), (4, vi i)], [], hp_w h cr, b, c) Q := by
  obtain ⟨g, i11, r238, r241, gp0, br0, er2, er3, sv0, sf0, ss0, gs0⟩ := I
  have r238e := r238.e0
  have r241e := r241.e0
  obtain ⟨⟨se0, se1, se2, se3, se4, se5, se6, se7, se8, se9⟩, -⟩ := id sv0
  have b1 := gi_b (lo := 0) (hi := 5) g 3 0 rfl
  have b2 := gi_b (lo := 0) (hi := 5) g 238 0 rfl
  have b3 := gi_b (lo := 0) (hi := 4) g 3 1 rfl
  have b4 := gi_b (lo := 0) (hi := 4) g 238 1 rfl
  have b5 := gi_b (lo := 0) (hi := 12) g 3 2 rfl
  have b6 := gi_b (lo := 0) (hi := 12) g 238 2 rfl
  have b7 := gi_b (lo := -2147483648) (hi := 2147483647) g 3 3 rfl
  have b8 := gi_b (lo := 0) (hi := 999) g 238 3 rfl
  have b9 := gi_b (lo := -2147483648) (hi := 2147483647) g 3 4 rfl
  have b10 := gi_b (lo := 0) (hi := 999) g 238 4 rfl
  have b11 := gi_b (lo := -2147483648) (hi := 2147483647) g 3 5 rfl
  have b12 := gi_b (lo := 0) (hi := 9) g 238 5 rfl
  have b13 := gi_b (lo := -2147483648) (hi := 2147483647) g 3 6 rfl
  have b14 := gi_b (lo := 0) (hi := 999) g 238 6 rfl
  have b15 := gi_b (lo := -2147483648) (hi := 2147483647) g 3 7 rfl
  have b16 := gi_b (lo := 0) (hi := 3) g 238 7 rfl
  have b17 := gi_b (lo := -2147483648) (hi := 2147483647) g 3 8 rfl
  have b18 := gi_b (lo := 0) (hi := 999) g 238 8 rfl
  have b19 := gi_b (lo := -2147483648) (hi := 2147483647) g 3 9 rfl
  have b20 := gi_b (lo := 0) (hi := 999) g 238 9 rfl
  have b21 := gi_b (lo := 0) (hi := 1) g 0 12 rfl
  have b22 := gi_b (lo := 0) (hi := 1) g 236 21 rfl
  have bl_ := gi_b (lo := 0) (hi := 800) g 1 1 rfl
  have tb0 : BufC (h 2) (h 1 1) h := ⟨fun _ => rfl, rfl, by omega, by omega⟩
  have b23 := gi_b (lo := 0) (hi := 6) g 238 98 rfl
  have b24 := gi_b (lo := 0) (hi := 6) g 238 99 rfl
  have b25 := gi_b (lo := 0) (hi := 6) g 238 100 rfl
  have b26 := gi_b (lo := 0) (hi := 6) g 238 101 rfl
  have b27 := gi_b (lo := 0) (hi := 3) g 238 102 rfl
  have b28 := gi_b (lo := 0) (hi := 12) g 238 106 rfl
  have b29 := gi_b (lo := 0) (hi := 12) g 238 73 rfl
  have b30 := gi_b (lo := 0) (hi := 9999) g 238 119 rfl
  have b31 := gi_b (lo := 0) (hi := 9999) g 238 67 rfl
  have b32 := gi_b (lo := 0) (hi := 9) g 238 69 rfl
  have b33 := gi_b (lo := 0) (hi := 6) g 241 98 rfl
  have b34 := gi_b (lo := 0) (hi := 6) g 241 99 rfl
  have b35 := gi_b (lo := 0) (hi := 6) g 241 100 rfl
  have b36 := gi_b (lo := 0) (hi := 6) g 241 101 rfl
  have b37 := gi_b (lo := 0) (hi := 3) g 241 102 rfl
  have b38 := gi_b (lo := 0) (hi := 12) g 241 106 rfl
  have b39 := gi_b (lo := 0) (hi := 12) g 241 73 rfl
  have b40 := gi_b (lo := 0) (hi := 12) g 241 2 rfl
  have b41 := gi_b (lo := 0) (hi := 9999) g 241 119 rfl
  have b42 := gi_b (lo := 0) (hi := 9999) g 241 67 rfl
  have b43 := gi_b (lo := 0) (hi := 9) g 241 69 rfl
  have b44 := gi_b (lo := 0) (hi := 9) g 241 5 rfl
  have b45 := gi_b (lo := 0) (hi := 800) g 1 1 rfl
  have b46 := gi_b (lo := 0) (hi := 800) g 236 2 rfl
  have b47 := gi_b (lo := -2147483648) (hi := 2147483647) g 1 2 rfl
  have b48 := gi_b (lo := -2147483648) (hi := 2147483647) g 236 10 rfl
  have b49 := gi_b (lo := -2147483648) (hi := 2147483647) g 1 3 rfl
  have b50 := gi_b (lo := -2147483648) (hi := 2147483647) g 236 11 rfl
  refine wi_aload_n (i := 1) (x := 0) (nx := 979) (r1 := 0) (r2 := 0) (r3 := 0) rfl rfl ?_
  refine wr_V (k0 := 0) (rest := []) (as := [.ref 0]) (nx := 982) (r1 := 41) (r2 := 0) (r3 := 0) rfl rfl rfl (of_decide_eq_true rfl) rfl rfl (by decide) rfl rfl (of_decide_eq_true rfl) (of_decide_eq_true rfl) ?_
  refine ct_41_0 hcr  g    (fun z52  (fz52 : -2147483648 ≤ z52 ∧ z52 ≤ 2147483647) => ?_)
  refine wk_i ?_
  refine wi_pop (nx := 983) (r1 := 0) (r2 := 0) (r3 := 0) rfl rfl ?_
  refine wi_aload_n (i := 2) (x := 236) (nx := 984) (r1 := 0) (r2 := 0) (r3 := 0) rfl rfl ?_
  refine wr_V (k0 := 236) (rest := []) (as := [.ref 236]) (nx := 987) (r1 := 272) (r2 := 0) (r3 := 11) rfl rfl rfl (of_decide_eq_true rfl) rfl rfl (by decide) rfl rfl (of_decide_eq_true rfl) (of_decide_eq_true rfl) ?_
  refine ct_272_236 hcr  g    (fun h53 z54 g53 u53 (fz54 : -2147483648 ≤ z54 ∧ z54 ≤ 2147483647) => ?_)
  refine wk_i ?_
  refine wi_pop (nx := 988) (r1 := 0) (r2 := 0) (r3 := 0) rfl rfl ?_
  refine wi_goto (nx := 991) (r1 := 1529) (r2 := 0) (r3 := 0) rfl ?_
  have e55 : h53 238 98 = h 238 98 := (u53 238 98 rfl)
  have e56 : h53 238 99 = h 238 99 := (u53 238 99 rfl)
  have e57 : h53 238 100 = h 238 100 := (u53 238 100 rfl)
  have e58 : h53 238 101 = h 238 101 := (u53 238 101 rfl)
  have e59 : h53 238 102 = h 238 102 := (u53 238 102 rfl)
  have e60 : h53 238 106 = h 238 106 := (u53 238 106 rfl)
  have e61 : h53 238 73 = h 238 73 := (u53 238 73 rfl)
  have e62 : h53 238 2 = h 238 2 := (u53 238 2 rfl)
  have e63 : h53 238 119 = h 238 119 := (u53 238 119 rfl)
  have e64 : h53 238 67 = h 238 67 := (u53 238 67 rfl)
  have e65 : h53 238 69 = h 238 69 := (u53 238 69 rfl)
  have e66 : h53 238 5 = h 238 5 := (u53 238 5 rfl)
  have e67 : h53 241 98 = h 241 98 := (u53 241 98 rfl)
  have e68 : h53 241 99 = h 241 99 := (u53 241 99 rfl)
  have e69 : h53 241 100 = h 241 100 := (u53 241 100 rfl)
  have e70 : h53 241 101 = h 241 101 := (u53 241 101 rfl)
  have e71 : h53 241 102 = h 241 102 := (u53 241 102 rfl)
  have e72 : h53 241 106 = h 241 106 := (u53 241 106 rfl)
  have e73 : h53 241 73 = h 241 73 := (u53 241 73 rfl)
  have e74 : h53 241 2 = h 241 2 := (u53 241 2 rfl)
  have e75 : h53 241 119 = h 241 119 := (u53 241 119 rfl)
  have e76 : h53 241 67 = h 241 67 := (u53 241 67 rfl)
  have e77 : h53 241 69 = h 241 69 := (u53 241 69 rfl)
  have e78 : h53 241 5 = h 241 5 := (u53 241 5 rfl)
  have e79 : h53 1 1 = h 1 1 := (u53 1 1 rfl)
  have e80 : h53 236 2 = h 236 2 := (u53 236 2 rfl)
  have e81 : h53 1 2 = h 1 2 := (u53 1 2 rfl)
  have e82 : h53 236 10 = h 236 10 := (u53 236 10 rfl)
  have e83 : h53 1 3 = h 1 3 := (u53 1 3 rfl)
  have e84 : h53 236 11 = h 236 11 := (u53 236 11 rfl)
  have gp85 := GPH.fr u53 rfl gp0
  have b86 := gi_b (lo := 0) (hi := 5) g 241 0 rfl
  have b87 := gi_b (lo := 0) (hi := 4) g 241 1 rfl
  have gs88 := GPS.fr u53 rfl gs0
  have e89 : h53 0 12 = h 0 12 := (u53 0 12 rfl)
  have e90 : h53 236 21 = h 236 21 := (u53 236 21 rfl)
  exact k h53 b c ⟨g53, (show h53 1 1 = h53 236 2 by omega), (RS.i0 (f := h53 238) (by refine ⟨?_, ?_, ?_, ?_, ?_⟩ <;> omega)), (RS.i0 (f := h53 241) (by refine ⟨?_, ?_, ?_, ?_, ?_⟩ <;> omega)), gp85, (BRh.keep br0 (fun i => (u53 2 i (fn_a (by decide) fn_0))) (fun i => (u53 237 i (fn_a (by decide) fn_0))) (by omega)), (show h53 1 2 = h53 236 10 by omega), (show h53 1 3 = h53 236 11 by omega), (SVx.keep sv0 (by omega) (fun i _ => (u53 3 i (fn_a (by decide) fn_0))) (fun i _ => (u53 5 i (fn_a (by decide) fn_0))) (fun i _ => (u53 6 i (fn_a (by decide) fn_0))) (fun i _ => (u53 8 i (fn_a (by decide) fn_0))) (fun i _ => (u53 238 i (fn_a (by decide) fn_0)))), (show h53 0 12 = h53 236 21 by omega), (fun e => (SVx.keep (ss0 (by omega)) (by omega) (fun i _ => (u53 210 i (fn_a (by decide) fn_0))) (fun i _ => (u53 212 i (fn_a (by decide) fn_0))) (fun i _ => (u53 213 i (fn_a (by decide) fn_0))) (fun i _ => (u53 215 i (fn_a (by decide) fn_0))) (fun i _ => (u53 241 i (fn_a (by decide) fn_0))))), gs88⟩ (by omega) (by omega)
-- the law, case at 991
set_option maxRecDepth 100000 in
set_option maxHeartbeats 100000000 in
theorem lc_991 {L : Nat} {xs : Nat → Int32} {d b c : Nat} {h : hp} {cr : Nat → Nat → Option Nat} {Q : hp_Q} (hcr : CR cr) (hL : L ≤ 3072) (hr : 1 ≤ b ∧ 6 ≤ c) (I : LI h) (i : Int) (hi : 0 ≤ i ∧ i + 6 ≤ L) (k : ∀ (h2 : hp) (b2 c2 : Nat), LI h2 → b ≤ b2 + 1 → c ≤ c2 + 6 → wp (md_xa (L, xs)) (d + 107) 0 (1529, [(0, .ref 1000000), (1, .ref 0), (2, .ref 236), (3, .ref 259), (4, vi i)], [], hp_w h2 cr, b2, c2) Q) : wp (md_xa (L, xs)) (d + 107) 0 (991, [(0, .ref 1000000), (1, .ref 0), (2, .ref 236), (3, .ref 259), (4, vi i)], [], hp_w h cr, b, c) Q := by
  obtain ⟨g, i11, r238, r241, gp0, br0, er2, er3, sv0, sf0, ss0, gs0⟩ := I
  have r238e := r238.e0
  have r241e := r241.e0
  obtain ⟨⟨se0, se1, se2, se3, se4, se5, se6, se7, se8, se9⟩, -⟩ := id sv0
  have b1 := gi_b (lo := 0) (hi := 5) g 3 0 rfl
  have b2 := gi_b (lo := 0) (hi := 5) g 238 0 rfl
  have b3 := gi_b (lo := 0) (hi := 4) g 3 1 rfl
  have b4 := gi_b (lo := 0) (hi := 4) g 238 1 rfl
  have b5 := gi_b (lo := 0) (hi := 12) g 3 2 rfl
  have b6 := gi_b (lo := 0) (hi := 12) g 238 2 rfl
  have b7 := gi_b (lo := -2147483648) (hi := 2147483647) g 3 3 rfl
  have b8 := gi_b (lo := 0) (hi := 999) g 238 3 rfl
  have b9 := gi_b (lo := -2147483648) (hi := 2147483647) g 3 4 rfl
  have b10 := gi_b (lo := 0) (hi := 999) g 238 4 rfl
  have b11 := gi_b (lo := -2147483648) (hi := 2147483647) g 3 5 rfl
  have b12 := gi_b (lo := 0) (hi := 9) g 238 5 rfl
  have b13 := gi_b (lo := -2147483648) (hi := 2147483647) g 3 6 rfl
  have b14 := gi_b (lo := 0) (hi := 999) g 238 6 rfl
  have b15 := gi_b (lo := -2147483648) (hi := 2147483647) g 3 7 rfl
  have b16 := gi_b (lo := 0) (hi := 3) g 238 7 rfl
  have b17 := gi_b (lo := -2147483648) (hi := 2147483647) g 3 8 rfl
  have b18 := gi_b (lo := 0) (hi := 999) g 238 8 rfl
  have b19 := gi_b (lo := -2147483648) (hi := 2147483647) g 3 9 rfl
  have b20 := gi_b (lo := 0) (hi := 999) g 238 9 rfl
  have b21 := gi_b (lo := 0) (hi := 1) g 0 12 rfl
  have b22 := gi_b (lo := 0) (hi := 1) g 236 21 rfl
  have bl_ := gi_b (lo := 0) (hi := 800) g 1 1 rfl
  have tb0 : BufC (h 2) (h 1 1) h := ⟨fun _ => rfl, rfl, by omega, by omega⟩
  have b23 := gi_b (lo := 0) (hi := 6) g 238 98 rfl
  have b24 := gi_b (lo := 0) (hi := 6) g 238 99 rfl
  have b25 := gi_b (lo := 0) (hi := 6) g 238 100 rfl
  have b26 := gi_b (lo := 0) (hi := 6) g 238 101 rfl
  have b27 := gi_b (lo := 0) (hi := 3) g 238 102 rfl
  have b28 := gi_b (lo := 0) (hi := 12) g 238 106 rfl
  have b29 := gi_b (lo := 0) (hi := 12) g 238 73 rfl
  have b30 := gi_b (lo := 0) (hi := 9999) g 238 119 rfl
  have b31 := gi_b (lo := 0) (hi := 9999) g 238 67 rfl
  have b32 := gi_b (lo := 0) (hi := 9) g 238 69 rfl
  have b33 := gi_b (lo := 0) (hi := 6) g 241 98 rfl
  have b34 := gi_b (lo := 0) (hi := 6) g 241 99 rfl
  have b35 := gi_b (lo := 0) (hi := 6) g 241 100 rfl
  have b36 := gi_b (lo := 0) (hi := 6) g 241 101 rfl
  have b37 := gi_b (lo := 0) (hi := 3) g 241 102 rfl
  have b38 := gi_b (lo := 0) (hi := 12) g 241 106 rfl
  have b39 := gi_b (lo := 0) (hi := 12) g 241 73 rfl
  have b40 := gi_b (lo := 0) (hi := 12) g 241 2 rfl
  have b41 := gi_b (lo := 0) (hi := 9999) g 241 119 rfl
  have b42 := gi_b (lo := 0) (hi := 9999) g 241 67 rfl
  have b43 := gi_b (lo := 0) (hi := 9) g 241 69 rfl
  have b44 := gi_b (lo := 0) (hi := 9) g 241 5 rfl
  have b45 := gi_b (lo := 0) (hi := 800) g 1 1 rfl
  have b46 := gi_b (lo := 0) (hi := 800) g 236 2 rfl
  have b47 := gi_b (lo := -2147483648) (hi := 2147483647) g 1 2 rfl
  have b48 := gi_b (lo := -2147483648) (hi := 2147483647) g 236 10 rfl
  have b49 := gi_b (lo := -2147483648) (hi := 2147483647) g 1 3 rfl
  have b50 := gi_b (lo := -2147483648) (hi := 2147483647) g 236 11 rfl
  refine wi_aload_n (i := 1) (x := 0) (nx := 992) (r1 := 0) (r2 := 0) (r3 := 0) rfl rfl ?_
  refine wr_V (k0 := 0) (rest := []) (as := [.ref 0]) (nx := 995) (r1 := 42) (r2 := 0) (r3 := 0) rfl rfl rfl (of_decide_eq_true rfl) rfl rfl (by decide) rfl rfl (of_decide_eq_true rfl) (of_decide_eq_true rfl) ?_
  refine ct_42_0 hcr  g    (fun z52  (fz52 : -2147483648 ≤ z52 ∧ z52 ≤ 2147483647) => ?_)
  refine wk_i ?_
  refine wi_pop (nx := 996) (r1 := 0) (r2 := 0) (r3 := 0) rfl rfl ?_
  refine wi_aload_n (i := 2) (x := 236) (nx := 997) (r1 := 0) (r2 := 0) (r3 := 0) rfl rfl ?_
  refine wr_V (k0 := 236) (rest := []) (as := [.ref 236]) (nx := 1000) (r1 := 273) (r2 := 0) (r3 := 11) rfl rfl rfl (of_decide_eq_true rfl) rfl rfl (by decide) rfl rfl (of_decide_eq_true rfl) (of_decide_eq_true rfl) ?_
  refine ct_273_236 hcr  g    (fun h53 z54 g53 u53 (fz54 : -2147483648 ≤ z54 ∧ z54 ≤ 2147483647) => ?_)
  refine wk_i ?_
  refine wi_pop (nx := 1001) (r1 := 0) (r2 := 0) (r3 := 0) rfl rfl ?_
  refine wi_goto (nx := 1004) (r1 := 1529) (r2 := 0) (r3 := 0) rfl ?_
  have e55 : h53 238 98 = h 238 98 := (u53 238 98 rfl)
  have e56 : h53 238 99 = h 238 99 := (u53 238 99 rfl)
  have e57 : h53 238 100 = h 238 100 := (u53 238 100 rfl)
  have e58 : h53 238 101 = h 238 101 := (u53 238 101 rfl)
  have e59 : h53 238 102 = h 238 102 := (u53 238 102 rfl)
  have e60 : h53 238 106 = h 238 106 := (u53 238 106 rfl)
  have e61 : h53 238 73 = h 238 73 := (u53 238 73 rfl)
  have e62 : h53 238 2 = h 238 2 := (u53 238 2 rfl)
  have e63 : h53 238 119 = h 238 119 := (u53 238 119 rfl)
  have e64 : h53 238 67 = h 238 67 := (u53 238 67 rfl)
  have e65 : h53 238 69 = h 238 69 := (u53 238 69 rfl)
  have e66 : h53 238 5 = h 238 5 := (u53 238 5 rfl)
  have e67 : h53 241 98 = h 241 98 := (u53 241 98 rfl)
  have e68 : h53 241 99 = h 241 99 := (u53 241 99 rfl)
  have e69 : h53 241 100 = h 241 100 := (u53 241 100 rfl)
  have e70 : h53 241 101 = h 241 101 := (u53 241 101 rfl)
  have e71 : h53 241 102 = h 241 102 := (u53 241 102 rfl)
  have e72 : h53 241 106 = h 241 106 := (u53 241 106 rfl)
  have e73 : h53 241 73 = h 241 73 := (u53 241 73 rfl)
  have e74 : h53 241 2 = h 241 2 := (u53 241 2 rfl)
  have e75 : h53 241 119 = h 241 119 := (u53 241 119 rfl)
  have e76 : h53 241 67 = h 241 67 := (u53 241 67 rfl)
  have e77 : h53 241 69 = h 241 69 := (u53 241 69 rfl)
  have e78 : h53 241 5 = h 241 5 := (u53 241 5 rfl)
  have e79 : h53 1 1 = h 1 1 := (u53 1 1 rfl)
  have e80 : h53 236 2 = h 236 2 := (u53 236 2 rfl)
  have e81 : h53 1 2 = h 1 2 := (u53 1 2 rfl)
  have e82 : h53 236 10 = h 236 10 := (u53 236 10 rfl)
  have e83 : h53 1 3 = h 1 3 := (u53 1 3 rfl)
  have e84 : h53 236 11 = h 236 11 := (u53 236 11 rfl)
  have gp85 := GPH.fr u53 rfl gp0
  have b86 := gi_b (lo := 0) (hi := 5) g 241 0 rfl
  have b87 := gi_b (lo := 0) (hi := 4) g 241 1 rfl
  have gs88 := GPS.fr u53 rfl gs0
  have e89 : h53 0 12 = h 0 12 := (u53 0 12 rfl)
  have e90 : h53 236 21 = h 236 21 := (u53 236 21 rfl)
  exact k h53 b c ⟨g53, (show h53 1 1 = h53 236 2 by omega), (RS.i0 (f := h53 238) (by refine ⟨?_, ?_, ?_, ?_, ?_⟩ <;> omega)), (RS.i0 (f := h53 241) (by refine ⟨?_, ?_, ?_, ?_, ?_⟩ <;> omega)), gp85, (BRh.keep br0 (fun i => (u53 2 i (fn_a (by decide) fn_0))) (fun i => (u53 237 i (fn_a (by decide) fn_0))) (by omega)), (show h53 1 2 = h53 236 10 by omega), (show h53 1 3 = h53 236 11 by omega), (SVx.keep sv0 (by omega) (fun i _ => (u53 3 i (fn_a (by decide) fn_0))) (fun i _ => (u53 5 i (fn_a (by decide) fn_0))) (fun i _ => (u53 6 i (fn_a (by decide) fn_0))) (fun i _ => (u53 8 i (fn_a (by decide) fn_0))) (fun i _ => (u53 238 i (fn_a (by decide) fn_0)))), (show h53 0 12 = h53 236 21 by omega), (fun e => (SVx.keep (ss0 (by omega)) (by omega) (fun i _ => (u53 210 i (fn_a (by decide) fn_0))) (fun i _ => (u53 212 i (fn_a (by decide) fn_0))) (fun i _ => (u53 213 i (fn_a (by decide) fn_0))) (fun i _ => (u53 215 i (fn_a (by decide) fn_0))) (fun i _ => (u53 241 i (fn_a (by decide) fn_0))))), gs88⟩ (by omega) (by omega)
-- the law, case at 1004
set_option maxRecDepth 100000 in
set_option maxHeartbeats 100000000 in
theorem lc_1004 {L : Nat} {xs : Nat → Int32} {d b c : Nat} {h : hp} {cr : Nat → Nat → Option Nat} {Q : hp_Q} (hcr : CR cr) (hL : L ≤ 3072) (hr : 1 ≤ b ∧ 6 ≤ c) (I : LI h) (i : Int) (hi : 0 ≤ i ∧ i + 6 ≤ L) (k : ∀ (h2 : hp) (b2 c2 : Nat), LI h2 → b ≤ b2 + 1 → c ≤ c2 + 6 → wp (md_xa (L, xs)) (d + 107) 0 (1529, [(0, .ref 1000000), (1, .ref 0), (2, .ref 236), (3, .ref 259), (4, vi i)], [], hp_w h2 cr, b2, c2) Q) : wp (md_xa (L, xs)) (d + 107) 0 (1004, [(0, .ref 1000000), (1, .ref 0), (2, .ref 236), (3, .ref 259), (4, vi i)], [], hp_w h cr, b, c) Q := by
  obtain ⟨g, i11, r238, r241, gp0, br0, er2, er3, sv0, sf0, ss0, gs0⟩ := I
  have r238e := r238.e0
  have r241e := r241.e0
  obtain ⟨⟨se0, se1, se2, se3, se4, se5, se6, se7, se8, se9⟩, -⟩ := id sv0
  have b1 := gi_b (lo := 0) (hi := 5) g 3 0 rfl
  have b2 := gi_b (lo := 0) (hi := 5) g 238 0 rfl
  have b3 := gi_b (lo := 0) (hi := 4) g 3 1 rfl
  have b4 := gi_b (lo := 0) (hi := 4) g 238 1 rfl
  have b5 := gi_b (lo := 0) (hi := 12) g 3 2 rfl
  have b6 := gi_b (lo := 0) (hi := 12) g 238 2 rfl
  have b7 := gi_b (lo := -2147483648) (hi := 2147483647) g 3 3 rfl
  have b8 := gi_b (lo := 0) (hi := 999) g 238 3 rfl
  have b9 := gi_b (lo := -2147483648) (hi := 2147483647) g 3 4 rfl
  have b10 := gi_b (lo := 0) (hi := 999) g 238 4 rfl
  have b11 := gi_b (lo := -2147483648) (hi := 2147483647) g 3 5 rfl
  have b12 := gi_b (lo := 0) (hi := 9) g 238 5 rfl
  have b13 := gi_b (lo := -2147483648) (hi := 2147483647) g 3 6 rfl
  have b14 := gi_b (lo := 0) (hi := 999) g 238 6 rfl
  have b15 := gi_b (lo := -2147483648) (hi := 2147483647) g 3 7 rfl
  have b16 := gi_b (lo := 0) (hi := 3) g 238 7 rfl
  have b17 := gi_b (lo := -2147483648) (hi := 2147483647) g 3 8 rfl
  have b18 := gi_b (lo := 0) (hi := 999) g 238 8 rfl
  have b19 := gi_b (lo := -2147483648) (hi := 2147483647) g 3 9 rfl
  have b20 := gi_b (lo := 0) (hi := 999) g 238 9 rfl
  have b21 := gi_b (lo := 0) (hi := 1) g 0 12 rfl
  have b22 := gi_b (lo := 0) (hi := 1) g 236 21 rfl
  have bl_ := gi_b (lo := 0) (hi := 800) g 1 1 rfl
  have tb0 : BufC (h 2) (h 1 1) h := ⟨fun _ => rfl, rfl, by omega, by omega⟩
  have b23 := gi_b (lo := 0) (hi := 6) g 238 98 rfl
  have b24 := gi_b (lo := 0) (hi := 6) g 238 99 rfl
  have b25 := gi_b (lo := 0) (hi := 6) g 238 100 rfl
  have b26 := gi_b (lo := 0) (hi := 6) g 238 101 rfl
  have b27 := gi_b (lo := 0) (hi := 3) g 238 102 rfl
  have b28 := gi_b (lo := 0) (hi := 12) g 238 106 rfl
  have b29 := gi_b (lo := 0) (hi := 12) g 238 73 rfl
  have b30 := gi_b (lo := 0) (hi := 9999) g 238 119 rfl
  have b31 := gi_b (lo := 0) (hi := 9999) g 238 67 rfl
  have b32 := gi_b (lo := 0) (hi := 9) g 238 69 rfl
  have b33 := gi_b (lo := 0) (hi := 6) g 241 98 rfl
  have b34 := gi_b (lo := 0) (hi := 6) g 241 99 rfl
  have b35 := gi_b (lo := 0) (hi := 6) g 241 100 rfl
  have b36 := gi_b (lo := 0) (hi := 6) g 241 101 rfl
  have b37 := gi_b (lo := 0) (hi := 3) g 241 102 rfl
  have b38 := gi_b (lo := 0) (hi := 12) g 241 106 rfl
  have b39 := gi_b (lo := 0) (hi := 12) g 241 73 rfl
  have b40 := gi_b (lo := 0) (hi := 12) g 241 2 rfl
  have b41 := gi_b (lo := 0) (hi := 9999) g 241 119 rfl
  have b42 := gi_b (lo := 0) (hi := 9999) g 241 67 rfl
  have b43 := gi_b (lo := 0) (hi := 9) g 241 69 rfl
  have b44 := gi_b (lo := 0) (hi := 9) g 241 5 rfl
  have b45 := gi_b (lo := 0) (hi := 800) g 1 1 rfl
  have b46 := gi_b (lo := 0) (hi := 800) g 236 2 rfl
  have b47 := gi_b (lo := -2147483648) (hi := 2147483647) g 1 2 rfl
  have b48 := gi_b (lo := -2147483648) (hi := 2147483647) g 236 10 rfl
  have b49 := gi_b (lo := -2147483648) (hi := 2147483647) g 1 3 rfl
  have b50 := gi_b (lo := -2147483648) (hi := 2147483647) g 236 11 rfl
  refine wi_aload_n (i := 1) (x := 0) (nx := 1005) (r1 := 0) (r2 := 0) (r3 := 0) rfl rfl ?_
  refine wr_V (k0 := 0) (rest := []) (as := [.ref 0]) (nx := 1008) (r1 := 43) (r2 := 0) (r3 := 0) rfl rfl rfl (of_decide_eq_true rfl) rfl rfl (by decide) rfl rfl (of_decide_eq_true rfl) (of_decide_eq_true rfl) ?_
  refine ct_43_0 hcr  g    (fun z52  (fz52 : -2147483648 ≤ z52 ∧ z52 ≤ 2147483647) => ?_)
  refine wk_i ?_
  refine wi_pop (nx := 1009) (r1 := 0) (r2 := 0) (r3 := 0) rfl rfl ?_
  refine wi_aload_n (i := 2) (x := 236) (nx := 1010) (r1 := 0) (r2 := 0) (r3 := 0) rfl rfl ?_
  refine wr_V (k0 := 236) (rest := []) (as := [.ref 236]) (nx := 1013) (r1 := 274) (r2 := 0) (r3 := 11) rfl rfl rfl (of_decide_eq_true rfl) rfl rfl (by decide) rfl rfl (of_decide_eq_true rfl) (of_decide_eq_true rfl) ?_
  refine ct_274_236 hcr  g    (fun h53 z54 g53 u53 (fz54 : -2147483648 ≤ z54 ∧ z54 ≤ 2147483647) => ?_)
  refine wk_i ?_
  refine wi_pop (nx := 1014) (r1 := 0) (r2 := 0) (r3 := 0) rfl rfl ?_
  refine wi_goto (nx := 1017) (r1 := 1529) (r2 := 0) (r3 := 0) rfl ?_
  have e55 : h53 238 98 = h 238 98 := (u53 238 98 rfl)
  have e56 : h53 238 99 = h 238 99 := (u53 238 99 rfl)
  have e57 : h53 238 100 = h 238 100 := (u53 238 100 rfl)
  have e58 : h53 238 101 = h 238 101 := (u53 238 101 rfl)
  have e59 : h53 238 102 = h 238 102 := (u53 238 102 rfl)
  have e60 : h53 238 106 = h 238 106 := (u53 238 106 rfl)
  have e61 : h53 238 73 = h 238 73 := (u53 238 73 rfl)
  have e62 : h53 238 2 = h 238 2 := (u53 238 2 rfl)
  have e63 : h53 238 119 = h 238 119 := (u53 238 119 rfl)
  have e64 : h53 238 67 = h 238 67 := (u53 238 67 rfl)
  have e65 : h53 238 69 = h 238 69 := (u53 238 69 rfl)
  have e66 : h53 238 5 = h 238 5 := (u53 238 5 rfl)
  have e67 : h53 241 98 = h 241 98 := (u53 241 98 rfl)
  have e68 : h53 241 99 = h 241 99 := (u53 241 99 rfl)
  have e69 : h53 241 100 = h 241 100 := (u53 241 100 rfl)
  have e70 : h53 241 101 = h 241 101 := (u53 241 101 rfl)
  have e71 : h53 241 102 = h 241 102 := (u53 241 102 rfl)
  have e72 : h53 241 106 = h 241 106 := (u53 241 106 rfl)
  have e73 : h53 241 73 = h 241 73 := (u53 241 73 rfl)
  have e74 : h53 241 2 = h 241 2 := (u53 241 2 rfl)
  have e75 : h53 241 119 = h 241 119 := (u53 241 119 rfl)
  have e76 : h53 241 67 = h 241 67 := (u53 241 67 rfl)
  have e77 : h53 241 69 = h 241 69 := (u53 241 69 rfl)
  have e78 : h53 241 5 = h 241 5 := (u53 241 5 rfl)
  have e79 : h53 1 1 = h 1 1 := (u53 1 1 rfl)
  have e80 : h53 236 2 = h 236 2 := (u53 236 2 rfl)
  have e81 : h53 1 2 = h 1 2 := (u53 1 2 rfl)
  have e82 : h53 236 10 = h 236 10 := (u53 236 10 rfl)
  have e83 : h53 1 3 = h 1 3 := (u53 1 3 rfl)
  have e84 : h53 236 11 = h 236 11 := (u53 236 11 rfl)
  have gp85 := GPH.fr u53 rfl gp0
  have b86 := gi_b (lo := 0) (hi := 5) g 241 0 rfl
  have b87 := gi_b (lo := 0) (hi := 4) g 241 1 rfl
  have gs88 := GPS.fr u53 rfl gs0
  have e89 : h53 0 12 = h 0 12 := (u53 0 12 rfl)
  have e90 : h53 236 21 = h 236 21 := (u53 236 21 rfl)
  exact k h53 b c ⟨g53, (show h53 1 1 = h53 236 2 by omega), (RS.i0 (f := h53 238) (by refine ⟨?_, ?_, ?_, ?_, ?_⟩ <;> omega)), (RS.i0 (f := h53 241) (by refine ⟨?_, ?_, ?_, ?_, ?_⟩ <;> omega)), gp85, (BRh.keep br0 (fun i => (u53 2 i (fn_a (by decide) fn_0))) (fun i => (u53 237 i (fn_a (by decide) fn_0))) (by omega)), (show h53 1 2 = h53 236 10 by omega), (show h53 1 3 = h53 236 11 by omega), (SVx.keep sv0 (by omega) (fun i _ => (u53 3 i (fn_a (by decide) fn_0))) (fun i _ => (u53 5 i (fn_a (by decide) fn_0))) (fun i _ => (u53 6 i (fn_a (by decide) fn_0))) (fun i _ => (u53 8 i (fn_a (by decide) fn_0))) (fun i _ => (u53 238 i (fn_a (by decide) fn_0)))), (show h53 0 12 = h53 236 21 by omega), (fun e => (SVx.keep (ss0 (by omega)) (by omega) (fun i _ => (u53 210 i (fn_a (by decide) fn_0))) (fun i _ => (u53 212 i (fn_a (by decide) fn_0))) (fun i _ => (u53 213 i (fn_a (by decide) fn_0))) (fun i _ => (u53 215 i (fn_a (by decide) fn_0))) (fun i _ => (u53 241 i (fn_a (by decide) fn_0))))), gs88⟩ (by omega) (by omega)
-- the law, case at 1017
set_option maxRecDepth 100000 in
set_option maxHeartbeats 100000000 in
theorem lc_1017 {L : Nat} {xs : Nat → Int32} {d b c : Nat} {h : hp} {cr : Nat → Nat → Option Nat} {Q : hp_Q} (hcr : CR cr) (hL : L ≤ 3072) (hr : 1 ≤ b ∧ 6 ≤ c) (I : LI h) (i : Int) (hi : 0 ≤ i ∧ i + 6 ≤ L) (k : ∀ (h2 : hp) (b2 c2 : Nat), LI h2 → b ≤ b2 + 1 → c ≤ c2 + 6 → wp (md_xa (L, xs)) (d + 107) 0 (1529, [(0, .ref 1000000), (1, .ref 0), (2, .ref 236), (3, .ref 259), (4, vi i)], [], hp_w h2 cr, b2, c2) Q) : wp (md_xa (L, xs)) (d + 107) 0 (1017, [(0, .ref 1000000), (1, .ref 0), (2, .ref 236), (3, .ref 259), (4, vi i)], [], hp_w h cr, b, c) Q := by
  obtain ⟨g, i11, r238, r241, gp0, br0, er2, er3, sv0, sf0, ss0, gs0⟩ := I
  have r238e := r238.e0
  have r241e := r241.e0
  obtain ⟨⟨se0, se1, se2, se3, se4, se5, se6, se7, se8, se9⟩, -⟩ := id sv0
  have b1 := gi_b (lo := 0) (hi := 5) g 3 0 rfl
  have b2 := gi_b (lo := 0) (hi := 5) g 238 0 rfl
  have b3 := gi_b (lo := 0) (hi := 4) g 3 1 rfl
  have b4 := gi_b (lo := 0) (hi := 4) g 238 1 rfl
  have b5 := gi_b (lo := 0) (hi := 12) g 3 2 rfl
  have b6 := gi_b (lo := 0) (hi := 12) g 238 2 rfl
  have b7 := gi_b (lo := -2147483648) (hi := 2147483647) g 3 3 rfl
  have b8 := gi_b (lo := 0) (hi := 999) g 238 3 rfl
  have b9 := gi_b (lo := -2147483648) (hi := 2147483647) g 3 4 rfl
  have b10 := gi_b (lo := 0) (hi := 999) g 238 4 rfl
  have b11 := gi_b (lo := -2147483648) (hi := 2147483647) g 3 5 rfl
  have b12 := gi_b (lo := 0) (hi := 9) g 238 5 rfl
  have b13 := gi_b (lo := -2147483648) (hi := 2147483647) g 3 6 rfl
  have b14 := gi_b (lo := 0) (hi := 999) g 238 6 rfl
  have b15 := gi_b (lo := -2147483648) (hi := 2147483647) g 3 7 rfl
  have b16 := gi_b (lo := 0) (hi := 3) g 238 7 rfl
  have b17 := gi_b (lo := -2147483648) (hi := 2147483647) g 3 8 rfl
  have b18 := gi_b (lo := 0) (hi := 999) g 238 8 rfl
  have b19 := gi_b (lo := -2147483648) (hi := 2147483647) g 3 9 rfl
  have b20 := gi_b (lo := 0) (hi := 999) g 238 9 rfl
  have b21 := gi_b (lo := 0) (hi := 1) g 0 12 rfl
  have b22 := gi_b (lo := 0) (hi := 1) g 236 21 rfl
  have bl_ := gi_b (lo := 0) (hi := 800) g 1 1 rfl
  have tb0 : BufC (h 2) (h 1 1) h := ⟨fun _ => rfl, rfl, by omega, by omega⟩
  have b23 := gi_b (lo := 0) (hi := 6) g 238 98 rfl
  have b24 := gi_b (lo := 0) (hi := 6) g 238 99 rfl
  have b25 := gi_b (lo := 0) (hi := 6) g 238 100 rfl
  have b26 := gi_b (lo := 0) (hi := 6) g 238 101 rfl
  have b27 := gi_b (lo := 0) (hi := 3) g 238 102 rfl
  have b28 := gi_b (lo := 0) (hi := 12) g 238 106 rfl
  have b29 := gi_b (lo := 0) (hi := 12) g 238 73 rfl
  have b30 := gi_b (lo := 0) (hi := 9999) g 238 119 rfl
  have b31 := gi_b (lo := 0) (hi := 9999) g 238 67 rfl
  have b32 := gi_b (lo := 0) (hi := 9) g 238 69 rfl
  have b33 := gi_b (lo := 0) (hi := 6) g 241 98 rfl
  have b34 := gi_b (lo := 0) (hi := 6) g 241 99 rfl
  have b35 := gi_b (lo := 0) (hi := 6) g 241 100 rfl
  have b36 := gi_b (lo := 0) (hi := 6) g 241 101 rfl
  have b37 := gi_b (lo := 0) (hi := 3) g 241 102 rfl
  have b38 := gi_b (lo := 0) (hi := 12) g 241 106 rfl
  have b39 := gi_b (lo := 0) (hi := 12) g 241 73 rfl
  have b40 := gi_b (lo := 0) (hi := 12) g 241 2 rfl
  have b41 := gi_b (lo := 0) (hi := 9999) g 241 119 rfl
  have b42 := gi_b (lo := 0) (hi := 9999) g 241 67 rfl
  have b43 := gi_b (lo := 0) (hi := 9) g 241 69 rfl
  have b44 := gi_b (lo := 0) (hi := 9) g 241 5 rfl
  have b45 := gi_b (lo := 0) (hi := 800) g 1 1 rfl
  have b46 := gi_b (lo := 0) (hi := 800) g 236 2 rfl
  have b47 := gi_b (lo := -2147483648) (hi := 2147483647) g 1 2 rfl
  have b48 := gi_b (lo := -2147483648) (hi := 2147483647) g 236 10 rfl
  have b49 := gi_b (lo := -2147483648) (hi := 2147483647) g 1 3 rfl
  have b50 := gi_b (lo := -2147483648) (hi := 2147483647) g 236 11 rfl
  refine wi_aload_n (i := 1) (x := 0) (nx := 1018) (r1 := 0) (r2 := 0) (r3 := 0) rfl rfl ?_
  refine wi_aload_n (i := 0) (x := 1000000) (nx := 1019) (r1 := 0) (r2 := 0) (r3 := 0) rfl rfl ?_
  refine wi_iload (i := 4) (e := i) (nx := 1021) (r1 := 0) (r2 := 0) (r3 := 0) rfl rfl ?_
  refine wi_iconst (n := 1) (nx := 1022) (r1 := 0) (r2 := 0) (r3 := 0) rfl ?_
  refine wr_add (nx := 1023) (r1 := 0) (r2 := 0) (r3 := 0) rfl (fun e51 (fe51 : e51 = i + 1) => ?_)
  obtain ⟨i52, ei52⟩ : ∃ q : Nat, e51 = (q : Int) := ⟨(e51).toNat, by omega⟩
  have s53 := sc_b (xs i52)
  refine wr_sc (a := e51) (f := i52) (nx := 1024) (r1 := 0) (r2 := 0) (r3 := 0) rfl (by omega) (by omega) hL ?_
  refine wi_aload_n (i := 3) (x := 259) (nx := 1025) (r1 := 0) (r2 := 0) (r3 := 0) rfl rfl ?_
  refine wi_S (rest := []) (as := [.ref 0, vi ((xs i52).toInt), .ref 259]) (nx := 1028) (r1 := 16) (r2 := 19) (r3 := 0) rfl rfl rfl (of_decide_eq_true rfl) rfl rfl (of_decide_eq_true rfl) (of_decide_eq_true rfl) ?_
  refine wi_aload_n (i := 2) (x := 259) (nx := 1) (r1 := 0) (r2 := 0) (r3 := 0) rfl rfl ?_
  refine wi_iconst (n := 0) (nx := 2) (r1 := 0) (r2 := 0) (r3 := 0) rfl ?_
  refine wi_aload_n (i := 0) (x := 0) (nx := 3) (r1 := 0) (r2 := 0) (r3 := 0) rfl rfl ?_
  refine wi_iload_n (i := 1) (e := (xs i52).toInt) (nx := 4) (r1 := 0) (r2 := 0) (r3 := 0) rfl rfl ?_
  refine wr_V (k0 := 0) (rest := [vi 0, .ref 259]) (as := [.ref 0, vi ((xs i52).toInt)]) (nx := 7) (r1 := 78) (r2 := 1) (r3 := 0) rfl rfl rfl (of_decide_eq_true rfl) rfl rfl (by decide) rfl rfl (of_decide_eq_true rfl) (of_decide_eq_true rfl) ?_
  refine ct_78_0 hcr hr  g ((xs i52).toInt) (by omega)  (fun h54 z55 g54 u54 (fz55 : -2147483648 ≤ z55 ∧ z55 ≤ 2147483647) => ?_) (fun h54 g54 u54 => ?_)
  ·
    refine wk_i ?_
    refine wi_i2l (nx := 8) (r1 := 0) (r2 := 0) (r3 := 0) rfl (by omega) ?_
    refine wr_ls (k0 := 259) (a := 0) (f := 0) (x := z55) (bl := -9223372036854775808) (bh := 9223372036854775807) (nx := 9) (r1 := 0) (r2 := 0) (r3 := 0) rfl (by decide) rfl (by omega) (by omega) (by decide) g54 rfl (by omega) (fun h56 g56 w56 u56 => ?_)
    refine wi_goto (nx := 12) (r1 := 15) (r2 := 0) (r3 := 0) rfl ?_
    refine wi_iconst (n := 0) (nx := 16) (r1 := 0) (r2 := 0) (r3 := 0) rfl ?_
    refine wi_ireturn (nx := 17) (r1 := 0) (r2 := 0) (r3 := 0) rfl rfl ?_
    refine wk_i ?_
    refine wi_istore (i := 5) (e := 0) (lo2 := [(5, vi 0), (0, .ref 1000000), (1, .ref 0), (2, .ref 236), (3, .ref 259), (4, vi i)]) (nx := 1030) (r1 := 0) (r2 := 0) (r3 := 0) rfl rfl ?_
    refine wi_aload_n (i := 2) (x := 236) (nx := 1031) (r1 := 0) (r2 := 0) (r3 := 0) rfl rfl ?_
    refine wi_aload_n (i := 0) (x := 1000000) (nx := 1032) (r1 := 0) (r2 := 0) (r3 := 0) rfl rfl ?_
    refine wi_iload (i := 4) (e := i) (nx := 1034) (r1 := 0) (r2 := 0) (r3 := 0) rfl rfl ?_
    refine wi_iconst (n := 1) (nx := 1035) (r1 := 0) (r2 := 0) (r3 := 0) rfl ?_
    refine wr_add (nx := 1036) (r1 := 0) (r2 := 0) (r3 := 0) rfl (fun e57 (fe57 : e57 = i + 1) => ?_)
    refine wr_sc (a := e57) (f := i52) (nx := 1037) (r1 := 0) (r2 := 0) (r3 := 0) rfl (by omega) (by omega) hL ?_
    refine wr_V (k0 := 236) (rest := []) (as := [.ref 236, vi ((xs i52).toInt)]) (nx := 1040) (r1 := 275) (r2 := 1) (r3 := 11) rfl rfl rfl (of_decide_eq_true rfl) rfl rfl (by decide) rfl rfl (of_decide_eq_true rfl) (of_decide_eq_true rfl) ?_
    have e59 : h56 238 98 = h 238 98 := ((u56 238 98 rfl).trans (u54 238 98 rfl))
    have e60 : h56 238 99 = h 238 99 := ((u56 238 99 rfl).trans (u54 238 99 rfl))
    have e61 : h56 238 100 = h 238 100 := ((u56 238 100 rfl).trans (u54 238 100 rfl))
    have e62 : h56 238 101 = h 238 101 := ((u56 238 101 rfl).trans (u54 238 101 rfl))
    have e63 : h56 238 102 = h 238 102 := ((u56 238 102 rfl).trans (u54 238 102 rfl))
    have e64 : h56 238 106 = h 238 106 := ((u56 238 106 rfl).trans (u54 238 106 rfl))
    have e65 : h56 238 73 = h 238 73 := ((u56 238 73 rfl).trans (u54 238 73 rfl))
    have e66 : h56 238 2 = h 238 2 := ((u56 238 2 rfl).trans (u54 238 2 rfl))
    have e67 : h56 238 119 = h 238 119 := ((u56 238 119 rfl).trans (u54 238 119 rfl))
    have e68 : h56 238 67 = h 238 67 := ((u56 238 67 rfl).trans (u54 238 67 rfl))
    have e69 : h56 238 69 = h 238 69 := ((u56 238 69 rfl).trans (u54 238 69 rfl))
    have e70 : h56 238 5 = h 238 5 := ((u56 238 5 rfl).trans (u54 238 5 rfl))
    have gs72 := GPS.fr u54 rfl gs0
    have gs73 := GPS.fr u56 rfl gs72
    have gp74 := GPH.fr u54 rfl gp0
    have gp75 := GPH.fr u56 rfl gp74
    refine ct_275_236 hcr  g56 ((xs i52).toInt) (by omega) (show (h56 238 98) + (h56 238 99) + (h56 238 100) + (h56 238 101) + (h56 238 102) + (h56 238 106) = (h56 238 73) by omega) (show (h56 238 73) ≤ (h56 238 2) by omega) (show (h56 238 119) ≤ (h56 238 67) by omega) (show (h56 238 69) ≤ (h56 238 5) by omega) (show (h56 238 2) ≤ 12 * (h56 238 5) by omega) gs73 gp75 (fun h58 z71 g58 u58 (fz71 : -1 ≤ z71 ∧ z71 ≤ 11) (p58_0 : (h58 238 98) + (h58 238 99) + (h58 238 100) + (h58 238 101) + (h58 238 102) + (h58 238 106) = (h58 238 73)) (p58_1 : (h58 238 73) ≤ (h58 238 2)) (p58_2 : (h58 238 119) ≤ (h58 238 67)) (p58_3 : (h58 238 69) ≤ (h58 238 5)) (p58_4 : (h58 238 2) ≤ 12 * (h58 238 5)) y58_0 y58_1 => ?_)
    have b76 := gi_b (lo := 0) (hi := 6) g58 238 98 rfl
    have b77 := gi_b (lo := 0) (hi := 6) g58 238 99 rfl
    have b78 := gi_b (lo := 0) (hi := 6) g58 238 100 rfl
    have b79 := gi_b (lo := 0) (hi := 6) g58 238 101 rfl
    have e80 : h58 238 102 = h 238 102 := ((u58 238 102 rfl).trans ((u56 238 102 rfl).trans (u54 238 102 rfl)))
    have e81 : h58 238 106 = h 238 106 := ((u58 238 106 rfl).trans ((u56 238 106 rfl).trans (u54 238 106 rfl)))
    have b82 := gi_b (lo := 0) (hi := 12) g58 238 73 rfl
    have e83 : h58 238 2 = h 238 2 := ((u58 238 2 rfl).trans ((u56 238 2 rfl).trans (u54 238 2 rfl)))
    have e84 : h58 238 119 = h 238 119 := ((u58 238 119 rfl).trans ((u56 238 119 rfl).trans (u54 238 119 rfl)))
    have e85 : h58 238 67 = h 238 67 := ((u58 238 67 rfl).trans ((u56 238 67 rfl).trans (u54 238 67 rfl)))
    have e86 : h58 238 69 = h 238 69 := ((u58 238 69 rfl).trans ((u56 238 69 rfl).trans (u54 238 69 rfl)))
    have e87 : h58 238 5 = h 238 5 := ((u58 238 5 rfl).trans ((u56 238 5 rfl).trans (u54 238 5 rfl)))
    refine wk_i ?_
    refine wi_istore (i := 6) (e := z71) (lo2 := [(6, vi z71), (5, vi 0), (0, .ref 1000000), (1, .ref 0), (2, .ref 236), (3, .ref 259), (4, vi i)]) (nx := 1042) (r1 := 0) (r2 := 0) (r3 := 0) rfl rfl ?_
    refine wi_goto (nx := 1045) (r1 := 1529) (r2 := 0) (r3 := 0) rfl ?_
    refine wp.lo (lo := [(0, .ref 1000000), (1, .ref 0), (2, .ref 236), (3, .ref 259), (4, vi i)]) ⟨rfl, rfl, rfl, rfl, rfl, trivial⟩ rfl ?_
    have e88 : h58 241 98 = h 241 98 := ((u58 241 98 rfl).trans ((u56 241 98 rfl).trans (u54 241 98 rfl)))
    have e89 : h58 241 99 = h 241 99 := ((u58 241 99 rfl).trans ((u56 241 99 rfl).trans (u54 241 99 rfl)))
    have e90 : h58 241 100 = h 241 100 := ((u58 241 100 rfl).trans ((u56 241 100 rfl).trans (u54 241 100 rfl)))
    have e91 : h58 241 101 = h 241 101 := ((u58 241 101 rfl).trans ((u56 241 101 rfl).trans (u54 241 101 rfl)))
    have e92 : h58 241 102 = h 241 102 := ((u58 241 102 rfl).trans ((u56 241 102 rfl).trans (u54 241 102 rfl)))
    have e93 : h58 241 106 = h 241 106 := ((u58 241 106 rfl).trans ((u56 241 106 rfl).trans (u54 241 106 rfl)))
    have e94 : h58 241 73 = h 241 73 := ((u58 241 73 rfl).trans ((u56 241 73 rfl).trans (u54 241 73 rfl)))
    have e95 : h58 241 2 = h 241 2 := ((u58 241 2 rfl).trans ((u56 241 2 rfl).trans (u54 241 2 rfl)))
    have e96 : h58 241 119 = h 241 119 := ((u58 241 119 rfl).trans ((u56 241 119 rfl).trans (u54 241 119 rfl)))
    have e97 : h58 241 67 = h 241 67 := ((u58 241 67 rfl).trans ((u56 241 67 rfl).trans (u54 241 67 rfl)))
    have e98 : h58 241 69 = h 241 69 := ((u58 241 69 rfl).trans ((u56 241 69 rfl).trans (u54 241 69 rfl)))
    have e99 : h58 241 5 = h 241 5 := ((u58 241 5 rfl).trans ((u56 241 5 rfl).trans (u54 241 5 rfl)))
    have e100 : h58 1 1 = h 1 1 := ((u58 1 1 rfl).trans ((u56 1 1 rfl).trans (u54 1 1 rfl)))
    have e101 : h58 236 2 = h 236 2 := ((u58 236 2 rfl).trans ((u56 236 2 rfl).trans (u54 236 2 rfl)))
    have e102 : h58 1 2 = h 1 2 := ((u58 1 2 rfl).trans ((u56 1 2 rfl).trans (u54 1 2 rfl)))
    have e103 : h58 236 10 = h 236 10 := ((u58 236 10 rfl).trans ((u56 236 10 rfl).trans (u54 236 10 rfl)))
    have e104 : h58 1 3 = h 1 3 := ((u58 1 3 rfl).trans ((u56 1 3 rfl).trans (u54 1 3 rfl)))
    have e105 : h58 236 11 = h 236 11 := ((u58 236 11 rfl).trans ((u56 236 11 rfl).trans (u54 236 11 rfl)))
    have b106 := gi_b (lo := 0) (hi := 5) g 241 0 rfl
    have b107 := gi_b (lo := 0) (hi := 4) g 241 1 rfl
    have e108 : h58 0 12 = h 0 12 := ((u58 0 12 rfl).trans ((u56 0 12 rfl).trans (u54 0 12 rfl)))
    have e109 : h58 236 21 = h 236 21 := ((u58 236 21 rfl).trans ((u56 236 21 rfl).trans (u54 236 21 rfl)))
    exact k h58 b c ⟨g58, (show h58 1 1 = h58 236 2 by omega), (RS.i0 (f := h58 238) (by refine ⟨?_, ?_, ?_, ?_, ?_⟩ <;> omega)), (RS.i0 (f := h58 241) (by refine ⟨?_, ?_, ?_, ?_, ?_⟩ <;> omega)), y58_1, (BRh.keep br0 (fun i => ((u58 2 i (fo_nk rfl)).trans ((u56 2 i (fn_a (by omega) fn_0)).trans (u54 2 i (fo_nk rfl))))) (fun i => ((u58 237 i (fo_nk rfl)).trans ((u56 237 i (fn_a (by omega) fn_0)).trans (u54 237 i (fo_nk rfl))))) (by omega)), (show h58 1 2 = h58 236 10 by omega), (show h58 1 3 = h58 236 11 by omega), (SVx.keep sv0 (by omega) (fun i _ => ((u58 3 i (fo_nk rfl)).trans ((u56 3 i (fn_a (by omega) fn_0)).trans (u54 3 i (fo_nk rfl))))) (fun i _ => ((u58 5 i (fo_nk rfl)).trans ((u56 5 i (fn_a (by omega) fn_0)).trans (u54 5 i (fo_nk rfl))))) (fun i _ => ((u58 6 i (fo_nk rfl)).trans ((u56 6 i (fn_a (by omega) fn_0)).trans (u54 6 i (fo_nk rfl))))) (fun i _ => ((u58 8 i (fo_nk rfl)).trans ((u56 8 i (fn_a (by omega) fn_0)).trans (u54 8 i (fo_nk rfl))))) (fun i _ => ((u58 238 i (fo_lk (m := 73) (by omega) rfl)).trans ((u56 238 i (fn_a (by omega) fn_0)).trans (u54 238 i (fo_nk rfl)))))), (show h58 0 12 = h58 236 21 by omega), (fun e => (SVx.keep (ss0 (by omega)) (by omega) (fun i _ => ((u58 210 i (fo_nk rfl)).trans ((u56 210 i (fn_a (by omega) fn_0)).trans (u54 210 i (fo_nk rfl))))) (fun i _ => ((u58 212 i (fo_nk rfl)).trans ((u56 212 i (fn_a (by omega) fn_0)).trans (u54 212 i (fo_nk rfl))))) (fun i _ => ((u58 213 i (fo_nk rfl)).trans ((u56 213 i (fn_a (by omega) fn_0)).trans (u54 213 i (fo_nk rfl))))) (fun i _ => ((u58 215 i (fo_nk rfl)).trans ((u56 215 i (fn_a (by omega) fn_0)).trans (u54 215 i (fo_nk rfl))))) (fun i _ => ((u58 241 i (fo_nk rfl)).trans ((u56 241 i (fn_a (by omega) fn_0)).trans (u54 241 i (fo_nk rfl))))))), y58_0⟩ (by omega) (by omega)
  ·
    refine wk_h 12 (by decide) rfl ?_
    refine wr_astx (i := 3) (lo2 := [(3, .retAddr 0), (0, .ref 0), (1, vi ((xs i52).toInt)), (2, .ref 259)]) (nx := 13) (r1 := 0) (r2 := 0) (r3 := 0) rfl rfl ?_
    refine wi_iconst (n := 1) (nx := 14) (r1 := 0) (r2 := 0) (r3 := 0) rfl ?_
    refine wi_ireturn (nx := 15) (r1 := 0) (r2 := 0) (r3 := 0) rfl rfl ?_
    refine wk_i ?_
    refine wi_istore (i := 5) (e := 1) (lo2 := [(5, vi 1), (0, .ref 1000000), (1, .ref 0), (2, .ref 236), (3, .ref 259), (4, vi i)]) (nx := 1030) (r1 := 0) (r2 := 0) (r3 := 0) rfl rfl ?_
    refine wi_aload_n (i := 2) (x := 236) (nx := 1031) (r1 := 0) (r2 := 0) (r3 := 0) rfl rfl ?_
    refine wi_aload_n (i := 0) (x := 1000000) (nx := 1032) (r1 := 0) (r2 := 0) (r3 := 0) rfl rfl ?_
    refine wi_iload (i := 4) (e := i) (nx := 1034) (r1 := 0) (r2 := 0) (r3 := 0) rfl rfl ?_
    refine wi_iconst (n := 1) (nx := 1035) (r1 := 0) (r2 := 0) (r3 := 0) rfl ?_
    refine wr_add (nx := 1036) (r1 := 0) (r2 := 0) (r3 := 0) rfl (fun e56 (fe56 : e56 = i + 1) => ?_)
    refine wr_sc (a := e56) (f := i52) (nx := 1037) (r1 := 0) (r2 := 0) (r3 := 0) rfl (by omega) (by omega) hL ?_
    refine wr_V (k0 := 236) (rest := []) (as := [.ref 236, vi ((xs i52).toInt)]) (nx := 1040) (r1 := 275) (r2 := 1) (r3 := 11) rfl rfl rfl (of_decide_eq_true rfl) rfl rfl (by decide) rfl rfl (of_decide_eq_true rfl) (of_decide_eq_true rfl) ?_
    have e58 : h54 238 98 = h 238 98 := (u54 238 98 rfl)
    have e59 : h54 238 99 = h 238 99 := (u54 238 99 rfl)
    have e60 : h54 238 100 = h 238 100 := (u54 238 100 rfl)
    have e61 : h54 238 101 = h 238 101 := (u54 238 101 rfl)
    have e62 : h54 238 102 = h 238 102 := (u54 238 102 rfl)
    have e63 : h54 238 106 = h 238 106 := (u54 238 106 rfl)
    have e64 : h54 238 73 = h 238 73 := (u54 238 73 rfl)
    have e65 : h54 238 2 = h 238 2 := (u54 238 2 rfl)
    have e66 : h54 238 119 = h 238 119 := (u54 238 119 rfl)
    have e67 : h54 238 67 = h 238 67 := (u54 238 67 rfl)
    have e68 : h54 238 69 = h 238 69 := (u54 238 69 rfl)
    have e69 : h54 238 5 = h 238 5 := (u54 238 5 rfl)
    have gs71 := GPS.fr u54 rfl gs0
    have gp72 := GPH.fr u54 rfl gp0
    refine ct_275_236 hcr  g54 ((xs i52).toInt) (by omega) (show (h54 238 98) + (h54 238 99) + (h54 238 100) + (h54 238 101) + (h54 238 102) + (h54 238 106) = (h54 238 73) by omega) (show (h54 238 73) ≤ (h54 238 2) by omega) (show (h54 238 119) ≤ (h54 238 67) by omega) (show (h54 238 69) ≤ (h54 238 5) by omega) (show (h54 238 2) ≤ 12 * (h54 238 5) by omega) gs71 gp72 (fun h57 z70 g57 u57 (fz70 : -1 ≤ z70 ∧ z70 ≤ 11) (p57_0 : (h57 238 98) + (h57 238 99) + (h57 238 100) + (h57 238 101) + (h57 238 102) + (h57 238 106) = (h57 238 73)) (p57_1 : (h57 238 73) ≤ (h57 238 2)) (p57_2 : (h57 238 119) ≤ (h57 238 67)) (p57_3 : (h57 238 69) ≤ (h57 238 5)) (p57_4 : (h57 238 2) ≤ 12 * (h57 238 5)) y57_0 y57_1 => ?_)
    have b73 := gi_b (lo := 0) (hi := 6) g57 238 98 rfl
    have b74 := gi_b (lo := 0) (hi := 6) g57 238 99 rfl
    have b75 := gi_b (lo := 0) (hi := 6) g57 238 100 rfl
    have b76 := gi_b (lo := 0) (hi := 6) g57 238 101 rfl
    have e77 : h57 238 102 = h 238 102 := ((u57 238 102 rfl).trans (u54 238 102 rfl))
    have e78 : h57 238 106 = h 238 106 := ((u57 238 106 rfl).trans (u54 238 106 rfl))
    have b79 := gi_b (lo := 0) (hi := 12) g57 238 73 rfl
    have e80 : h57 238 2 = h 238 2 := ((u57 238 2 rfl).trans (u54 238 2 rfl))
    have e81 : h57 238 119 = h 238 119 := ((u57 238 119 rfl).trans (u54 238 119 rfl))
    have e82 : h57 238 67 = h 238 67 := ((u57 238 67 rfl).trans (u54 238 67 rfl))
    have e83 : h57 238 69 = h 238 69 := ((u57 238 69 rfl).trans (u54 238 69 rfl))
    have e84 : h57 238 5 = h 238 5 := ((u57 238 5 rfl).trans (u54 238 5 rfl))
    refine wk_i ?_
    refine wi_istore (i := 6) (e := z70) (lo2 := [(6, vi z70), (5, vi 1), (0, .ref 1000000), (1, .ref 0), (2, .ref 236), (3, .ref 259), (4, vi i)]) (nx := 1042) (r1 := 0) (r2 := 0) (r3 := 0) rfl rfl ?_
    refine wi_goto (nx := 1045) (r1 := 1529) (r2 := 0) (r3 := 0) rfl ?_
    refine wp.lo (lo := [(0, .ref 1000000), (1, .ref 0), (2, .ref 236), (3, .ref 259), (4, vi i)]) ⟨rfl, rfl, rfl, rfl, rfl, trivial⟩ rfl ?_
    have e85 : h57 241 98 = h 241 98 := ((u57 241 98 rfl).trans (u54 241 98 rfl))
    have e86 : h57 241 99 = h 241 99 := ((u57 241 99 rfl).trans (u54 241 99 rfl))
    have e87 : h57 241 100 = h 241 100 := ((u57 241 100 rfl).trans (u54 241 100 rfl))
    have e88 : h57 241 101 = h 241 101 := ((u57 241 101 rfl).trans (u54 241 101 rfl))
    have e89 : h57 241 102 = h 241 102 := ((u57 241 102 rfl).trans (u54 241 102 rfl))
    have e90 : h57 241 106 = h 241 106 := ((u57 241 106 rfl).trans (u54 241 106 rfl))
    have e91 : h57 241 73 = h 241 73 := ((u57 241 73 rfl).trans (u54 241 73 rfl))
    have e92 : h57 241 2 = h 241 2 := ((u57 241 2 rfl).trans (u54 241 2 rfl))
    have e93 : h57 241 119 = h 241 119 := ((u57 241 119 rfl).trans (u54 241 119 rfl))
    have e94 : h57 241 67 = h 241 67 := ((u57 241 67 rfl).trans (u54 241 67 rfl))
    have e95 : h57 241 69 = h 241 69 := ((u57 241 69 rfl).trans (u54 241 69 rfl))
    have e96 : h57 241 5 = h 241 5 := ((u57 241 5 rfl).trans (u54 241 5 rfl))
    have e97 : h57 1 1 = h 1 1 := ((u57 1 1 rfl).trans (u54 1 1 rfl))
    have e98 : h57 236 2 = h 236 2 := ((u57 236 2 rfl).trans (u54 236 2 rfl))
    have e99 : h57 1 2 = h 1 2 := ((u57 1 2 rfl).trans (u54 1 2 rfl))
    have e100 : h57 236 10 = h 236 10 := ((u57 236 10 rfl).trans (u54 236 10 rfl))
    have e101 : h57 1 3 = h 1 3 := ((u57 1 3 rfl).trans (u54 1 3 rfl))
    have e102 : h57 236 11 = h 236 11 := ((u57 236 11 rfl).trans (u54 236 11 rfl))
    have b103 := gi_b (lo := 0) (hi := 5) g 241 0 rfl
    have b104 := gi_b (lo := 0) (hi := 4) g 241 1 rfl
    have e105 : h57 0 12 = h 0 12 := ((u57 0 12 rfl).trans (u54 0 12 rfl))
    have e106 : h57 236 21 = h 236 21 := ((u57 236 21 rfl).trans (u54 236 21 rfl))
    exact k h57 (b - 1) (c - 6) ⟨g57, (show h57 1 1 = h57 236 2 by omega), (RS.i0 (f := h57 238) (by refine ⟨?_, ?_, ?_, ?_, ?_⟩ <;> omega)), (RS.i0 (f := h57 241) (by refine ⟨?_, ?_, ?_, ?_, ?_⟩ <;> omega)), y57_1, (BRh.keep br0 (fun i => ((u57 2 i (fo_nk rfl)).trans (u54 2 i (fo_nk rfl)))) (fun i => ((u57 237 i (fo_nk rfl)).trans (u54 237 i (fo_nk rfl)))) (by omega)), (show h57 1 2 = h57 236 10 by omega), (show h57 1 3 = h57 236 11 by omega), (SVx.keep sv0 (by omega) (fun i _ => ((u57 3 i (fo_nk rfl)).trans (u54 3 i (fo_nk rfl)))) (fun i _ => ((u57 5 i (fo_nk rfl)).trans (u54 5 i (fo_nk rfl)))) (fun i _ => ((u57 6 i (fo_nk rfl)).trans (u54 6 i (fo_nk rfl)))) (fun i _ => ((u57 8 i (fo_nk rfl)).trans (u54 8 i (fo_nk rfl)))) (fun i _ => ((u57 238 i (fo_lk (m := 73) (by omega) rfl)).trans (u54 238 i (fo_nk rfl))))), (show h57 0 12 = h57 236 21 by omega), (fun e => (SVx.keep (ss0 (by omega)) (by omega) (fun i _ => ((u57 210 i (fo_nk rfl)).trans (u54 210 i (fo_nk rfl)))) (fun i _ => ((u57 212 i (fo_nk rfl)).trans (u54 212 i (fo_nk rfl)))) (fun i _ => ((u57 213 i (fo_nk rfl)).trans (u54 213 i (fo_nk rfl)))) (fun i _ => ((u57 215 i (fo_nk rfl)).trans (u54 215 i (fo_nk rfl)))) (fun i _ => ((u57 241 i (fo_nk rfl)).trans (u54 241 i (fo_nk rfl)))))), y57_0⟩ (by omega) (by omega)
-- the law, case at 1045
set_option maxRecDepth 100000 in
set_option maxHeartbeats 100000000 in
theorem lc_1045 {L : Nat} {xs : Nat → Int32} {d b c : Nat} {h : hp} {cr : Nat → Nat → Option Nat} {Q : hp_Q} (hcr : CR cr) (hL : L ≤ 3072) (hr : 1 ≤ b ∧ 6 ≤ c) (I : LI h) (i : Int) (hi : 0 ≤ i ∧ i + 6 ≤ L) (k : ∀ (h2 : hp) (b2 c2 : Nat), LI h2 → b ≤ b2 + 1 → c ≤ c2 + 6 → wp (md_xa (L, xs)) (d + 107) 0 (1529, [(0, .ref 1000000), (1, .ref 0), (2, .ref 236), (3, .ref 259), (4, vi i)], [], hp_w h2 cr, b2, c2) Q) : wp (md_xa (L, xs)) (d + 107) 0 (1045, [(0, .ref 1000000), (1, .ref 0), (2, .ref 236), (3, .ref 259), (4, vi i)], [], hp_w h cr, b, c) Q := by
  obtain ⟨g, i11, r238, r241, gp0, br0, er2, er3, sv0, sf0, ss0, gs0⟩ := I
  have r238e := r238.e0
  have r241e := r241.e0
  obtain ⟨⟨se0, se1, se2, se3, se4, se5, se6, se7, se8, se9⟩, -⟩ := id sv0
  have b1 := gi_b (lo := 0) (hi := 5) g 3 0 rfl
  have b2 := gi_b (lo := 0) (hi := 5) g 238 0 rfl
  have b3 := gi_b (lo := 0) (hi := 4) g 3 1 rfl
  have b4 := gi_b (lo := 0) (hi := 4) g 238 1 rfl
  have b5 := gi_b (lo := 0) (hi := 12) g 3 2 rfl
  have b6 := gi_b (lo := 0) (hi := 12) g 238 2 rfl
  have b7 := gi_b (lo := -2147483648) (hi := 2147483647) g 3 3 rfl
  have b8 := gi_b (lo := 0) (hi := 999) g 238 3 rfl
  have b9 := gi_b (lo := -2147483648) (hi := 2147483647) g 3 4 rfl
  have b10 := gi_b (lo := 0) (hi := 999) g 238 4 rfl
  have b11 := gi_b (lo := -2147483648) (hi := 2147483647) g 3 5 rfl
  have b12 := gi_b (lo := 0) (hi := 9) g 238 5 rfl
  have b13 := gi_b (lo := -2147483648) (hi := 2147483647) g 3 6 rfl
  have b14 := gi_b (lo := 0) (hi := 999) g 238 6 rfl
  have b15 := gi_b (lo := -2147483648) (hi := 2147483647) g 3 7 rfl
  have b16 := gi_b (lo := 0) (hi := 3) g 238 7 rfl
  have b17 := gi_b (lo := -2147483648) (hi := 2147483647) g 3 8 rfl
  have b18 := gi_b (lo := 0) (hi := 999) g 238 8 rfl
  have b19 := gi_b (lo := -2147483648) (hi := 2147483647) g 3 9 rfl
  have b20 := gi_b (lo := 0) (hi := 999) g 238 9 rfl
  have b21 := gi_b (lo := 0) (hi := 1) g 0 12 rfl
  have b22 := gi_b (lo := 0) (hi := 1) g 236 21 rfl
  have bl_ := gi_b (lo := 0) (hi := 800) g 1 1 rfl
  have tb0 : BufC (h 2) (h 1 1) h := ⟨fun _ => rfl, rfl, by omega, by omega⟩
  have b23 := gi_b (lo := 0) (hi := 6) g 238 98 rfl
  have b24 := gi_b (lo := 0) (hi := 6) g 238 99 rfl
  have b25 := gi_b (lo := 0) (hi := 6) g 238 100 rfl
  have b26 := gi_b (lo := 0) (hi := 6) g 238 101 rfl
  have b27 := gi_b (lo := 0) (hi := 3) g 238 102 rfl
  have b28 := gi_b (lo := 0) (hi := 12) g 238 106 rfl
  have b29 := gi_b (lo := 0) (hi := 12) g 238 73 rfl
  have b30 := gi_b (lo := 0) (hi := 9999) g 238 119 rfl
  have b31 := gi_b (lo := 0) (hi := 9999) g 238 67 rfl
  have b32 := gi_b (lo := 0) (hi := 9) g 238 69 rfl
  have b33 := gi_b (lo := 0) (hi := 6) g 241 98 rfl
  have b34 := gi_b (lo := 0) (hi := 6) g 241 99 rfl
  have b35 := gi_b (lo := 0) (hi := 6) g 241 100 rfl
  have b36 := gi_b (lo := 0) (hi := 6) g 241 101 rfl
  have b37 := gi_b (lo := 0) (hi := 3) g 241 102 rfl
  have b38 := gi_b (lo := 0) (hi := 12) g 241 106 rfl
  have b39 := gi_b (lo := 0) (hi := 12) g 241 73 rfl
  have b40 := gi_b (lo := 0) (hi := 12) g 241 2 rfl
  have b41 := gi_b (lo := 0) (hi := 9999) g 241 119 rfl
  have b42 := gi_b (lo := 0) (hi := 9999) g 241 67 rfl
  have b43 := gi_b (lo := 0) (hi := 9) g 241 69 rfl
  have b44 := gi_b (lo := 0) (hi := 9) g 241 5 rfl
  have b45 := gi_b (lo := 0) (hi := 800) g 1 1 rfl
  have b46 := gi_b (lo := 0) (hi := 800) g 236 2 rfl
  have b47 := gi_b (lo := -2147483648) (hi := 2147483647) g 1 2 rfl
  have b48 := gi_b (lo := -2147483648) (hi := 2147483647) g 236 10 rfl
  have b49 := gi_b (lo := -2147483648) (hi := 2147483647) g 1 3 rfl
  have b50 := gi_b (lo := -2147483648) (hi := 2147483647) g 236 11 rfl
  refine wi_aload_n (i := 1) (x := 0) (nx := 1046) (r1 := 0) (r2 := 0) (r3 := 0) rfl rfl ?_
  refine wi_aload_n (i := 0) (x := 1000000) (nx := 1047) (r1 := 0) (r2 := 0) (r3 := 0) rfl rfl ?_
  refine wi_iload (i := 4) (e := i) (nx := 1049) (r1 := 0) (r2 := 0) (r3 := 0) rfl rfl ?_
  refine wi_iconst (n := 1) (nx := 1050) (r1 := 0) (r2 := 0) (r3 := 0) rfl ?_
  refine wr_add (nx := 1051) (r1 := 0) (r2 := 0) (r3 := 0) rfl (fun e51 (fe51 : e51 = i + 1) => ?_)
  obtain ⟨i52, ei52⟩ : ∃ q : Nat, e51 = (q : Int) := ⟨(e51).toNat, by omega⟩
  have s53 := sc_b (xs i52)
  refine wr_sc (a := e51) (f := i52) (nx := 1052) (r1 := 0) (r2 := 0) (r3 := 0) rfl (by omega) (by omega) hL ?_
  refine wi_aload_n (i := 3) (x := 259) (nx := 1053) (r1 := 0) (r2 := 0) (r3 := 0) rfl rfl ?_
  refine wi_S (rest := []) (as := [.ref 0, vi ((xs i52).toInt), .ref 259]) (nx := 1056) (r1 := 17) (r2 := 19) (r3 := 0) rfl rfl rfl (of_decide_eq_true rfl) rfl rfl (of_decide_eq_true rfl) (of_decide_eq_true rfl) ?_
  refine wi_aload_n (i := 2) (x := 259) (nx := 1) (r1 := 0) (r2 := 0) (r3 := 0) rfl rfl ?_
  refine wi_iconst (n := 0) (nx := 2) (r1 := 0) (r2 := 0) (r3 := 0) rfl ?_
  refine wi_aload_n (i := 0) (x := 0) (nx := 3) (r1 := 0) (r2 := 0) (r3 := 0) rfl rfl ?_
  refine wi_iload_n (i := 1) (e := (xs i52).toInt) (nx := 4) (r1 := 0) (r2 := 0) (r3 := 0) rfl rfl ?_
  refine wr_V (k0 := 0) (rest := [vi 0, .ref 259]) (as := [.ref 0, vi ((xs i52).toInt)]) (nx := 7) (r1 := 79) (r2 := 1) (r3 := 0) rfl rfl rfl (of_decide_eq_true rfl) rfl rfl (by decide) rfl rfl (of_decide_eq_true rfl) (of_decide_eq_true rfl) ?_
  refine ct_79_0 hcr hr  g ((xs i52).toInt) (by omega)  (fun h54 z55 g54 u54 (fz55 : -2147483648 ≤ z55 ∧ z55 ≤ 2147483647) => ?_) (fun h54 g54 u54 => ?_)
  ·
    refine wk_i ?_
    refine wi_i2l (nx := 8) (r1 := 0) (r2 := 0) (r3 := 0) rfl (by omega) ?_
    refine wr_ls (k0 := 259) (a := 0) (f := 0) (x := z55) (bl := -9223372036854775808) (bh := 9223372036854775807) (nx := 9) (r1 := 0) (r2 := 0) (r3 := 0) rfl (by decide) rfl (by omega) (by omega) (by decide) g54 rfl (by omega) (fun h56 g56 w56 u56 => ?_)
    refine wi_goto (nx := 12) (r1 := 15) (r2 := 0) (r3 := 0) rfl ?_
    refine wi_iconst (n := 0) (nx := 16) (r1 := 0) (r2 := 0) (r3 := 0) rfl ?_
    refine wi_ireturn (nx := 17) (r1 := 0) (r2 := 0) (r3 := 0) rfl rfl ?_
    refine wk_i ?_
    refine wi_istore (i := 5) (e := 0) (lo2 := [(5, vi 0), (0, .ref 1000000), (1, .ref 0), (2, .ref 236), (3, .ref 259), (4, vi i)]) (nx := 1058) (r1 := 0) (r2 := 0) (r3 := 0) rfl rfl ?_
    refine wi_aload_n (i := 2) (x := 236) (nx := 1059) (r1 := 0) (r2 := 0) (r3 := 0) rfl rfl ?_
    refine wi_aload_n (i := 0) (x := 1000000) (nx := 1060) (r1 := 0) (r2 := 0) (r3 := 0) rfl rfl ?_
    refine wi_iload (i := 4) (e := i) (nx := 1062) (r1 := 0) (r2 := 0) (r3 := 0) rfl rfl ?_
    refine wi_iconst (n := 1) (nx := 1063) (r1 := 0) (r2 := 0) (r3 := 0) rfl ?_
    refine wr_add (nx := 1064) (r1 := 0) (r2 := 0) (r3 := 0) rfl (fun e57 (fe57 : e57 = i + 1) => ?_)
    refine wr_sc (a := e57) (f := i52) (nx := 1065) (r1 := 0) (r2 := 0) (r3 := 0) rfl (by omega) (by omega) hL ?_
    refine wr_V (k0 := 236) (rest := []) (as := [.ref 236, vi ((xs i52).toInt)]) (nx := 1068) (r1 := 281) (r2 := 1) (r3 := 11) rfl rfl rfl (of_decide_eq_true rfl) rfl rfl (by decide) rfl rfl (of_decide_eq_true rfl) (of_decide_eq_true rfl) ?_
    have e59 : h56 238 98 = h 238 98 := ((u56 238 98 rfl).trans (u54 238 98 rfl))
    have e60 : h56 238 99 = h 238 99 := ((u56 238 99 rfl).trans (u54 238 99 rfl))
    have e61 : h56 238 100 = h 238 100 := ((u56 238 100 rfl).trans (u54 238 100 rfl))
    have e62 : h56 238 101 = h 238 101 := ((u56 238 101 rfl).trans (u54 238 101 rfl))
    have e63 : h56 238 102 = h 238 102 := ((u56 238 102 rfl).trans (u54 238 102 rfl))
    have e64 : h56 238 106 = h 238 106 := ((u56 238 106 rfl).trans (u54 238 106 rfl))
    have e65 : h56 238 73 = h 238 73 := ((u56 238 73 rfl).trans (u54 238 73 rfl))
    have e66 : h56 238 2 = h 238 2 := ((u56 238 2 rfl).trans (u54 238 2 rfl))
    have e67 : h56 238 119 = h 238 119 := ((u56 238 119 rfl).trans (u54 238 119 rfl))
    have e68 : h56 238 67 = h 238 67 := ((u56 238 67 rfl).trans (u54 238 67 rfl))
    have e69 : h56 238 69 = h 238 69 := ((u56 238 69 rfl).trans (u54 238 69 rfl))
    have e70 : h56 238 5 = h 238 5 := ((u56 238 5 rfl).trans (u54 238 5 rfl))
    have gs72 := GPS.fr u54 rfl gs0
    have gs73 := GPS.fr u56 rfl gs72
    have gp74 := GPH.fr u54 rfl gp0
    have gp75 := GPH.fr u56 rfl gp74
    refine ct_281_236 hcr  g56 ((xs i52).toInt) (by omega) (show (h56 238 98) + (h56 238 99) + (h56 238 100) + (h56 238 101) + (h56 238 102) + (h56 238 106) = (h56 238 73) by omega) (show (h56 238 73) ≤ (h56 238 2) by omega) (show (h56 238 119) ≤ (h56 238 67) by omega) (show (h56 238 69) ≤ (h56 238 5) by omega) (show (h56 238 2) ≤ 12 * (h56 238 5) by omega) gs73 gp75 (fun h58 z71 g58 u58 (fz71 : -1 ≤ z71 ∧ z71 ≤ 11) (p58_0 : (h58 238 98) + (h58 238 99) + (h58 238 100) + (h58 238 101) + (h58 238 102) + (h58 238 106) = (h58 238 73)) (p58_1 : (h58 238 73) ≤ (h58 238 2)) (p58_2 : (h58 238 119) ≤ (h58 238 67)) (p58_3 : (h58 238 69) ≤ (h58 238 5)) (p58_4 : (h58 238 2) ≤ 12 * (h58 238 5)) y58_0 y58_1 => ?_)
    have b76 := gi_b (lo := 0) (hi := 6) g58 238 98 rfl
    have b77 := gi_b (lo := 0) (hi := 6) g58 238 99 rfl
    have b78 := gi_b (lo := 0) (hi := 6) g58 238 100 rfl
    have b79 := gi_b (lo := 0) (hi := 6) g58 238 101 rfl
    have b80 := gi_b (lo := 0) (hi := 3) g58 238 102 rfl
    have b81 := gi_b (lo := 0) (hi := 12) g58 238 106 rfl
    have e82 : h58 238 73 = h 238 73 := ((u58 238 73 rfl).trans ((u56 238 73 rfl).trans (u54 238 73 rfl)))
    have e83 : h58 238 2 = h 238 2 := ((u58 238 2 rfl).trans ((u56 238 2 rfl).trans (u54 238 2 rfl)))
    have b84 := gi_b (lo := 0) (hi := 9999) g58 238 119 rfl
    have b85 := gi_b (lo := 0) (hi := 9999) g58 238 67 rfl
    have b86 := gi_b (lo := 0) (hi := 9) g58 238 69 rfl
    have e87 : h58 238 5 = h 238 5 := ((u58 238 5 rfl).trans ((u56 238 5 rfl).trans (u54 238 5 rfl)))
    refine wk_i ?_
    refine wi_istore (i := 6) (e := z71) (lo2 := [(6, vi z71), (5, vi 0), (0, .ref 1000000), (1, .ref 0), (2, .ref 236), (3, .ref 259), (4, vi i)]) (nx := 1070) (r1 := 0) (r2 := 0) (r3 := 0) rfl rfl ?_
    refine wi_goto (nx := 1073) (r1 := 1529) (r2 := 0) (r3 := 0) rfl ?_
    refine wp.lo (lo := [(0, .ref 1000000), (1, .ref 0), (2, .ref 236), (3, .ref 259), (4, vi i)]) ⟨rfl, rfl, rfl, rfl, rfl, trivial⟩ rfl ?_
    have e88 : h58 241 98 = h 241 98 := ((u58 241 98 rfl).trans ((u56 241 98 rfl).trans (u54 241 98 rfl)))
    have e89 : h58 241 99 = h 241 99 := ((u58 241 99 rfl).trans ((u56 241 99 rfl).trans (u54 241 99 rfl)))
    have e90 : h58 241 100 = h 241 100 := ((u58 241 100 rfl).trans ((u56 241 100 rfl).trans (u54 241 100 rfl)))
    have e91 : h58 241 101 = h 241 101 := ((u58 241 101 rfl).trans ((u56 241 101 rfl).trans (u54 241 101 rfl)))
    have e92 : h58 241 102 = h 241 102 := ((u58 241 102 rfl).trans ((u56 241 102 rfl).trans (u54 241 102 rfl)))
    have e93 : h58 241 106 = h 241 106 := ((u58 241 106 rfl).trans ((u56 241 106 rfl).trans (u54 241 106 rfl)))
    have e94 : h58 241 73 = h 241 73 := ((u58 241 73 rfl).trans ((u56 241 73 rfl).trans (u54 241 73 rfl)))
    have e95 : h58 241 2 = h 241 2 := ((u58 241 2 rfl).trans ((u56 241 2 rfl).trans (u54 241 2 rfl)))
    have e96 : h58 241 119 = h 241 119 := ((u58 241 119 rfl).trans ((u56 241 119 rfl).trans (u54 241 119 rfl)))
    have e97 : h58 241 67 = h 241 67 := ((u58 241 67 rfl).trans ((u56 241 67 rfl).trans (u54 241 67 rfl)))
    have e98 : h58 241 69 = h 241 69 := ((u58 241 69 rfl).trans ((u56 241 69 rfl).trans (u54 241 69 rfl)))
    have e99 : h58 241 5 = h 241 5 := ((u58 241 5 rfl).trans ((u56 241 5 rfl).trans (u54 241 5 rfl)))
    have e100 : h58 1 1 = h 1 1 := ((u58 1 1 rfl).trans ((u56 1 1 rfl).trans (u54 1 1 rfl)))
    have e101 : h58 236 2 = h 236 2 := ((u58 236 2 rfl).trans ((u56 236 2 rfl).trans (u54 236 2 rfl)))
    have e102 : h58 1 2 = h 1 2 := ((u58 1 2 rfl).trans ((u56 1 2 rfl).trans (u54 1 2 rfl)))
    have e103 : h58 236 10 = h 236 10 := ((u58 236 10 rfl).trans ((u56 236 10 rfl).trans (u54 236 10 rfl)))
    have e104 : h58 1 3 = h 1 3 := ((u58 1 3 rfl).trans ((u56 1 3 rfl).trans (u54 1 3 rfl)))
    have e105 : h58 236 11 = h 236 11 := ((u58 236 11 rfl).trans ((u56 236 11 rfl).trans (u54 236 11 rfl)))
    have b106 := gi_b (lo := 0) (hi := 5) g 241 0 rfl
    have b107 := gi_b (lo := 0) (hi := 4) g 241 1 rfl
    have e108 : h58 0 12 = h 0 12 := ((u58 0 12 rfl).trans ((u56 0 12 rfl).trans (u54 0 12 rfl)))
    have e109 : h58 236 21 = h 236 21 := ((u58 236 21 rfl).trans ((u56 236 21 rfl).trans (u54 236 21 rfl)))
    exact k h58 b c ⟨g58, (show h58 1 1 = h58 236 2 by omega), (RS.i0 (f := h58 238) (by refine ⟨?_, ?_, ?_, ?_, ?_⟩ <;> omega)), (RS.i0 (f := h58 241) (by refine ⟨?_, ?_, ?_, ?_, ?_⟩ <;> omega)), y58_1, (BRh.keep br0 (fun i => ((u58 2 i (fo_nk rfl)).trans ((u56 2 i (fn_a (by omega) fn_0)).trans (u54 2 i (fn_a (by decide) (fn_a (by decide) (fn_a (by decide) (fn_a (by decide) fn_0)))))))) (fun i => ((u58 237 i (fo_nk rfl)).trans ((u56 237 i (fn_a (by omega) fn_0)).trans (u54 237 i (fn_a (by decide) (fn_a (by decide) (fn_a (by decide) (fn_a (by decide) fn_0)))))))) (by omega)), (show h58 1 2 = h58 236 10 by omega), (show h58 1 3 = h58 236 11 by omega), (SVx.keep sv0 (by omega) (fun i _ => ((u58 3 i (fo_nk rfl)).trans ((u56 3 i (fn_a (by omega) fn_0)).trans (u54 3 i (fn_a (by decide) (fn_a (by decide) (fn_a (by decide) (fn_a (by decide) fn_0)))))))) (fun i _ => ((u58 5 i (fo_nk rfl)).trans ((u56 5 i (fn_a (by omega) fn_0)).trans (u54 5 i (fn_a (by decide) (fn_a (by decide) (fn_a (by decide) (fn_a (by decide) fn_0)))))))) (fun i _ => ((u58 6 i (fo_nk rfl)).trans ((u56 6 i (fn_a (by omega) fn_0)).trans (u54 6 i (fn_a (by decide) (fn_a (by decide) (fn_a (by decide) (fn_a (by decide) fn_0)))))))) (fun i _ => ((u58 8 i (fo_nk rfl)).trans ((u56 8 i (fn_a (by omega) fn_0)).trans (u54 8 i (fn_a (by decide) (fn_a (by decide) (fn_a (by decide) (fn_a (by decide) fn_0)))))))) (fun i _ => ((u58 238 i (fo_lk (m := 43) (by omega) rfl)).trans ((u56 238 i (fn_a (by omega) fn_0)).trans (u54 238 i (fn_a (by decide) (fn_a (by decide) (fn_a (by decide) (fn_a (by decide) fn_0))))))))), (show h58 0 12 = h58 236 21 by omega), (fun e => (SVx.keep (ss0 (by omega)) (by omega) (fun i _ => ((u58 210 i (fo_nk rfl)).trans ((u56 210 i (fn_a (by omega) fn_0)).trans (u54 210 i (fn_a (by decide) (fn_a (by decide) (fn_a (by decide) (fn_a (by decide) fn_0)))))))) (fun i _ => ((u58 212 i (fo_nk rfl)).trans ((u56 212 i (fn_a (by omega) fn_0)).trans (u54 212 i (fn_a (by decide) (fn_a (by decide) (fn_a (by decide) (fn_a (by decide) fn_0)))))))) (fun i _ => ((u58 213 i (fo_nk rfl)).trans ((u56 213 i (fn_a (by omega) fn_0)).trans (u54 213 i (fn_a (by decide) (fn_a (by decide) (fn_a (by decide) (fn_a (by decide) fn_0)))))))) (fun i _ => ((u58 215 i (fo_nk rfl)).trans ((u56 215 i (fn_a (by omega) fn_0)).trans (u54 215 i (fn_a (by decide) (fn_a (by decide) (fn_a (by decide) (fn_a (by decide) fn_0)))))))) (fun i _ => ((u58 241 i (fo_nk rfl)).trans ((u56 241 i (fn_a (by omega) fn_0)).trans (u54 241 i (fn_a (by decide) (fn_a (by decide) (fn_a (by decide) (fn_a (by decide) fn_0)))))))))), y58_0⟩ (by omega) (by omega)
  ·
    refine wk_h 12 (by decide) rfl ?_
    refine wr_astx (i := 3) (lo2 := [(3, .retAddr 0), (0, .ref 0), (1, vi ((xs i52).toInt)), (2, .ref 259)]) (nx := 13) (r1 := 0) (r2 := 0) (r3 := 0) rfl rfl ?_
    refine wi_iconst (n := 1) (nx := 14) (r1 := 0) (r2 := 0) (r3 := 0) rfl ?_
    refine wi_ireturn (nx := 15) (r1 := 0) (r2 := 0) (r3 := 0) rfl rfl ?_
    refine wk_i ?_
    refine wi_istore (i := 5) (e := 1) (lo2 := [(5, vi 1), (0, .ref 1000000), (1, .ref 0), (2, .ref 236), (3, .ref 259), (4, vi i)]) (nx := 1058) (r1 := 0) (r2 := 0) (r3 := 0) rfl rfl ?_
    refine wi_aload_n (i := 2) (x := 236) (nx := 1059) (r1 := 0) (r2 := 0) (r3 := 0) rfl rfl ?_
    refine wi_aload_n (i := 0) (x := 1000000) (nx := 1060) (r1 := 0) (r2 := 0) (r3 := 0) rfl rfl ?_
    refine wi_iload (i := 4) (e := i) (nx := 1062) (r1 := 0) (r2 := 0) (r3 := 0) rfl rfl ?_
    refine wi_iconst (n := 1) (nx := 1063) (r1 := 0) (r2 := 0) (r3 := 0) rfl ?_
    refine wr_add (nx := 1064) (r1 := 0) (r2 := 0) (r3 := 0) rfl (fun e56 (fe56 : e56 = i + 1) => ?_)
    refine wr_sc (a := e56) (f := i52) (nx := 1065) (r1 := 0) (r2 := 0) (r3 := 0) rfl (by omega) (by omega) hL ?_
    refine wr_V (k0 := 236) (rest := []) (as := [.ref 236, vi ((xs i52).toInt)]) (nx := 1068) (r1 := 281) (r2 := 1) (r3 := 11) rfl rfl rfl (of_decide_eq_true rfl) rfl rfl (by decide) rfl rfl (of_decide_eq_true rfl) (of_decide_eq_true rfl) ?_
    have e58 : h54 238 98 = h 238 98 := (u54 238 98 rfl)
    have e59 : h54 238 99 = h 238 99 := (u54 238 99 rfl)
    have e60 : h54 238 100 = h 238 100 := (u54 238 100 rfl)
    have e61 : h54 238 101 = h 238 101 := (u54 238 101 rfl)
    have e62 : h54 238 102 = h 238 102 := (u54 238 102 rfl)
    have e63 : h54 238 106 = h 238 106 := (u54 238 106 rfl)
    have e64 : h54 238 73 = h 238 73 := (u54 238 73 rfl)
    have e65 : h54 238 2 = h 238 2 := (u54 238 2 rfl)
    have e66 : h54 238 119 = h 238 119 := (u54 238 119 rfl)
    have e67 : h54 238 67 = h 238 67 := (u54 238 67 rfl)
    have e68 : h54 238 69 = h 238 69 := (u54 238 69 rfl)
    have e69 : h54 238 5 = h 238 5 := (u54 238 5 rfl)
    have gs71 := GPS.fr u54 rfl gs0
    have gp72 := GPH.fr u54 rfl gp0
    refine ct_281_236 hcr  g54 ((xs i52).toInt) (by omega) (show (h54 238 98) + (h54 238 99) + (h54 238 100) + (h54 238 101) + (h54 238 102) + (h54 238 106) = (h54 238 73) by omega) (show (h54 238 73) ≤ (h54 238 2) by omega) (show (h54 238 119) ≤ (h54 238 67) by omega) (show (h54 238 69) ≤ (h54 238 5) by omega) (show (h54 238 2) ≤ 12 * (h54 238 5) by omega) gs71 gp72 (fun h57 z70 g57 u57 (fz70 : -1 ≤ z70 ∧ z70 ≤ 11) (p57_0 : (h57 238 98) + (h57 238 99) + (h57 238 100) + (h57 238 101) + (h57 238 102) + (h57 238 106) = (h57 238 73)) (p57_1 : (h57 238 73) ≤ (h57 238 2)) (p57_2 : (h57 238 119) ≤ (h57 238 67)) (p57_3 : (h57 238 69) ≤ (h57 238 5)) (p57_4 : (h57 238 2) ≤ 12 * (h57 238 5)) y57_0 y57_1 => ?_)
    have b73 := gi_b (lo := 0) (hi := 6) g57 238 98 rfl
    have b74 := gi_b (lo := 0) (hi := 6) g57 238 99 rfl
    have b75 := gi_b (lo := 0) (hi := 6) g57 238 100 rfl
    have b76 := gi_b (lo := 0) (hi := 6) g57 238 101 rfl
    have b77 := gi_b (lo := 0) (hi := 3) g57 238 102 rfl
    have b78 := gi_b (lo := 0) (hi := 12) g57 238 106 rfl
    have e79 : h57 238 73 = h 238 73 := ((u57 238 73 rfl).trans (u54 238 73 rfl))
    have e80 : h57 238 2 = h 238 2 := ((u57 238 2 rfl).trans (u54 238 2 rfl))
    have b81 := gi_b (lo := 0) (hi := 9999) g57 238 119 rfl
    have b82 := gi_b (lo := 0) (hi := 9999) g57 238 67 rfl
    have b83 := gi_b (lo := 0) (hi := 9) g57 238 69 rfl
    have e84 : h57 238 5 = h 238 5 := ((u57 238 5 rfl).trans (u54 238 5 rfl))
    refine wk_i ?_
    refine wi_istore (i := 6) (e := z70) (lo2 := [(6, vi z70), (5, vi 1), (0, .ref 1000000), (1, .ref 0), (2, .ref 236), (3, .ref 259), (4, vi i)]) (nx := 1070) (r1 := 0) (r2 := 0) (r3 := 0) rfl rfl ?_
    refine wi_goto (nx := 1073) (r1 := 1529) (r2 := 0) (r3 := 0) rfl ?_
    refine wp.lo (lo := [(0, .ref 1000000), (1, .ref 0), (2, .ref 236), (3, .ref 259), (4, vi i)]) ⟨rfl, rfl, rfl, rfl, rfl, trivial⟩ rfl ?_
    have e85 : h57 241 98 = h 241 98 := ((u57 241 98 rfl).trans (u54 241 98 rfl))
    have e86 : h57 241 99 = h 241 99 := ((u57 241 99 rfl).trans (u54 241 99 rfl))
    have e87 : h57 241 100 = h 241 100 := ((u57 241 100 rfl).trans (u54 241 100 rfl))
    have e88 : h57 241 101 = h 241 101 := ((u57 241 101 rfl).trans (u54 241 101 rfl))
    have e89 : h57 241 102 = h 241 102 := ((u57 241 102 rfl).trans (u54 241 102 rfl))
    have e90 : h57 241 106 = h 241 106 := ((u57 241 106 rfl).trans (u54 241 106 rfl))
    have e91 : h57 241 73 = h 241 73 := ((u57 241 73 rfl).trans (u54 241 73 rfl))
    have e92 : h57 241 2 = h 241 2 := ((u57 241 2 rfl).trans (u54 241 2 rfl))
    have e93 : h57 241 119 = h 241 119 := ((u57 241 119 rfl).trans (u54 241 119 rfl))
    have e94 : h57 241 67 = h 241 67 := ((u57 241 67 rfl).trans (u54 241 67 rfl))
    have e95 : h57 241 69 = h 241 69 := ((u57 241 69 rfl).trans (u54 241 69 rfl))
    have e96 : h57 241 5 = h 241 5 := ((u57 241 5 rfl).trans (u54 241 5 rfl))
    have e97 : h57 1 1 = h 1 1 := ((u57 1 1 rfl).trans (u54 1 1 rfl))
    have e98 : h57 236 2 = h 236 2 := ((u57 236 2 rfl).trans (u54 236 2 rfl))
    have e99 : h57 1 2 = h 1 2 := ((u57 1 2 rfl).trans (u54 1 2 rfl))
    have e100 : h57 236 10 = h 236 10 := ((u57 236 10 rfl).trans (u54 236 10 rfl))
    have e101 : h57 1 3 = h 1 3 := ((u57 1 3 rfl).trans (u54 1 3 rfl))
    have e102 : h57 236 11 = h 236 11 := ((u57 236 11 rfl).trans (u54 236 11 rfl))
    have b103 := gi_b (lo := 0) (hi := 5) g 241 0 rfl
    have b104 := gi_b (lo := 0) (hi := 4) g 241 1 rfl
    have e105 : h57 0 12 = h 0 12 := ((u57 0 12 rfl).trans (u54 0 12 rfl))
    have e106 : h57 236 21 = h 236 21 := ((u57 236 21 rfl).trans (u54 236 21 rfl))
    exact k h57 (b - 1) (c - 6) ⟨g57, (show h57 1 1 = h57 236 2 by omega), (RS.i0 (f := h57 238) (by refine ⟨?_, ?_, ?_, ?_, ?_⟩ <;> omega)), (RS.i0 (f := h57 241) (by refine ⟨?_, ?_, ?_, ?_, ?_⟩ <;> omega)), y57_1, (BRh.keep br0 (fun i => ((u57 2 i (fo_nk rfl)).trans (u54 2 i (fn_a (by decide) (fn_a (by decide) (fn_a (by decide) (fn_a (by decide) fn_0))))))) (fun i => ((u57 237 i (fo_nk rfl)).trans (u54 237 i (fn_a (by decide) (fn_a (by decide) (fn_a (by decide) (fn_a (by decide) fn_0))))))) (by omega)), (show h57 1 2 = h57 236 10 by omega), (show h57 1 3 = h57 236 11 by omega), (SVx.keep sv0 (by omega) (fun i _ => ((u57 3 i (fo_nk rfl)).trans (u54 3 i (fn_a (by decide) (fn_a (by decide) (fn_a (by decide) (fn_a (by decide) fn_0))))))) (fun i _ => ((u57 5 i (fo_nk rfl)).trans (u54 5 i (fn_a (by decide) (fn_a (by decide) (fn_a (by decide) (fn_a (by decide) fn_0))))))) (fun i _ => ((u57 6 i (fo_nk rfl)).trans (u54 6 i (fn_a (by decide) (fn_a (by decide) (fn_a (by decide) (fn_a (by decide) fn_0))))))) (fun i _ => ((u57 8 i (fo_nk rfl)).trans (u54 8 i (fn_a (by decide) (fn_a (by decide) (fn_a (by decide) (fn_a (by decide) fn_0))))))) (fun i _ => ((u57 238 i (fo_lk (m := 43) (by omega) rfl)).trans (u54 238 i (fn_a (by decide) (fn_a (by decide) (fn_a (by decide) (fn_a (by decide) fn_0)))))))), (show h57 0 12 = h57 236 21 by omega), (fun e => (SVx.keep (ss0 (by omega)) (by omega) (fun i _ => ((u57 210 i (fo_nk rfl)).trans (u54 210 i (fn_a (by decide) (fn_a (by decide) (fn_a (by decide) (fn_a (by decide) fn_0))))))) (fun i _ => ((u57 212 i (fo_nk rfl)).trans (u54 212 i (fn_a (by decide) (fn_a (by decide) (fn_a (by decide) (fn_a (by decide) fn_0))))))) (fun i _ => ((u57 213 i (fo_nk rfl)).trans (u54 213 i (fn_a (by decide) (fn_a (by decide) (fn_a (by decide) (fn_a (by decide) fn_0))))))) (fun i _ => ((u57 215 i (fo_nk rfl)).trans (u54 215 i (fn_a (by decide) (fn_a (by decide) (fn_a (by decide) (fn_a (by decide) fn_0))))))) (fun i _ => ((u57 241 i (fo_nk rfl)).trans (u54 241 i (fn_a (by decide) (fn_a (by decide) (fn_a (by decide) (fn_a (by decide) fn_0))))))))), y57_0⟩ (by omega) (by omega)
