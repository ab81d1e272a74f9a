-- the law, case at 590
set_option maxRecDepth 100000 in
set_option maxHeartbeats 100000000 in
theorem lc_590 {L : Nat} {xs : Nat → Int32} {d b c : Nat} {h : hp} {cr : Nat → Nat → Option Nat} {Q : hp_Q} (hcr : CR cr) (hL : L ≤ 3072) (hr : 1 ≤ b ∧ 6 ≤ c) (I : LI h) (i : Int) (hi : 0 ≤ i ∧ i + 6 ≤ L) (k : ∀ (h2 : hp) (b2 c2 : Nat), LI h2 → b ≤ b2 + 1 → c ≤ c2 + 6 → wp (md_xa (L, xs)) (d + 107) 0 (1529, [(0, .ref 1000000), (1, .ref 0), (2, .ref 236), (3, .ref 259), (4, vi i)], [], hp_w h2 cr, b2, c2) Q) : wp (md_xa (L, xs)) (d + 107) 0 (590, [(0, .ref 1000000), (1, .ref 0), (2, .ref 236), (3, .ref 259), (4, vi i)], [], hp_w h cr, b, c) Q := by
  obtain ⟨g, i11, r238, r241, gp0, br0, er2, er3, sv0, sf0, ss0, gs0⟩ := I
  have r238e := r238.e0
  have r241e := r241.e0
  obtain ⟨⟨se0, se1, se2, se3, se4, se5, se6, se7, se8, se9⟩, -⟩ := id sv0
  have b1 := gi_b (lo := 0) (hi := 5) g 3 0 rfl
  have b2 := gi_b (lo := 0) (hi := 5) g 238 0 rfl
  have b3 := gi_b (lo := 0) (hi := 4) g 3 1 rfl
  have b4 := gi_b (lo := 0) (hi := 4) g 238 1 rfl
  have b5 := gi_b (lo := 0) (hi := 12) g 3 2 rfl
  have b6 := gi_b (lo := 0) (hi := 12) g 238 2 rfl
  have b7 := gi_b (lo := -2147483648) (hi := 2147483647) g 3 3 rfl
  have b8 := gi_b (lo := 0) (hi := 999) g 238 3 rfl
  have b9 := gi_b (lo := -2147483648) (hi := 2147483647) g 3 4 rfl
  have b10 := gi_b (lo := 0) (hi := 999) g 238 4 rfl
  have b11 := gi_b (lo := -2147483648) (hi := 2147483647) g 3 5 rfl
  have b12 := gi_b (lo := 0) (hi := 9) g 238 5 rfl
  have b13 := gi_b (lo := -2147483648) (hi := 2147483647) g 3 6 rfl
  have b14 := gi_b (lo := 0) (hi := 999) g 238 6 rfl
  have b15 := gi_b (lo := -2147483648) (hi := 2147483647) g 3 7 rfl
  have b16 := gi_b (lo := 0) (hi := 3) g 238 7 rfl
  have b17 := gi_b (lo := -2147483648) (hi := 2147483647) g 3 8 rfl
  have b18 := gi_b (lo := 0) (hi := 999) g 238 8 rfl
  have b19 := gi_b (lo := -2147483648) (hi := 2147483647) g 3 9 rfl
  have b20 := gi_b (lo := 0) (hi := 999) g 238 9 rfl
  have b21 := gi_b (lo := 0) (hi := 1) g 0 12 rfl
  have b22 := gi_b (lo := 0) (hi := 1) g 236 21 rfl
  have bl_ := gi_b (lo := 0) (hi := 800) g 1 1 rfl
  have tb0 : BufC (h 2) (h 1 1) h := ⟨fun _ => rfl, rfl, by omega, by omega⟩
  have b23 := gi_b (lo := 0) (hi := 6) g 238 98 rfl
  have b24 := gi_b (lo := 0) (hi := 6) g 238 99 rfl
  have b25 := gi_b (lo := 0) (hi := 6) g 238 100 rfl
  have b26 := gi_b (lo := 0) (hi := 6) g 238 101 rfl
  have b27 := gi_b (lo := 0) (hi := 3) g 238 102 rfl
  have b28 := gi_b (lo := 0) (hi := 12) g 238 106 rfl
  have b29 := gi_b (lo := 0) (hi := 12) g 238 73 rfl
  have b30 := gi_b (lo := 0) (hi := 9999) g 238 119 rfl
  have b31 := gi_b (lo := 0) (hi := 9999) g 238 67 rfl
  have b32 := gi_b (lo := 0) (hi := 9) g 238 69 rfl
  have b33 := gi_b (lo := 0) (hi := 6) g 241 98 rfl
  have b34 := gi_b (lo := 0) (hi := 6) g 241 99 rfl
  have b35 := gi_b (lo := 0) (hi := 6) g 241 100 rfl
  have b36 := gi_b (lo := 0) (hi := 6) g 241 101 rfl
  have b37 := gi_b (lo := 0) (hi := 3) g 241 102 rfl
  have b38 := gi_b (lo := 0) (hi := 12) g 241 106 rfl
  have b39 := gi_b (lo := 0) (hi := 12) g 241 73 rfl
  have b40 := gi_b (lo := 0) (hi := 12) g 241 2 rfl
  have b41 := gi_b (lo := 0) (hi := 9999) g 241 119 rfl
  have b42 := gi_b (lo := 0) (hi := 9999) g 241 67 rfl
  have b43 := gi_b (lo := 0) (hi := 9) g 241 69 rfl
  have b44 := gi_b (lo := 0) (hi := 9) g 241 5 rfl
  have b45 := gi_b (lo := 0) (hi := 800) g 1 1 rfl
  have b46 := gi_b (lo := 0) (hi := 800) g 236 2 rfl
  have b47 := gi_b (lo := -2147483648) (hi := 2147483647) g 1 2 rfl
  have b48 := gi_b (lo := -2147483648) (hi := 2147483647) g 236 10 rfl
  have b49 := gi_b (lo := -2147483648) (hi := 2147483647) g 1 3 rfl
  have b50 := gi_b (lo := -2147483648) (hi := 2147483647) g 236 11 rfl
  refine wi_aload_n (i := 1) (x := 0) (nx := 591) (r1 := 0) (r2 := 0) (r3 := 0) rfl rfl ?_
  refine wi_aload_n (i := 0) (x := 1000000) (nx := 592) (r1 := 0) (r2 := 0) (r3 := 0) rfl rfl ?_
  refine wi_iload (i := 4) (e := i) (nx := 594) (r1 := 0) (r2 := 0) (r3 := 0) rfl rfl ?_
  refine wi_iconst (n := 1) (nx := 595) (r1 := 0) (r2 := 0) (r3 := 0) rfl ?_
  refine wr_add (nx := 596) (r1 := 0) (r2 := 0) (r3 := 0) rfl (fun e51 (fe51 : e51 = i + 1) => ?_)
  obtain ⟨i52, ei52⟩ : ∃ q : Nat, e51 = (q : Int) := ⟨(e51).toNat, by omega⟩
  have s53 := sc_b (xs i52)
  refine wr_sc (a := e51) (f := i52) (nx := 597) (r1 := 0) (r2 := 0) (r3 := 0) rfl (by omega) (by omega) hL ?_
  refine wi_aload_n (i := 3) (x := 259) (nx := 598) (r1 := 0) (r2 := 0) (r3 := 0) rfl rfl ?_
  refine wi_S (rest := []) (as := [.ref 0, vi ((xs i52).toInt), .ref 259]) (nx := 601) (r1 := 9) (r2 := 19) (r3 := 0) rfl rfl rfl (of_decide_eq_true rfl) rfl rfl (of_decide_eq_true rfl) (of_decide_eq_true rfl) ?_
  refine wi_aload_n (i := 2) (x := 259) (nx := 1) (r1 := 0) (r2 := 0) (r3 := 0) rfl rfl ?_
  refine wi_iconst (n := 0) (nx := 2) (r1 := 0) (r2 := 0) (r3 := 0) rfl ?_
  refine wi_aload_n (i := 0) (x := 0) (nx := 3) (r1 := 0) (r2 := 0) (r3 := 0) rfl rfl ?_
  refine wi_iload_n (i := 1) (e := (xs i52).toInt) (nx := 4) (r1 := 0) (r2 := 0) (r3 := 0) rfl rfl ?_
  refine wr_V (k0 := 0) (rest := [vi 0, .ref 259]) (as := [.ref 0, vi ((xs i52).toInt)]) (nx := 7) (r1 := 71) (r2 := 1) (r3 := 0) rfl rfl rfl (of_decide_eq_true rfl) rfl rfl (by decide) rfl rfl (of_decide_eq_true rfl) (of_decide_eq_true rfl) ?_
  refine ct_71_0 hcr hr  g ((xs i52).toInt) (by omega)  (fun z55  (fz55 : -2147483648 ≤ z55 ∧ z55 ≤ 2147483647) => ?_) ?_
  ·
    refine wk_i ?_
    refine wi_i2l (nx := 8) (r1 := 0) (r2 := 0) (r3 := 0) rfl (by omega) ?_
    refine wr_ls (k0 := 259) (a := 0) (f := 0) (x := z55) (bl := -9223372036854775808) (bh := 9223372036854775807) (nx := 9) (r1 := 0) (r2 := 0) (r3 := 0) rfl (by decide) rfl (by omega) (by omega) (by decide) g rfl (by omega) (fun h56 g56 w56 u56 => ?_)
    refine wi_goto (nx := 12) (r1 := 15) (r2 := 0) (r3 := 0) rfl ?_
    refine wi_iconst (n := 0) (nx := 16) (r1 := 0) (r2 := 0) (r3 := 0) rfl ?_
    refine wi_ireturn (nx := 17) (r1 := 0) (r2 := 0) (r3 := 0) rfl rfl ?_
    refine wk_i ?_
    refine wi_istore (i := 5) (e := 0) (lo2 := [(5, vi 0), (0, .ref 1000000), (1, .ref 0), (2, .ref 236), (3, .ref 259), (4, vi i)]) (nx := 603) (r1 := 0) (r2 := 0) (r3 := 0) rfl rfl ?_
    refine wi_aload_n (i := 2) (x := 236) (nx := 604) (r1 := 0) (r2 := 0) (r3 := 0) rfl rfl ?_
    refine wi_aload_n (i := 0) (x := 1000000) (nx := 605) (r1 := 0) (r2 := 0) (r3 := 0) rfl rfl ?_
    refine wi_iload (i := 4) (e := i) (nx := 607) (r1 := 0) (r2 := 0) (r3 := 0) rfl rfl ?_
    refine wi_iconst (n := 1) (nx := 608) (r1 := 0) (r2 := 0) (r3 := 0) rfl ?_
    refine wr_add (nx := 609) (r1 := 0) (r2 := 0) (r3 := 0) rfl (fun e57 (fe57 : e57 = i + 1) => ?_)
    refine wr_sc (a := e57) (f := i52) (nx := 610) (r1 := 0) (r2 := 0) (r3 := 0) rfl (by omega) (by omega) hL ?_
    refine wr_V (k0 := 236) (rest := []) (as := [.ref 236, vi ((xs i52).toInt)]) (nx := 613) (r1 := 245) (r2 := 1) (r3 := 11) rfl rfl rfl (of_decide_eq_true rfl) rfl rfl (by decide) rfl rfl (of_decide_eq_true rfl) (of_decide_eq_true rfl) ?_
    refine ct_245_236 hcr  g56 ((xs i52).toInt) (by omega)  (fun h58 z59 g58 u58 (fz59 : 0 ≤ z59 ∧ z59 ≤ 4) => ?_)
    refine wk_i ?_
    refine wi_istore (i := 6) (e := z59) (lo2 := [(6, vi z59), (5, vi 0), (0, .ref 1000000), (1, .ref 0), (2, .ref 236), (3, .ref 259), (4, vi i)]) (nx := 615) (r1 := 0) (r2 := 0) (r3 := 0) rfl rfl ?_
    refine wi_goto (nx := 618) (r1 := 1529) (r2 := 0) (r3 := 0) rfl ?_
    refine wp.lo (lo := [(0, .ref 1000000), (1, .ref 0), (2, .ref 236), (3, .ref 259), (4, vi i)]) ⟨rfl, rfl, rfl, rfl, rfl, trivial⟩ rfl ?_
    have e60 : h58 238 98 = h 238 98 := ((u58 238 98 rfl).trans (u56 238 98 rfl))
    have e61 : h58 238 99 = h 238 99 := ((u58 238 99 rfl).trans (u56 238 99 rfl))
    have e62 : h58 238 100 = h 238 100 := ((u58 238 100 rfl).trans (u56 238 100 rfl))
    have e63 : h58 238 101 = h 238 101 := ((u58 238 101 rfl).trans (u56 238 101 rfl))
    have e64 : h58 238 102 = h 238 102 := ((u58 238 102 rfl).trans (u56 238 102 rfl))
    have e65 : h58 238 106 = h 238 106 := ((u58 238 106 rfl).trans (u56 238 106 rfl))
    have e66 : h58 238 73 = h 238 73 := ((u58 238 73 rfl).trans (u56 238 73 rfl))
    have e67 : h58 238 2 = h 238 2 := ((u58 238 2 rfl).trans (u56 238 2 rfl))
    have e68 : h58 238 119 = h 238 119 := ((u58 238 119 rfl).trans (u56 238 119 rfl))
    have e69 : h58 238 67 = h 238 67 := ((u58 238 67 rfl).trans (u56 238 67 rfl))
    have e70 : h58 238 69 = h 238 69 := ((u58 238 69 rfl).trans (u56 238 69 rfl))
    have e71 : h58 238 5 = h 238 5 := ((u58 238 5 rfl).trans (u56 238 5 rfl))
    have e72 : h58 241 98 = h 241 98 := ((u58 241 98 rfl).trans (u56 241 98 rfl))
    have e73 : h58 241 99 = h 241 99 := ((u58 241 99 rfl).trans (u56 241 99 rfl))
    have e74 : h58 241 100 = h 241 100 := ((u58 241 100 rfl).trans (u56 241 100 rfl))
    have e75 : h58 241 101 = h 241 101 := ((u58 241 101 rfl).trans (u56 241 101 rfl))
    have e76 : h58 241 102 = h 241 102 := ((u58 241 102 rfl).trans (u56 241 102 rfl))
    have e77 : h58 241 106 = h 241 106 := ((u58 241 106 rfl).trans (u56 241 106 rfl))
    have e78 : h58 241 73 = h 241 73 := ((u58 241 73 rfl).trans (u56 241 73 rfl))
    have e79 : h58 241 2 = h 241 2 := ((u58 241 2 rfl).trans (u56 241 2 rfl))
    have e80 : h58 241 119 = h 241 119 := ((u58 241 119 rfl).trans (u56 241 119 rfl))
    have e81 : h58 241 67 = h 241 67 := ((u58 241 67 rfl).trans (u56 241 67 rfl))
    have e82 : h58 241 69 = h 241 69 := ((u58 241 69 rfl).trans (u56 241 69 rfl))
    have e83 : h58 241 5 = h 241 5 := ((u58 241 5 rfl).trans (u56 241 5 rfl))
    have e84 : h58 1 1 = h 1 1 := ((u58 1 1 rfl).trans (u56 1 1 rfl))
    have e85 : h58 236 2 = h 236 2 := ((u58 236 2 rfl).trans (u56 236 2 rfl))
    have e86 : h58 1 2 = h 1 2 := ((u58 1 2 rfl).trans (u56 1 2 rfl))
    have e87 : h58 236 10 = h 236 10 := ((u58 236 10 rfl).trans (u56 236 10 rfl))
    have e88 : h58 1 3 = h 1 3 := ((u58 1 3 rfl).trans (u56 1 3 rfl))
    have e89 : h58 236 11 = h 236 11 := ((u58 236 11 rfl).trans (u56 236 11 rfl))
    have gp90 := GPH.fr u56 rfl gp0
    have gp91 := GPH.fr u58 rfl gp90
    have b92 := gi_b (lo := 0) (hi := 5) g 241 0 rfl
    have b93 := gi_b (lo := 0) (hi := 4) g 241 1 rfl
    have gs94 := GPS.fr u56 rfl gs0
    have gs95 := GPS.fr u58 rfl gs94
    have e96 : h58 0 12 = h 0 12 := ((u58 0 12 rfl).trans (u56 0 12 rfl))
    have e97 : h58 236 21 = h 236 21 := ((u58 236 21 rfl).trans (u56 236 21 rfl))
    exact k h58 b c ⟨g58, (show h58 1 1 = h58 236 2 by omega), (RS.i0 (f := h58 238) (by refine ⟨?_, ?_, ?_, ?_, ?_⟩ <;> omega)), (RS.i0 (f := h58 241) (by refine ⟨?_, ?_, ?_, ?_, ?_⟩ <;> omega)), gp91, (BRh.keep br0 (fun i => ((u58 2 i (fn_a (by decide) fn_0)).trans (u56 2 i (fn_a (by omega) fn_0)))) (fun i => ((u58 237 i (fn_a (by decide) fn_0)).trans (u56 237 i (fn_a (by omega) fn_0)))) (by omega)), (show h58 1 2 = h58 236 10 by omega), (show h58 1 3 = h58 236 11 by omega), (SVx.keep sv0 (by omega) (fun i _ => ((u58 3 i (fn_a (by decide) fn_0)).trans (u56 3 i (fn_a (by omega) fn_0)))) (fun i _ => ((u58 5 i (fn_a (by decide) fn_0)).trans (u56 5 i (fn_a (by omega) fn_0)))) (fun i _ => ((u58 6 i (fn_a (by decide) fn_0)).trans (u56 6 i (fn_a (by omega) fn_0)))) (fun i _ => ((u58 8 i (fn_a (by decide) fn_0)).trans (u56 8 i (fn_a (by omega) fn_0)))) (fun i _ => ((u58 238 i (fn_a (by decide) fn_0)).trans (u56 238 i (fn_a (by omega) fn_0))))), (show h58 0 12 = h58 236 21 by omega), (fun e => (SVx.keep (ss0 (by omega)) (by omega) (fun i _ => ((u58 210 i (fn_a (by decide) fn_0)).trans (u56 210 i (fn_a (by omega) fn_0)))) (fun i _ => ((u58 212 i (fn_a (by decide) fn_0)).trans (u56 212 i (fn_a (by omega) fn_0)))) (fun i _ => ((u58 213 i (fn_a (by decide) fn_0)).trans (u56 213 i (fn_a (by omega) fn_0)))) (fun i _ => ((u58 215 i (fn_a (by decide) fn_0)).trans (u56 215 i (fn_a (by omega) fn_0)))) (fun i _ => ((u58 241 i (fn_a (by decide) fn_0)).trans (u56 241 i (fn_a (by omega) fn_0)))))), gs95⟩ (by omega) (by omega)
  ·
    refine wk_h 12 (by decide) rfl ?_
    refine wr_astx (i := 3) (lo2 := [(3, .retAddr 0), (0, .ref 0), (1, vi ((xs i52).toInt)), (2, .ref 259)]) (nx := 13) (r1 := 0) (r2 := 0) (r3 := 0) rfl rfl ?_
    refine wi_iconst (n := 1) (nx := 14) (r1 := 0) (r2 := 0) (r3 := 0) rfl ?_
    refine wi_ireturn (nx := 15) (r1 := 0) (r2 := 0) (r3 := 0) rfl rfl ?_
    refine wk_i ?_
    refine wi_istore (i := 5) (e := 1) (lo2 := [(5, vi 1), (0, .ref 1000000), (1, .ref 0), (2, .ref 236), (3, .ref 259), (4, vi i)]) (nx := 603) (r1 := 0) (r2 := 0) (r3 := 0) rfl rfl ?_
    refine wi_aload_n (i := 2) (x := 236) (nx := 604) (r1 := 0) (r2 := 0) (r3 := 0) rfl rfl ?_
    refine wi_aload_n (i := 0) (x := 1000000) (nx := 605) (r1 := 0) (r2 := 0) (r3 := 0) rfl rfl ?_
    refine wi_iload (i := 4) (e := i) (nx := 607) (r1 := 0) (r2 := 0) (r3 := 0) rfl rfl ?_
    refine wi_iconst (n := 1) (nx := 608) (r1 := 0) (r2 := 0) (r3 := 0) rfl ?_
    refine wr_add (nx := 609) (r1 := 0) (r2 := 0) (r3 := 0) rfl (fun e56 (fe56 : e56 = i + 1) => ?_)
    refine wr_sc (a := e56) (f := i52) (nx := 610) (r1 := 0) (r2 := 0) (r3 := 0) rfl (by omega) (by omega) hL ?_
    refine wr_V (k0 := 236) (rest := []) (as := [.ref 236, vi ((xs i52).toInt)]) (nx := 613) (r1 := 245) (r2 := 1) (r3 := 11) rfl rfl rfl (of_decide_eq_true rfl) rfl rfl (by decide) rfl rfl (of_decide_eq_true rfl) (of_decide_eq_true rfl) ?_
    refine ct_245_236 hcr  g ((xs i52).toInt) (by omega)  (fun h57 z58 g57 u57 (fz58 : 0 ≤ z58 ∧ z58 ≤ 4) => ?_)
    refine wk_i ?_
    refine wi_istore (i := 6) (e := z58) (lo2 := [(6, vi z58), (5, vi 1), (0, .ref 1000000), (1, .ref 0), (2, .ref 236), (3, .ref 259), (4, vi i)]) (nx := 615) (r1 := 0) (r2 := 0) (r3 := 0) rfl rfl ?_
    refine wi_goto (nx := 618) (r1 := 1529) (r2 := 0) (r3 := 0) rfl ?_
    refine wp.lo (lo := [(0, .ref 1000000), (1, .ref 0), (2, .ref 236), (3, .ref 259), (4, vi i)]) ⟨rfl, rfl, rfl, rfl, rfl, trivial⟩ rfl ?_
    have e59 : h57 238 98 = h 238 98 := (u57 238 98 rfl)
    have e60 : h57 238 99 = h 238 99 := (u57 238 99 rfl)
    have e61 : h57 238 100 = h 238 100 := (u57 238 100 rfl)
    have e62 : h57 238 101 = h 238 101 := (u57 238 101 rfl)
    have e63 : h57 238 102 = h 238 102 := (u57 238 102 rfl)
    have e64 : h57 238 106 = h 238 106 := (u57 238 106 rfl)
    have e65 : h57 238 73 = h 238 73 := (u57 238 73 rfl)
    have e66 : h57 238 2 = h 238 2 := (u57 238 2 rfl)
    have e67 : h57 238 119 = h 238 119 := (u57 238 119 rfl)
    have e68 : h57 238 67 = h 238 67 := (u57 238 67 rfl)
    have e69 : h57 238 69 = h 238 69 := (u57 238 69 rfl)
    have e70 : h57 238 5 = h 238 5 := (u57 238 5 rfl)
    have e71 : h57 241 98 = h 241 98 := (u57 241 98 rfl)
    have e72 : h57 241 99 = h 241 99 := (u57 241 99 rfl)
    have e73 : h57 241 100 = h 241 100 := (u57 241 100 rfl)
    have e74 : h57 241 101 = h 241 101 := (u57 241 101 rfl)
    have e75 : h57 241 102 = h 241 102 := (u57 241 102 rfl)
    have e76 : h57 241 106 = h 241 106 := (u57 241 106 rfl)
    have e77 : h57 241 73 = h 241 73 := (u57 241 73 rfl)
    have e78 : h57 241 2 = h 241 2 := (u57 241 2 rfl)
    have e79 : h57 241 119 = h 241 119 := (u57 241 119 rfl)
    have e80 : h57 241 67 = h 241 67 := (u57 241 67 rfl)
    have e81 : h57 241 69 = h 241 69 := (u57 241 69 rfl)
    have e82 : h57 241 5 = h 241 5 := (u57 241 5 rfl)
    have e83 : h57 1 1 = h 1 1 := (u57 1 1 rfl)
    have e84 : h57 236 2 = h 236 2 := (u57 236 2 rfl)
    have e85 : h57 1 2 = h 1 2 := (u57 1 2 rfl)
    have e86 : h57 236 10 = h 236 10 := (u57 236 10 rfl)
    have e87 : h57 1 3 = h 1 3 := (u57 1 3 rfl)
    have e88 : h57 236 11 = h 236 11 := (u57 236 11 rfl)
    have gp89 := GPH.fr u57 rfl gp0
    have b90 := gi_b (lo := 0) (hi := 5) g 241 0 rfl
    have b91 := gi_b (lo := 0) (hi := 4) g 241 1 rfl
    have gs92 := GPS.fr u57 rfl gs0
    have e93 : h57 0 12 = h 0 12 := (u57 0 12 rfl)
    have e94 : h57 236 21 = h 236 21 := (u57 236 21 rfl)
    exact k h57 (b - 1) (c - 6) ⟨g57, (show h57 1 1 = h57 236 2 by omega), (RS.i0 (f := h57 238) (by refine ⟨?_, ?_, ?_, ?_, ?_⟩ <;> omega)), (RS.i0 (f := h57 241) (by refine ⟨?_, ?_, ?_, ?_, ?_⟩ <;> omega)), gp89, (BRh.keep br0 (fun i => (u57 2 i (fn_a (by decide) fn_0))) (fun i => (u57 237 i (fn_a (by decide) fn_0))) (by omega)), (show h57 1 2 = h57 236 10 by omega), (show h57 1 3 = h57 236 11 by omega), (SVx.keep sv0 (by omega) (fun i _ => (u57 3 i (fn_a (by decide) fn_0))) (fun i _ => (u57 5 i (fn_a (by decide) fn_0))) (fun i _ => (u57 6 i (fn_a (by decide) fn_0))) (fun i _ => (u57 8 i (fn_a (by decide) fn_0))) (fun i _ => (u57 238 i (fn_a (by decide) fn_0)))), (show h57 0 12 = h57 236 21 by omega), (fun e => (SVx.keep (ss0 (by omega)) (by omega) (fun i _ => (u57 210 i (fn_a (by decide) fn_0))) (fun i _ => (u57 212 i (fn_a (by decide) fn_0))) (fun i _ => (u57 213 i (fn_a (by decide) fn_0))) (fun i _ => (u57 215 i (fn_a (by decide) fn_0))) (fun i _ => (u57 241 i (fn_a (by decide) fn_0))))), gs92⟩ (by omega) (by omega)
-- the law, case at 618
set_option maxRecDepth 100000 in
set_option maxHeartbeats 100000000 in
theorem lc_618 {L : Nat} {xs : Nat → Int32} {d b c : Nat} {h : hp} {cr : Nat → Nat → Option Nat} {Q : hp_Q} (hcr : CR cr) (hL : L ≤ 3072) (hr : 1 ≤ b ∧ 6 ≤ c) (I : LI h) (i : Int) (hi : 0 ≤ i ∧ i + 6 ≤ L) (k : ∀ (h2 : hp) (b2 c2 : Nat), LI h2 → b ≤ b2 + 1 → c ≤ c2 + 6 → wp (md_xa (L, xs)) (d + 107) 0 (1529, [(0, .ref 1000000), (1, .ref 0), (2, .ref 236), (3, .ref 259), (4, vi i)], [], hp_w h2 cr, b2, c2) Q) : wp (md_xa (L, xs)) (d + 107) 0 (618, [(0, .ref 1000000), (1, .ref 0), (2, .ref 236), (3, .ref 259), (4, vi i)], [], hp_w h cr, b, c) Q := by
  obtain ⟨g, i11, r238, r241, gp0, br0, er2, er3, sv0, sf0, ss0, gs0⟩ := I
  have r238e := r238.e0
  have r241e := r241.e0
  obtain ⟨⟨se0, se1, se2, se3, se4, se5, se6, se7, se8, se9⟩, -⟩ := id sv0
  have b1 := gi_b (lo := 0) (hi := 5) g 3 0 rfl
  have b2 := gi_b (lo := 0) (hi := 5) g 238 0 rfl
  have b3 := gi_b (lo := 0) (hi := 4) g 3 1 rfl
  have b4 := gi_b (lo := 0) (hi := 4) g 238 1 rfl
  have b5 := gi_b (lo := 0) (hi := 12) g 3 2 rfl
  have b6 := gi_b (lo := 0) (hi := 12) g 238 2 rfl
  have b7 := gi_b (lo := -2147483648) (hi := 2147483647) g 3 3 rfl
  have b8 := gi_b (lo := 0) (hi := 999) g 238 3 rfl
  have b9 := gi_b (lo := -2147483648) (hi := 2147483647) g 3 4 rfl
  have b10 := gi_b (lo := 0) (hi := 999) g 238 4 rfl
  have b11 := gi_b (lo := -2147483648) (hi := 2147483647) g 3 5 rfl
  have b12 := gi_b (lo := 0) (hi := 9) g 238 5 rfl
  have b13 := gi_b (lo := -2147483648) (hi := 2147483647) g 3 6 rfl
  have b14 := gi_b (lo := 0) (hi := 999) g 238 6 rfl
  have b15 := gi_b (lo := -2147483648) (hi := 2147483647) g 3 7 rfl
  have b16 := gi_b (lo := 0) (hi := 3) g 238 7 rfl
  have b17 := gi_b (lo := -2147483648) (hi := 2147483647) g 3 8 rfl
  have b18 := gi_b (lo := 0) (hi := 999) g 238 8 rfl
  have b19 := gi_b (lo := -2147483648) (hi := 2147483647) g 3 9 rfl
  have b20 := gi_b (lo := 0) (hi := 999) g 238 9 rfl
  have b21 := gi_b (lo := 0) (hi := 1) g 0 12 rfl
  have b22 := gi_b (lo := 0) (hi := 1) g 236 21 rfl
  have bl_ := gi_b (lo := 0) (hi := 800) g 1 1 rfl
  have tb0 : BufC (h 2) (h 1 1) h := ⟨fun _ => rfl, rfl, by omega, by omega⟩
  have b23 := gi_b (lo := 0) (hi := 6) g 238 98 rfl
  have b24 := gi_b (lo := 0) (hi := 6) g 238 99 rfl
  have b25 := gi_b (lo := 0) (hi := 6) g 238 100 rfl
  have b26 := gi_b (lo := 0) (hi := 6) g 238 101 rfl
  have b27 := gi_b (lo := 0) (hi := 3) g 238 102 rfl
  have b28 := gi_b (lo := 0) (hi := 12) g 238 106 rfl
  have b29 := gi_b (lo := 0) (hi := 12) g 238 73 rfl
  have b30 := gi_b (lo := 0) (hi := 9999) g 238 119 rfl
  have b31 := gi_b (lo := 0) (hi := 9999) g 238 67 rfl
  have b32 := gi_b (lo := 0) (hi := 9) g 238 69 rfl
  have b33 := gi_b (lo := 0) (hi := 6) g 241 98 rfl
  have b34 := gi_b (lo := 0) (hi := 6) g 241 99 rfl
  have b35 := gi_b (lo := 0) (hi := 6) g 241 100 rfl
  have b36 := gi_b (lo := 0) (hi := 6) g 241 101 rfl
  have b37 := gi_b (lo := 0) (hi := 3) g 241 102 rfl
  have b38 := gi_b (lo := 0) (hi := 12) g 241 106 rfl
  have b39 := gi_b (lo := 0) (hi := 12) g 241 73 rfl
  have b40 := gi_b (lo := 0) (hi := 12) g 241 2 rfl
  have b41 := gi_b (lo := 0) (hi := 9999) g 241 119 rfl
  have b42 := gi_b (lo := 0) (hi := 9999) g 241 67 rfl
  have b43 := gi_b (lo := 0) (hi := 9) g 241 69 rfl
  have b44 := gi_b (lo := 0) (hi := 9) g 241 5 rfl
  have b45 := gi_b (lo := 0) (hi := 800) g 1 1 rfl
  have b46 := gi_b (lo := 0) (hi := 800) g 236 2 rfl
  have b47 := gi_b (lo := -2147483648) (hi := 2147483647) g 1 2 rfl
  have b48 := gi_b (lo := -2147483648) (hi := 2147483647) g 236 10 rfl
  have b49 := gi_b (lo := -2147483648) (hi := 2147483647) g 1 3 rfl
  have b50 := gi_b (lo := -2147483648) (hi := 2147483647) g 236 11 rfl
  refine wi_aload_n (i := 1) (x := 0) (nx := 619) (r1 := 0) (r2 := 0) (r3 := 0) rfl rfl ?_
  refine wi_aload_n (i := 0) (x := 1000000) (nx := 620) (r1 := 0) (r2 := 0) (r3 := 0) rfl rfl ?_
  refine wi_iload (i := 4) (e := i) (nx := 622) (r1 := 0) (r2 := 0) (r3 := 0) rfl rfl ?_
  refine wi_iconst (n := 1) (nx := 623) (r1 := 0) (r2 := 0) (r3 := 0) rfl ?_
  refine wr_add (nx := 624) (r1 := 0) (r2 := 0) (r3 := 0) rfl (fun e51 (fe51 : e51 = i + 1) => ?_)
  obtain ⟨i52, ei52⟩ : ∃ q : Nat, e51 = (q : Int) := ⟨(e51).toNat, by omega⟩
  have s53 := sc_b (xs i52)
  refine wr_sc (a := e51) (f := i52) (nx := 625) (r1 := 0) (r2 := 0) (r3 := 0) rfl (by omega) (by omega) hL ?_
  refine wi_aload_n (i := 3) (x := 259) (nx := 626) (r1 := 0) (r2 := 0) (r3 := 0) rfl rfl ?_
  refine wi_S (rest := []) (as := [.ref 0, vi ((xs i52).toInt), .ref 259]) (nx := 629) (r1 := 10) (r2 := 19) (r3 := 0) rfl rfl rfl (of_decide_eq_true rfl) rfl rfl (of_decide_eq_true rfl) (of_decide_eq_true rfl) ?_
  refine wi_aload_n (i := 2) (x := 259) (nx := 1) (r1 := 0) (r2 := 0) (r3 := 0) rfl rfl ?_
  refine wi_iconst (n := 0) (nx := 2) (r1 := 0) (r2 := 0) (r3 := 0) rfl ?_
  refine wi_aload_n (i := 0) (x := 0) (nx := 3) (r1 := 0) (r2 := 0) (r3 := 0) rfl rfl ?_
  refine wi_iload_n (i := 1) (e := (xs i52).toInt) (nx := 4) (r1 := 0) (r2 := 0) (r3 := 0) rfl rfl ?_
  refine wr_V (k0 := 0) (rest := [vi 0, .ref 259]) (as := [.ref 0, vi ((xs i52).toInt)]) (nx := 7) (r1 := 72) (r2 := 1) (r3 := 0) rfl rfl rfl (of_decide_eq_true rfl) rfl rfl (by decide) rfl rfl (of_decide_eq_true rfl) (of_decide_eq_true rfl) ?_
  refine ct_72_0 hcr hr  g ((xs i52).toInt) (by omega)  (fun z55  (fz55 : -2147483648 ≤ z55 ∧ z55 ≤ 2147483647) => ?_) ?_
  ·
    refine wk_i ?_
    refine wi_i2l (nx := 8) (r1 := 0) (r2 := 0) (r3 := 0) rfl (by omega) ?_
    refine wr_ls (k0 := 259) (a := 0) (f := 0) (x := z55) (bl := -9223372036854775808) (bh := 9223372036854775807) (nx := 9) (r1 := 0) (r2 := 0) (r3 := 0) rfl (by decide) rfl (by omega) (by omega) (by decide) g rfl (by omega) (fun h56 g56 w56 u56 => ?_)
    refine wi_goto (nx := 12) (r1 := 15) (r2 := 0) (r3 := 0) rfl ?_
    refine wi_iconst (n := 0) (nx := 16) (r1 := 0) (r2 := 0) (r3 := 0) rfl ?_
    refine wi_ireturn (nx := 17) (r1 := 0) (r2 := 0) (r3 := 0) rfl rfl ?_
    refine wk_i ?_
    refine wi_istore (i := 5) (e := 0) (lo2 := [(5, vi 0), (0, .ref 1000000), (1, .ref 0), (2, .ref 236), (3, .ref 259), (4, vi i)]) (nx := 631) (r1 := 0) (r2 := 0) (r3 := 0) rfl rfl ?_
    refine wi_aload_n (i := 2) (x := 236) (nx := 632) (r1 := 0) (r2 := 0) (r3 := 0) rfl rfl ?_
    refine wi_aload_n (i := 0) (x := 1000000) (nx := 633) (r1 := 0) (r2 := 0) (r3 := 0) rfl rfl ?_
    refine wi_iload (i := 4) (e := i) (nx := 635) (r1 := 0) (r2 := 0) (r3 := 0) rfl rfl ?_
    refine wi_iconst (n := 1) (nx := 636) (r1 := 0) (r2 := 0) (r3 := 0) rfl ?_
    refine wr_add (nx := 637) (r1 := 0) (r2 := 0) (r3 := 0) rfl (fun e57 (fe57 : e57 = i + 1) => ?_)
    refine wr_sc (a := e57) (f := i52) (nx := 638) (r1 := 0) (r2 := 0) (r3 := 0) rfl (by omega) (by omega) hL ?_
    refine wr_V (k0 := 236) (rest := []) (as := [.ref 236, vi ((xs i52).toInt)]) (nx := 641) (r1 := 246) (r2 := 1) (r3 := 11) rfl rfl rfl (of_decide_eq_true rfl) rfl rfl (by decide) rfl rfl (of_decide_eq_true rfl) (of_decide_eq_true rfl) ?_
    refine ct_246_236 hcr  g56 ((xs i52).toInt) (by omega)  (fun h58 z59 g58 u58 (fz59 : 0 ≤ z59 ∧ z59 ≤ 999) => ?_)
    refine wk_i ?_
    refine wi_istore (i := 6) (e := z59) (lo2 := [(6, vi z59), (5, vi 0), (0, .ref 1000000), (1, .ref 0), (2, .ref 236), (3, .ref 259), (4, vi i)]) (nx := 643) (r1 := 0) (r2 := 0) (r3 := 0) rfl rfl ?_
    refine wi_goto (nx := 646) (r1 := 1529) (r2 := 0) (r3 := 0) rfl ?_
    refine wp.lo (lo := [(0, .ref 1000000), (1, .ref 0), (2, .ref 236), (3, .ref 259), (4, vi i)]) ⟨rfl, rfl, rfl, rfl, rfl, trivial⟩ rfl ?_
    have e60 : h58 238 98 = h 238 98 := ((u58 238 98 rfl).trans (u56 238 98 rfl))
    have e61 : h58 238 99 = h 238 99 := ((u58 238 99 rfl).trans (u56 238 99 rfl))
    have e62 : h58 238 100 = h 238 100 := ((u58 238 100 rfl).trans (u56 238 100 rfl))
    have e63 : h58 238 101 = h 238 101 := ((u58 238 101 rfl).trans (u56 238 101 rfl))
    have e64 : h58 238 102 = h 238 102 := ((u58 238 102 rfl).trans (u56 238 102 rfl))
    have e65 : h58 238 106 = h 238 106 := ((u58 238 106 rfl).trans (u56 238 106 rfl))
    have e66 : h58 238 73 = h 238 73 := ((u58 238 73 rfl).trans (u56 238 73 rfl))
    have e67 : h58 238 2 = h 238 2 := ((u58 238 2 rfl).trans (u56 238 2 rfl))
    have e68 : h58 238 119 = h 238 119 := ((u58 238 119 rfl).trans (u56 238 119 rfl))
    have e69 : h58 238 67 = h 238 67 := ((u58 238 67 rfl).trans (u56 238 67 rfl))
    have e70 : h58 238 69 = h 238 69 := ((u58 238 69 rfl).trans (u56 238 69 rfl))
    have e71 : h58 238 5 = h 238 5 := ((u58 238 5 rfl).trans (u56 238 5 rfl))
    have e72 : h58 241 98 = h 241 98 := ((u58 241 98 rfl).trans (u56 241 98 rfl))
    have e73 : h58 241 99 = h 241 99 := ((u58 241 99 rfl).trans (u56 241 99 rfl))
    have e74 : h58 241 100 = h 241 100 := ((u58 241 100 rfl).trans (u56 241 100 rfl))
    have e75 : h58 241 101 = h 241 101 := ((u58 241 101 rfl).trans (u56 241 101 rfl))
    have e76 : h58 241 102 = h 241 102 := ((u58 241 102 rfl).trans (u56 241 102 rfl))
    have e77 : h58 241 106 = h 241 106 := ((u58 241 106 rfl).trans (u56 241 106 rfl))
    have e78 : h58 241 73 = h 241 73 := ((u58 241 73 rfl).trans (u56 241 73 rfl))
    have e79 : h58 241 2 = h 241 2 := ((u58 241 2 rfl).trans (u56 241 2 rfl))
    have e80 : h58 241 119 = h 241 119 := ((u58 241 119 rfl).trans (u56 241 119 rfl))
    have e81 : h58 241 67 = h 241 67 := ((u58 241 67 rfl).trans (u56 241 67 rfl))
    have e82 : h58 241 69 = h 241 69 := ((u58 241 69 rfl).trans (u56 241 69 rfl))
    have e83 : h58 241 5 = h 241 5 := ((u58 241 5 rfl).trans (u56 241 5 rfl))
    have e84 : h58 1 1 = h 1 1 := ((u58 1 1 rfl).trans (u56 1 1 rfl))
    have e85 : h58 236 2 = h 236 2 := ((u58 236 2 rfl).trans (u56 236 2 rfl))
    have e86 : h58 1 2 = h 1 2 := ((u58 1 2 rfl).trans (u56 1 2 rfl))
    have e87 : h58 236 10 = h 236 10 := ((u58 236 10 rfl).trans (u56 236 10 rfl))
    have e88 : h58 1 3 = h 1 3 := ((u58 1 3 rfl).trans (u56 1 3 rfl))
    have e89 : h58 236 11 = h 236 11 := ((u58 236 11 rfl).trans (u56 236 11 rfl))
    have gp90 := GPH.fr u56 rfl gp0
    have gp91 := GPH.fr u58 rfl gp90
    have b92 := gi_b (lo := 0) (hi := 5) g 241 0 rfl
    have b93 := gi_b (lo := 0) (hi := 4) g 241 1 rfl
    have gs94 := GPS.fr u56 rfl gs0
    have gs95 := GPS.fr u58 rfl gs94
    have e96 : h58 0 12 = h 0 12 := ((u58 0 12 rfl).trans (u56 0 12 rfl))
    have e97 : h58 236 21 = h 236 21 := ((u58 236 21 rfl).trans (u56 236 21 rfl))
    exact k h58 b c ⟨g58, (show h58 1 1 = h58 236 2 by omega), (RS.i0 (f := h58 238) (by refine ⟨?_, ?_, ?_, ?_, ?_⟩ <;> omega)), (RS.i0 (f := h58 241) (by refine ⟨?_, ?_, ?_, ?_, ?_⟩ <;> omega)), gp91, (BRh.keep br0 (fun i => ((u58 2 i (fn_a (by decide) fn_0)).trans (u56 2 i (fn_a (by omega) fn_0)))) (fun i => ((u58 237 i (fn_a (by decide) fn_0)).trans (u56 237 i (fn_a (by omega) fn_0)))) (by omega)), (show h58 1 2 = h58 236 10 by omega), (show h58 1 3 = h58 236 11 by omega), (SVx.keep sv0 (by omega) (fun i _ => ((u58 3 i (fn_a (by decide) fn_0)).trans (u56 3 i (fn_a (by omega) fn_0)))) (fun i _ => ((u58 5 i (fn_a (by decide) fn_0)).trans (u56 5 i (fn_a (by omega) fn_0)))) (fun i _ => ((u58 6 i (fn_a (by decide) fn_0)).trans (u56 6 i (fn_a (by omega) fn_0)))) (fun i _ => ((u58 8 i (fn_a (by decide) fn_0)).trans (u56 8 i (fn_a (by omega) fn_0)))) (fun i _ => ((u58 238 i (fn_a (by decide) fn_0)).trans (u56 238 i (fn_a (by omega) fn_0))))), (show h58 0 12 = h58 236 21 by omega), (fun e => (SVx.keep (ss0 (by omega)) (by omega) (fun i _ => ((u58 210 i (fn_a (by decide) fn_0)).trans (u56 210 i (fn_a (by omega) fn_0)))) (fun i _ => ((u58 212 i (fn_a (by decide) fn_0)).trans (u56 212 i (fn_a (by omega) fn_0)))) (fun i _ => ((u58 213 i (fn_a (by decide) fn_0)).trans (u56 213 i (fn_a (by omega) fn_0)))) (fun i _ => ((u58 215 i (fn_a (by decide) fn_0)).trans (u56 215 i (fn_a (by omega) fn_0)))) (fun i _ => ((u58 241 i (fn_a (by decide) fn_0)).trans (u56 241 i (fn_a (by omega) fn_0)))))), gs95⟩ (by omega) (by omega)
  ·
    refine wk_h 12 (by decide) rfl ?_
    refine wr_astx (i := 3) (lo2 := [(3, .retAddr 0), (0, .ref 0), (1, vi ((xs i52).toInt)), (2, .ref 259)]) (nx := 13) (r1 := 0) (r2 := 0) (r3 := 0) rfl rfl ?_
    refine wi_iconst (n := 1) (nx := 14) (r1 := 0) (r2 := 0) (r3 := 0) rfl ?_
    refine wi_ireturn (nx := 15) (r1 := 0) (r2 := 0) (r3 := 0) rfl rfl ?_
    refine wk_i ?_
    refine wi_istore (i := 5) (e := 1) (lo2 := [(5, vi 1), (0, .ref 1000000), (1, .ref 0), (2, .ref 236), (3, .ref 259), (4, vi i)]) (nx := 631) (r1 := 0) (r2 := 0) (r3 := 0) rfl rfl ?_
    refine wi_aload_n (i := 2) (x := 236) (nx := 632) (r1 := 0) (r2 := 0) (r3 := 0) rfl rfl ?_
    refine wi_aload_n (i := 0) (x := 1000000) (nx := 633) (r1 := 0) (r2 := 0) (r3 := 0) rfl rfl ?_
    refine wi_iload (i := 4) (e := i) (nx := 635) (r1 := 0) (r2 := 0) (r3 := 0) rfl rfl ?_
    refine wi_iconst (n := 1) (nx := 636) (r1 := 0) (r2 := 0) (r3 := 0) rfl ?_
    refine wr_add (nx := 637) (r1 := 0) (r2 := 0) (r3 := 0) rfl (fun e56 (fe56 : e56 = i + 1) => ?_)
    refine wr_sc (a := e56) (f := i52) (nx := 638) (r1 := 0) (r2 := 0) (r3 := 0) rfl (by omega) (by omega) hL ?_
    refine wr_V (k0 := 236) (rest := []) (as := [.ref 236, vi ((xs i52).toInt)]) (nx := 641) (r1 := 246) (r2 := 1) (r3 := 11) rfl rfl rfl (of_decide_eq_true rfl) rfl rfl (by decide) rfl rfl (of_decide_eq_true rfl) (of_decide_eq_true rfl) ?_
    refine ct_246_236 hcr  g ((xs i52).toInt) (by omega)  (fun h57 z58 g57 u57 (fz58 : 0 ≤ z58 ∧ z58 ≤ 999) => ?_)
    refine wk_i ?_
    refine wi_istore (i := 6) (e := z58) (lo2 := [(6, vi z58), (5, vi 1), (0, .ref 1000000), (1, .ref 0), (2, .ref 236), (3, .ref 259), (4, vi i)]) (nx := 643) (r1 := 0) (r2 := 0) (r3 := 0) rfl rfl ?_
    refine wi_goto (nx := 646) (r1 := 1529) (r2 := 0) (r3 := 0) rfl ?_
    refine wp.lo (lo := [(0, .ref 1000000), (1, .ref 0), (2, .ref 236), (3, .ref 259), (4, vi i)]) ⟨rfl, rfl, rfl, rfl, rfl, trivial⟩ rfl ?_
    have e59 : h57 238 98 = h 238 98 := (u57 238 98 rfl)
    have e60 : h57 238 99 = h 238 99 := (u57 238 99 rfl)
    have e61 : h57 238 100 = h 238 100 := (u57 238 100 rfl)
    have e62 : h57 238 101 = h 238 101 := (u57 238 101 rfl)
    have e63 : h57 238 102 = h 238 102 := (u57 238 102 rfl)
    have e64 : h57 238 106 = h 238 106 := (u57 238 106 rfl)
    have e65 : h57 238 73 = h 238 73 := (u57 238 73 rfl)
    have e66 : h57 238 2 = h 238 2 := (u57 238 2 rfl)
    have e67 : h57 238 119 = h 238 119 := (u57 238 119 rfl)
    have e68 : h57 238 67 = h 238 67 := (u57 238 67 rfl)
    have e69 : h57 238 69 = h 238 69 := (u57 238 69 rfl)
    have e70 : h57 238 5 = h 238 5 := (u57 238 5 rfl)
    have e71 : h57 241 98 = h 241 98 := (u57 241 98 rfl)
    have e72 : h57 241 99 = h 241 99 := (u57 241 99 rfl)
    have e73 : h57 241 100 = h 241 100 := (u57 241 100 rfl)
    have e74 : h57 241 101 = h 241 101 := (u57 241 101 rfl)
    have e75 : h57 241 102 = h 241 102 := (u57 241 102 rfl)
    have e76 : h57 241 106 = h 241 106 := (u57 241 106 rfl)
    have e77 : h57 241 73 = h 241 73 := (u57 241 73 rfl)
    have e78 : h57 241 2 = h 241 2 := (u57 241 2 rfl)
    have e79 : h57 241 119 = h 241 119 := (u57 241 119 rfl)
    have e80 : h57 241 67 = h 241 67 := (u57 241 67 rfl)
    have e81 : h57 241 69 = h 241 69 := (u57 241 69 rfl)
    have e82 : h57 241 5 = h 241 5 := (u57 241 5 rfl)
    have e83 : h57 1 1 = h 1 1 := (u57 1 1 rfl)
    have e84 : h57 236 2 = h 236 2 := (u57 236 2 rfl)
    have e85 : h57 1 2 = h 1 2 := (u57 1 2 rfl)
    have e86 : h57 236 10 = h 236 10 := (u57 236 10 rfl)
    have e87 : h57 1 3 = h 1 3 := (u57 1 3 rfl)
    have e88 : h57 236 11 = h 236 11 := (u57 236 11 rfl)
    have gp89 := GPH.fr u57 rfl gp0
    have b90 := gi_b (lo := 0) (hi := 5) g 241 0 rfl
    have b91 := gi_b (lo := 0) (hi := 4) g 241 1 rfl
    have gs92 := GPS.fr u57 rfl gs0
    have e93 : h57 0 12 = h 0 12 := (u57 0 12 rfl)
    have e94 : h57 236 21 = h 236 21 := (u57 236 21 rfl)
    exact k h57 (b - 1) (c - 6) ⟨g57, (show h57 1 1 = h57 236 2 by omega), (RS.i0 (f := h57 238) (by refine ⟨?_, ?_, ?_, ?_, ?_⟩ <;> omega)), (RS.i0 (f := h57 241) (by refine ⟨?_, ?_, ?_, ?_, ?_⟩ <;> omega)), gp89, (BRh.keep br0 (fun i => (u57 2 i (fn_a (by decide) fn_0))) (fun i => (u57 237 i (fn_a (by decide) fn_0))) (by omega)), (show h57 1 2 = h57 236 10 by omega), (show h57 1 3 = h57 236 11 by omega), (SVx.keep sv0 (by omega) (fun i _ => (u57 3 i (fn_a (by decide) fn_0))) (fun i _ => (u57 5 i (fn_a (by decide) fn_0))) (fun i _ => (u57 6 i (fn_a (by decide) fn_0))) (fun i _ => (u57 8 i (fn_a (by decide) fn_0))) (fun i _ => (u57 238 i (fn_a (by decide) fn_0)))), (show h57 0 12 = h57 236 21 by omega), (fun e => (SVx.keep (ss0 (by omega)) (by omega) (fun i _ => (u57 210 i (fn_a (by decide) fn_0))) (fun i _ => (u57 212 i (fn_a (by decide) fn_0))) (fun i _ => (u57 213 i (fn_a (by decide) fn_0))) (fun i _ => (u57 215 i (fn_a (by decide) fn_0))) (fun i _ => (u57 241 i (fn_a (by decide) fn_0))))), gs92⟩ (by omega) (by omega)
-- the law, case at 646
set_option maxRecDepth 100000 in
set_option maxHeartbeats 100000000 in
theorem lc_646 {L : Nat} {xs : Nat → Int32} {d b c : Nat} {h : hp} {cr : Nat → Nat → Option Nat} {Q : hp_Q} (hcr : CR cr) (hL : L ≤ 3072) (hr : 1 ≤ b ∧ 6 ≤ c) (I : LI h) (i : Int) (hi : 0 ≤ i ∧ i + 6 ≤ L) (k : ∀ (h2 : hp) (b2 c2 : Nat), LI h2 → b ≤ b2 + 1 → c ≤ c2 + 6 → wp (md_xa (L, xs)) (d + 107) 0 (1529, [(0, .ref 1000000), (1, .ref 0), (2, .ref 236), (3, .ref 259), (4, vi i)], [], hp_w h2 cr, b2, c2) Q) : wp (md_xa (L, xs)) (d + 107) 0 (646, [(0, .ref 1000000), (1, .ref 0), (2, .ref 236), (3, .ref 259), (4, vi i)], [], hp_w h cr, b, c) Q := by
  obtain ⟨g, i11, r238, r241, gp0, br0, er2, er3, sv0, sf0, ss0, gs0⟩ := I
  have r238e := r238.e0
  have r241e := r241.e0
  obtain ⟨⟨se0, se1, se2, se3, se4, se5, se6, se7, se8, se9⟩, -⟩ := id sv0
  have b1 := gi_b (lo := 0) (hi := 5) g 3 0 rfl
  have b2 := gi_b (lo := 0) (hi := 5) g 238 0 rfl
  have b3 := gi_b (lo := 0) (hi := 4) g 3 1 rfl
  have b4 := gi_b (lo := 0) (hi := 4) g 238 1 rfl
  have b5 := gi_b (lo := 0) (hi := 12) g 3 2 rfl
  have b6 := gi_b (lo := 0) (hi := 12) g 238 2 rfl
  have b7 := gi_b (lo := -2147483648) (hi := 2147483647) g 3 3 rfl
  have b8 := gi_b (lo := 0) (hi := 999) g 238 3 rfl
  have b9 := gi_b (lo := -2147483648) (hi := 2147483647) g 3 4 rfl
  have b10 := gi_b (lo := 0) (hi := 999) g 238 4 rfl
  have b11 := gi_b (lo := -2147483648) (hi := 2147483647) g 3 5 rfl
  have b12 := gi_b (lo := 0) (hi := 9) g 238 5 rfl
  have b13 := gi_b (lo := -2147483648) (hi := 2147483647) g 3 6 rfl
  have b14 := gi_b (lo := 0) (hi := 999) g 238 6 rfl
  have b15 := gi_b (lo := -2147483648) (hi := 2147483647) g 3 7 rfl
  have b16 := gi_b (lo := 0) (hi := 3) g 238 7 rfl
  have b17 := gi_b (lo := -2147483648) (hi := 2147483647) g 3 8 rfl
  have b18 := gi_b (lo := 0) (hi := 999) g 238 8 rfl
  have b19 := gi_b (lo := -2147483648) (hi := 2147483647) g 3 9 rfl
  have b20 := gi_b (lo := 0) (hi := 999) g 238 9 rfl
  have b21 := gi_b (lo := 0) (hi := 1) g 0 12 rfl
  have b22 := gi_b (lo := 0) (hi := 1) g 236 21 rfl
  have bl_ := gi_b (lo := 0) (hi := 800) g 1 1 rfl
  have tb0 : BufC (h 2) (h 1 1) h := ⟨fun _ => rfl, rfl, by omega, by omega⟩
  have b23 := gi_b (lo := 0) (hi := 6) g 238 98 rfl
  have b24 := gi_b (lo := 0) (hi := 6) g 238 99 rfl
  have b25 := gi_b (lo := 0) (hi := 6) g 238 100 rfl
  have b26 := gi_b (lo := 0) (hi := 6) g 238 101 rfl
  have b27 := gi_b (lo := 0) (hi := 3) g 238 102 rfl
  have b28 := gi_b (lo := 0) (hi := 12) g 238 106 rfl
  have b29 := gi_b (lo := 0) (hi := 12) g 238 73 rfl
  have b30 := gi_b (lo := 0) (hi := 9999) g 238 119 rfl
  have b31 := gi_b (lo := 0) (hi := 9999) g 238 67 rfl
  have b32 := gi_b (lo := 0) (hi := 9) g 238 69 rfl
  have b33 := gi_b (lo := 0) (hi := 6) g 241 98 rfl
  have b34 := gi_b (lo := 0) (hi := 6) g 241 99 rfl
  have b35 := gi_b (lo := 0) (hi := 6) g 241 100 rfl
  have b36 := gi_b (lo := 0) (hi := 6) g 241 101 rfl
  have b37 := gi_b (lo := 0) (hi := 3) g 241 102 rfl
  have b38 := gi_b (lo := 0) (hi := 12) g 241 106 rfl
  have b39 := gi_b (lo := 0) (hi := 12) g 241 73 rfl
  have b40 := gi_b (lo := 0) (hi := 12) g 241 2 rfl
  have b41 := gi_b (lo := 0) (hi := 9999) g 241 119 rfl
  have b42 := gi_b (lo := 0) (hi := 9999) g 241 67 rfl
  have b43 := gi_b (lo := 0) (hi := 9) g 241 69 rfl
  have b44 := gi_b (lo := 0) (hi := 9) g 241 5 rfl
  have b45 := gi_b (lo := 0) (hi := 800) g 1 1 rfl
  have b46 := gi_b (lo := 0) (hi := 800) g 236 2 rfl
  have b47 := gi_b (lo := -2147483648) (hi := 2147483647) g 1 2 rfl
  have b48 := gi_b (lo := -2147483648) (hi := 2147483647) g 236 10 rfl
  have b49 := gi_b (lo := -2147483648) (hi := 2147483647) g 1 3 rfl
  have b50 := gi_b (lo := -2147483648) (hi := 2147483647) g 236 11 rfl
  refine wi_aload_n (i := 1) (x := 0) (nx := 647) (r1 := 0) (r2 := 0) (r3 := 0) rfl rfl ?_
  refine wr_V (k0 := 0) (rest := []) (as := [.ref 0]) (nx := 650) (r1 := 29) (r2 := 0) (r3 := 0) rfl rfl rfl (of_decide_eq_true rfl) rfl rfl (by decide) rfl rfl (of_decide_eq_true rfl) (of_decide_eq_true rfl) ?_
  refine ct_29_0 hcr  g    (fun z52  (fz52 : -2147483648 ≤ z52 ∧ z52 ≤ 2147483647) => ?_)
  refine wk_i ?_
  refine wi_pop (nx := 651) (r1 := 0) (r2 := 0) (r3 := 0) rfl rfl ?_
  refine wi_aload_n (i := 2) (x := 236) (nx := 652) (r1 := 0) (r2 := 0) (r3 := 0) rfl rfl ?_
  refine wr_V (k0 := 236) (rest := []) (as := [.ref 236]) (nx := 655) (r1 := 247) (r2 := 0) (r3 := 11) rfl rfl rfl (of_decide_eq_true rfl) rfl rfl (by decide) rfl rfl (of_decide_eq_true rfl) (of_decide_eq_true rfl) ?_
  refine ct_247_236 hcr  g    (fun h53 z54 g53 u53 (fz54 : -2147483648 ≤ z54 ∧ z54 ≤ 2147483647) => ?_)
  refine wk_i ?_
  refine wi_pop (nx := 656) (r1 := 0) (r2 := 0) (r3 := 0) rfl rfl ?_
  refine wi_goto (nx := 659) (r1 := 1529) (r2 := 0) (r3 := 0) rfl ?_
  have e55 : h53 238 98 = h 238 98 := (u53 238 98 rfl)
  have e56 : h53 238 99 = h 238 99 := (u53 238 99 rfl)
  have e57 : h53 238 100 = h 238 100 := (u53 238 100 rfl)
  have e58 : h53 238 101 = h 238 101 := (u53 238 101 rfl)
  have e59 : h53 238 102 = h 238 102 := (u53 238 102 rfl)
  have e60 : h53 238 106 = h 238 106 := (u53 238 106 rfl)
  have e61 : h53 238 73 = h 238 73 := (u53 238 73 rfl)
  have e62 : h53 238 2 = h 238 2 := (u53 238 2 rfl)
  have e63 : h53 238 119 = h 238 119 := (u53 238 119 rfl)
  have e64 : h53 238 67 = h 238 67 := (u53 238 67 rfl)
  have e65 : h53 238 69 = h 238 69 := (u53 238 69 rfl)
  have e66 : h53 238 5 = h 238 5 := (u53 238 5 rfl)
  have e67 : h53 241 98 = h 241 98 := (u53 241 98 rfl)
  have e68 : h53 241 99 = h 241 99 := (u53 241 99 rfl)
  have e69 : h53 241 100 = h 241 100 := (u53 241 100 rfl)
  have e70 : h53 241 101 = h 241 101 := (u53 241 101 rfl)
  have e71 : h53 241 102 = h 241 102 := (u53 241 102 rfl)
  have e72 : h53 241 106 = h 241 106 := (u53 241 106 rfl)
  have e73 : h53 241 73 = h 241 73 := (u53 241 73 rfl)
  have e74 : h53 241 2 = h 241 2 := (u53 241 2 rfl)
  have e75 : h53 241 119 = h 241 119 := (u53 241 119 rfl)
  have e76 : h53 241 67 = h 241 67 := (u53 241 67 rfl)
  have e77 : h53 241 69 = h 241 69 := (u53 241 69 rfl)
  have e78 : h53 241 5 = h 241 5 := (u53 241 5 rfl)
  have e79 : h53 1 1 = h 1 1 := (u53 1 1 rfl)
  have e80 : h53 236 2 = h 236 2 := (u53 236 2 rfl)
  have e81 : h53 1 2 = h 1 2 := (u53 1 2 rfl)
  have e82 : h53 236 10 = h 236 10 := (u53 236 10 rfl)
  have e83 : h53 1 3 = h 1 3 := (u53 1 3 rfl)
  have e84 : h53 236 11 = h 236 11 := (u53 236 11 rfl)
  have gp85 := GPH.fr u53 rfl gp0
  have b86 := gi_b (lo := 0) (hi := 5) g 241 0 rfl
  have b87 := gi_b (lo := 0) (hi := 4) g 241 1 rfl
  have gs88 := GPS.fr u53 rfl gs0
  have e89 : h53 0 12 = h 0 12 := (u53 0 12 rfl)
  have e90 : h53 236 21 = h 236 21 := (u53 236 21 rfl)
  exact k h53 b c ⟨g53, (show h53 1 1 = h53 236 2 by omega), (RS.i0 (f := h53 238) (by refine ⟨?_, ?_, ?_, ?_, ?_⟩ <;> omega)), (RS.i0 (f := h53 241) (by refine ⟨?_, ?_, ?_, ?_, ?_⟩ <;> omega)), gp85, (BRh.keep br0 (fun i => (u53 2 i (fn_a (by decide) fn_0))) (fun i => (u53 237 i (fn_a (by decide) fn_0))) (by omega)), (show h53 1 2 = h53 236 10 by omega), (show h53 1 3 = h53 236 11 by omega), (SVx.keep sv0 (by omega) (fun i _ => (u53 3 i (fn_a (by decide) fn_0))) (fun i _ => (u53 5 i (fn_a (by decide) fn_0))) (fun i _ => (u53 6 i (fn_a (by decide) fn_0))) (fun i _ => (u53 8 i (fn_a (by decide) fn_0))) (fun i _ => (u53 238 i (fn_a (by decide) fn_0)))), (show h53 0 12 = h53 236 21 by omega), (fun e => (SVx.keep (ss0 (by omega)) (by omega) (fun i _ => (u53 210 i (fn_a (by decide) fn_0))) (fun i _ => (u53 212 i (fn_a (by decide) fn_0))) (fun i _ => (u53 213 i (fn_a (by decide) fn_0))) (fun i _ => (u53 215 i (fn_a (by decide) fn_0))) (fun i _ => (u53 241 i (fn_a (by decide) fn_0))))), gs88⟩ (by omega) (by omega)
-- the law, case at 659
set_option maxRecDepth 100000 in
set_option maxHeartbeats 100000000 in
theorem lc_659 {L : Nat} {xs : Nat → Int32} {d b c : Nat} {h : hp} {cr : Nat → Nat → Option Nat} {Q : hp_Q} (hcr : CR cr) (hL : L ≤ 3072) (hr : 1 ≤ b ∧ 6 ≤ c) (I : LI h) (i : Int) (hi : 0 ≤ i ∧ i + 6 ≤ L) (k : ∀ (h2 : hp) (b2 c2 : Nat), LI h2 → b ≤ b2 + 1 → c ≤ c2 + 6 → wp (md_xa (L, xs)) (d + 107) 0 (1529, [(0, .ref 1000000), (1, .ref 0), (2, .ref 236), (3, .ref 259), (4, vi i)], [], hp_w h2 cr, b2, c2) Q) : wp (md_xa (L, xs)) (d + 107) 0 (659, [(0, .ref 1000000), (1, .ref 0), (2, .ref 236), (3, .ref 259), (4, vi i)], [], hp_w h cr, b, c) Q := by
  obtain ⟨g, i11, r238, r241, gp0, br0, er2, er3, sv0, sf0, ss0, gs0⟩ := I
  have r238e := r238.e0
  have r241e := r241.e0
  obtain ⟨⟨se0, se1, se2, se3, se4, se5, se6, se7, se8, se9⟩, -⟩ := id sv0
  have b1 := gi_b (lo := 0) (hi := 5) g 3 0 rfl
  have b2 := gi_b (lo := 0) (hi := 5) g 238 0 rfl
  have b3 := gi_b (lo := 0) (hi := 4) g 3 1 rfl
  have b4 := gi_b (lo := 0) (hi := 4) g 238 1 rfl
  have b5 := gi_b (lo := 0) (hi := 12) g 3 2 rfl
  have b6 := gi_b (lo := 0) (hi := 12) g 238 2 rfl
  have b7 := gi_b (lo := -2147483648) (hi := 2147483647) g 3 3 rfl
  have b8 := gi_b (lo := 0) (hi := 999) g 238 3 rfl
  have b9 := gi_b (lo := -2147483648) (hi := 2147483647) g 3 4 rfl
  have b10 := gi_b (lo := 0) (hi := 999) g 238 4 rfl
  have b11 := gi_b (lo := -2147483648) (hi := 2147483647) g 3 5 rfl
  have b12 := gi_b (lo := 0) (hi := 9) g 238 5 rfl
  have b13 := gi_b (lo := -2147483648) (hi := 2147483647) g 3 6 rfl
  have b14 := gi_b (lo := 0) (hi := 999) g 238 6 rfl
  have b15 := gi_b (lo := -2147483648) (hi := 2147483647) g 3 7 rfl
  have b16 := gi_b (lo := 0) (hi := 3) g 238 7 rfl
  have b17 := gi_b (lo := -2147483648) (hi := 2147483647) g 3 8 rfl
  have b18 := gi_b (lo := 0) (hi := 999) g 238 8 rfl
  have b19 := gi_b (lo := -2147483648) (hi := 2147483647) g 3 9 rfl
  have b20 := gi_b (lo := 0) (hi := 999) g 238 9 rfl
  have b21 := gi_b (lo := 0) (hi := 1) g 0 12 rfl
  have b22 := gi_b (lo := 0) (hi := 1) g 236 21 rfl
  have bl_ := gi_b (lo := 0) (hi := 800) g 1 1 rfl
  have tb0 : BufC (h 2) (h 1 1) h := ⟨fun _ => rfl, rfl, by omega, by omega⟩
  have b23 := gi_b (lo := 0) (hi := 6) g 238 98 rfl
  have b24 := gi_b (lo := 0) (hi := 6) g 238 99 rfl
  have b25 := gi_b (lo := 0) (hi := 6) g 238 100 rfl
  have b26 := gi_b (lo := 0) (hi := 6) g 238 101 rfl
  have b27 := gi_b (lo := 0) (hi := 3) g 238 102 rfl
  have b28 := gi_b (lo := 0) (hi := 12) g 238 106 rfl
  have b29 := gi_b (lo := 0) (hi := 12) g 238 73 rfl
  have b30 := gi_b (lo := 0) (hi := 9999) g 238 119 rfl
  have b31 := gi_b (lo := 0) (hi := 9999) g 238 67 rfl
  have b32 := gi_b (lo := 0) (hi := 9) g 238 69 rfl
  have b33 := gi_b (lo := 0) (hi := 6) g 241 98 rfl
  have b34 := gi_b (lo := 0) (hi := 6) g 241 99 rfl
  have b35 := gi_b (lo := 0) (hi := 6) g 241 100 rfl
  have b36 := gi_b (lo := 0) (hi := 6) g 241 101 rfl
  have b37 := gi_b (lo := 0) (hi := 3) g 241 102 rfl
  have b38 := gi_b (lo := 0) (hi := 12) g 241 106 rfl
  have b39 := gi_b (lo := 0) (hi := 12) g 241 73 rfl
  have b40 := gi_b (lo := 0) (hi := 12) g 241 2 rfl
  have b41 := gi_b (lo := 0) (hi := 9999) g 241 119 rfl
  have b42 := gi_b (lo := 0) (hi := 9999) g 241 67 rfl
  have b43 := gi_b (lo := 0) (hi := 9) g 241 69 rfl
  have b44 := gi_b (lo := 0) (hi := 9) g 241 5 rfl
  have b45 := gi_b (lo := 0) (hi := 800) g 1 1 rfl
  have b46 := gi_b (lo := 0) (hi := 800) g 236 2 rfl
  have b47 := gi_b (lo := -2147483648) (hi := 2147483647) g 1 2 rfl
  have b48 := gi_b (lo := -2147483648) (hi := 2147483647) g 236 10 rfl
  have b49 := gi_b (lo := -2147483648) (hi := 2147483647) g 1 3 rfl
  have b50 := gi_b (lo := -2147483648) (hi := 2147483647) g 236 11 rfl
  refine wi_aload_n (i := 1) (x := 0) (nx := 660) (r1 := 0) (r2 := 0) (r3 := 0) rfl rfl ?_
  refine wr_V (k0 := 0) (rest := []) (as := [.ref 0]) (nx := 663) (r1 := 30) (r2 := 0) (r3 := 0) rfl rfl rfl (of_decide_eq_true rfl) rfl rfl (by decide) rfl rfl (of_decide_eq_true rfl) (of_decide_eq_true rfl) ?_
  refine ct_30_0 hcr  g    (fun z52  (fz52 : 0 ≤ z52 ∧ z52 ≤ 2147483647) => ?_)
  refine wk_i ?_
  refine wi_pop (nx := 664) (r1 := 0) (r2 := 0) (r3 := 0) rfl rfl ?_
  refine wi_aload_n (i := 2) (x := 236) (nx := 665) (r1 := 0) (r2 := 0) (r3 := 0) rfl rfl ?_
  refine wr_V (k0 := 236) (rest := []) (as := [.ref 236]) (nx := 668) (r1 := 248) (r2 := 0) (r3 := 11) rfl rfl rfl (of_decide_eq_true rfl) rfl rfl (by decide) rfl rfl (of_decide_eq_true rfl) (of_decide_eq_true rfl) ?_
  refine ct_248_236 hcr  g    (fun h53 z54 g53 u53 (fz54 : 0 ≤ z54 ∧ z54 ≤ 2147483647) => ?_)
  refine wk_i ?_
  refine wi_pop (nx := 669) (r1 := 0) (r2 := 0) (r3 := 0) rfl rfl ?_
  refine wi_goto (nx := 672) (r1 := 1529) (r2 := 0) (r3 := 0) rfl ?_
  have e55 : h53 238 98 = h 238 98 := (u53 238 98 rfl)
  have e56 : h53 238 99 = h 238 99 := (u53 238 99 rfl)
  have e57 : h53 238 100 = h 238 100 := (u53 238 100 rfl)
  have e58 : h53 238 101 = h 238 101 := (u53 238 101 rfl)
  have e59 : h53 238 102 = h 238 102 := (u53 238 102 rfl)
  have e60 : h53 238 106 = h 238 106 := (u53 238 106 rfl)
  have e61 : h53 238 73 = h 238 73 := (u53 238 73 rfl)
  have e62 : h53 238 2 = h 238 2 := (u53 238 2 rfl)
  have e63 : h53 238 119 = h 238 119 := (u53 238 119 rfl)
  have e64 : h53 238 67 = h 238 67 := (u53 238 67 rfl)
  have e65 : h53 238 69 = h 238 69 := (u53 238 69 rfl)
  have e66 : h53 238 5 = h 238 5 := (u53 238 5 rfl)
  have e67 : h53 241 98 = h 241 98 := (u53 241 98 rfl)
  have e68 : h53 241 99 = h 241 99 := (u53 241 99 rfl)
  have e69 : h53 241 100 = h 241 100 := (u53 241 100 rfl)
  have e70 : h53 241 101 = h 241 101 := (u53 241 101 rfl)
  have e71 : h53 241 102 = h 241 102 := (u53 241 102 rfl)
  have e72 : h53 241 106 = h 241 106 := (u53 241 106 rfl)
  have e73 : h53 241 73 = h 241 73 := (u53 241 73 rfl)
  have e74 : h53 241 2 = h 241 2 := (u53 241 2 rfl)
  have e75 : h53 241 119 = h 241 119 := (u53 241 119 rfl)
  have e76 : h53 241 67 = h 241 67 := (u53 241 67 rfl)
  have e77 : h53 241 69 = h 241 69 := (u53 241 69 rfl)
  have e78 : h53 241 5 = h 241 5 := (u53 241 5 rfl)
  have e79 : h53 1 1 = h 1 1 := (u53 1 1 rfl)
  have e80 : h53 236 2 = h 236 2 := (u53 236 2 rfl)
  have e81 : h53 1 2 = h 1 2 := (u53 1 2 rfl)
  have e82 : h53 236 10 = h 236 10 := (u53 236 10 rfl)
  have e83 : h53 1 3 = h 1 3 := (u53 1 3 rfl)
  have e84 : h53 236 11 = h 236 11 := (u53 236 11 rfl)
  have gp85 := GPH.fr u53 rfl gp0
  have b86 := gi_b (lo := 0) (hi := 5) g 241 0 rfl
  have b87 := gi_b (lo := 0) (hi := 4) g 241 1 rfl
  have gs88 := GPS.fr u53 rfl gs0
  have e89 : h53 0 12 = h 0 12 := (u53 0 12 rfl)
  have e90 : h53 236 21 = h 236 21 := (u53 236 21 rfl)
  exact k h53 b c ⟨g53, (show h53 1 1 = h53 236 2 by omega), (RS.i0 (f := h53 238) (by refine ⟨?_, ?_, ?_, ?_, ?_⟩ <;> omega)), (RS.i0 (f := h53 241) (by refine ⟨?_, ?_, ?_, ?_, ?_⟩ <;> omega)), gp85, (BRh.keep br0 (fun i => (u53 2 i (fn_a (by decide) fn_0))) (fun i => (u53 237 i (fn_a (by decide) fn_0))) (by omega)), (show h53 1 2 = h53 236 10 by omega), (show h53 1 3 = h53 236 11 by omega), (SVx.keep sv0 (by omega) (fun i _ => (u53 3 i (fn_a (by decide) fn_0))) (fun i _ => (u53 5 i (fn_a (by decide) fn_0))) (fun i _ => (u53 6 i (fn_a (by decide) fn_0))) (fun i _ => (u53 8 i (fn_a (by decide) fn_0))) (fun i _ => (u53 238 i (fn_a (by decide) fn_0)))), (show h53 0 12 = h53 236 21 by omega), (fun e => (SVx.keep (ss0 (by omega)) (by omega) (fun i _ => (u53 210 i (fn_a (by decide) fn_0))) (fun i _ => (u53 212 i (fn_a (by decide) fn_0))) (fun i _ => (u53 213 i (fn_a (by decide) fn_0))) (fun i _ => (u53 215 i (fn_a (by decide) fn_0))) (fun i _ => (u53 241 i (fn_a (by decide) fn_0))))), gs88⟩ (by omega) (by omega)
-- the law, case at 672
set_option maxRecDepth 100000 in
set_option maxHeartbeats 100000000 in
theorem lc_672 {L : Nat} {xs : Nat → Int32} {d b c : Nat} {h : hp} {cr : Nat → Nat → Option Nat} {Q : hp_Q} (hcr : CR cr) (hL : L ≤ 3072) (hr : 1 ≤ b ∧ 6 ≤ c) (I : LI h) (i : Int) (hi : 0 ≤ i ∧ i + 6 ≤ L) (k : ∀ (h2 : hp) (b2 c2 : Nat), LI h2 → b ≤ b2 + 1 → c ≤ c2 + 6 → wp (md_xa (L, xs)) (d + 107) 0 (1529, [(0, .ref 1000000), (1, .ref 0), (2, .ref 236), (3, .ref 259), (4, vi i)], [], hp_w h2 cr, b2, c2) Q) : wp (md_xa (L, xs)) (d + 107) 0 (672, [(0, .ref 1000000), (1, .ref 0), (2, .ref 236), (3, .ref 259), (4, vi i)], [], hp_w h cr, b, c) Q := by
  obtain ⟨g, i11, r238, r241, gp0, br0, er2, er3, sv0, sf0, ss0, gs0⟩ := I
  have r238e := r238.e0
  have r241e := r241.e0
  obtain ⟨⟨se0, se1, se2, se3, se4, se5, se6, se7, se8, se9⟩, -⟩ := id sv0
  have b1 := gi_b (lo := 0) (hi := 5) g 3 0 rfl
  have b2 := gi_b (lo := 0) (hi := 5) g 238 0 rfl
  have b3 := gi_b (lo := 0) (hi := 4) g 3 1 rfl
  have b4 := gi_b (lo := 0) (hi := 4) g 238 1 rfl
  have b5 := gi_b (lo := 0) (hi := 12) g 3 2 rfl
  have b6 := gi_b (lo := 0) (hi := 12) g 238 2 rfl
  have b7 := gi_b (lo := -2147483648) (hi := 2147483647) g 3 3 rfl
  have b8 := gi_b (lo := 0) (hi := 999) g 238 3 rfl
  have b9 := gi_b (lo := -2147483648) (hi := 2147483647) g 3 4 rfl
  have b10 := gi_b (lo := 0) (hi := 999) g 238 4 rfl
  have b11 := gi_b (lo := -2147483648) (hi := 2147483647) g 3 5 rfl
  have b12 := gi_b (lo := 0) (hi := 9) g 238 5 rfl
  have b13 := gi_b (lo := -2147483648) (hi := 2147483647) g 3 6 rfl
  have b14 := gi_b (lo := 0) (hi := 999) g 238 6 rfl
  have b15 := gi_b (lo := -2147483648) (hi := 2147483647) g 3 7 rfl
  have b16 := gi_b (lo := 0) (hi := 3) g 238 7 rfl
  have b17 := gi_b (lo := -2147483648) (hi := 2147483647) g 3 8 rfl
  have b18 := gi_b (lo := 0) (hi := 999) g 238 8 rfl
  have b19 := gi_b (lo := -2147483648) (hi := 2147483647) g 3 9 rfl
  have b20 := gi_b (lo := 0) (hi := 999) g 238 9 rfl
  have b21 := gi_b (lo := 0) (hi := 1) g 0 12 rfl
  have b22 := gi_b (lo := 0) (hi := 1) g 236 21 rfl
  have bl_ := gi_b (lo := 0) (hi := 800) g 1 1 rfl
  have tb0 : BufC (h 2) (h 1 1) h := ⟨fun _ => rfl, rfl, by omega, by omega⟩
  have b23 := gi_b (lo := 0) (hi := 6) g 238 98 rfl
  have b24 := gi_b (lo := 0) (hi := 6) g 238 99 rfl
  have b25 := gi_b (lo := 0) (hi := 6) g 238 100 rfl
  have b26 := gi_b (lo := 0) (hi := 6) g 238 101 rfl
  have b27 := gi_b (lo := 0) (hi := 3) g 238 102 rfl
  have b28 := gi_b (lo := 0) (hi := 12) g 238 106 rfl
  have b29 := gi_b (lo := 0) (hi := 12) g 238 73 rfl
  have b30 := gi_b (lo := 0) (hi := 9999) g 238 119 rfl
  have b31 := gi_b (lo := 0) (hi := 9999) g 238 67 rfl
  have b32 := gi_b (lo := 0) (hi := 9) g 238 69 rfl
  have b33 := gi_b (lo := 0) (hi := 6) g 241 98 rfl
  have b34 := gi_b (lo := 0) (hi := 6) g 241 99 rfl
  have b35 := gi_b (lo := 0) (hi := 6) g 241 100 rfl
  have b36 := gi_b (lo := 0) (hi := 6) g 241 101 rfl
  have b37 := gi_b (lo := 0) (hi := 3) g 241 102 rfl
  have b38 := gi_b (lo := 0) (hi := 12) g 241 106 rfl
  have b39 := gi_b (lo := 0) (hi := 12) g 241 73 rfl
  have b40 := gi_b (lo := 0) (hi := 12) g 241 2 rfl
  have b41 := gi_b (lo := 0) (hi := 9999) g 241 119 rfl
  have b42 := gi_b (lo := 0) (hi := 9999) g 241 67 rfl
  have b43 := gi_b (lo := 0) (hi := 9) g 241 69 rfl
  have b44 := gi_b (lo := 0) (hi := 9) g 241 5 rfl
  have b45 := gi_b (lo := 0) (hi := 800) g 1 1 rfl
  have b46 := gi_b (lo := 0) (hi := 800) g 236 2 rfl
  have b47 := gi_b (lo := -2147483648) (hi := 2147483647) g 1 2 rfl
  have b48 := gi_b (lo := -2147483648) (hi := 2147483647) g 236 10 rfl
  have b49 := gi_b (lo := -2147483648) (hi := 2147483647) g 1 3 rfl
  have b50 := gi_b (lo := -2147483648) (hi := 2147483647) g 236 11 rfl
  refine wi_aload_n (i := 1) (x := 0) (nx := 673) (r1 := 0) (r2 := 0) (r3 := 0) rfl rfl ?_
  refine wi_aload_n (i := 0) (x := 1000000) (nx := 674) (r1 := 0) (r2 := 0) (r3 := 0) rfl rfl ?_
  refine wi_iload (i := 4) (e := i) (nx := 676) (r1 := 0) (r2 := 0) (r3 := 0) rfl rfl ?_
  refine wi_iconst (n := 1) (nx := 677) (r1 := 0) (r2 := 0) (r3 := 0) rfl ?_
  refine wr_add (nx := 678) (r1 := 0) (r2 := 0) (r3 := 0) rfl (fun e51 (fe51 : e51 = i + 1) => ?_)
  obtain ⟨i52, ei52⟩ : ∃ q : Nat, e51 = (q : Int) := ⟨(e51).toNat, by omega⟩
  have s53 := sc_b (xs i52)
  refine wr_sc (a := e51) (f := i52) (nx := 679) (r1 := 0) (r2 := 0) (r3 := 0) rfl (by omega) (by omega) hL ?_
  refine wi_aload_n (i := 3) (x := 259) (nx := 680) (r1 := 0) (r2 := 0) (r3 := 0) rfl rfl ?_
  refine wi_S (rest := []) (as := [.ref 0, vi ((xs i52).toInt), .ref 259]) (nx := 683) (r1 := 11) (r2 := 19) (r3 := 0) rfl rfl rfl (of_decide_eq_true rfl) rfl rfl (of_decide_eq_true rfl) (of_decide_eq_true rfl) ?_
  refine wi_aload_n (i := 2) (x := 259) (nx := 1) (r1 := 0) (r2 := 0) (r3 := 0) rfl rfl ?_
  refine wi_iconst (n := 0) (nx := 2) (r1 := 0) (r2 := 0) (r3 := 0) rfl ?_
  refine wi_aload_n (i := 0) (x := 0) (nx := 3) (r1 := 0) (r2 := 0) (r3 := 0) rfl rfl ?_
  refine wi_iload_n (i := 1) (e := (xs i52).toInt) (nx := 4) (r1 := 0) (r2 := 0) (r3 := 0) rfl rfl ?_
  refine wr_V (k0 := 0) (rest := [vi 0, .ref 259]) (as := [.ref 0, vi ((xs i52).toInt)]) (nx := 7) (r1 := 73) (r2 := 1) (r3 := 0) rfl rfl rfl (of_decide_eq_true rfl) rfl rfl (by decide) rfl rfl (of_decide_eq_true rfl) (of_decide_eq_true rfl) ?_
  refine ct_73_0 hcr hr  g ((xs i52).toInt) (by omega)  (fun z55  (fz55 : 0 ≤ z55 ∧ z55 ≤ 3) => ?_) ?_
  ·
    refine wk_i ?_
    refine wi_i2l (nx := 8) (r1 := 0) (r2 := 0) (r3 := 0) rfl (by omega) ?_
    refine wr_ls (k0 := 259) (a := 0) (f := 0) (x := z55) (bl := -9223372036854775808) (bh := 9223372036854775807) (nx := 9) (r1 := 0) (r2 := 0) (r3 := 0) rfl (by decide) rfl (by omega) (by omega) (by decide) g rfl (by omega) (fun h56 g56 w56 u56 => ?_)
    refine wi_goto (nx := 12) (r1 := 15) (r2 := 0) (r3 := 0) rfl ?_
    refine wi_iconst (n := 0) (nx := 16) (r1 := 0) (r2 := 0) (r3 := 0) rfl ?_
    refine wi_ireturn (nx := 17) (r1 := 0) (r2 := 0) (r3 := 0) rfl rfl ?_
    refine wk_i ?_
    refine wi_istore (i := 5) (e := 0) (lo2 := [(5, vi 0), (0, .ref 1000000), (1, .ref 0), (2, .ref 236), (3, .ref 259), (4, vi i)]) (nx := 685) (r1 := 0) (r2 := 0) (r3 := 0) rfl rfl ?_
    refine wi_aload_n (i := 2) (x := 236) (nx := 686) (r1 := 0) (r2 := 0) (r3 := 0) rfl rfl ?_
    refine wi_aload_n (i := 0) (x := 1000000) (nx := 687) (r1 := 0) (r2 := 0) (r3 := 0) rfl rfl ?_
    refine wi_iload (i := 4) (e := i) (nx := 689) (r1 := 0) (r2 := 0) (r3 := 0) rfl rfl ?_
    refine wi_iconst (n := 1) (nx := 690) (r1 := 0) (r2 := 0) (r3 := 0) rfl ?_
    refine wr_add (nx := 691) (r1 := 0) (r2 := 0) (r3 := 0) rfl (fun e57 (fe57 : e57 = i + 1) => ?_)
    refine wr_sc (a := e57) (f := i52) (nx := 692) (r1 := 0) (r2 := 0) (r3 := 0) rfl (by omega) (by omega) hL ?_
    refine wr_V (k0 := 236) (rest := []) (as := [.ref 236, vi ((xs i52).toInt)]) (nx := 695) (r1 := 251) (r2 := 1) (r3 := 11) rfl rfl rfl (of_decide_eq_true rfl) rfl rfl (by decide) rfl rfl (of_decide_eq_true rfl) (of_decide_eq_true rfl) ?_
    refine ct_251_236 hcr  g56 ((xs i52).toInt) (by omega)  (fun h58 z59 g58 u58 (fz59 : 0 ≤ z59 ∧ z59 ≤ 3) => ?_)
    refine wk_i ?_
    refine wi_istore (i := 6) (e := z59) (lo2 := [(6, vi z59), (5, vi 0), (0, .ref 1000000), (1, .ref 0), (2, .ref 236), (3, .ref 259), (4, vi i)]) (nx := 697) (r1 := 0) (r2 := 0) (r3 := 0) rfl rfl ?_
    refine wi_goto (nx := 700) (r1 := 1529) (r2 := 0) (r3 := 0) rfl ?_
    refine wp.lo (lo := [(0, .ref 1000000), (1, .ref 0), (2, .ref 236), (3, .ref 259), (4, vi i)]) ⟨rfl, rfl, rfl, rfl, rfl, trivial⟩ rfl ?_
    have e60 : h58 238 98 = h 238 98 := ((u58 238 98 rfl).trans (u56 238 98 rfl))
    have e61 : h58 238 99 = h 238 99 := ((u58 238 99 rfl).trans (u56 238 99 rfl))
    have e62 : h58 238 100 = h 238 100 := ((u58 238 100 rfl).trans (u56 238 100 rfl))
    have e63 : h58 238 101 = h 238 101 := ((u58 238 101 rfl).trans (u56 238 101 rfl))
    have e64 : h58 238 102 = h 238 102 := ((u58 238 102 rfl).trans (u56 238 102 rfl))
    have e65 : h58 238 106 = h 238 106 := ((u58 238 106 rfl).trans (u56 238 106 rfl))
    have e66 : h58 238 73 = h 238 73 := ((u58 238 73 rfl).trans (u56 238 73 rfl))
    have e67 : h58 238 2 = h 238 2 := ((u58 238 2 rfl).trans (u56 238 2 rfl))
    have e68 : h58 238 119 = h 238 119 := ((u58 238 119 rfl).trans (u56 238 119 rfl))
    have e69 : h58 238 67 = h 238 67 := ((u58 238 67 rfl).trans (u56 238 67 rfl))
    have e70 : h58 238 69 = h 238 69 := ((u58 238 69 rfl).trans (u56 238 69 rfl))
    have e71 : h58 238 5 = h 238 5 := ((u58 238 5 rfl).trans (u56 238 5 rfl))
    have e72 : h58 241 98 = h 241 98 := ((u58 241 98 rfl).trans (u56 241 98 rfl))
    have e73 : h58 241 99 = h 241 99 := ((u58 241 99 rfl).trans (u56 241 99 rfl))
    have e74 : h58 241 100 = h 241 100 := ((u58 241 100 rfl).trans (u56 241 100 rfl))
    have e75 : h58 241 101 = h 241 101 := ((u58 241 101 rfl).trans (u56 241 101 rfl))
    have e76 : h58 241 102 = h 241 102 := ((u58 241 102 rfl).trans (u56 241 102 rfl))
    have e77 : h58 241 106 = h 241 106 := ((u58 241 106 rfl).trans (u56 241 106 rfl))
    have e78 : h58 241 73 = h 241 73 := ((u58 241 73 rfl).trans (u56 241 73 rfl))
    have e79 : h58 241 2 = h 241 2 := ((u58 241 2 rfl).trans (u56 241 2 rfl))
    have e80 : h58 241 119 = h 241 119 := ((u58 241 119 rfl).trans (u56 241 119 rfl))
    have e81 : h58 241 67 = h 241 67 := ((u58 241 67 rfl).trans (u56 241 67 rfl))
    have e82 : h58 241 69 = h 241 69 := ((u58 241 69 rfl).trans (u56 241 69 rfl))
    have e83 : h58 241 5 = h 241 5 := ((u58 241 5 rfl).trans (u56 241 5 rfl))
    have e84 : h58 1 1 = h 1 1 := ((u58 1 1 rfl).trans (u56 1 1 rfl))
    have e85 : h58 236 2 = h 236 2 := ((u58 236 2 rfl).trans (u56 236 2 rfl))
    have e86 : h58 1 2 = h 1 2 := ((u58 1 2 rfl).trans (u56 1 2 rfl))
    have e87 : h58 236 10 = h 236 10 := ((u58 236 10 rfl).trans (u56 236 10 rfl))
    have e88 : h58 1 3 = h 1 3 := ((u58 1 3 rfl).trans (u56 1 3 rfl))
    have e89 : h58 236 11 = h 236 11 := ((u58 236 11 rfl).trans (u56 236 11 rfl))
    have gp90 := GPH.fr u56 rfl gp0
    have gp91 := GPH.fr u58 rfl gp90
    have b92 := gi_b (lo := 0) (hi := 5) g 241 0 rfl
    have b93 := gi_b (lo := 0) (hi := 4) g 241 1 rfl
    have gs94 := GPS.fr u56 rfl gs0
    have gs95 := GPS.fr u58 rfl gs94
    have e96 : h58 0 12 = h 0 12 := ((u58 0 12 rfl).trans (u56 0 12 rfl))
    have e97 : h58 236 21 = h 236 21 := ((u58 236 21 rfl).trans (u56 236 21 rfl))
    exact k h58 b c ⟨g58, (show h58 1 1 = h58 236 2 by omega), (RS.i0 (f := h58 238) (by refine ⟨?_, ?_, ?_, ?_, ?_⟩ <;> omega)), (RS.i0 (f := h58 241) (by refine ⟨?_, ?_, ?_, ?_, ?_⟩ <;> omega)), gp91, (BRh.keep br0 (fun i => ((u58 2 i (fn_a (by decide) fn_0)).trans (u56 2 i (fn_a (by omega) fn_0)))) (fun i => ((u58 237 i (fn_a (by decide) fn_0)).trans (u56 237 i (fn_a (by omega) fn_0)))) (by omega)), (show h58 1 2 = h58 236 10 by omega), (show h58 1 3 = h58 236 11 by omega), (SVx.keep sv0 (by omega) (fun i _ => ((u58 3 i (fn_a (by decide) fn_0)).trans (u56 3 i (fn_a (by omega) fn_0)))) (fun i _ => ((u58 5 i (fn_a (by decide) fn_0)).trans (u56 5 i (fn_a (by omega) fn_0)))) (fun i _ => ((u58 6 i (fn_a (by decide) fn_0)).trans (u56 6 i (fn_a (by omega) fn_0)))) (fun i _ => ((u58 8 i (fn_a (by decide) fn_0)).trans (u56 8 i (fn_a (by omega) fn_0)))) (fun i _ => ((u58 238 i (fn_a (by decide) fn_0)).trans (u56 238 i (fn_a (by omega) fn_0))))), (show h58 0 12 = h58 236 21 by omega), (fun e => (SVx.keep (ss0 (by omega)) (by omega) (fun i _ => ((u58 210 i (fn_a (by decide) fn_0)).trans (u56 210 i (fn_a (by omega) fn_0)))) (fun i _ => ((u58 212 i (fn_a (by decide) fn_0)).trans (u56 212 i (fn_a (by omega) fn_0)))) (fun i _ => ((u58 213 i (fn_a (by decide) fn_0)).trans (u56 213 i (fn_a (by omega) fn_0)))) (fun i _ => ((u58 215 i (fn_a (by decide) fn_0)).trans (u56 215 i (fn_a (by omega) fn_0)))) (fun i _ => ((u58 241 i (fn_a (by decide) fn_0)).trans (u56 241 i (fn_a (by omega) fn_0)))))), gs95⟩ (by omega) (by omega)
  ·
    refine wk_h 12 (by decide) rfl ?_
    refine wr_astx (i := 3) (lo2 := [(3, .retAddr 0), (0, .ref 0), (1, vi ((xs i52).toInt)), (2, .ref 259)]) (nx := 13) (r1 := 0) (r2 := 0) (r3 := 0) rfl rfl ?_
    refine wi_iconst (n := 1) (nx := 14) (r1 := 0) (r2 := 0) (r3 := 0) rfl ?_
    refine wi_ireturn (nx := 15) (r1 := 0) (r2 := 0) (r3 := 0) rfl rfl ?_
    refine wk_i ?_
    refine wi_istore (i := 5) (e := 1) (lo2 := [(5, vi 1), (0, .ref 1000000), (1, .ref 0), (2, .ref 236), (3, .ref 259), (4, vi i)]) (nx := 685) (r1 := 0) (r2 := 0) (r3 := 0) rfl rfl ?_
    refine wi_aload_n (i := 2) (x := 236) (nx := 686) (r1 := 0) (r2 := 0) (r3 := 0) rfl rfl ?_
    refine wi_aload_n (i := 0) (x := 1000000) (nx := 687) (r1 := 0) (r2 := 0) (r3 := 0) rfl rfl ?_
    refine wi_iload (i := 4) (e := i) (nx := 689) (r1 := 0) (r2 := 0) (r3 := 0) rfl rfl ?_
    refine wi_iconst (n := 1) (nx := 690) (r1 := 0) (r2 := 0) (r3 := 0) rfl ?_
    refine wr_add (nx := 691) (r1 := 0) (r2 := 0) (r3 := 0) rfl (fun e56 (fe56 : e56 = i + 1) => ?_)
    refine wr_sc (a := e56) (f := i52) (nx := 692) (r1 := 0) (r2 := 0) (r3 := 0) rfl (by omega) (by omega) hL ?_
    refine wr_V (k0 := 236) (rest := []) (as := [.ref 236, vi ((xs i52).toInt)]) (nx := 695) (r1 := 251) (r2 := 1) (r3 := 11) rfl rfl rfl (of_decide_eq_true rfl) rfl rfl (by decide) rfl rfl (of_decide_eq_true rfl) (of_decide_eq_true rfl) ?_
    refine ct_251_236 hcr  g ((xs i52).toInt) (by omega)  (fun h57 z58 g57 u57 (fz58 : 0 ≤ z58 ∧ z58 ≤ 3) => ?_)
    refine wk_i ?_
    refine wi_istore (i := 6) (e := z58) (lo2 := [(6, vi z58), (5, vi 1), (0, .ref 1000000), (1, .ref 0), (2, .ref 236), (3, .ref 259), (4, vi i)]) (nx := 697) (r1 := 0) (r2 := 0) (r3 := 0) rfl rfl ?_
    refine wi_goto (nx := 700) (r1 := 1529) (r2 := 0) (r3 := 0) rfl ?_
    refine wp.lo (lo := [(0, .ref 1000000), (1, .ref 0), (2, .ref 236), (3, .ref 259), (4, vi i)]) ⟨rfl, rfl, rfl, rfl, rfl, trivial⟩ rfl ?_
    have e59 : h57 238 98 = h 238 98 := (u57 238 98 rfl)
    have e60 : h57 238 99 = h 238 99 := (u57 238 99 rfl)
    have e61 : h57 238 100 = h 238 100 := (u57 238 100 rfl)
    have e62 : h57 238 101 = h 238 101 := (u57 238 101 rfl)
    have e63 : h57 238 102 = h 238 102 := (u57 238 102 rfl)
    have e64 : h57 238 106 = h 238 106 := (u57 238 106 rfl)
    have e65 : h57 238 73 = h 238 73 := (u57 238 73 rfl)
    have e66 : h57 238 2 = h 238 2 := (u57 238 2 rfl)
    have e67 : h57 238 119 = h 238 119 := (u57 238 119 rfl)
    have e68 : h57 238 67 = h 238 67 := (u57 238 67 rfl)
    have e69 : h57 238 69 = h 238 69 := (u57 238 69 rfl)
    have e70 : h57 238 5 = h 238 5 := (u57 238 5 rfl)
    have e71 : h57 241 98 = h 241 98 := (u57 241 98 rfl)
    have e72 : h57 241 99 = h 241 99 := (u57 241 99 rfl)
    have e73 : h57 241 100 = h 241 100 := (u57 241 100 rfl)
    have e74 : h57 241 101 = h 241 101 := (u57 241 101 rfl)
    have e75 : h57 241 102 = h 241 102 := (u57 241 102 rfl)
    have e76 : h57 241 106 = h 241 106 := (u57 241 106 rfl)
    have e77 : h57 241 73 = h 241 73 := (u57 241 73 rfl)
    have e78 : h57 241 2 = h 241 2 := (u57 241 2 rfl)
    have e79 : h57 241 119 = h 241 119 := (u57 241 119 rfl)
    have e80 : h57 241 67 = h 241 67 := (u57 241 67 rfl)
    have e81 : h57 241 69 = h 241 69 := (u57 241 69 rfl)
    have e82 : h57 241 5 = h 241 5 := (u57 241 5 rfl)
    have e83 : h57 1 1 = h 1 1 := (u57 1 1 rfl)
    have e84 : h57 236 2 = h 236 2 := (u57 236 2 rfl)
    have e85 : h57 1 2 = h 1 2 := (u57 1 2 rfl)
    have e86 : h57 236 10 = h 236 10 := (u57 236 10 rfl)
    have e87 : h57 1 3 = h 1 3 := (u57 1 3 rfl)
    have e88 : h57 236 11 = h 236 11 := (u57 236 11 rfl)
    have gp89 := GPH.fr u57 rfl gp0
    have b90 := gi_b (lo := 0) (hi := 5) g 241 0 rfl
    have b91 := gi_b (lo := 0) (hi := 4) g 241 1 rfl
    have gs92 := GPS.fr u57 rfl gs0
    have e93 : h57 0 12 = h 0 12 := (u57 0 12 rfl)
    have e94 : h57 236 21 = h 236 21 := (u57 236 21 rfl)
    exact k h57 (b - 1) (c - 6) ⟨g57, (show h57 1 1 = h57 236 2 by omega), (RS.i0 (f := h57 238) (by refine ⟨?_, ?_, ?_, ?_, ?_⟩ <;> omega)), (RS.i0 (f := h57 241) (by refine ⟨?_, ?_, ?_, ?_, ?_⟩ <;> omega)), gp89, (BRh.keep br0 (fun i => (u57 2 i (fn_a (by decide) fn_0))) (fun i => (u57 237 i (fn_a (by decide) fn_0))) (by omega)), (show h57 1 2 = h57 236 10 by omega), (show h57 1 3 = h57 236 11 by omega), (SVx.keep sv0 (by omega) (fun i _ => (u57 3 i (fn_a (by decide) fn_0))) (fun i _ => (u57 5 i (fn_a (by decide) fn_0))) (fun i _ => (u57 6 i (fn_a (by decide) fn_0))) (fun i _ => (u57 8 i (fn_a (by decide) fn_0))) (fun i _ => (u57 238 i (fn_a (by decide) fn_0)))), (show h57 0 12 = h57 236 21 by omega), (fun e => (SVx.keep (ss0 (by omega)) (by omega) (fun i _ => (u57 210 i (fn_a (by decide) fn_0))) (fun i _ => (u57 212 i (fn_a (by decide) fn_0))) (fun i _ => (u57 213 i (fn_a (by decide) fn_0))) (fun i _ => (u57 215 i (fn_a (by decide) fn_0))) (fun i _ => (u57 241 i (fn_a (by decide) fn_0))))), gs92⟩ (by omega) (by omega)
-- the law, case at 700
set_option maxRecDepth 100000 in
set_option maxHeartbeats 100000000 in
theorem lc_700 {L : Nat} {xs : Nat → Int32} {d b c : Nat} {h : hp} {cr : Nat → Nat → Option Nat} {Q : hp_Q} (hcr : CR cr) (hL : L ≤ 3072) (hr : 1 ≤ b ∧ 6 ≤ c) (I : LI h) (i : Int) (hi : 0 ≤ i ∧ i + 6 ≤ L) (k : ∀ (h2 : hp) (b2 c2 : Nat), LI h2 → b ≤ b2 + 1 → c ≤ c2 + 6 → wp (md_xa (L, xs)) (d + 107) 0 (1529, [(0, .ref 1000000), (1, .ref 0), (2, .ref 236), (3, .ref 259), (4, vi i)], [], hp_w h2 cr, b2, c2) Q) : wp (md_xa (L, xs)) (d + 107) 0 (700, [(0, .ref 1000000), (1, .ref 0), (2, .ref 236), (3, .ref 259), (4, vi i)], [], hp_w h cr, b, c) Q := by
  obtain ⟨g, i11, r238, r241, gp0, br0, er2, er3, sv0, sf0, ss0, gs0⟩ := I
  have r238e := r238.e0
  have r241e := r241.e0
  obtain ⟨⟨se0, se1, se2, se3, se4, se5, se6, se7, se8, se9⟩, -⟩ := id sv0
  have b1 := gi_b (lo := 0) (hi := 5) g 3 0 rfl
  have b2 := gi_b (lo := 0) (hi := 5) g 238 0 rfl
  have b3 := gi_b (lo := 0) (hi := 4) g 3 1 rfl
  have b4 := gi_b (lo := 0) (hi := 4) g 238 1 rfl
  have b5 := gi_b (lo := 0) (hi := 12) g 3 2 rfl
  have b6 := gi_b (lo := 0) (hi := 12) g 238 2 rfl
  have b7 := gi_b (lo := -2147483648) (hi := 2147483647) g 3 3 rfl
  have b8 := gi_b (lo := 0) (hi := 999) g 238 3 rfl
  have b9 := gi_b (lo := -2147483648) (hi := 2147483647) g 3 4 rfl
  have b10 := gi_b (lo := 0) (hi := 999) g 238 4 rfl
  have b11 := gi_b (lo := -2147483648) (hi := 2147483647) g 3 5 rfl
  have b12 := gi_b (lo := 0) (hi := 9) g 238 5 rfl
  have b13 := gi_b (lo := -2147483648) (hi := 2147483647) g 3 6 rfl
  have b14 := gi_b (lo := 0) (hi := 999) g 238 6 rfl
  have b15 := gi_b (lo := -2147483648) (hi := 2147483647) g 3 7 rfl
  have b16 := gi_b (lo := 0) (hi := 3) g 238 7 rfl
  have b17 := gi_b (lo := -2147483648) (hi := 2147483647) g 3 8 rfl
  have b18 := gi_b (lo := 0) (hi := 999) g 238 8 rfl
  have b19 := gi_b (lo := -2147483648) (hi := 2147483647) g 3 9 rfl
  have b20 := gi_b (lo := 0) (hi := 999) g 238 9 rfl
  have b21 := gi_b (lo := 0) (hi := 1) g 0 12 rfl
  have b22 := gi_b (lo := 0) (hi := 1) g 236 21 rfl
  have bl_ := gi_b (lo := 0) (hi := 800) g 1 1 rfl
  have tb0 : BufC (h 2) (h 1 1) h := ⟨fun _ => rfl, rfl, by omega, by omega⟩
  have b23 := gi_b (lo := 0) (hi := 6) g 238 98 rfl
  have b24 := gi_b (lo := 0) (hi := 6) g 238 99 rfl
  have b25 := gi_b (lo := 0) (hi := 6) g 238 100 rfl
  have b26 := gi_b (lo := 0) (hi := 6) g 238 101 rfl
  have b27 := gi_b (lo := 0) (hi := 3) g 238 102 rfl
  have b28 := gi_b (lo := 0) (hi := 12) g 238 106 rfl
  have b29 := gi_b (lo := 0) (hi := 12) g 238 73 rfl
  have b30 := gi_b (lo := 0) (hi := 9999) g 238 119 rfl
  have b31 := gi_b (lo := 0) (hi := 9999) g 238 67 rfl
  have b32 := gi_b (lo := 0) (hi := 9) g 238 69 rfl
  have b33 := gi_b (lo := 0) (hi := 6) g 241 98 rfl
  have b34 := gi_b (lo := 0) (hi := 6) g 241 99 rfl
  have b35 := gi_b (lo := 0) (hi := 6) g 241 100 rfl
  have b36 := gi_b (lo := 0) (hi := 6) g 241 101 rfl
  have b37 := gi_b (lo := 0) (hi := 3) g 241 102 rfl
  have b38 := gi_b (lo := 0) (hi := 12) g 241 106 rfl
  have b39 := gi_b (lo := 0) (hi := 12) g 241 73 rfl
  have b40 := gi_b (lo := 0) (hi := 12) g 241 2 rfl
  have b41 := gi_b (lo := 0) (hi := 9999) g 241 119 rfl
  have b42 := gi_b (lo := 0) (hi := 9999) g 241 67 rfl
  have b43 := gi_b (lo := 0) (hi := 9) g 241 69 rfl
  have b44 := gi_b (lo := 0) (hi := 9) g 241 5 rfl
  have b45 := gi_b (lo := 0) (hi := 800) g 1 1 rfl
  have b46 := gi_b (lo := 0) (hi := 800) g 236 2 rfl
  have b47 := gi_b (lo := -2147483648) (hi := 2147483647) g 1 2 rfl
  have b48 := gi_b (lo := -2147483648) (hi := 2147483647) g 236 10 rfl
  have b49 := gi_b (lo := -2147483648) (hi := 2147483647) g 1 3 rfl
  have b50 := gi_b (lo := -2147483648) (hi := 2147483647) g 236 11 rfl
  refine wi_aload_n (i := 1) (x := 0) (nx := 701) (r1 := 0) (r2 := 0) (r3 := 0) rfl rfl ?_
  refine wr_V (k0 := 0) (rest := []) (as := [.ref 0]) (nx := 704) (r1 := 31) (r2 := 0) (r3 := 0) rfl rfl rfl (of_decide_eq_true rfl) rfl rfl (by decide) rfl rfl (of_decide_eq_true rfl) (of_decide_eq_true rfl) ?_
  refine ct_31_0 hcr  g    (fun z52  (fz52 : -12 ≤ z52 ∧ z52 ≤ 12) => ?_)
  refine wk_i ?_
  refine wi_pop (nx := 705) (r1 := 0) (r2 := 0) (r3 := 0) rfl rfl ?_
  refine wi_aload_n (i := 2) (x := 236) (nx := 706) (r1 := 0) (r2 := 0) (r3 := 0) rfl rfl ?_
  refine wr_V (k0 := 236) (rest := []) (as := [.ref 236]) (nx := 709) (r1 := 255) (r2 := 0) (r3 := 11) rfl rfl rfl (of_decide_eq_true rfl) rfl rfl (by decide) rfl rfl (of_decide_eq_true rfl) (of_decide_eq_true rfl) ?_
  refine ct_255_236 hcr  g    (fun h53 z54 g53 u53 (fz54 : -12 ≤ z54 ∧ z54 ≤ 12) => ?_)
  refine wk_i ?_
  refine wi_pop (nx := 710) (r1 := 0) (r2 := 0) (r3 := 0) rfl rfl ?_
  refine wi_goto (nx := 713) (r1 := 1529) (r2 := 0) (r3 := 0) rfl ?_
  have e55 : h53 238 98 = h 238 98 := (u53 238 98 rfl)
  have e56 : h53 238 99 = h 238 99 := (u53 238 99 rfl)
  have e57 : h53 238 100 = h 238 100 := (u53 238 100 rfl)
  have e58 : h53 238 101 = h 238 101 := (u53 238 101 rfl)
  have e59 : h53 238 102 = h 238 102 := (u53 238 102 rfl)
  have e60 : h53 238 106 = h 238 106 := (u53 238 106 rfl)
  have e61 : h53 238 73 = h 238 73 := (u53 238 73 rfl)
  have e62 : h53 238 2 = h 238 2 := (u53 238 2 rfl)
  have e63 : h53 238 119 = h 238 119 := (u53 238 119 rfl)
  have e64 : h53 238 67 = h 238 67 := (u53 238 67 rfl)
  have e65 : h53 238 69 = h 238 69 := (u53 238 69 rfl)
  have e66 : h53 238 5 = h 238 5 := (u53 238 5 rfl)
  have e67 : h53 241 98 = h 241 98 := (u53 241 98 rfl)
  have e68 : h53 241 99 = h 241 99 := (u53 241 99 rfl)
  have e69 : h53 241 100 = h 241 100 := (u53 241 100 rfl)
  have e70 : h53 241 101 = h 241 101 := (u53 241 101 rfl)
  have e71 : h53 241 102 = h 241 102 := (u53 241 102 rfl)
  have e72 : h53 241 106 = h 241 106 := (u53 241 106 rfl)
  have e73 : h53 241 73 = h 241 73 := (u53 241 73 rfl)
  have e74 : h53 241 2 = h 241 2 := (u53 241 2 rfl)
  have e75 : h53 241 119 = h 241 119 := (u53 241 119 rfl)
  have e76 : h53 241 67 = h 241 67 := (u53 241 67 rfl)
  have e77 : h53 241 69 = h 241 69 := (u53 241 69 rfl)
  have e78 : h53 241 5 = h 241 5 := (u53 241 5 rfl)
  have e79 : h53 1 1 = h 1 1 := (u53 1 1 rfl)
  have e80 : h53 236 2 = h 236 2 := (u53 236 2 rfl)
  have e81 : h53 1 2 = h 1 2 := (u53 1 2 rfl)
  have e82 : h53 236 10 = h 236 10 := (u53 236 10 rfl)
  have e83 : h53 1 3 = h 1 3 := (u53 1 3 rfl)
  have e84 : h53 236 11 = h 236 11 := (u53 236 11 rfl)
  have gp85 := GPH.fr u53 rfl gp0
  have b86 := gi_b (lo := 0) (hi := 5) g 241 0 rfl
  have b87 := gi_b (lo := 0) (hi := 4) g 241 1 rfl
  have gs88 := GPS.fr u53 rfl gs0
  have e89 : h53 0 12 = h 0 12 := (u53 0 12 rfl)
  have e90 : h53 236 21 = h 236 21 := (u53 236 21 rfl)
  exact k h53 b c ⟨g53, (show h53 1 1 = h53 236 2 by omega), (RS.i0 (f := h53 238) (by refine ⟨?_, ?_, ?_, ?_, ?_⟩ <;> omega)), (RS.i0 (f := h53 241) (by refine ⟨?_, ?_, ?_, ?_, ?_⟩ <;> omega)), gp85, (BRh.keep br0 (fun i => (u53 2 i (fn_a (by decide) fn_0))) (fun i => (u53 237 i (fn_a (by decide) fn_0))) (by omega)), (show h53 1 2 = h53 236 10 by omega), (show h53 1 3 = h53 236 11 by omega), (SVx.keep sv0 (by omega) (fun i _ => (u53 3 i (fn_a (by decide) fn_0))) (fun i _ => (u53 5 i (fn_a (by decide) fn_0))) (fun i _ => (u53 6 i (fn_a (by decide) fn_0))) (fun i _ => (u53 8 i (fn_a (by decide) fn_0))) (fun i _ => (u53 238 i (fn_a (by decide) fn_0)))), (show h53 0 12 = h53 236 21 by omega), (fun e => (SVx.keep (ss0 (by omega)) (by omega) (fun i _ => (u53 210 i (fn_a (by decide) fn_0))) (fun i _ => (u53 212 i (fn_a (by decide) fn_0))) (fun i _ => (u53 213 i (fn_a (by decide) fn_0))) (fun i _ => (u53 215 i (fn_a (by decide) fn_0))) (fun i _ => (u53 241 i (fn_a (by decide) fn_0))))), gs88⟩ (by omega) (by omega)
-- the law, case at 713
set_option maxRecDepth 100000 in
set_option maxHeartbeats 100000000 in
theorem lc_713 {L : Nat} {xs : Nat → Int32} {d b c : Nat} {h : hp} {cr : Nat → Nat → Option Nat} {Q : hp_Q} (hcr : CR cr) (hL : L ≤ 3072) (hr : 1 ≤ b ∧ 6 ≤ c) (I : LI h) (i : Int) (hi : 0 ≤ i ∧ i + 6 ≤ L) (k : ∀ (h2 : hp) (b2 c2 : Nat), LI h2 → b ≤ b2 + 1 → c ≤ c2 + 6 → wp (md_xa (L, xs)) (d + 107) 0 (1529, [(0, .ref 1000000), (1, .ref 0), (2, .ref 236), (3, .ref 259), (4, vi i)], [], hp_w h2 cr, b2, c2) Q) : wp (md_xa (L, xs)) (d + 107) 0 (713, [(0, .ref 1000000), (1, .ref 0), (2, .ref 236), (3, .ref 259), (4, vi i)], [], hp_w h cr, b, c) Q := by
  obtain ⟨g, i11, r238, r241, gp0, br0, er2, er3, sv0, sf0, ss0, gs0⟩ := I
  have r238e := r238.e0
  have r241e := r241.e0
  obtain ⟨⟨se0, se1, se2, se3, se4, se5, se6, se7, se8, se9⟩, -⟩ := id sv0
  have b1 := gi_b (lo := 0) (hi := 5) g 3 0 rfl
  have b2 := gi_b (lo := 0) (hi := 5) g 238 0 rfl
  have b3 := gi_b (lo := 0) (hi := 4) g 3 1 rfl
  have b4 := gi_b (lo := 0) (hi := 4) g 238 1 rfl
  have b5 := gi_b (lo := 0) (hi := 12) g 3 2 rfl
  have b6 := gi_b (lo := 0) (hi := 12) g 238 2 rfl
  have b7 := gi_b (lo := -2147483648) (hi := 2147483647) g 3 3 rfl
  have b8 := gi_b (lo := 0) (hi := 999) g 238 3 rfl
  have b9 := gi_b (lo := -2147483648) (hi := 2147483647) g 3 4 rfl
  have b10 := gi_b (lo := 0) (hi := 999) g 238 4 rfl
  have b11 := gi_b (lo := -2147483648) (hi := 2147483647) g 3 5 rfl
  have b12 := gi_b (lo := 0) (hi := 9) g 238 5 rfl
  have b13 := gi_b (lo := -2147483648) (hi := 2147483647) g 3 6 rfl
  have b14 := gi_b (lo := 0) (hi := 999) g 238 6 rfl
  have b15 := gi_b (lo := -2147483648) (hi := 2147483647) g 3 7 rfl
  have b16 := gi_b (lo := 0) (hi := 3) g 238 7 rfl
  have b17 := gi_b (lo := -2147483648) (hi := 2147483647) g 3 8 rfl
  have b18 := gi_b (lo := 0) (hi := 999) g 238 8 rfl
  have b19 := gi_b (lo := -2147483648) (hi := 2147483647) g 3 9 rfl
  have b20 := gi_b (lo := 0) (hi := 999) g 238 9 rfl
  have b21 := gi_b (lo := 0) (hi := 1) g 0 12 rfl
  have b22 := gi_b (lo := 0) (hi := 1) g 236 21 rfl
  have bl_ := gi_b (lo := 0) (hi := 800) g 1 1 rfl
  have tb0 : BufC (h 2) (h 1 1) h := ⟨fun _ => rfl, rfl, by omega, by omega⟩
  have b23 := gi_b (lo := 0) (hi := 6) g 238 98 rfl
  have b24 := gi_b (lo := 0) (hi := 6) g 238 99 rfl
  have b25 := gi_b (lo := 0) (hi := 6) g 238 100 rfl
  have b26 := gi_b (lo := 0) (hi := 6) g 238 101 rfl
  have b27 := gi_b (lo := 0) (hi := 3) g 238 102 rfl
  have b28 := gi_b (lo := 0) (hi := 12) g 238 106 rfl
  have b29 := gi_b (lo := 0) (hi := 12) g 238 73 rfl
  have b30 := gi_b (lo := 0) (hi := 9999) g 238 119 rfl
  have b31 := gi_b (lo := 0) (hi := 9999) g 238 67 rfl
  have b32 := gi_b (lo := 0) (hi := 9) g 238 69 rfl
  have b33 := gi_b (lo := 0) (hi := 6) g 241 98 rfl
  have b34 := gi_b (lo := 0) (hi := 6) g 241 99 rfl
  have b35 := gi_b (lo := 0) (hi := 6) g 241 100 rfl
  have b36 := gi_b (lo := 0) (hi := 6) g 241 101 rfl
  have b37 := gi_b (lo := 0) (hi := 3) g 241 102 rfl
  have b38 := gi_b (lo := 0) (hi := 12) g 241 106 rfl
  have b39 := gi_b (lo := 0) (hi := 12) g 241 73 rfl
  have b40 := gi_b (lo := 0) (hi := 12) g 241 2 rfl
  have b41 := gi_b (lo := 0) (hi := 9999) g 241 119 rfl
  have b42 := gi_b (lo := 0) (hi := 9999) g 241 67 rfl
  have b43 := gi_b (lo := 0) (hi := 9) g 241 69 rfl
  have b44 := gi_b (lo := 0) (hi := 9) g 241 5 rfl
  have b45 := gi_b (lo := 0) (hi := 800) g 1 1 rfl
  have b46 := gi_b (lo := 0) (hi := 800) g 236 2 rfl
  have b47 := gi_b (lo := -2147483648) (hi := 2147483647) g 1 2 rfl
  have b48 := gi_b (lo := -2147483648) (hi := 2147483647) g 236 10 rfl
  have b49 := gi_b (lo := -2147483648) (hi := 2147483647) g 1 3 rfl
  have b50 := gi_b (lo := -2147483648) (hi := 2147483647) g 236 11 rfl
  refine wi_aload_n (i := 1) (x := 0) (nx := 714) (r1 := 0) (r2 := 0) (r3 := 0) rfl rfl ?_
  refine wi_aload_n (i := 0) (x := 1000000) (nx := 715) (r1 := 0) (r2 := 0) (r3 := 0) rfl rfl ?_
  refine wi_iload (i := 4) (e := i) (nx := 717) (r1 := 0) (r2 := 0) (r3 := 0) rfl rfl ?_
  refine wi_iconst (n := 1) (nx := 718) (r1 := 0) (r2 := 0) (r3 := 0) rfl ?_
  refine wr_add (nx := 719) (r1 := 0) (r2 := 0) (r3 := 0) rfl (fun e51 (fe51 : e51 = i + 1) => ?_)
  obtain ⟨i52, ei52⟩ : ∃ q : Nat, e51 = (q : Int) := ⟨(e51).toNat, by omega⟩
  have s53 := sc_b (xs i52)
  refine wr_sc (a := e51) (f := i52) (nx := 720) (r1 := 0) (r2 := 0) (r3 := 0) rfl (by omega) (by omega) hL ?_
  refine wi_aload_n (i := 3) (x := 259) (nx := 721) (r1 := 0) (r2 := 0) (r3 := 0) rfl rfl ?_
  refine wi_S (rest := []) (as := [.ref 0, vi ((xs i52).toInt), .ref 259]) (nx := 724) (r1 := 12) (r2 := 19) (r3 := 0) rfl rfl rfl (of_decide_eq_true rfl) rfl rfl (of_decide_eq_true rfl) (of_decide_eq_true rfl) ?_
  refine wi_aload_n (i := 2) (x := 259) (nx := 1) (r1 := 0) (r2 := 0) (r3 := 0) rfl rfl ?_
  refine wi_iconst (n := 0) (nx := 2) (r1 := 0) (r2 := 0) (r3 := 0) rfl ?_
  refine wi_aload_n (i := 0) (x := 0) (nx := 3) (r1 := 0) (r2 := 0) (r3 := 0) rfl rfl ?_
  refine wi_iload_n (i := 1) (e := (xs i52).toInt) (nx := 4) (r1 := 0) (r2 := 0) (r3 := 0) rfl rfl ?_
  refine wr_V (k0 := 0) (rest := [vi 0, .ref 259]) (as := [.ref 0, vi ((xs i52).toInt)]) (nx := 7) (r1 := 74) (r2 := 1) (r3 := 0) rfl rfl rfl (of_decide_eq_true rfl) rfl rfl (by decide) rfl rfl (of_decide_eq_true rfl) (of_decide_eq_true rfl) ?_
  refine ct_74_0 hcr hr  g ((xs i52).toInt) (by omega)  (fun z55  (fz55 : 0 ≤ z55 ∧ z55 ≤ 12) => ?_) ?_
  ·
    refine wk_i ?_
    refine wi_i2l (nx := 8) (r1 := 0) (r2 := 0) (r3 := 0) rfl (by omega) ?_
    refine wr_ls (k0 := 259) (a := 0) (f := 0) (x := z55) (bl := -9223372036854775808) (bh := 9223372036854775807) (nx := 9) (r1 := 0) (r2 := 0) (r3 := 0) rfl (by decide) rfl (by omega) (by omega) (by decide) g rfl (by omega) (fun h56 g56 w56 u56 => ?_)
    refine wi_goto (nx := 12) (r1 := 15) (r2 := 0) (r3 := 0) rfl ?_
    refine wi_iconst (n := 0) (nx := 16) (r1 := 0) (r2 := 0) (r3 := 0) rfl ?_
    refine wi_ireturn (nx := 17) (r1 := 0) (r2 := 0) (r3 := 0) rfl rfl ?_
    refine wk_i ?_
    refine wi_istore (i := 5) (e := 0) (lo2 := [(5, vi 0), (0, .ref 1000000), (1, .ref 0), (2, .ref 236), (3, .ref 259), (4, vi i)]) (nx := 726) (r1 := 0) (r2 := 0) (r3 := 0) rfl rfl ?_
    refine wi_aload_n (i := 2) (x := 236) (nx := 727) (r1 := 0) (r2 := 0) (r3 := 0) rfl rfl ?_
    refine wi_aload_n (i := 0) (x := 1000000) (nx := 728) (r1 := 0) (r2 := 0) (r3 := 0) rfl rfl ?_
    refine wi_iload (i := 4) (e := i) (nx := 730) (r1 := 0) (r2 := 0) (r3 := 0) rfl rfl ?_
    refine wi_iconst (n := 1) (nx := 731) (r1 := 0) (r2 := 0) (r3 := 0) rfl ?_
    refine wr_add (nx := 732) (r1 := 0) (r2 := 0) (r3 := 0) rfl (fun e57 (fe57 : e57 = i + 1) => ?_)
    refine wr_sc (a := e57) (f := i52) (nx := 733) (r1 := 0) (r2 := 0) (r3 := 0) rfl (by omega) (by omega) hL ?_
    refine wr_V (k0 := 236) (rest := []) (as := [.ref 236, vi ((xs i52).toInt)]) (nx := 736) (r1 := 256) (r2 := 1) (r3 := 11) rfl rfl rfl (of_decide_eq_true rfl) rfl rfl (by decide) rfl rfl (of_decide_eq_true rfl) (of_decide_eq_true rfl) ?_
    refine ct_256_236 hcr  g56 ((xs i52).toInt) (by omega)  (fun h58 z59 g58 u58 (fz59 : 0 ≤ z59 ∧ z59 ≤ 6) => ?_)
    refine wk_i ?_
    refine wi_istore (i := 6) (e := z59) (lo2 := [(6, vi z59), (5, vi 0), (0, .ref 1000000), (1, .ref 0), (2, .ref 236), (3, .ref 259), (4, vi i)]) (nx := 738) (r1 := 0) (r2 := 0) (r3 := 0) rfl rfl ?_
    refine wi_goto (nx := 741) (r1 := 1529) (r2 := 0) (r3 := 0) rfl ?_
    refine wp.lo (lo := [(0, .ref 1000000), (1, .ref 0), (2, .ref 236), (3, .ref 259), (4, vi i)]) ⟨rfl, rfl, rfl, rfl, rfl, trivial⟩ rfl ?_
    have e60 : h58 238 98 = h 238 98 := ((u58 238 98 rfl).trans (u56 238 98 rfl))
    have e61 : h58 238 99 = h 238 99 := ((u58 238 99 rfl).trans (u56 238 99 rfl))
    have e62 : h58 238 100 = h 238 100 := ((u58 238 100 rfl).trans (u56 238 100 rfl))
    have e63 : h58 238 101 = h 238 101 := ((u58 238 101 rfl).trans (u56 238 101 rfl))
    have e64 : h58 238 102 = h 238 102 := ((u58 238 102 rfl).trans (u56 238 102 rfl))
    have e65 : h58 238 106 = h 238 106 := ((u58 238 106 rfl).trans (u56 238 106 rfl))
    have e66 : h58 238 73 = h 238 73 := ((u58 238 73 rfl).trans (u56 238 73 rfl))
    have e67 : h58 238 2 = h 238 2 := ((u58 238 2 rfl).trans (u56 238 2 rfl))
    have e68 : h58 238 119 = h 238 119 := ((u58 238 119 rfl).trans (u56 238 119 rfl))
    have e69 : h58 238 67 = h 238 67 := ((u58 238 67 rfl).trans (u56 238 67 rfl))
    have e70 : h58 238 69 = h 238 69 := ((u58 238 69 rfl).trans (u56 238 69 rfl))
    have e71 : h58 238 5 = h 238 5 := ((u58 238 5 rfl).trans (u56 238 5 rfl))
    have e72 : h58 241 98 = h 241 98 := ((u58 241 98 rfl).trans (u56 241 98 rfl))
    have e73 : h58 241 99 = h 241 99 := ((u58 241 99 rfl).trans (u56 241 99 rfl))
    have e74 : h58 241 100 = h 241 100 := ((u58 241 100 rfl).trans (u56 241 100 rfl))
    have e75 : h58 241 101 = h 241 101 := ((u58 241 101 rfl).trans (u56 241 101 rfl))
    have e76 : h58 241 102 = h 241 102 := ((u58 241 102 rfl).trans (u56 241 102 rfl))
    have e77 : h58 241 106 = h 241 106 := ((u58 241 106 rfl).trans (u56 241 106 rfl))
    have e78 : h58 241 73 = h 241 73 := ((u58 241 73 rfl).trans (u56 241 73 rfl))
    have e79 : h58 241 2 = h 241 2 := ((u58 241 2 rfl).trans (u56 241 2 rfl))
    have e80 : h58 241 119 = h 241 119 := ((u58 241 119 rfl).trans (u56 241 119 rfl))
    have e81 : h58 241 67 = h 241 67 := ((u58 241 67 rfl).trans (u56 241 67 rfl))
    have e82 : h58 241 69 = h 241 69 := ((u58 241 69 rfl).trans (u56 241 69 rfl))
    have e83 : h58 241 5 = h 241 5 := ((u58 241 5 rfl).trans (u56 241 5 rfl))
    have e84 : h58 1 1 = h 1 1 := ((u58 1 1 rfl).trans (u56 1 1 rfl))
    have e85 : h58 236 2 = h 236 2 := ((u58 236 2 rfl).trans (u56 236 2 rfl))
    have e86 : h58 1 2 = h 1 2 := ((u58 1 2 rfl).trans (u56 1 2 rfl))
    have e87 : h58 236 10 = h 236 10 := ((u58 236 10 rfl).trans (u56 236 10 rfl))
    have e88 : h58 1 3 = h 1 3 := ((u58 1 3 rfl).trans (u56 1 3 rfl))
    have e89 : h58 236 11 = h 236 11 := ((u58 236 11 rfl).trans (u56 236 11 rfl))
    have gp90 := GPH.fr u56 rfl gp0
    have gp91 := GPH.fr u58 rfl gp90
    have b92 := gi_b (lo := 0) (hi := 5) g 241 0 rfl
    have b93 := gi_b (lo := 0) (hi := 4) g 241 1 rfl
    have gs94 := GPS.fr u56 rfl gs0
    have gs95 := GPS.fr u58 rfl gs94
    have e96 : h58 0 12 = h 0 12 := ((u58 0 12 rfl).trans (u56 0 12 rfl))
    have e97 : h58 236 21 = h 236 21 := ((u58 236 21 rfl).trans (u56 236 21 rfl))
    exact k h58 b c ⟨g58, (show h58 1 1 = h58 236 2 by omega), (RS.i0 (f := h58 238) (by refine ⟨?_, ?_, ?_, ?_, ?_⟩ <;> omega)), (RS.i0 (f := h58 241) (by refine ⟨?_, ?_, ?_, ?_, ?_⟩ <;> omega)), gp91, (BRh.keep br0 (fun i => ((u58 2 i (fn_a (by decide) fn_0)).trans (u56 2 i (fn_a (by omega) fn_0)))) (fun i => ((u58 237 i (fn_a (by decide) fn_0)).trans (u56 237 i (fn_a (by omega) fn_0)))) (by omega)), (show h58 1 2 = h58 236 10 by omega), (show h58 1 3 = h58 236 11 by omega), (SVx.keep sv0 (by omega) (fun i _ => ((u58 3 i (fn_a (by decide) fn_0)).trans (u56 3 i (fn_a (by omega) fn_0)))) (fun i _ => ((u58 5 i (fn_a (by decide) fn_0)).trans (u56 5 i (fn_a (by omega) fn_0)))) (fun i _ => ((u58 6 i (fn_a (by decide) fn_0)).trans (u56 6 i (fn_a (by omega) fn_0)))) (fun i _ => ((u58 8 i (fn_a (by decide) fn_0)).trans (u56 8 i (fn_a (by omega) fn_0)))) (fun i _ => ((u58 238 i (fn_a (by decide) fn_0)).trans (u56 238 i (fn_a (by omega) fn_0))))), (show h58 0 12 = h58 236 21 by omega), (fun e => (SVx.keep (ss0 (by omega)) (by omega) (fun i _ => ((u58 210 i (fn_a (by decide) fn_0)).trans (u56 210 i (fn_a (by omega) fn_0)))) (fun i _ => ((u58 212 i (fn_a (by decide) fn_0)).trans (u56 212 i (fn_a (by omega) fn_0)))) (fun i _ => ((u58 213 i (fn_a (by decide) fn_0)).trans (u56 213 i (fn_a (by omega) fn_0)))) (fun i _ => ((u58 215 i (fn_a (by decide) fn_0)).trans (u56 215 i (fn_a (by omega) fn_0)))) (fun i _ => ((u58 241 i (fn_a (by decide) fn_0)).trans (u56 241 i (fn_a (by omega) fn_0)))))), gs95⟩ (by omega) (by omega)
  ·
    refine wk_h 12 (by decide) rfl ?_
    refine wr_astx (i := 3) (lo2 := [(3, .retAddr 0), (0, .ref 0), (1, vi ((xs i52).toInt)), (2, .ref 259)]) (nx := 13) (r1 := 0) (r2 := 0) (r3 := 0) rfl rfl ?_
    refine wi_iconst (n := 1) (nx := 14) (r1 := 0) (r2 := 0) (r3 := 0) rfl ?_
    refine wi_ireturn (nx := 15) (r1 := 0) (r2 := 0) (r3 := 0) rfl rfl ?_
    refine wk_i ?_
    refine wi_istore (i := 5) (e := 1) (lo2 := [(5, vi 1), (0, .ref 1000000), (1, .ref 0), (2, .ref 236), (3, .ref 259), (4, vi i)]) (nx := 726) (r1 := 0) (r2 := 0) (r3 := 0) rfl rfl ?_
    refine wi_aload_n (i := 2) (x := 236) (nx := 727) (r1 := 0) (r2 := 0) (r3 := 0) rfl rfl ?_
    refine wi_aload_n (i := 0) (x := 1000000) (nx := 728) (r1 := 0) (r2 := 0) (r3 := 0) rfl rfl ?_
    refine wi_iload (i := 4) (e := i) (nx := 730) (r1 := 0) (r2 := 0) (r3 := 0) rfl rfl ?_
    refine wi_iconst (n := 1) (nx := 731) (r1 := 0) (r2 := 0) (r3 := 0) rfl ?_
    refine wr_add (nx := 732) (r1 := 0) (r2 := 0) (r3 := 0) rfl (fun e56 (fe56 : e56 = i + 1) => ?_)
    refine wr_sc (a := e56) (f := i52) (nx := 733) (r1 := 0) (r2 := 0) (r3 := 0) rfl (by omega) (by omega) hL ?_
    refine wr_V (k0 := 236) (rest := []) (as := [.ref 236, vi ((xs i52).toInt)]) (nx := 736) (r1 := 256) (r2 := 1) (r3 := 11) rfl rfl rfl (of_decide_eq_true rfl) rfl rfl (by decide) rfl rfl (of_decide_eq_true rfl) (of_decide_eq_true rfl) ?_
    refine ct_256_236 hcr  g ((xs i52).toInt) (by omega)  (fun h57 z58 g57 u57 (fz58 : 0 ≤ z58 ∧ z58 ≤ 6) => ?_)
    refine wk_i ?_
    refine wi_istore (i := 6) (e := z58) (lo2 := [(6, vi z58), (5, vi 1), (0, .ref 1000000), (1, .ref 0), (2, .ref 236), (3, .ref 259), (4, vi i)]) (nx := 738) (r1 := 0) (r2 := 0) (r3 := 0) rfl rfl ?_
    refine wi_goto (nx := 741) (r1 := 1529) (r2 := 0) (r3 := 0) rfl ?_
    refine wp.lo (lo := [(0, .ref 1000000), (1, .ref 0), (2, .ref 236), (3, .ref 259), (4, vi i)]) ⟨rfl, rfl, rfl, rfl, rfl, trivial⟩ rfl ?_
    have e59 : h57 238 98 = h 238 98 := (u57 238 98 rfl)
    have e60 : h57 238 99 = h 238 99 := (u57 238 99 rfl)
    have e61 : h57 238 100 = h 238 100 := (u57 238 100 rfl)
    have e62 : h57 238 101 = h 238 101 := (u57 238 101 rfl)
    have e63 : h57 238 102 = h 238 102 := (u57 238 102 rfl)
    have e64 : h57 238 106 = h 238 106 := (u57 238 106 rfl)
    have e65 : h57 238 73 = h 238 73 := (u57 238 73 rfl)
    have e66 : h57 238 2 = h 238 2 := (u57 238 2 rfl)
    have e67 : h57 238 119 = h 238 119 := (u57 238 119 rfl)
    have e68 : h57 238 67 = h 238 67 := (u57 238 67 rfl)
    have e69 : h57 238 69 = h 238 69 := (u57 238 69 rfl)
    have e70 : h57 238 5 = h 238 5 := (u57 238 5 rfl)
    have e71 : h57 241 98 = h 241 98 := (u57 241 98 rfl)
    have e72 : h57 241 99 = h 241 99 := (u57 241 99 rfl)
    have e73 : h57 241 100 = h 241 100 := (u57 241 100 rfl)
    have e74 : h57 241 101 = h 241 101 := (u57 241 101 rfl)
    have e75 : h57 241 102 = h 241 102 := (u57 241 102 rfl)
    have e76 : h57 241 106 = h 241 106 := (u57 241 106 rfl)
    have e77 : h57 241 73 = h 241 73 := (u57 241 73 rfl)
    have e78 : h57 241 2 = h 241 2 := (u57 241 2 rfl)
    have e79 : h57 241 119 = h 241 119 := (u57 241 119 rfl)
    have e80 : h57 241 67 = h 241 67 := (u57 241 67 rfl)
    have e81 : h57 241 69 = h 241 69 := (u57 241 69 rfl)
    have e82 : h57 241 5 = h 241 5 := (u57 241 5 rfl)
    have e83 : h57 1 1 = h 1 1 := (u57 1 1 rfl)
    have e84 : h57 236 2 = h 236 2 := (u57 236 2 rfl)
    have e85 : h57 1 2 = h 1 2 := (u57 1 2 rfl)
    have e86 : h57 236 10 = h 236 10 := (u57 236 10 rfl)
    have e87 : h57 1 3 = h 1 3 := (u57 1 3 rfl)
    have e88 : h57 236 11 = h 236 11 := (u57 236 11 rfl)
    have gp89 := GPH.fr u57 rfl gp0
    have b90 := gi_b (lo := 0) (hi := 5) g 241 0 rfl
    have b91 := gi_b (lo := 0) (hi := 4) g 241 1 rfl
    have gs92 := GPS.fr u57 rfl gs0
    have e93 : h57 0 12 = h 0 12 := (u57 0 12 rfl)
    have e94 : h57 236 21 = h 236 21 := (u57 236 21 rfl)
    exact k h57 (b - 1) (c - 6) ⟨g57, (show h57 1 1 = h57 236 2 by omega), (RS.i0 (f := h57 238) (by refine ⟨?_, ?_, ?_, ?_, ?_⟩ <;> omega)), (RS.i0 (f := h57 241) (by refine ⟨?_, ?_, ?_, ?_, ?_⟩ <;> omega)), gp89, (BRh.keep br0 (fun i => (u57 2 i (fn_a (by decide) fn_0))) (fun i => (u57 237 i (fn_a (by decide) fn_0))) (by omega)), (show h57 1 2 = h57 236 10 by omega), (show h57 1 3 = h57 236 11 by omega), (SVx.keep sv0 (by omega) (fun i _ => (u57 3 i (fn_a (by decide) fn_0))) (fun i _ => (u57 5 i (fn_a (by decide) fn_0))) (fun i _ => (u57 6 i (fn_a (by decide) fn_0))) (fun i _ => (u57 8 i (fn_a (by decide) fn_0))) (fun i _ => (u57 238 i (fn_a (by decide) fn_0)))), (show h57 0 12 = h57 236 21 by omega), (fun e => (SVx.keep (ss0 (by omega)) (by omega) (fun i _ => (u57 210 i (fn_a (by decide) fn_0))) (fun i _ => (u57 212 i (fn_a (by decide) fn_0))) (fun i _ => (u57 213 i (fn_a (by decide) fn_0))) (fun i _ => (u57 215 i (fn_a (by decide) fn_0))) (fun i _ => (u57 241 i (fn_a (by decide) fn_0))))), gs92⟩ (by omega) (by omega)
-- the law, case at 741
set_option maxRecDepth 100000 in
set_option maxHeartbeats 100000000 in
theorem lc_741 {L : Nat} {xs : Nat → Int32} {d b c : Nat} {h : hp} {cr : Nat → Nat → Option Nat} {Q : hp_Q} (hcr : CR cr) (hL : L ≤ 3072) (hr : 1 ≤ b ∧ 6 ≤ c) (I : LI h) (i : Int) (hi : 0 ≤ i ∧ i + 6 ≤ L) (k : ∀ (h2 : hp) (b2 c2 : Nat), LI h2 → b ≤ b2 + 1 → c ≤ c2 + 6 → wp (md_xa (L, xs)) (d + 107) 0 (1529, [(0, .ref 1000000), (1, .ref 0), (2, .ref 236), (3, .ref 259), (4, vi i)], [], hp_w h2 cr, b2, c2) Q) : wp (md_xa (L, xs)) (d + 107) 0 (741, [(0, .ref 1000000), (1, .ref 0), (2, .ref 236), (3, .ref 259), (4, vi i)], [], hp_w h cr, b, c) Q := by
  obtain ⟨g, i11, r238, r241, gp0, br0, er2, er3, sv0, sf0, ss0, gs0⟩ := I
  have r238e := r238.e0
  have r241e := r241.e0
  obtain ⟨⟨se0, se1, se2, se3, se4, se5, se6, se7, se8, se9⟩, -⟩ := id sv0
  have b1 := gi_b (lo := 0) (hi := 5) g 3 0 rfl
  have b2 := gi_b (lo := 0) (hi := 5) g 238 0 rfl
  have b3 := gi_b (lo := 0) (hi := 4) g 3 1 rfl
  have b4 := gi_b (lo := 0) (hi := 4) g 238 1 rfl
  have b5 := gi_b (lo := 0) (hi := 12) g 3 2 rfl
  have b6 := gi_b (lo := 0) (hi := 12) g 238 2 rfl
  have b7 := gi_b (lo := -2147483648) (hi := 2147483647) g 3 3 rfl
  have b8 := gi_b (lo := 0) (hi := 999) g 238 3 rfl
  have b9 := gi_b (lo := -2147483648) (hi := 2147483647) g 3 4 rfl
  have b10 := gi_b (lo := 0) (hi := 999) g 238 4 rfl
  have b11 := gi_b (lo := -2147483648) (hi := 2147483647) g 3 5 rfl
  have b12 := gi_b (lo := 0) (hi := 9) g 238 5 rfl
  have b13 := gi_b (lo := -2147483648) (hi := 2147483647) g 3 6 rfl
  have b14 := gi_b (lo := 0) (hi := 999) g 238 6 rfl
  have b15 := gi_b (lo := -2147483648) (hi := 2147483647) g 3 7 rfl
  have b16 := gi_b (lo := 0) (hi := 3) g 238 7 rfl
  have b17 := gi_b (lo := -2147483648) (hi := 2147483647) g 3 8 rfl
  have b18 := gi_b (lo := 0) (hi := 999) g 238 8 rfl
  have b19 := gi_b (lo := -2147483648) (hi := 2147483647) g 3 9 rfl
  have b20 := gi_b (lo := 0) (hi := 999) g 238 9 rfl
  have b21 := gi_b (lo := 0) (hi := 1) g 0 12 rfl
  have b22 := gi_b (lo := 0) (hi := 1) g 236 21 rfl
  have bl_ := gi_b (lo := 0) (hi := 800) g 1 1 rfl
  have tb0 : BufC (h 2) (h 1 1) h := ⟨fun _ => rfl, rfl, by omega, by omega⟩
  have b23 := gi_b (lo := 0) (hi := 6) g 238 98 rfl
  have b24 := gi_b (lo := 0) (hi := 6) g 238 99 rfl
  have b25 := gi_b (lo := 0) (hi := 6) g 238 100 rfl
  have b26 := gi_b (lo := 0) (hi := 6) g 238 101 rfl
  have b27 := gi_b (lo := 0) (hi := 3) g 238 102 rfl
  have b28 := gi_b (lo := 0) (hi := 12) g 238 106 rfl
  have b29 := gi_b (lo := 0) (hi := 12) g 238 73 rfl
  have b30 := gi_b (lo := 0) (hi := 9999) g 238 119 rfl
  have b31 := gi_b (lo := 0) (hi := 9999) g 238 67 rfl
  have b32 := gi_b (lo := 0) (hi := 9) g 238 69 rfl
  have b33 := gi_b (lo := 0) (hi := 6) g 241 98 rfl
  have b34 := gi_b (lo := 0) (hi := 6) g 241 99 rfl
  have b35 := gi_b (lo := 0) (hi := 6) g 241 100 rfl
  have b36 := gi_b (lo := 0) (hi := 6) g 241 101 rfl
  have b37 := gi_b (lo := 0) (hi := 3) g 241 102 rfl
  have b38 := gi_b (lo := 0) (hi := 12) g 241 106 rfl
  have b39 := gi_b (lo := 0) (hi := 12) g 241 73 rfl
  have b40 := gi_b (lo := 0) (hi := 12) g 241 2 rfl
  have b41 := gi_b (lo := 0) (hi := 9999) g 241 119 rfl
  have b42 := gi_b (lo := 0) (hi := 9999) g 241 67 rfl
  have b43 := gi_b (lo := 0) (hi := 9) g 241 69 rfl
  have b44 := gi_b (lo := 0) (hi := 9) g 241 5 rfl
  have b45 := gi_b (lo := 0) (hi := 800) g 1 1 rfl
  have b46 := gi_b (lo := 0) (hi := 800) g 236 2 rfl
  have b47 := gi_b (lo := -2147483648) (hi := 2147483647) g 1 2 rfl
  have b48 := gi_b (lo := -2147483648) (hi := 2147483647) g 236 10 rfl
  have b49 := gi_b (lo := -2147483648) (hi := 2147483647) g 1 3 rfl
  have b50 := gi_b (lo := -2147483648) (hi := 2147483647) g 236 11 rfl
  refine wi_aload_n (i := 1) (x := 0) (nx := 742) (r1 := 0) (r2 := 0) (r3 := 0) rfl rfl ?_
  refine wi_aload_n (i := 0) (x := 1000000) (nx := 743) (r1 := 0) (r2 := 0) (r3 := 0) rfl rfl ?_
  refine wi_iload (i := 4) (e := i) (nx := 745) (r1 := 0) (r2 := 0) (r3 := 0) rfl rfl ?_
  refine wi_iconst (n := 1) (nx := 746) (r1 := 0) (r2 := 0) (r3 := 0) rfl ?_
  refine wr_add (nx := 747) (r1 := 0) (r2 := 0) (r3 := 0) rfl (fun e51 (fe51 : e51 = i + 1) => ?_)
  obtain ⟨i52, ei52⟩ : ∃ q : Nat, e51 = (q : Int) := ⟨(e51).toNat, by omega⟩
  have s53 := sc_b (xs i52)
  refine wr_sc (a := e51) (f := i52) (nx := 748) (r1 := 0) (r2 := 0) (r3 := 0) rfl (by omega) (by omega) hL ?_
  refine wi_aload_n (i := 0) (x := 1000000) (nx := 749) (r1 := 0) (r2 := 0) (r3 := 0) rfl rfl ?_
  refine wi_iload (i := 4) (e := i) (nx := 751) (r1 := 0) (r2 := 0) (r3 := 0) rfl rfl ?_
  refine wi_iconst (n := 2) (nx := 752) (r1 := 0) (r2 := 0) (r3 := 0) rfl ?_
  refine wr_add (nx := 753) (r1 := 0) (r2 := 0) (r3 := 0) rfl (fun e54 (fe54 : e54 = i + 2) => ?_)
  obtain ⟨i55, ei55⟩ : ∃ q : Nat, e54 = (q : Int) := ⟨(e54).toNat, by omega⟩
  have s56 := sc_b (xs i55)
  refine wr_sc (a := e54) (f := i55) (nx := 754) (r1 := 0) (r2 := 0) (r3 := 0) rfl (by omega) (by omega) hL ?_
  refine wi_aload_n (i := 3) (x := 259) (nx := 755) (r1 := 0) (r2 := 0) (r3 := 0) rfl rfl ?_
  refine wi_S (rest := []) (as := [.ref 0, vi ((xs i52).toInt), vi ((xs i55).toInt), .ref 259]) (nx := 758) (r1 := 13) (r2 := 20) (r3 := 0) rfl rfl rfl (of_decide_eq_true rfl) rfl rfl (of_decide_eq_true rfl) (of_decide_eq_true rfl) ?_
  refine wi_aload_n (i := 3) (x := 259) (nx := 1) (r1 := 0) (r2 := 0) (r3 := 0) rfl rfl ?_
  refine wi_iconst (n := 0) (nx := 2) (r1 := 0) (r2 := 0) (r3 := 0) rfl ?_
  refine wi_aload_n (i := 0) (x := 0) (nx := 3) (r1 := 0) (r2 := 0) (r3 := 0) rfl rfl ?_
  refine wi_iload_n (i := 1) (e := (xs i52).toInt) (nx := 4) (r1 := 0) (r2 := 0) (r3 := 0) rfl rfl ?_
  refine wi_iload_n (i := 2) (e := (xs i55).toInt) (nx := 5) (r1 := 0) (r2 := 0) (r3 := 0) rfl rfl ?_
  refine wr_V (k0 := 0) (rest := [vi 0, .ref 259]) (as := [.ref 0, vi ((xs i52).toInt), vi ((xs i55).toInt)]) (nx := 8) (r1 := 75) (r2 := 2) (r3 := 0) rfl rfl rfl (of_decide_eq_true rfl) rfl rfl (by decide) rfl rfl (of_decide_eq_true rfl) (of_decide_eq_true rfl) ?_
  refine ct_75_0 hcr hr  g ((xs i52).toInt) ((xs i55).toInt) (by omega) (by omega)  (fun z58  (fz58 : -2147483648 ≤ z58 ∧ z58 ≤ 2147483647) => ?_) ?_
  ·
    refine wk_i ?_
    refine wi_i2l (nx := 9) (r1 := 0) (r2 := 0) (r3 := 0) rfl (by omega) ?_
    refine wr_ls (k0 := 259) (a := 0) (f := 0) (x := z58) (bl := -9223372036854775808) (bh := 9223372036854775807) (nx := 10) (r1 := 0) (r2 := 0) (r3 := 0) rfl (by decide) rfl (by omega) (by omega) (by decide) g rfl (by omega) (fun h59 g59 w59 u59 => ?_)
    refine wi_goto (nx := 13) (r1 := 17) (r2 := 0) (r3 := 0) rfl ?_
    refine wi_iconst (n := 0) (nx := 18) (r1 := 0) (r2 := 0) (r3 := 0) rfl ?_
    refine wi_ireturn (nx := 19) (r1 := 0) (r2 := 0) (r3 := 0) rfl rfl ?_
    refine wk_i ?_
    refine wi_istore (i := 5) (e := 0) (lo2 := [(5, vi 0), (0, .ref 1000000), (1, .ref 0), (2, .ref 236), (3, .ref 259), (4, vi i)]) (nx := 760) (r1 := 0) (r2 := 0) (r3 := 0) rfl rfl ?_
    refine wi_aload_n (i := 2) (x := 236) (nx := 761) (r1 := 0) (r2 := 0) (r3 := 0) rfl rfl ?_
    refine wi_aload_n (i := 0) (x := 1000000) (nx := 762) (r1 := 0) (r2 := 0) (r3 := 0) rfl rfl ?_
    refine wi_iload (i := 4) (e := i) (nx := 764) (r1 := 0) (r2 := 0) (r3 := 0) rfl rfl ?_
    refine wi_iconst (n := 1) (nx := 765) (r1 := 0) (r2 := 0) (r3 := 0) rfl ?_
    refine wr_add (nx := 766) (r1 := 0) (r2 := 0) (r3 := 0) rfl (fun e60 (fe60 : e60 = i + 1) => ?_)
    refine wr_sc (a := e60) (f := i52) (nx := 767) (r1 := 0) (r2 := 0) (r3 := 0) rfl (by omega) (by omega) hL ?_
    refine wi_aload_n (i := 0) (x := 1000000) (nx := 768) (r1 := 0) (r2 := 0) (r3 := 0) rfl rfl ?_
    refine wi_iload (i := 4) (e := i) (nx := 770) (r1 := 0) (r2 := 0) (r3 := 0) rfl rfl ?_
    refine wi_iconst (n := 2) (nx := 771) (r1 := 0) (r2 := 0) (r3 := 0) rfl ?_
    refine wr_add (nx := 772) (r1 := 0) (r2 := 0) (r3 := 0) rfl (fun e61 (fe61 : e61 = i + 2) => ?_)
    refine wr_sc (a := e61) (f := i55) (nx := 773) (r1 := 0) (r2 := 0) (r3 := 0) rfl (by omega) (by omega) hL ?_
    refine wr_V (k0 := 236) (rest := []) (as := [.ref 236, vi ((xs i52).toInt), vi ((xs i55).toInt)]) (nx := 776) (r1 := 257) (r2 := 2) (r3 := 11) rfl rfl rfl (of_decide_eq_true rfl) rfl rfl (by decide) rfl rfl (of_decide_eq_true rfl) (of_decide_eq_true rfl) ?_
    refine ct_257_236 hcr  g59 ((xs i52).toInt) ((xs i55).toInt) (by omega) (by omega)  (fun h62 z63 g62 u62 (fz63 : -1 ≤ z63 ∧ z63 ≤ 11) => ?_)
    refine wk_i ?_
    refine wi_istore (i := 6) (e := z63) (lo2 := [(6, vi z63), (5, vi 0), (0, .ref 1000000), (1, .ref 0), (2, .ref 236), (3, .ref 259), (4, vi i)]) (nx := 778) (r1 := 0) (r2 := 0) (r3 := 0) rfl rfl ?_
    refine wi_goto (nx := 781) (r1 := 1529) (r2 := 0) (r3 := 0) rfl ?_
    refine wp.lo (lo := [(0, .ref 1000000), (1, .ref 0), (2, .ref 236), (3, .ref 259), (4, vi i)]) ⟨rfl, rfl, rfl, rfl, rfl, trivial⟩ rfl ?_
    have e64 : h62 238 98 = h 238 98 := ((u62 238 98 rfl).trans (u59 238 98 rfl))
    have e65 : h62 238 99 = h 238 99 := ((u62 238 99 rfl).trans (u59 238 99 rfl))
    have e66 : h62 238 100 = h 238 100 := ((u62 238 100 rfl).trans (u59 238 100 rfl))
    have e67 : h62 238 101 = h 238 101 := ((u62 238 101 rfl).trans (u59 238 101 rfl))
    have e68 : h62 238 102 = h 238 102 := ((u62 238 102 rfl).trans (u59 238 102 rfl))
    have e69 : h62 238 106 = h 238 106 := ((u62 238 106 rfl).trans (u59 238 106 rfl))
    have e70 : h62 238 73 = h 238 73 := ((u62 238 73 rfl).trans (u59 238 73 rfl))
    have e71 : h62 238 2 = h 238 2 := ((u62 238 2 rfl).trans (u59 238 2 rfl))
    have e72 : h62 238 119 = h 238 119 := ((u62 238 119 rfl).trans (u59 238 119 rfl))
    have e73 : h62 238 67 = h 238 67 := ((u62 238 67 rfl).trans (u59 238 67 rfl))
    have e74 : h62 238 69 = h 238 69 := ((u62 238 69 rfl).trans (u59 238 69 rfl))
    have e75 : h62 238 5 = h 238 5 := ((u62 238 5 rfl).trans (u59 238 5 rfl))
    have e76 : h62 241 98 = h 241 98 := ((u62 241 98 rfl).trans (u59 241 98 rfl))
    have e77 : h62 241 99 = h 241 99 := ((u62 241 99 rfl).trans (u59 241 99 rfl))
    have e78 : h62 241 100 = h 241 100 := ((u62 241 100 rfl).trans (u59 241 100 rfl))
    have e79 : h62 241 101 = h 241 101 := ((u62 241 101 rfl).trans (u59 241 101 rfl))
    have e80 : h62 241 102 = h 241 102 := ((u62 241 102 rfl).trans (u59 241 102 rfl))
    have e81 : h62 241 106 = h 241 106 := ((u62 241 106 rfl).trans (u59 241 106 rfl))
    have e82 : h62 241 73 = h 241 73 := ((u62 241 73 rfl).trans (u59 241 73 rfl))
    have e83 : h62 241 2 = h 241 2 := ((u62 241 2 rfl).trans (u59 241 2 rfl))
    have e84 : h62 241 119 = h 241 119 := ((u62 241 119 rfl).trans (u59 241 119 rfl))
    have e85 : h62 241 67 = h 241 67 := ((u62 241 67 rfl).trans (u59 241 67 rfl))
    have e86 : h62 241 69 = h 241 69 := ((u62 241 69 rfl).trans (u59 241 69 rfl))
    have e87 : h62 241 5 = h 241 5 := ((u62 241 5 rfl).trans (u59 241 5 rfl))
    have e88 : h62 1 1 = h 1 1 := ((u62 1 1 rfl).trans (u59 1 1 rfl))
    have e89 : h62 236 2 = h 236 2 := ((u62 236 2 rfl).trans (u59 236 2 rfl))
    have e90 : h62 1 2 = h 1 2 := ((u62 1 2 rfl).trans (u59 1 2 rfl))
    have e91 : h62 236 10 = h 236 10 := ((u62 236 10 rfl).trans (u59 236 10 rfl))
    have e92 : h62 1 3 = h 1 3 := ((u62 1 3 rfl).trans (u59 1 3 rfl))
    have e93 : h62 236 11 = h 236 11 := ((u62 236 11 rfl).trans (u59 236 11 rfl))
    have gp94 := GPH.fr u59 rfl gp0
    have gp95 := GPH.fr u62 rfl gp94
    have b96 := gi_b (lo := 0) (hi := 5) g 241 0 rfl
    have b97 := gi_b (lo := 0) (hi := 4) g 241 1 rfl
    have gs98 := GPS.fr u59 rfl gs0
    have gs99 := GPS.fr u62 rfl gs98
    have e100 : h62 0 12 = h 0 12 := ((u62 0 12 rfl).trans (u59 0 12 rfl))
    have e101 : h62 236 21 = h 236 21 := ((u62 236 21 rfl).trans (u59 236 21 rfl))
    exact k h62 b c ⟨g62, (show h62 1 1 = h62 236 2 by omega), (RS.i0 (f := h62 238) (by refine ⟨?_, ?_, ?_, ?_, ?_⟩ <;> omega)), (RS.i0 (f := h62 241) (by refine ⟨?_, ?_, ?_, ?_, ?_⟩ <;> omega)), gp95, (BRh.keep br0 (fun i => ((u62 2 i (fn_a (by decide) fn_0)).trans (u59 2 i (fn_a (by omega) fn_0)))) (fun i => ((u62 237 i (fn_a (by decide) fn_0)).trans (u59 237 i (fn_a (by omega) fn_0)))) (by omega)), (show h62 1 2 = h62 236 10 by omega), (show h62 1 3 = h62 236 11 by omega), (SVx.keep sv0 (by omega) (fun i _ => ((u62 3 i (fn_a (by decide) fn_0)).trans (u59 3 i (fn_a (by omega) fn_0)))) (fun i _ => ((u62 5 i (fn_a (by decide) fn_0)).trans (u59 5 i (fn_a (by omega) fn_0)))) (fun i _ => ((u62 6 i (fn_a (by decide) fn_0)).trans (u59 6 i (fn_a (by omega) fn_0)))) (fun i _ => ((u62 8 i (fn_a (by decide) fn_0)).trans (u59 8 i (fn_a (by omega) fn_0)))) (fun i _ => ((u62 238 i (fn_a (by decide) fn_0)).trans (u59 238 i (fn_a (by omega) fn_0))))), (show h62 0 12 = h62 236 21 by omega), (fun e => (SVx.keep (ss0 (by omega)) (by omega) (fun i _ => ((u62 210 i (fn_a (by decide) fn_0)).trans (u59 210 i (fn_a (by omega) fn_0)))) (fun i _ => ((u62 212 i (fn_a (by decide) fn_0)).trans (u59 212 i (fn_a (by omega) fn_0)))) (fun i _ => ((u62 213 i (fn_a (by decide) fn_0)).trans (u59 213 i (fn_a (by omega) fn_0)))) (fun i _ => ((u62 215 i (fn_a (by decide) fn_0)).trans (u59 215 i (fn_a (by omega) fn_0)))) (fun i _ => ((u62 241 i (fn_a (by decide) fn_0)).trans (u59 241 i (fn_a (by omega) fn_0)))))), gs99⟩ (by omega) (by omega)
  ·
    refine wk_h 13 (by decide) rfl ?_
    refine wr_asty (i := 4) (lo2 := [(4, .retAddr 0), (0, .ref 0), (1, vi ((xs i52).toInt)), (2, vi ((xs i55).toInt)), (3, .ref 259)]) (nx := 15) (r1 := 0) (r2 := 0) (r3 := 0) rfl rfl ?_
    refine wi_iconst (n := 1) (nx := 16) (r1 := 0) (r2 := 0) (r3 := 0) rfl ?_
    refine wi_ireturn (nx := 17) (r1 := 0) (r2 := 0) (r3 := 0) rfl rfl ?_
    refine wk_i ?_
    refine wi_istore (i := 5) (e := 1) (lo2 := [(5, vi 1), (0, .ref 1000000), (1, .ref 0), (2, .ref 236), (3, .ref 259), (4, vi i)]) (nx := 760) (r1 := 0) (r2 := 0) (r3 := 0) rfl rfl ?_
    refine wi_aload_n (i := 2) (x := 236) (nx := 761) (r1 := 0) (r2 := 0) (r3 := 0) rfl rfl ?_
    refine wi_aload_n (i := 0) (x := 1000000) (nx := 762) (r1 := 0) (r2 := 0) (r3 := 0) rfl rfl ?_
    refine wi_iload (i := 4) (e := i) (nx := 764) (r1 := 0) (r2 := 0) (r3 := 0) rfl rfl ?_
    refine wi_iconst (n := 1) (nx := 765) (r1 := 0) (r2 := 0) (r3 := 0) rfl ?_
    refine wr_add (nx := 766) (r1 := 0) (r2 := 0) (r3 := 0) rfl (fun e59 (fe59 : e59 = i + 1) => ?_)
    refine wr_sc (a := e59) (f := i52) (nx := 767) (r1 := 0) (r2 := 0) (r3 := 0) rfl (by omega) (by omega) hL ?_
    refine wi_aload_n (i := 0) (x := 1000000) (nx := 768) (r1 := 0) (r2 := 0) (r3 := 0) rfl rfl ?_
    refine wi_iload (i := 4) (e := i) (nx := 770) (r1 := 0) (r2 := 0) (r3 := 0) rfl rfl ?_
    refine wi_iconst (n := 2) (nx := 771) (r1 := 0) (r2 := 0) (r3 := 0) rfl ?_
    refine wr_add (nx := 772) (r1 := 0) (r2 := 0) (r3 := 0) rfl (fun e60 (fe60 : e60 = i + 2) => ?_)
    refine wr_sc (a := e60) (f := i55) (nx := 773) (r1 := 0) (r2 := 0) (r3 := 0) rfl (by omega) (by omega) hL ?_
    refine wr_V (k0 := 236) (rest := []) (as := [.ref 236, vi ((xs i52).toInt), vi ((xs i55).toInt)]) (nx := 776) (r1 := 257) (r2 := 2) (r3 := 11) rfl rfl rfl (of_decide_eq_true rfl) rfl rfl (by decide) rfl rfl (of_decide_eq_true rfl) (of_decide_eq_true rfl) ?_
    refine ct_257_236 hcr  g ((xs i52).toInt) ((xs i55).toInt) (by omega) (by omega)  (fun h61 z62 g61 u61 (fz62 : -1 ≤ z62 ∧ z62 ≤ 11) => ?_)
    refine wk_i ?_
    refine wi_istore (i := 6) (e := z62) (lo2 := [(6, vi z62), (5, vi 1), (0, .ref 1000000), (1, .ref 0), (2, .ref 236), (3, .ref 259), (4, vi i)]) (nx := 778) (r1 := 0) (r2 := 0) (r3 := 0) rfl rfl ?_
    refine wi_goto (nx := 781) (r1 := 1529) (r2 := 0) (r3 := 0) rfl ?_
    refine wp.lo (lo := [(0, .ref 1000000), (1, .ref 0), (2, .ref 236), (3, .ref 259), (4, vi i)]) ⟨rfl, rfl, rfl, rfl, rfl, trivial⟩ rfl ?_
    have e63 : h61 238 98 = h 238 98 := (u61 238 98 rfl)
    have e64 : h61 238 99 = h 238 99 := (u61 238 99 rfl)
    have e65 : h61 238 100 = h 238 100 := (u61 238 100 rfl)
    have e66 : h61 238 101 = h 238 101 := (u61 238 101 rfl)
    have e67 : h61 238 102 = h 238 102 := (u61 238 102 rfl)
    have e68 : h61 238 106 = h 238 106 := (u61 238 106 rfl)
    have e69 : h61 238 73 = h 238 73 := (u61 238 73 rfl)
    have e70 : h61 238 2 = h 238 2 := (u61 238 2 rfl)
    have e71 : h61 238 119 = h 238 119 := (u61 238 119 rfl)
    have e72 : h61 238 67 = h 238 67 := (u61 238 67 rfl)
    have e73 : h61 238 69 = h 238 69 := (u61 238 69 rfl)
    have e74 : h61 238 5 = h 238 5 := (u61 238 5 rfl)
    have e75 : h61 241 98 = h 241 98 := (u61 241 98 rfl)
    have e76 : h61 241 99 = h 241 99 := (u61 241 99 rfl)
    have e77 : h61 241 100 = h 241 100 := (u61 241 100 rfl)
    have e78 : h61 241 101 = h 241 101 := (u61 241 101 rfl)
    have e79 : h61 241 102 = h 241 102 := (u61 241 102 rfl)
    have e80 : h61 241 106 = h 241 106 := (u61 241 106 rfl)
    have e81 : h61 241 73 = h 241 73 := (u61 241 73 rfl)
    have e82 : h61 241 2 = h 241 2 := (u61 241 2 rfl)
    have e83 : h61 241 119 = h 241 119 := (u61 241 119 rfl)
    have e84 : h61 241 67 = h 241 67 := (u61 241 67 rfl)
    have e85 : h61 241 69 = h 241 69 := (u61 241 69 rfl)
    have e86 : h61 241 5 = h 241 5 := (u61 241 5 rfl)
    have e87 : h61 1 1 = h 1 1 := (u61 1 1 rfl)
    have e88 : h61 236 2 = h 236 2 := (u61 236 2 rfl)
    have e89 : h61 1 2 = h 1 2 := (u61 1 2 rfl)
    have e90 : h61 236 10 = h 236 10 := (u61 236 10 rfl)
    have e91 : h61 1 3 = h 1 3 := (u61 1 3 rfl)
    have e92 : h61 236 11 = h 236 11 := (u61 236 11 rfl)
    have gp93 := GPH.fr u61 rfl gp0
    have b94 := gi_b (lo := 0) (hi := 5) g 241 0 rfl
    have b95 := gi_b (lo := 0) (hi := 4) g 241 1 rfl
    have gs96 := GPS.fr u61 rfl gs0
    have e97 : h61 0 12 = h 0 12 := (u61 0 12 rfl)
    have e98 : h61 236 21 = h 236 21 := (u61 236 21 rfl)
    exact k h61 (b - 1) (c - 6) ⟨g61, (show h61 1 1 = h61 236 2 by omega), (RS.i0 (f := h61 238) (by refine ⟨?_, ?_, ?_, ?_, ?_⟩ <;> omega)), (RS.i0 (f := h61 241) (by refine ⟨?_, ?_, ?_, ?_, ?_⟩ <;> omega)), gp93, (BRh.keep br0 (fun i => (u61 2 i (fn_a (by decide) fn_0))) (fun i => (u61 237 i (fn_a (by decide) fn_0))) (by omega)), (show h61 1 2 = h61 236 10 by omega), (show h61 1 3 = h61 236 11 by omega), (SVx.keep sv0 (by omega) (fun i _ => (u61 3 i (fn_a (by decide) fn_0))) (fun i _ => (u61 5 i (fn_a (by decide) fn_0))) (fun i _ => (u61 6 i (fn_a (by decide) fn_0))) (fun i _ => (u61 8 i (fn_a (by decide) fn_0))) (fun i _ => (u61 238 i (fn_a (by decide) fn_0)))), (show h61 0 12 = h61 236 21 by omega), (fun e => (SVx.keep (ss0 (by omega)) (by omega) (fun i _ => (u61 210 i (fn_a (by decide) fn_0))) (fun i _ => (u61 212 i (fn_a (by decide) fn_0))) (fun i _ => (u61 213 i (fn_a (by decide) fn_0))) (fun i _ => (u61 215 i (fn_a (by decide) fn_0))) (fun i _ => (u61 241 i (fn_a (by decide) fn_0))))), gs96⟩ (by omega) (by omega)
-- the law, case at 781
set_option maxRecDepth 100000 in
set_option maxHeartbeats 100000000 in
theorem lc_781 {L : Nat} {xs : Nat → Int32} {d b c : Nat} {h : hp} {cr : Nat → Nat → Option Nat} {Q : hp_Q} (hcr : CR cr) (hL : L ≤ 3072) (hr : 1 ≤ b ∧ 6 ≤ c) (I : LI h) (i : Int) (hi : 0 ≤ i ∧ i + 6 ≤ L) (k : ∀ (h2 : hp) (b2 c2 : Nat), LI h2 → b ≤ b2 + 1 → c ≤ c2 + 6 → wp (md_xa (L, xs)) (d + 107) 0 (1529, [(0, .ref 1000000), (1, .ref 0), (2, .ref 236), (3, .ref 259), (4, vi i)], [], hp_w h2 cr, b2, c2) Q) : wp (md_xa (L, xs)) (d + 107) 0 (781, [(0, .ref 1000000), (1, .ref 0), (2, .ref 236), (3, .ref 259), (4, vi i)], [], hp_w h cr, b, c) Q := by
  obtain ⟨g, i11, r238, r241, gp0, br0, er2, er3, sv0, sf0, ss0, gs0⟩ := I
  have r238e := r238.e0
  have r241e := r241.e0
  obtain ⟨⟨se0, se1, se2, se3, se4, se5, se6, se7, se8, se9⟩, -⟩ := id sv0
  have b1 := gi_b (lo := 0) (hi := 5) g 3 0 rfl
  have b2 := gi_b (lo := 0) (hi := 5) g 238 0 rfl
  have b3 := gi_b (lo := 0) (hi := 4) g 3 1 rfl
  have b4 := gi_b (lo := 0) (hi := 4) g 238 1 rfl
  have b5 := gi_b (lo := 0) (hi := 12) g 3 2 rfl
  have b6 := gi_b (lo := 0) (hi := 12) g 238 2 rfl
  have b7 := gi_b (lo := -2147483648) (hi := 2147483647) g 3 3 rfl
  have b8 := gi_b (lo := 0) (hi := 999) g 238 3 rfl
  have b9 := gi_b (lo := -2147483648) (hi := 2147483647) g 3 4 rfl
  have b10 := gi_b (lo := 0) (hi := 999) g 238 4 rfl
  have b11 := gi_b (lo := -2147483648) (hi := 2147483647) g 3 5 rfl
  have b12 := gi_b (lo := 0) (hi := 9) g 238 5 rfl
  have b13 := gi_b (lo := -2147483648) (hi := 2147483647) g 3 6 rfl
  have b14 := gi_b (lo := 0) (hi := 999) g 238 6 rfl
  have b15 := gi_b (lo := -2147483648) (hi := 2147483647) g 3 7 rfl
  have b16 := gi_b (lo := 0) (hi := 3) g 238 7 rfl
  have b17 := gi_b (lo := -2147483648) (hi := 2147483647) g 3 8 rfl
  have b18 := gi_b (lo := 0) (hi := 999) g 238 8 rfl
  have b19 := gi_b (lo := -2147483648) (hi := 2147483647) g 3 9 rfl
  have b20 := gi_b (lo := 0) (hi := 999) g 238 9 rfl
  have b21 := gi_b (lo := 0) (hi := 1) g 0 12 rfl
  have b22 := gi_b (lo := 0) (hi := 1) g 236 21 rfl
  have bl_ := gi_b (lo := 0) (hi := 800) g 1 1 rfl
  have tb0 : BufC (h 2) (h 1 1) h := ⟨fun _ => rfl, rfl, by omega, by omega⟩
  have b23 := gi_b (lo := 0) (hi := 6) g 238 98 rfl
  have b24 := gi_b (lo := 0) (hi := 6) g 238 99 rfl
  have b25 := gi_b (lo := 0) (hi := 6) g 238 100 rfl
  have b26 := gi_b (lo := 0) (hi := 6) g 238 101 rfl
  have b27 := gi_b (lo := 0) (hi := 3) g 238 102 rfl
  have b28 := gi_b (lo := 0) (hi := 12) g 238 106 rfl
  have b29 := gi_b (lo := 0) (hi := 12) g 238 73 rfl
  have b30 := gi_b (lo := 0) (hi := 9999) g 238 119 rfl
  have b31 := gi_b (lo := 0) (hi := 9999) g 238 67 rfl
  have b32 := gi_b (lo := 0) (hi := 9) g 238 69 rfl
  have b33 := gi_b (lo := 0) (hi := 6) g 241 98 rfl
  have b34 := gi_b (lo := 0) (hi := 6) g 241 99 rfl
  have b35 := gi_b (lo := 0) (hi := 6) g 241 100 rfl
  have b36 := gi_b (lo := 0) (hi := 6) g 241 101 rfl
  have b37 := gi_b (lo := 0) (hi := 3) g 241 102 rfl
  have b38 := gi_b (lo := 0) (hi := 12) g 241 106 rfl
  have b39 := gi_b (lo := 0) (hi := 12) g 241 73 rfl
  have b40 := gi_b (lo := 0) (hi := 12) g 241 2 rfl
  have b41 := gi_b (lo := 0) (hi := 9999) g 241 119 rfl
  have b42 := gi_b (lo := 0) (hi := 9999) g 241 67 rfl
  have b43 := gi_b (lo := 0) (hi := 9) g 241 69 rfl
  have b44 := gi_b (lo := 0) (hi := 9) g 241 5 rfl
  have b45 := gi_b (lo := 0) (hi := 800) g 1 1 rfl
  have b46 := gi_b (lo := 0) (hi := 800) g 236 2 rfl
  have b47 := gi_b (lo := -2147483648) (hi := 2147483647) g 1 2 rfl
  have b48 := gi_b (lo := -2147483648) (hi := 2147483647) g 236 10 rfl
  have b49 := gi_b (lo := -2147483648) (hi := 2147483647) g 1 3 rfl
  have b50 := gi_b (lo := -2147483648) (hi := 2147483647) g 236 11 rfl
  refine wi_aload_n (i := 1) (x := 0) (nx := 782) (r1 := 0) (r2 := 0) (r3 := 0) rfl rfl ?_
  refine wi_aload_n (i := 0) (x := 1000000) (nx := 783) (r1 := 0) (r2 := 0) (r3 := 0) rfl rfl ?_
  refine wi_iload (i := 4) (e := i) (nx := 785) (r1 := 0) (r2 := 0) (r3 := 0) rfl rfl ?_
  refine wi_iconst (n := 1) (nx := 786) (r1 := 0) (r2 := 0) (r3 := 0) rfl ?_
  refine wr_add (nx := 787) (r1 := 0) (r2 := 0) (r3 := 0) rfl (fun e51 (fe51 : e51 = i + 1) => ?_)
  obtain ⟨i52, ei52⟩ : ∃ q : Nat, e51 = (q : Int) := ⟨(e51).toNat, by omega⟩
  have s53 := sc_b (xs i52)
  refine wr_sc (a := e51) (f := i52) (nx := 788) (r1 := 0) (r2 := 0) (r3 := 0) rfl (by omega) (by omega) hL ?_
  refine wr_V (k0 := 0) (rest := []) (as := [.ref 0, vi ((xs i52).toInt)]) (nx := 791) (r1 := 32) (r2 := 1) (r3 := 0) rfl rfl rfl (of_decide_eq_true rfl) rfl rfl (by decide) rfl rfl (of_decide_eq_true rfl) (of_decide_eq_true rfl) ?_
  refine ct_32_0 hcr  g ((xs i52).toInt) (by omega)  (fun z55  (fz55 : -2147483648 ≤ z55 ∧ z55 ≤ 2147483647) => ?_)
  refine wk_i ?_
  refine wi_pop (nx := 792) (r1 := 0) (r2 := 0) (r3 := 0) rfl rfl ?_
  refine wi_aload_n (i := 2) (x := 236) (nx := 793) (r1 := 0) (r2 := 0) (r3 := 0) rfl rfl ?_
  refine wi_aload_n (i := 0) (x := 1000000) (nx := 794) (r1 := 0) (r2 := 0) (r3 := 0) rfl rfl ?_
  refine wi_iload (i := 4) (e := i) (nx := 796) (r1 := 0) (r2 := 0) (r3 := 0) rfl rfl ?_
  refine wi_iconst (n := 1) (nx := 797) (r1 := 0) (r2 := 0) (r3 := 0) rfl ?_
  refine wr_add (nx := 798) (r1 := 0) (r2 := 0) (r3 := 0) rfl (fun e56 (fe56 : e56 = i + 1) => ?_)
  refine wr_sc (a := e56) (f := i52) (nx := 799) (r1 := 0) (r2 := 0) (r3 := 0) rfl (by omega) (by omega) hL ?_
  refine wr_V (k0 := 236) (rest := []) (as := [.ref 236, vi ((xs i52).toInt)]) (nx := 802) (r1 := 259) (r2 := 1) (r3 := 11) rfl rfl rfl (of_decide_eq_true rfl) rfl rfl (by decide) rfl rfl (of_decide_eq_true rfl) (of_decide_eq_true rfl) ?_
  refine ct_259_236 hcr  g ((xs i52).toInt) (by omega)  (fun h57 z58 g57 u57 (fz58 : -1 ≤ z58 ∧ z58 ≤ 11) => ?_)
  refine wk_i ?_
  refine wi_pop (nx := 803) (r1 := 0) (r2 := 0) (r3 := 0) rfl rfl ?_
  refine wi_goto (nx := 806) (r1 := 1529) (r2 := 0) (r3 := 0) rfl ?_
  have e59 : h57 238 98 = h 238 98 := (u57 238 98 rfl)
  have e60 : h57 238 99 = h 238 99 := (u57 238 99 rfl)
  have e61 : h57 238 100 = h 238 100 := (u57 238 100 rfl)
  have e62 : h57 238 101 = h 238 101 := (u57 238 101 rfl)
  have e63 : h57 238 102 = h 238 102 := (u57 238 102 rfl)
  have e64 : h57 238 106 = h 238 106 := (u57 238 106 rfl)
  have e65 : h57 238 73 = h 238 73 := (u57 238 73 rfl)
  have e66 : h57 238 2 = h 238 2 := (u57 238 2 rfl)
  have e67 : h57 238 119 = h 238 119 := (u57 238 119 rfl)
  have e68 : h57 238 67 = h 238 67 := (u57 238 67 rfl)
  have e69 : h57 238 69 = h 238 69 := (u57 238 69 rfl)
  have e70 : h57 238 5 = h 238 5 := (u57 238 5 rfl)
  have e71 : h57 241 98 = h 241 98 := (u57 241 98 rfl)
  have e72 : h57 241 99 = h 241 99 := (u57 241 99 rfl)
  have e73 : h57 241 100 = h 241 100 := (u57 241 100 rfl)
  have e74 : h57 241 101 = h 241 101 := (u57 241 101 rfl)
  have e75 : h57 241 102 = h 241 102 := (u57 241 102 rfl)
  have e76 : h57 241 106 = h 241 106 := (u57 241 106 rfl)
  have e77 : h57 241 73 = h 241 73 := (u57 241 73 rfl)
  have e78 : h57 241 2 = h 241 2 := (u57 241 2 rfl)
  have e79 : h57 241 119 = h 241 119 := (u57 241 119 rfl)
  have e80 : h57 241 67 = h 241 67 := (u57 241 67 rfl)
  have e81 : h57 241 69 = h 241 69 := (u57 241 69 rfl)
  have e82 : h57 241 5 = h 241 5 := (u57 241 5 rfl)
  have e83 : h57 1 1 = h 1 1 := (u57 1 1 rfl)
  have e84 : h57 236 2 = h 236 2 := (u57 236 2 rfl)
  have e85 : h57 1 2 = h 1 2 := (u57 1 2 rfl)
  have e86 : h57 236 10 = h 236 10 := (u57 236 10 rfl)
  have e87 : h57 1 3 = h 1 3 := (u57 1 3 rfl)
  have e88 : h57 236 11 = h 236 11 := (u57 236 11 rfl)
  have gp89 := GPH.fr u57 rfl gp0
  have b90 := gi_b (lo := 0) (hi := 5) g 241 0 rfl
  have b91 := gi_b (lo := 0) (hi := 4) g 241 1 rfl
  have gs92 := GPS.fr u57 rfl gs0
  have e93 : h57 0 12 = h 0 12 := (u57 0 12 rfl)
  have e94 : h57 236 21 = h 236 21 := (u57 236 21 rfl)
  exact k h57 b c ⟨g57, (show h57 1 1 = h57 236 2 by omega), (RS.i0 (f := h57 238) (by refine ⟨?_, ?_, ?_, ?_, ?_⟩ <;> omega)), (RS.i0 (f := h57 241) (by refine ⟨?_, ?_, ?_, ?_, ?_⟩ <;> omega)), gp89, (BRh.keep br0 (fun i => (u57 2 i (fn_a (by decide) fn_0))) (fun i => (u57 237 i (fn_a (by decide) fn_0))) (by omega)), (show h57 1 2 = h57 236 10 by omega), (show h57 1 3 = h57 236 11 by omega), (SVx.keep sv0 (by omega) (fun i _ => (u57 3 i (fn_a (by decide) fn_0))) (fun i _ => (u57 5 i (fn_a (by decide) fn_0))) (fun i _ => (u57 6 i (fn_a (by decide) fn_0))) (fun i _ => (u57 8 i (fn_a (by decide) fn_0))) (fun i _ => (u57 238 i (fn_a (by decide) fn_0)))), (show h57 0 12 = h57 236 21 by omega), (fun e => (SVx.keep (ss0 (by omega)) (by omega) (fun i _ => (u57 210 i (fn_a (by decide) fn_0))) (fun i _ => (u57 212 i (fn_a (by decide) fn_0))) (fun i _ => (u57 213 i (fn_a (by decide) fn_0))) (fun i _ => (u57 215 i (fn_a (by decide) fn_0))) (fun i _ => (u57 241 i (fn_a (by decide) fn_0))))), gs92⟩ (by omega) (by omega)
-- the law, case at 806
set_option maxRecDepth 100000 in
set_option maxHeartbeats 100000000 in
theorem lc_806 {L : Nat} {xs : Nat → Int32} {d b c : Nat} {h : hp} {cr : Nat → Nat → Option Nat} {Q : hp_Q} (hcr : CR cr) (hL : L ≤ 3072) (hr : 1 ≤ b ∧ 6 ≤ c) (I : LI h) (i : Int) (hi : 0 ≤ i ∧ i + 6 ≤ L) (k : ∀ (h2 : hp) (b2 c2 : Nat), LI h2 → b ≤ b2 + 1 → c ≤ c2 + 6 → wp (md_xa (L, xs)) (d + 107) 0 (1529, [(0, .ref 1000000), (1, .ref 0), (2, .ref 236), (3, .ref 259), (4, vi i)], [], hp_w h2 cr, b2, c2) Q) : wp (md_xa (L, xs)) (d + 107) 0 (806, [(0, .ref 1000000), (1, .ref 0), (2, .ref 236), (3, .ref 259), (4, vi i)], [], hp_w h cr, b, c) Q := by
  obtain ⟨g, i11, r238, r241, gp0, br0, er2, er3, sv0, sf0, ss0, gs0⟩ := I
  have r238e := r238.e0
  have r241e := r241.e0
  obtain ⟨⟨se0, se1, se2, se3, se4, se5, se6, se7, se8, se9⟩, -⟩ := id sv0
  have b1 := gi_b (lo := 0) (hi := 5) g 3 0 rfl
  have b2 := gi_b (lo := 0) (hi := 5) g 238 0 rfl
  have b3 := gi_b (lo := 0) (hi := 4) g 3 1 rfl
  have b4 := gi_b (lo := 0) (hi := 4) g 238 1 rfl
  have b5 := gi_b (lo := 0) (hi := 12) g 3 2 rfl
  have b6 := gi_b (lo := 0) (hi := 12) g 238 2 rfl
  have b7 := gi_b (lo := -2147483648) (hi := 2147483647) g 3 3 rfl
  have b8 := gi_b (lo := 0) (hi := 999) g 238 3 rfl
  have b9 := gi_b (lo := -2147483648) (hi := 2147483647) g 3 4 rfl
  have b10 := gi_b (lo := 0) (hi := 999) g 238 4 rfl
  have b11 := gi_b (lo := -2147483648) (hi := 2147483647) g 3 5 rfl
  have b12 := gi_b (lo := 0) (hi := 9) g 238 5 rfl
  have b13 := gi_b (lo := -2147483648) (hi := 2147483647) g 3 6 rfl
  have b14 := gi_b (lo := 0) (hi := 999) g 238 6 rfl
  have b15 := gi_b (lo := -2147483648) (hi := 2147483647) g 3 7 rfl
  have b16 := gi_b (lo := 0) (hi := 3) g 238 7 rfl
  have b17 := gi_b (lo := -2147483648) (hi := 2147483647) g 3 8 rfl
  have b18 := gi_b (lo := 0) (hi := 999) g 238 8 rfl
  have b19 := gi_b (lo := -2147483648) (hi := 2147483647) g 3 9 rfl
  have b20 := gi_b (lo := 0) (hi := 999) g 238 9 rfl
  have b21 := gi_b (lo := 0) (hi := 1) g 0 12 rfl
  have b22 := gi_b (lo := 0) (hi := 1) g 236 21 rfl
  have bl_ := gi_b (lo := 0) (hi := 800) g 1 1 rfl
  have tb0 : BufC (h 2) (h 1 1) h := ⟨fun _ => rfl, rfl, by omega, by omega⟩
  have b23 := gi_b (lo := 0) (hi := 6) g 238 98 rfl
  have b24 := gi_b (lo := 0) (hi := 6) g 238 99 rfl
  have b25 := gi_b (lo := 0) (hi := 6) g 238 100 rfl
  have b26 := gi_b (lo := 0) (hi := 6) g 238 101 rfl
  have b27 := gi_b (lo := 0) (hi := 3) g 238 102 rfl
  have b28 := gi_b (lo := 0) (hi := 12) g 238 106 rfl
  have b29 := gi_b (lo := 0) (hi := 12) g 238 73 rfl
  have b30 := gi_b (lo := 0) (hi := 9999) g 238 119 rfl
  have b31 := gi_b (lo := 0) (hi := 9999) g 238 67 rfl
  have b32 := gi_b (lo := 0) (hi := 9) g 238 69 rfl
  have b33 := gi_b (lo := 0) (hi := 6) g 241 98 rfl
  have b34 := gi_b (lo := 0) (hi := 6) g 241 99 rfl
  have b35 := gi_b (lo := 0) (hi := 6) g 241 100 rfl
  have b36 := gi_b (lo := 0) (hi := 6) g 241 101 rfl
  have b37 := gi_b (lo := 0) (hi := 3) g 241 102 rfl
  have b38 := gi_b (lo := 0) (hi := 12) g 241 106 rfl
  have b39 := gi_b (lo := 0) (hi := 12) g 241 73 rfl
  have b40 := gi_b (lo := 0) (hi := 12) g 241 2 rfl
  have b41 := gi_b (lo := 0) (hi := 9999) g 241 119 rfl
  have b42 := gi_b (lo := 0) (hi := 9999) g 241 67 rfl
  have b43 := gi_b (lo := 0) (hi := 9) g 241 69 rfl
  have b44 := gi_b (lo := 0) (hi := 9) g 241 5 rfl
  have b45 := gi_b (lo := 0) (hi := 800) g 1 1 rfl
  have b46 := gi_b (lo := 0) (hi := 800) g 236 2 rfl
  have b47 := gi_b (lo := -2147483648) (hi := 2147483647) g 1 2 rfl
  have b48 := gi_b (lo := -2147483648) (hi := 2147483647) g 236 10 rfl
  have b49 := gi_b (lo := -2147483648) (hi := 2147483647) g 1 3 rfl
  have b50 := gi_b (lo := -2147483648) (hi := 2147483647) g 236 11 rfl
  refine wi_aload_n (i := 1) (x := 0) (nx := 807) (r1 := 0) (r2 := 0) (r3 := 0) rfl rfl ?_
  refine wr_V (k0 := 0) (rest := []) (as := [.ref 0]) (nx := 810) (r1 := 33) (r2 := 0) (r3 := 0) rfl rfl rfl (of_decide_eq_true rfl) rfl rfl (by decide) rfl rfl (of_decide_eq_true rfl) (of_decide_eq_true rfl) ?_
  refine ct_33_0 hcr  g    (fun z52  (fz52 : -1 ≤ z52 ∧ z52 ≤ 2147483647) => ?_)
  refine wk_i ?_
  refine wi_pop (nx := 811) (r1 := 0) (r2 := 0) (r3 := 0) rfl rfl ?_
  refine wi_aload_n (i := 2) (x := 236) (nx := 812) (r1 := 0) (r2 := 0) (r3 := 0) rfl rfl ?_
  refine wr_V (k0 := 236) (rest := []) (as := [.ref 236]) (nx := 815) (r1 := 260) (r2 := 0) (r3 := 11) rfl rfl rfl (of_decide_eq_true rfl) rfl rfl (by decide) rfl rfl (of_decide_eq_true rfl) (of_decide_eq_true rfl) ?_
  refine ct_260_236 hcr  g    (fun h53 z54 g53 u53 (fz54 : -9999 ≤ z54 ∧ z54 ≤ 20000) => ?_)
  refine wk_i ?_
  refine wi_pop (nx := 816) (r1 := 0) (r2 := 0) (r3 := 0) rfl rfl ?_
  refine wi_goto (nx := 819) (r1 := 1529) (r2 := 0) (r3 := 0) rfl ?_
  have e55 : h53 238 98 = h 238 98 := (u53 238 98 rfl)
  have e56 : h53 238 99 = h 238 99 := (u53 238 99 rfl)
  have e57 : h53 238 100 = h 238 100 := (u53 238 100 rfl)
  have e58 : h53 238 101 = h 238 101 := (u53 238 101 rfl)
  have e59 : h53 238 102 = h 238 102 := (u53 238 102 rfl)
  have e60 : h53 238 106 = h 238 106 := (u53 238 106 rfl)
  have e61 : h53 238 73 = h 238 73 := (u53 238 73 rfl)
  have e62 : h53 238 2 = h 238 2 := (u53 238 2 rfl)
  have e63 : h53 238 119 = h 238 119 := (u53 238 119 rfl)
  have e64 : h53 238 67 = h 238 67 := (u53 238 67 rfl)
  have e65 : h53 238 69 = h 238 69 := (u53 238 69 rfl)
  have e66 : h53 238 5 = h 238 5 := (u53 238 5 rfl)
  have e67 : h53 241 98 = h 241 98 := (u53 241 98 rfl)
  have e68 : h53 241 99 = h 241 99 := (u53 241 99 rfl)
  have e69 : h53 241 100 = h 241 100 := (u53 241 100 rfl)
  have e70 : h53 241 101 = h 241 101 := (u53 241 101 rfl)
  have e71 : h53 241 102 = h 241 102 := (u53 241 102 rfl)
  have e72 : h53 241 106 = h 241 106 := (u53 241 106 rfl)
  have e73 : h53 241 73 = h 241 73 := (u53 241 73 rfl)
  have e74 : h53 241 2 = h 241 2 := (u53 241 2 rfl)
  have e75 : h53 241 119 = h 241 119 := (u53 241 119 rfl)
  have e76 : h53 241 67 = h 241 67 := (u53 241 67 rfl)
  have e77 : h53 241 69 = h 241 69 := (u53 241 69 rfl)
  have e78 : h53 241 5 = h 241 5 := (u53 241 5 rfl)
  have e79 : h53 1 1 = h 1 1 := (u53 1 1 rfl)
  have e80 : h53 236 2 = h 236 2 := (u53 236 2 rfl)
  have e81 : h53 1 2 = h 1 2 := (u53 1 2 rfl)
  have e82 : h53 236 10 = h 236 10 := (u53 236 10 rfl)
  have e83 : h53 1 3 = h 1 3 := (u53 1 3 rfl)
  have e84 : h53 236 11 = h 236 11 := (u53 236 11 rfl)
  have gp85 := GPH.fr u53 rfl gp0
  have b86 := gi_b (lo := 0) (hi := 5) g 241 0 rfl
  have b87 := gi_b (lo := 0) (hi := 4) g 241 1 rfl
  have gs88 := GPS.fr u53 rfl gs0
  have e89 : h53 0 12 = h 0 12 := (u53 0 12 rfl)
  have e90 : h53 236 21 = h 236 21 := (u53 236 21 rfl)
  exact k h53 b c ⟨g53, (show h53 1 1 = h53 236 2 by omega), (RS.i0 (f := h53 238) (by refine ⟨?_, ?_, ?_, ?_, ?_⟩ <;> omega)), (RS.i0 (f := h53 241) (by refine ⟨?_, ?_, ?_, ?_, ?_⟩ <;> omega)), gp85, (BRh.keep br0 (fun i => (u53 2 i (fn_a (by decide) fn_0))) (fun i => (u53 237 i (fn_a (by decide) fn_0))) (by omega)), (show h53 1 2 = h53 236 10 by omega), (show h53 1 3 = h53 236 11 by omega), (SVx.keep sv0 (by omega) (fun i _ => (u53 3 i (fn_a (by decide) fn_0))) (fun i _ => (u53 5 i (fn_a (by decide) fn_0))) (fun i _ => (u53 6 i (fn_a (by decide) fn_0))) (fun i _ => (u53 8 i (fn_a (by decide) fn_0))) (fun i _ => (u53 238 i (fn_a (by decide) fn_0)))), (show h53 0 12 = h53 236 21 by omega), (fun e => (SVx.keep (ss0 (by omega)) (by omega) (fun i _ => (u53 210 i (fn_a (by decide) fn_0))) (fun i _ => (u53 212 i (fn_a (by decide) fn_0))) (fun i _ => (u53 213 i (fn_a (by decide) fn_0))) (fun i _ => (u53 215 i (fn_a (by decide) fn_0))) (fun i _ => (u53 241 i (fn_a (by decide) fn_0))))), gs88⟩ (by omega) (by omega)
-- the law, case at 819
set_option maxRecDepth 100000 in
set_option maxHeartbeats 100000000 in
theorem lc_819 {L : Nat} {xs : Nat → Int32} {d b c : Nat} {h : hp} {cr : Nat → Nat → Option Nat} {Q : hp_Q} (hcr : CR cr) (hL : L ≤ 3072) (hr : 1 ≤ b ∧ 6 ≤ c) (I : LI h) (i : Int) (hi : 0 ≤ i ∧ i + 6 ≤ L) (k : ∀ (h2 : hp) (b2 c2 : Nat), LI h2 → b ≤ b2 + 1 → c ≤ c2 + 6 → wp (md_xa (L, xs)) (d + 107) 0 (1529, [(0, .ref 1000000), (1, .ref 0), (2, .ref 236), (3, .ref 259), (4, vi i)], [], hp_w h2 cr, b2, c2) Q) : wp (md_xa (L, xs)) (d + 107) 0 (819, [(0, .ref 1000000), (1, .ref 0), (2, .ref 236), (3, .ref 259), (4, vi i)], [], hp_w h cr, b, c) Q := by
  obtain ⟨g, i11, r238, r241, gp0, br0, er2, er3, sv0, sf0, ss0, gs0⟩ := I
  have r238e := r238.e0
  have r241e := r241.e0
  obtain ⟨⟨se0, se1, se2, se3, se4, se5, se6, se7, se8, se9⟩, -⟩ := id sv0
  have b1 := gi_b (lo := 0) (hi := 5) g 3 0 rfl
  have b2 := gi_b (lo := 0) (hi := 5) g 238 0 rfl
  have b3 := gi_b (lo := 0) (hi := 4) g 3 1 rfl
  have b4 := gi_b (lo := 0) (hi := 4) g 238 1 rfl
  have b5 := gi_b (lo := 0) (hi := 12) g 3 2 rfl
  have b6 := gi_b (lo := 0) (hi := 12) g 238 2 rfl
  have b7 := gi_b (lo := -2147483648) (hi := 2147483647) g 3 3 rfl
  have b8 := gi_b (lo := 0) (hi := 999) g 238 3 rfl
  have b9 := gi_b (lo := -2147483648) (hi := 2147483647) g 3 4 rfl
  have b10 := gi_b (lo := 0) (hi := 999) g 238 4 rfl
  have b11 := gi_b (lo := -2147483648) (hi := 2147483647) g 3 5 rfl
  have b12 := gi_b (lo := 0) (hi := 9) g 238 5 rfl
  have b13 := gi_b (lo := -2147483648) (hi := 2147483647) g 3 6 rfl
  have b14 := gi_b (lo := 0) (hi := 999) g 238 6 rfl
  have b15 := gi_b (lo := -2147483648) (hi := 2147483647) g 3 7 rfl
  have b16 := gi_b (lo := 0) (hi := 3) g 238 7 rfl
  have b17 := gi_b (lo := -2147483648) (hi := 2147483647) g 3 8 rfl
  have b18 := gi_b (lo := 0) (hi := 999) g 238 8 rfl
  have b19 := gi_b (lo := -2147483648) (hi := 2147483647) g 3 9 rfl
  have b20 := gi_b (lo := 0) (hi := 999) g 238 9 rfl
  have b21 := gi_b (lo := 0) (hi := 1) g 0 12 rfl
  have b22 := gi_b (lo := 0) (hi := 1) g 236 21 rfl
  have bl_ := gi_b (lo := 0) (hi := 800) g 1 1 rfl
  have tb0 : BufC (h 2) (h 1 1) h := ⟨fun _ => rfl, rfl, by omega, by omega⟩
  have b23 := gi_b (lo := 0) (hi := 6) g 238 98 rfl
  have b24 := gi_b (lo := 0) (hi := 6) g 238 99 rfl
  have b25 := gi_b (lo := 0) (hi := 6) g 238 100 rfl
  have b26 := gi_b (lo := 0) (hi := 6) g 238 101 rfl
  have b27 := gi_b (lo := 0) (hi := 3) g 238 102 rfl
  have b28 := gi_b (lo := 0) (hi := 12) g 238 106 rfl
  have b29 := gi_b (lo := 0) (hi := 12) g 238 73 rfl
  have b30 := gi_b (lo := 0) (hi := 9999) g 238 119 rfl
  have b31 := gi_b (lo := 0) (hi := 9999) g 238 67 rfl
  have b32 := gi_b (lo := 0) (hi := 9) g 238 69 rfl
  have b33 := gi_b (lo := 0) (hi := 6) g 241 98 rfl
  have b34 := gi_b (lo := 0) (hi := 6) g 241 99 rfl
  have b35 := gi_b (lo := 0) (hi := 6) g 241 100 rfl
  have b36 := gi_b (lo := 0) (hi := 6) g 241 101 rfl
  have b37 := gi_b (lo := 0) (hi := 3) g 241 102 rfl
  have b38 := gi_b (lo := 0) (hi := 12) g 241 106 rfl
  have b39 := gi_b (lo := 0) (hi := 12) g 241 73 rfl
  have b40 := gi_b (lo := 0) (hi := 12) g 241 2 rfl
  have b41 := gi_b (lo := 0) (hi := 9999) g 241 119 rfl
  have b42 := gi_b (lo := 0) (hi := 9999) g 241 67 rfl
  have b43 := gi_b (lo := 0) (hi := 9) g 241 69 rfl
  have b44 := gi_b (lo := 0) (hi := 9) g 241 5 rfl
  have b45 := gi_b (lo := 0) (hi := 800) g 1 1 rfl
  have b46 := gi_b (lo := 0) (hi := 800) g 236 2 rfl
  have b47 := gi_b (lo := -2147483648) (hi := 2147483647) g 1 2 rfl
  have b48 := gi_b (lo := -2147483648) (hi := 2147483647) g 236 10 rfl
  have b49 := gi_b (lo := -2147483648) (hi := 2147483647) g 1 3 rfl
  have b50 := gi_b (lo := -2147483648) (hi := 2147483647) g 236 11 rfl
  refine wi_aload_n (i := 1) (x := 0) (nx := 820) (r1 := 0) (r2 := 0) (r3 := 0) rfl rfl ?_
  refine wr_V (k0 := 0) (rest := []) (as := [.ref 0]) (nx := 823) (r1 := 34) (r2 := 0) (r3 := 0) rfl rfl rfl (of_decide_eq_true rfl) rfl rfl (by decide) rfl rfl (of_decide_eq_true rfl) (of_decide_eq_true rfl) ?_
  refine ct_34_0 hcr  g    (fun z52  (fz52 : 0 ≤ z52 ∧ z52 ≤ 12) => ?_)
  refine wk_i ?_
  refine wi_pop (nx := 824) (r1 := 0) (r2 := 0) (r3 := 0) rfl rfl ?_
  refine wi_aload_n (i := 2) (x := 236) (nx := 825) (r1 := 0) (r2 := 0) (r3 := 0) rfl rfl ?_
  refine wr_V (k0 := 236) (rest := []) (as := [.ref 236]) (nx := 828) (r1 := 261) (r2 := 0) (r3 := 11) rfl rfl rfl (of_decide_eq_true rfl) rfl rfl (by decide) rfl rfl (of_decide_eq_true rfl) (of_decide_eq_true rfl) ?_
  refine ct_261_236 hcr  g    (fun h53 z54 g53 u53 (fz54 : 0 ≤ z54 ∧ z54 ≤ 12) => ?_)
  refine wk_i ?_
  refine wi_pop (nx := 829) (r1 := 0) (r2 := 0) (r3 := 0) rfl rfl ?_
  refine wi_goto (nx := 832) (r1 := 1529) (r2 := 0) (r3 := 0) rfl ?_
  have e55 : h53 238 98 = h 238 98 := (u53 238 98 rfl)
  have e56 : h53 238 99 = h 238 99 := (u53 238 99 rfl)
  have e57 : h53 238 100 = h 238 100 := (u53 238 100 rfl)
  have e58 : h53 238 101 = h 238 101 := (u53 238 101 rfl)
  have e59 : h53 238 102 = h 238 102 := (u53 238 102 rfl)
  have e60 : h53 238 106 = h 238 106 := (u53 238 106 rfl)
  have e61 : h53 238 73 = h 238 73 := (u53 238 73 rfl)
  have e62 : h53 238 2 = h 238 2 := (u53 238 2 rfl)
  have e63 : h53 238 119 = h 238 119 := (u53 238 119 rfl)
  have e64 : h53 238 67 = h 238 67 := (u53 238 67 rfl)
  have e65 : h53 238 69 = h 238 69 := (u53 238 69 rfl)
  have e66 : h53 238 5 = h 238 5 := (u53 238 5 rfl)
  have e67 : h53 241 98 = h 241 98 := (u53 241 98 rfl)
  have e68 : h53 241 99 = h 241 99 := (u53 241 99 rfl)
  have e69 : h53 241 100 = h 241 100 := (u53 241 100 rfl)
  have e70 : h53 241 101 = h 241 101 := (u53 241 101 rfl)
  have e71 : h53 241 102 = h 241 102 := (u53 241 102 rfl)
  have e72 : h53 241 106 = h 241 106 := (u53 241 106 rfl)
  have e73 : h53 241 73 = h 241 73 := (u53 241 73 rfl)
  have e74 : h53 241 2 = h 241 2 := (u53 241 2 rfl)
  have e75 : h53 241 119 = h 241 119 := (u53 241 119 rfl)
  have e76 : h53 241 67 = h 241 67 := (u53 241 67 rfl)
  have e77 : h53 241 69 = h 241 69 := (u53 241 69 rfl)
  have e78 : h53 241 5 = h 241 5 := (u53 241 5 rfl)
  have e79 : h53 1 1 = h 1 1 := (u53 1 1 rfl)
  have e80 : h53 236 2 = h 236 2 := (u53 236 2 rfl)
  have e81 : h53 1 2 = h 1 2 := (u53 1 2 rfl)
  have e82 : h53 236 10 = h 236 10 := (u53 236 10 rfl)
  have e83 : h53 1 3 = h 1 3 := (u53 1 3 rfl)
  have e84 : h53 236 11 = h 236 11 := (u53 236 11 rfl)
  have gp85 := GPH.fr u53 rfl gp0
  have b86 := gi_b (lo := 0) (hi := 5) g 241 0 rfl
  have b87 := gi_b (lo := 0) (hi := 4) g 241 1 rfl
  have gs88 := GPS.fr u53 rfl gs0
  have e89 : h53 0 12 = h 0 12 := (u53 0 12 rfl)
  have e90 : h53 236 21 = h 236 21 := (u53 236 21 rfl)
  exact k h53 b c ⟨g53, (show h53 1 1 = h53 236 2 by omega), (RS.i0 (f := h53 238) (by refine ⟨?_, ?_, ?_, ?_, ?_⟩ <;> omega)), (RS.i0 (f := h53 241) (by refine ⟨?_, ?_, ?_, ?_, ?_⟩ <;> omega)), gp85, (BRh.keep br0 (fun i => (u53 2 i (fn_a (by decide) fn_0))) (fun i => (u53 237 i (fn_a (by decide) fn_0))) (by omega)), (show h53 1 2 = h53 236 10 by omega), (show h53 1 3 = h53 236 11 by omega), (SVx.keep sv0 (by omega) (fun i _ => (u53 3 i (fn_a (by decide) fn_0))) (fun i _ => (u53 5 i (fn_a (by decide) fn_0))) (fun i _ => (u53 6 i (fn_a (by decide) fn_0))) (fun i _ => (u53 8 i (fn_a (by decide) fn_0))) (fun i _ => (u53 238 i (fn_a (by decide) fn_0)))), (show h53 0 12 = h53 236 21 by omega), (fun e => (SVx.keep (ss0 (by omega)) (by omega) (fun i _ => (u53 210 i (fn_a (by decide) fn_0))) (fun i _ => (u53 212 i (fn_a (by decide) fn_0))) (fun i _ => (u53 213 i (fn_a (by decide) fn_0))) (fun i _ => (u53 215 i (fn_a (by decide) fn_0))) (fun i _ => (u53 241 i (fn_a (by decide) fn_0))))), gs88⟩ (by omega) (by omega)
-- the law, case at 832
set_option maxRecDepth 100000 in
set_option maxHeartbeats 100000000 in
theorem lc_832 {L : Nat} {xs : Nat → Int32} {d b c : Nat} {h : hp} {cr : Nat → Nat → Option Nat} {Q : hp_Q} (hcr : CR cr) (hL : L ≤ 3072) (hr : 1 ≤ b ∧ 6 ≤ c) (I : LI h) (i : Int) (hi : 0 ≤ i ∧ i + 6 ≤ L) (k : ∀ (h2 : hp) (b2 c2 : Nat), LI h2 → b ≤ b2 + 1 → c ≤ c2 + 6 → wp (md_xa (L, xs)) (d + 107) 0 (1529, [(0, .ref 1000000), (1, .ref 0), (2, .ref 236), (3, .ref 259), (4, vi i)], [], hp_w h2 cr, b2, c2) Q) : wp (md_xa (L, xs)) (d + 107) 0 (832, [(0, .ref 1000000), (1, .ref 0), (2, .ref 236), (3, .ref 259), (4, vi i)], [], hp_w h cr, b, c) Q := by
  obtain ⟨g, i11, r238, r241, gp0, br0, er2, er3, sv0, sf0, ss0, gs0⟩ := I
  have r238e := r238.e0
  have r241e := r241.e0
  obtain ⟨⟨se0, se1, se2, se3, se4, se5, se6, se7, se8, se9⟩, -⟩ := id sv0
  have b1 := gi_b (lo := 0) (hi := 5) g 3 0 rfl
  have b2 := gi_b (lo := 0) (hi := 5) g 238 0 rfl
  have b3 := gi_b (lo := 0) (hi := 4) g 3 1 rfl
  have b4 := gi_b (lo := 0) (hi := 4) g 238 1 rfl
  have b5 := gi_b (lo := 0) (hi := 12) g 3 2 rfl
  have b6 := gi_b (lo := 0) (hi := 12) g 238 2 rfl
  have b7 := gi_b (lo := -2147483648) (hi := 2147483647) g 3 3 rfl
  have b8 := gi_b (lo := 0) (hi := 999) g 238 3 rfl
  have b9 := gi_b (lo := -2147483648) (hi := 2147483647) g 3 4 rfl
  have b10 := gi_b (lo := 0) (hi := 999) g 238 4 rfl
  have b11 := gi_b (lo := -2147483648) (hi := 2147483647) g 3 5 rfl
  have b12 := gi_b (lo := 0) (hi := 9) g 238 5 rfl
  have b13 := gi_b (lo := -2147483648) (hi := 2147483647) g 3 6 rfl
  have b14 := gi_b (lo := 0) (hi := 999) g 238 6 rfl
  have b15 := gi_b (lo := -2147483648) (hi := 2147483647) g 3 7 rfl
  have b16 := gi_b (lo := 0) (hi := 3) g 238 7 rfl
  have b17 := gi_b (lo := -2147483648) (hi := 2147483647) g 3 8 rfl
  have b18 := gi_b (lo := 0) (hi := 999) g 238 8 rfl
  have b19 := gi_b (lo := -2147483648) (hi := 2147483647) g 3 9 rfl
  have b20 := gi_b (lo := 0) (hi := 999) g 238 9 rfl
  have b21 := gi_b (lo := 0) (hi := 1) g 0 12 rfl
  have b22 := gi_b (lo := 0) (hi := 1) g 236 21 rfl
  have bl_ := gi_b (lo := 0) (hi := 800) g 1 1 rfl
  have tb0 : BufC (h 2) (h 1 1) h := ⟨fun _ => rfl, rfl, by omega, by omega⟩
  have b23 := gi_b (lo := 0) (hi := 6) g 238 98 rfl
  have b24 := gi_b (lo := 0) (hi := 6) g 238 99 rfl
  have b25 := gi_b (lo := 0) (hi := 6) g 238 100 rfl
  have b26 := gi_b (lo := 0) (hi := 6) g 238 101 rfl
  have b27 := gi_b (lo := 0) (hi := 3) g 238 102 rfl
  have b28 := gi_b (lo := 0) (hi := 12) g 238 106 rfl
  have b29 := gi_b (lo := 0) (hi := 12) g 238 73 rfl
  have b30 := gi_b (lo := 0) (hi := 9999) g 238 119 rfl
  have b31 := gi_b (lo := 0) (hi := 9999) g 238 67 rfl
  have b32 := gi_b (lo := 0) (hi := 9) g 238 69 rfl
  have b33 := gi_b (lo := 0) (hi := 6) g 241 98 rfl
  have b34 := gi_b (lo := 0) (hi := 6) g 241 99 rfl
  have b35 := gi_b (lo := 0) (hi := 6) g 241 100 rfl
  have b36 := gi_b (lo := 0) (hi := 6) g 241 101 rfl
  have b37 := gi_b (lo := 0) (hi := 3) g 241 102 rfl
  have b38 := gi_b (lo := 0) (hi := 12) g 241 106 rfl
  have b39 := gi_b (lo := 0) (hi := 12) g 241 73 rfl
  have b40 := gi_b (lo := 0) (hi := 12) g 241 2 rfl
  have b41 := gi_b (lo := 0) (hi := 9999) g 241 119 rfl
  have b42 := gi_b (lo := 0) (hi := 9999) g 241 67 rfl
  have b43 := gi_b (lo := 0) (hi := 9) g 241 69 rfl
  have b44 := gi_b (lo := 0) (hi := 9) g 241 5 rfl
  have b45 := gi_b (lo := 0) (hi := 800) g 1 1 rfl
  have b46 := gi_b (lo := 0) (hi := 800) g 236 2 rfl
  have b47 := gi_b (lo := -2147483648) (hi := 2147483647) g 1 2 rfl
  have b48 := gi_b (lo := -2147483648) (hi := 2147483647) g 236 10 rfl
  have b49 := gi_b (lo := -2147483648) (hi := 2147483647) g 1 3 rfl
  have b50 := gi_b (lo := -2147483648) (hi := 2147483647) g 236 11 rfl
  refine wi_aload_n (i := 1) (x := 0) (nx := 833) (r1 := 0) (r2 := 0) (r3 := 0) rfl rfl ?_
  refine wi_aload_n (i := 0) (x := 1000000) (nx := 834) (r1 := 0) (r2 := 0) (r3 := 0) rfl rfl ?_
  refine wi_iload (i := 4) (e := i) (nx := 836) (r1 := 0) (r2 := 0) (r3 := 0) rfl rfl ?_
  refine wi_iconst (n := 1) (nx := 837) (r1 := 0) (r2 := 0) (r3 := 0) rfl ?_
  refine wr_add (nx := 838) (r1 := 0) (r2 := 0) (r3 := 0) rfl (fun e51 (fe51 : e51 = i + 1) => ?_)
  obtain ⟨i52, ei52⟩ : ∃ q : Nat, e51 = (q : Int) := ⟨(e51).toNat, by omega⟩
  have s53 := sc_b (xs i52)
  refine wr_sc (a := e51) (f := i52) (nx := 839) (r1 := 0) (r2 := 0) (r3 := 0) rfl (by omega) (by omega) hL ?_
  refine wr_V (k0 := 0) (rest := []) (as := [.ref 0, vi ((xs i52).toInt)]) (nx := 842) (r1 := 35) (r2 := 1) (r3 := 0) rfl rfl rfl (of_decide_eq_true rfl) rfl rfl (by decide) rfl rfl (of_decide_eq_true rfl) (of_decide_eq_true rfl) ?_
  refine ct_35_0 hcr  g ((xs i52).toInt) (by omega)  (fun z55  (fz55 : -2147483648 ≤ z55 ∧ z55 ≤ 2147483647) => ?_)
  refine wk_i ?_
  refine wi_pop (nx := 843) (r1 := 0) (r2 := 0) (r3 := 0) rfl rfl ?_
  refine wi_aload_n (i := 2) (x := 236) (nx := 844) (r1 := 0) (r2 := 0) (r3 := 0) rfl rfl ?_
  refine wi_aload_n (i := 0) (x := 1000000) (nx := 845) (r1 := 0) (r2 := 0) (r3 := 0) rfl rfl ?_
  refine wi_iload (i := 4) (e := i) (nx := 847) (r1 := 0) (r2 := 0) (r3 := 0) rfl rfl ?_
  refine wi_iconst (n := 1) (nx := 848) (r1 := 0) (r2 := 0) (r3 := 0) rfl ?_
  refine wr_add (nx := 849) (r1 := 0) (r2 := 0) (r3 := 0) rfl (fun e56 (fe56 : e56 = i + 1) => ?_)
  refine wr_sc (a := e56) (f := i52) (nx := 850) (r1 := 0) (r2 := 0) (r3 := 0) rfl (by omega) (by omega) hL ?_
  refine wr_V (k0 := 236) (rest := []) (as := [.ref 236, vi ((xs i52).toInt)]) (nx := 853) (r1 := 262) (r2 := 1) (r3 := 11) rfl rfl rfl (of_decide_eq_true rfl) rfl rfl (by decide) rfl rfl (of_decide_eq_true rfl) (of_decide_eq_true rfl) ?_
  refine ct_262_236 hcr  g ((xs i52).toInt) (by omega)  (fun h57 z58 g57 u57 (fz58 : -1 ≤ z58 ∧ z58 ≤ 11) => ?_)
  refine wk_i ?_
  refine wi_pop (nx := 854) (r1 := 0) (r2 := 0) (r3 := 0) rfl rfl ?_
  refine wi_goto (nx := 857) (r1 := 1529) (r2 := 0) (r3 := 0) rfl ?_
  have e59 : h57 238 98 = h 238 98 := (u57 238 98 rfl)
  have e60 : h57 238 99 = h 238 99 := (u57 238 99 rfl)
  have e61 : h57 238 100 = h 238 100 := (u57 238 100 rfl)
  have e62 : h57 238 101 = h 238 101 := (u57 238 101 rfl)
  have e63 : h57 238 102 = h 238 102 := (u57 238 102 rfl)
  have e64 : h57 238 106 = h 238 106 := (u57 238 106 rfl)
  have e65 : h57 238 73 = h 238 73 := (u57 238 73 rfl)
  have e66 : h57 238 2 = h 238 2 := (u57 238 2 rfl)
  have e67 : h57 238 119 = h 238 119 := (u57 238 119 rfl)
  have e68 : h57 238 67 = h 238 67 := (u57 238 67 rfl)
  have e69 : h57 238 69 = h 238 69 := (u57 238 69 rfl)
  have e70 : h57 238 5 = h 238 5 := (u57 238 5 rfl)
  have e71 : h57 241 98 = h 241 98 := (u57 241 98 rfl)
  have e72 : h57 241 99 = h 241 99 := (u57 241 99 rfl)
  have e73 : h57 241 100 = h 241 100 := (u57 241 100 rfl)
  have e74 : h57 241 101 = h 241 101 := (u57 241 101 rfl)
  have e75 : h57 241 102 = h 241 102 := (u57 241 102 rfl)
  have e76 : h57 241 106 = h 241 106 := (u57 241 106 rfl)
  have e77 : h57 241 73 = h 241 73 := (u57 241 73 rfl)
  have e78 : h57 241 2 = h 241 2 := (u57 241 2 rfl)
  have e79 : h57 241 119 = h 241 119 := (u57 241 119 rfl)
  have e80 : h57 241 67 = h 241 67 := (u57 241 67 rfl)
  have e81 : h57 241 69 = h 241 69 := (u57 241 69 rfl)
  have e82 : h57 241 5 = h 241 5 := (u57 241 5 rfl)
  have e83 : h57 1 1 = h 1 1 := (u57 1 1 rfl)
  have e84 : h57 236 2 = h 236 2 := (u57 236 2 rfl)
  have e85 : h57 1 2 = h 1 2 := (u57 1 2 rfl)
  have e86 : h57 236 10 = h 236 10 := (u57 236 10 rfl)
  have e87 : h57 1 3 = h 1 3 := (u57 1 3 rfl)
  have e88 : h57 236 11 = h 236 11 := (u57 236 11 rfl)
  have gp89 := GPH.fr u57 rfl gp0
  have b90 := gi_b (lo := 0) (hi := 5) g 241 0 rfl
  have b91 := gi_b (lo := 0) (hi := 4) g 241 1 rfl
  have gs92 := GPS.fr u57 rfl gs0
  have e93 : h57 0 12 = h 0 12 := (u57 0 12 rfl)
  have e94 : h57 236 21 = h 236 21 := (u57 236 21 rfl)
  exact k h57 b c ⟨g57, (show h57 1 1 = h57 236 2 by omega), (RS.i0 (f := h57 238) (by refine ⟨?_, ?_, ?_, ?_, ?_⟩ <;> omega)), (RS.i0 (f := h57 241) (by refine ⟨?_, ?_, ?_, ?_, ?_⟩ <;> omega)), gp89, (BRh.keep br0 (fun i => (u57 2 i (fn_a (by decide) fn_0))) (fun i => (u57 237 i (fn_a (by decide) fn_0))) (by omega)), (show h57 1 2 = h57 236 10 by omega), (show h57 1 3 = h57 236 11 by omega), (SVx.keep sv0 (by omega) (fun i _ => (u57 3 i (fn_a (by decide) fn_0))) (fun i _ => (u57 5 i (fn_a (by decide) fn_0))) (fun i _ => (u57 6 i (fn_a (by decide) fn_0))) (fun i _ => (u57 8 i (fn_a (by decide) fn_0))) (fun i _ => (u57 238 i (fn_a (by decide) fn_0)))), (show h57 0 12 = h57 236 21 by omega), (fun e => (SVx.keep (ss0 (by omega)) (by omega) (fun i _ => (u57 210 i (fn_a (by decide) fn_0))) (fun i _ => (u57 212 i (fn_a (by decide) fn_0))) (fun i _ => (u57 213 i (fn_a (by decide) fn_0))) (fun i _ => (u57 215 i (fn_a (by decide) fn_0))) (fun i _ => (u57 241 i (fn_a (by decide) fn_0))))), gs92⟩ (by omega) (by omega)
