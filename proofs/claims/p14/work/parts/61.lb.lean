-- the law, case at 478
set_option maxRecDepth 100000 in
set_option maxHeartbeats 100000000 in
theorem lc_478 {L : Nat} {xs : Nat → Int32} {d b c : Nat} {h : hp} {cr : Nat → Nat → Option Nat} {Q : hp_Q} (hcr : CR cr) (hL : L ≤ 3072) (hr : 1 ≤ b ∧ 6 ≤ c) (i : Int) (I : LIm i h) (hi : 0 ≤ i ∧ i + 6 ≤ L) (k : ∀ (h2 : hp) (b2 c2 : Nat), LIm (i + 6) h2 → b ≤ b2 + 1 → c ≤ c2 + 6 → wp (md_xa (L, xs)) (d + 107) 0 (1501, [(0, .ref 1000000), (1, .ref 0), (2, .ref 236), (3, .ref 259), (4, vi i)], [], hp_w h2 cr, b2, c2) Q) : wp (md_xa (L, xs)) (d + 107) 0 (478, [(0, .ref 1000000), (1, .ref 0), (2, .ref 236), (3, .ref 259), (4, vi i)], [], hp_w h cr, b, c) Q := by
  obtain ⟨⟨g, i11, r238, r241, gp0, br0, er2, er3, sv0, sf0, ss0, gs0, mi0, ml1, ml2, gq0, mr0, sm0⟩, ie0⟩ := I
  have r238e := r238.e0
  have r241e := r241.e0
  obtain ⟨⟨se0, se1, se2, se3, se4, se5, se6, se7, se8, se9⟩, -⟩ := id sv0
  have b1 := gi_b (lo := 0) (hi := 5) g 3 0 rfl
  have b2 := gi_b (lo := 0) (hi := 5) g 238 0 rfl
  have b3 := gi_b (lo := 0) (hi := 4) g 3 1 rfl
  have b4 := gi_b (lo := 0) (hi := 4) g 238 1 rfl
  have b5 := gi_b (lo := 0) (hi := 12) g 3 2 rfl
  have b6 := gi_b (lo := 0) (hi := 12) g 238 2 rfl
  have b7 := gi_b (lo := -2147483648) (hi := 2147483647) g 3 3 rfl
  have b8 := gi_b (lo := 0) (hi := 999) g 238 3 rfl
  have b9 := gi_b (lo := -2147483648) (hi := 2147483647) g 3 4 rfl
  have b10 := gi_b (lo := 0) (hi := 999) g 238 4 rfl
  have b11 := gi_b (lo := -2147483648) (hi := 2147483647) g 3 5 rfl
  have b12 := gi_b (lo := 0) (hi := 9) g 238 5 rfl
  have b13 := gi_b (lo := -2147483648) (hi := 2147483647) g 3 6 rfl
  have b14 := gi_b (lo := 0) (hi := 999) g 238 6 rfl
  have b15 := gi_b (lo := -2147483648) (hi := 2147483647) g 3 7 rfl
  have b16 := gi_b (lo := 0) (hi := 3) g 238 7 rfl
  have b17 := gi_b (lo := -2147483648) (hi := 2147483647) g 3 8 rfl
  have b18 := gi_b (lo := 0) (hi := 999) g 238 8 rfl
  have b19 := gi_b (lo := -2147483648) (hi := 2147483647) g 3 9 rfl
  have b20 := gi_b (lo := 0) (hi := 999) g 238 9 rfl
  have b21 := gi_b (lo := -2147483648) (hi := 2147483647) g 63 5 rfl
  have b22 := gi_b (lo := 0) (hi := 12) g 18 7 rfl
  have b23 := gi_b (lo := 0) (hi := 12) g 66 1 rfl
  have b24 := gi_b (lo := 0) (hi := 1) g 0 12 rfl
  have b25 := gi_b (lo := 0) (hi := 1) g 236 21 rfl
  have bl_ := gi_b (lo := 0) (hi := 800) g 1 1 rfl
  have tb0 : BufC (h 2) (h 1 1) h := ⟨fun _ => rfl, rfl, by omega, by omega⟩
  have b26 := gi_b (lo := 0) (hi := 6) g 238 98 rfl
  have b27 := gi_b (lo := 0) (hi := 6) g 238 99 rfl
  have b28 := gi_b (lo := 0) (hi := 6) g 238 100 rfl
  have b29 := gi_b (lo := 0) (hi := 6) g 238 101 rfl
  have b30 := gi_b (lo := 0) (hi := 3) g 238 102 rfl
  have b31 := gi_b (lo := 0) (hi := 12) g 238 106 rfl
  have b32 := gi_b (lo := 0) (hi := 12) g 238 73 rfl
  have b33 := gi_b (lo := 0) (hi := 9999) g 238 119 rfl
  have b34 := gi_b (lo := 0) (hi := 9999) g 238 67 rfl
  have b35 := gi_b (lo := 0) (hi := 9) g 238 69 rfl
  have b36 := gi_b (lo := 0) (hi := 6) g 241 98 rfl
  have b37 := gi_b (lo := 0) (hi := 6) g 241 99 rfl
  have b38 := gi_b (lo := 0) (hi := 6) g 241 100 rfl
  have b39 := gi_b (lo := 0) (hi := 6) g 241 101 rfl
  have b40 := gi_b (lo := 0) (hi := 3) g 241 102 rfl
  have b41 := gi_b (lo := 0) (hi := 12) g 241 106 rfl
  have b42 := gi_b (lo := 0) (hi := 12) g 241 73 rfl
  have b43 := gi_b (lo := 0) (hi := 12) g 241 2 rfl
  have b44 := gi_b (lo := 0) (hi := 9999) g 241 119 rfl
  have b45 := gi_b (lo := 0) (hi := 9999) g 241 67 rfl
  have b46 := gi_b (lo := 0) (hi := 9) g 241 69 rfl
  have b47 := gi_b (lo := 0) (hi := 9) g 241 5 rfl
  have b48 := gi_b (lo := 0) (hi := 800) g 1 1 rfl
  have b49 := gi_b (lo := 0) (hi := 800) g 236 2 rfl
  have b50 := gi_b (lo := -2147483648) (hi := 2147483647) g 1 2 rfl
  have b51 := gi_b (lo := -2147483648) (hi := 2147483647) g 236 10 rfl
  have b52 := gi_b (lo := -2147483648) (hi := 2147483647) g 1 3 rfl
  have b53 := gi_b (lo := -2147483648) (hi := 2147483647) g 236 11 rfl
  refine wi_aload_n (i := 1) (x := 0) (nx := 479) (r1 := 0) (r2 := 0) (r3 := 0) rfl rfl ?_
  refine wi_aload_n (i := 0) (x := 1000000) (nx := 480) (r1 := 0) (r2 := 0) (r3 := 0) rfl rfl ?_
  refine wi_iload (i := 4) (e := i) (nx := 482) (r1 := 0) (r2 := 0) (r3 := 0) rfl rfl ?_
  refine wi_iconst (n := 1) (nx := 483) (r1 := 0) (r2 := 0) (r3 := 0) rfl ?_
  refine wr_add (nx := 484) (r1 := 0) (r2 := 0) (r3 := 0) rfl (fun e54 (fe54 : e54 = i + 1) => ?_)
  obtain ⟨i55, ei55⟩ : ∃ q : Nat, e54 = (q : Int) := ⟨(e54).toNat, by omega⟩
  have s56 := sc_b (xs i55)
  refine wr_sc (a := e54) (f := i55) (nx := 485) (r1 := 0) (r2 := 0) (r3 := 0) rfl (by omega) (by omega) hL ?_
  refine wi_aload_n (i := 3) (x := 259) (nx := 486) (r1 := 0) (r2 := 0) (r3 := 0) rfl rfl ?_
  refine wi_S (rest := []) (as := [.ref 0, vi ((xs i55).toInt), .ref 259]) (nx := 489) (r1 := 6) (r2 := 19) (r3 := 0) rfl rfl rfl (of_decide_eq_true rfl) rfl rfl (of_decide_eq_true rfl) (of_decide_eq_true rfl) ?_
  refine wi_aload_n (i := 2) (x := 259) (nx := 1) (r1 := 0) (r2 := 0) (r3 := 0) rfl rfl ?_
  refine wi_iconst (n := 0) (nx := 2) (r1 := 0) (r2 := 0) (r3 := 0) rfl ?_
  refine wi_aload_n (i := 0) (x := 0) (nx := 3) (r1 := 0) (r2 := 0) (r3 := 0) rfl rfl ?_
  refine wi_iload_n (i := 1) (e := (xs i55).toInt) (nx := 4) (r1 := 0) (r2 := 0) (r3 := 0) rfl rfl ?_
  refine wr_V (k0 := 0) (rest := [vi 0, .ref 259]) (as := [.ref 0, vi ((xs i55).toInt)]) (nx := 7) (r1 := 66) (r2 := 1) (r3 := 0) rfl rfl rfl (of_decide_eq_true rfl) rfl rfl (by decide) rfl rfl (of_decide_eq_true rfl) (of_decide_eq_true rfl) ?_
  refine ct_66_0 hcr hr  g ((xs i55).toInt) (by omega)  (fun z58  (fz58 : -2147483648 ≤ z58 ∧ z58 ≤ 2147483647) (p57_0 : 0 ≤ ((xs i55).toInt) ∧ ((xs i55).toInt) < (h 3 0)) y57_0 => ?_) (fun (pe57_0 : ((xs i55).toInt) < 0 ∨ (h 3 0) ≤ ((xs i55).toInt)) => ?_)
  ·
    refine wk_i ?_
    refine wi_i2l (nx := 8) (r1 := 0) (r2 := 0) (r3 := 0) rfl (by omega) ?_
    refine wr_ls (k0 := 259) (a := 0) (f := 0) (x := z58) (bl := -9223372036854775808) (bh := 9223372036854775807) (nx := 9) (r1 := 0) (r2 := 0) (r3 := 0) rfl (by decide) rfl (by omega) (by omega) (by decide) g rfl (by omega) (fun h59 g59 w59 u59 => ?_)
    refine wi_goto (nx := 12) (r1 := 15) (r2 := 0) (r3 := 0) rfl ?_
    refine wi_iconst (n := 0) (nx := 16) (r1 := 0) (r2 := 0) (r3 := 0) rfl ?_
    refine wi_ireturn (nx := 17) (r1 := 0) (r2 := 0) (r3 := 0) rfl rfl ?_
    refine wk_i ?_
    refine wi_istore (i := 5) (e := 0) (lo2 := [(5, vi 0), (0, .ref 1000000), (1, .ref 0), (2, .ref 236), (3, .ref 259), (4, vi i)]) (nx := 491) (r1 := 0) (r2 := 0) (r3 := 0) rfl rfl ?_
    refine wi_aload_n (i := 2) (x := 236) (nx := 492) (r1 := 0) (r2 := 0) (r3 := 0) rfl rfl ?_
    refine wi_aload_n (i := 0) (x := 1000000) (nx := 493) (r1 := 0) (r2 := 0) (r3 := 0) rfl rfl ?_
    refine wi_iload (i := 4) (e := i) (nx := 495) (r1 := 0) (r2 := 0) (r3 := 0) rfl rfl ?_
    refine wi_iconst (n := 1) (nx := 496) (r1 := 0) (r2 := 0) (r3 := 0) rfl ?_
    refine wr_add (nx := 497) (r1 := 0) (r2 := 0) (r3 := 0) rfl (fun e60 (fe60 : e60 = i + 1) => ?_)
    refine wr_sc (a := e60) (f := i55) (nx := 498) (r1 := 0) (r2 := 0) (r3 := 0) rfl (by omega) (by omega) hL ?_
    refine wr_V (k0 := 236) (rest := []) (as := [.ref 236, vi ((xs i55).toInt)]) (nx := 501) (r1 := 239) (r2 := 1) (r3 := 11) rfl rfl rfl (of_decide_eq_true rfl) rfl rfl (by decide) rfl rfl (of_decide_eq_true rfl) (of_decide_eq_true rfl) ?_
    refine ct_239_236 hcr  g59 ((xs i55).toInt) (by omega)  (fun h61 z62 g61 u61 (fz62 : 0 ≤ z62 ∧ z62 ≤ 999) (p61_0 : (0 ≤ ((xs i55).toInt) ∧ ((xs i55).toInt) < (h59 238 0) ∧ (h61 236 0) = 0) ∨ ((((xs i55).toInt) < 0 ∨ (h59 238 0) ≤ ((xs i55).toInt)) ∧ (h61 236 0) = 1)) y61_0 => ?_)
    have e63 : h59 238 0 = h 238 0 := (u59 238 0 rfl)
    have b64 := gi_b (lo := 0) (hi := 2) g61 236 0 rfl
    refine wk_i ?_
    rcases p61_0 with p61_0 | p61_0
    ·
      have an65 : z58 = z62 := (y57_0.trans (sv0.2.1 (((xs i55).toInt)).toNat (by omega))).trans (((y61_0 (by omega) (by omega)).trans (u59 238 ((10 + (((xs i55).toInt)).toNat)) (fn_a (by omega) fn_0)))).symm
      refine wi_istore (i := 6) (e := z62) (lo2 := [(6, vi z62), (5, vi 0), (0, .ref 1000000), (1, .ref 0), (2, .ref 236), (3, .ref 259), (4, vi i)]) (nx := 503) (r1 := 0) (r2 := 0) (r3 := 0) rfl rfl ?_
      refine wi_goto (nx := 506) (r1 := 1501) (r2 := 0) (r3 := 0) rfl ?_
      refine wp.lo (lo := [(0, .ref 1000000), (1, .ref 0), (2, .ref 236), (3, .ref 259), (4, vi i)]) ⟨rfl, rfl, rfl, rfl, rfl, trivial⟩ rfl ?_
      have e66 : h61 238 98 = h 238 98 := ((u61 238 98 rfl).trans (u59 238 98 rfl))
      have e67 : h61 238 99 = h 238 99 := ((u61 238 99 rfl).trans (u59 238 99 rfl))
      have e68 : h61 238 100 = h 238 100 := ((u61 238 100 rfl).trans (u59 238 100 rfl))
      have e69 : h61 238 101 = h 238 101 := ((u61 238 101 rfl).trans (u59 238 101 rfl))
      have e70 : h61 238 102 = h 238 102 := ((u61 238 102 rfl).trans (u59 238 102 rfl))
      have e71 : h61 238 106 = h 238 106 := ((u61 238 106 rfl).trans (u59 238 106 rfl))
      have e72 : h61 238 73 = h 238 73 := ((u61 238 73 rfl).trans (u59 238 73 rfl))
      have e73 : h61 238 2 = h 238 2 := ((u61 238 2 rfl).trans (u59 238 2 rfl))
      have e74 : h61 238 119 = h 238 119 := ((u61 238 119 rfl).trans (u59 238 119 rfl))
      have e75 : h61 238 67 = h 238 67 := ((u61 238 67 rfl).trans (u59 238 67 rfl))
      have e76 : h61 238 69 = h 238 69 := ((u61 238 69 rfl).trans (u59 238 69 rfl))
      have e77 : h61 238 5 = h 238 5 := ((u61 238 5 rfl).trans (u59 238 5 rfl))
      have e78 : h61 241 98 = h 241 98 := ((u61 241 98 rfl).trans (u59 241 98 rfl))
      have e79 : h61 241 99 = h 241 99 := ((u61 241 99 rfl).trans (u59 241 99 rfl))
      have e80 : h61 241 100 = h 241 100 := ((u61 241 100 rfl).trans (u59 241 100 rfl))
      have e81 : h61 241 101 = h 241 101 := ((u61 241 101 rfl).trans (u59 241 101 rfl))
      have e82 : h61 241 102 = h 241 102 := ((u61 241 102 rfl).trans (u59 241 102 rfl))
      have e83 : h61 241 106 = h 241 106 := ((u61 241 106 rfl).trans (u59 241 106 rfl))
      have e84 : h61 241 73 = h 241 73 := ((u61 241 73 rfl).trans (u59 241 73 rfl))
      have e85 : h61 241 2 = h 241 2 := ((u61 241 2 rfl).trans (u59 241 2 rfl))
      have e86 : h61 241 119 = h 241 119 := ((u61 241 119 rfl).trans (u59 241 119 rfl))
      have e87 : h61 241 67 = h 241 67 := ((u61 241 67 rfl).trans (u59 241 67 rfl))
      have e88 : h61 241 69 = h 241 69 := ((u61 241 69 rfl).trans (u59 241 69 rfl))
      have e89 : h61 241 5 = h 241 5 := ((u61 241 5 rfl).trans (u59 241 5 rfl))
      have e90 : h61 1 1 = h 1 1 := ((u61 1 1 rfl).trans (u59 1 1 rfl))
      have e91 : h61 236 2 = h 236 2 := ((u61 236 2 rfl).trans (u59 236 2 rfl))
      have e92 : h61 1 2 = h 1 2 := ((u61 1 2 rfl).trans (u59 1 2 rfl))
      have e93 : h61 236 10 = h 236 10 := ((u61 236 10 rfl).trans (u59 236 10 rfl))
      have e94 : h61 1 3 = h 1 3 := ((u61 1 3 rfl).trans (u59 1 3 rfl))
      have e95 : h61 236 11 = h 236 11 := ((u61 236 11 rfl).trans (u59 236 11 rfl))
      have gp96 := GPH.fr u59 rfl gp0
      have gp97 := GPH.fr u61 rfl gp96
      have b98 := gi_b (lo := 0) (hi := 5) g 241 0 rfl
      have b99 := gi_b (lo := 0) (hi := 4) g 241 1 rfl
      have gs100 := GPS.fr u59 rfl gs0
      have gs101 := GPS.fr u61 rfl gs100
      have e102 : h61 0 12 = h 0 12 := ((u61 0 12 rfl).trans (u59 0 12 rfl))
      have e103 : h61 236 21 = h 236 21 := ((u61 236 21 rfl).trans (u59 236 21 rfl))
      have e104 : h61 63 5 = h 63 5 := ((u61 63 5 rfl).trans (u59 63 5 rfl))
      have e105 : h61 18 16 = h 18 16 := ((u61 18 16 rfl).trans (u59 18 16 rfl))
      have e106 : h61 18 7 = h 18 7 := ((u61 18 7 rfl).trans (u59 18 7 rfl))
      have e107 : h61 3 2 = h 3 2 := ((u61 3 2 rfl).trans (u59 3 2 rfl))
      have e108 : h61 66 1 = h 66 1 := ((u61 66 1 rfl).trans (u59 66 1 rfl))
      have b109 := gi_b (lo := 0) (hi := 6) g 73 1 rfl
      have e110 : h61 73 1 = h 73 1 := ((u61 73 1 rfl).trans (u59 73 1 rfl))
      have b111 := gi_b (lo := 0) (hi := 6) g 73 2 rfl
      have e112 : h61 73 2 = h 73 2 := ((u61 73 2 rfl).trans (u59 73 2 rfl))
      have b113 := gi_b (lo := 0) (hi := 6) g 236 22 rfl
      have e114 : h61 236 22 = h 236 22 := ((u61 236 22 rfl).trans (u59 236 22 rfl))
      have b115 := gi_b (lo := 0) (hi := 12) g 210 2 rfl
      have e116 : h61 210 2 = h 210 2 := ((u61 210 2 rfl).trans (u59 210 2 rfl))
      have q119 : h61 8 = h 8 := funext (fun i => ((u61 8 i (fo_no_ok (by decide) i)).trans (u59 8 i rfl)))
      have q120 : h61 7 = h 7 := funext (fun i => ((u61 7 i (fo_no_ok (by decide) i)).trans (u59 7 i rfl)))
      have q121 : h61 19 = h 19 := funext (fun i => ((u61 19 i (fo_no_ok (by decide) i)).trans (u59 19 i rfl)))
      have q122 : h61 67 = h 67 := funext (fun i => ((u61 67 i (fo_no_ok (by decide) i)).trans (u59 67 i rfl)))
      have ml118 : MCL h61 := MCL.mv mi0.1 q119 q120 q121 q122 (by omega) (by omega) (by omega) (by omega)
      have q124 : h61 69 = h 69 := funext (fun i => ((u61 69 i (fo_no_ok (by decide) i)).trans (u59 69 i rfl)))
      have q125 : h61 70 = h 70 := funext (fun i => ((u61 70 i (fo_no_ok (by decide) i)).trans (u59 70 i rfl)))
      have nb123 : NBc (h61 69) (h61 70) := by rw [q124, q125]; exact mi0.2.2
      have q126 : h61 8 = h 8 := funext (fun i => ((u61 8 i (fo_no_ok (by decide) i)).trans (u59 8 i rfl)))
      have q127 : h61 7 = h 7 := funext (fun i => ((u61 7 i (fo_no_ok (by decide) i)).trans (u59 7 i rfl)))
      have mi117 : MCI h61 := ⟨ml118, HIv.mv mi0.2.1 q126 q127 (by omega) (by omega) (sv_seven (P := fun x => ∀ i, h61 (76 + 19 * x) i = h (76 + 19 * x) i) (fun i => ((u61 76 i (fn_a (by decide) fn_0)).trans (u59 76 i (fn_a (by omega) fn_0)))) (fun i => ((u61 95 i (fn_a (by decide) fn_0)).trans (u59 95 i (fn_a (by omega) fn_0)))) (fun i => ((u61 114 i (fn_a (by decide) fn_0)).trans (u59 114 i (fn_a (by omega) fn_0)))) (fun i => ((u61 133 i (fn_a (by decide) fn_0)).trans (u59 133 i (fn_a (by omega) fn_0)))) (fun i => ((u61 152 i (fn_a (by decide) fn_0)).trans (u59 152 i (fn_a (by omega) fn_0)))) (fun i => ((u61 171 i (fn_a (by decide) fn_0)).trans (u59 171 i (fn_a (by omega) fn_0)))) (fun i => ((u61 190 i (fn_a (by decide) fn_0)).trans (u59 190 i (fn_a (by omega) fn_0))))) (by omega) (by omega), nb123⟩
      have gq128 := GQS.fr u59 rfl gq0
      have gq129 := GQS.fr u61 rfl gq128
      have q130 : h61 8 = h 8 := funext (fun i => ((u61 8 i (fo_no_ok (by decide) i)).trans (u59 8 i rfl)))
      have q131 : h61 7 = h 7 := funext (fun i => ((u61 7 i (fo_no_ok (by decide) i)).trans (u59 7 i rfl)))
      have q132 : h61 215 = h 215 := funext (fun i => ((u61 215 i (fo_no_ok (by decide) i)).trans (u59 215 i rfl)))
      have q133 : h61 218 = h 218 := funext (fun i => ((u61 218 i (fo_no_ok (by decide) i)).trans (u59 218 i rfl)))
      have q134 : h61 214 = h 214 := funext (fun i => ((u61 214 i (fo_no_ok (by decide) i)).trans (u59 214 i rfl)))
      have q135 : h61 241 = h 241 := funext (fun i => ((u61 241 i (fo_no_ok (by decide) i)).trans (u59 241 i rfl)))
      exact k h61 b c ⟨⟨g61, (show h61 1 1 = h61 236 2 by omega), (RS.i0 (f := h61 238) (by refine ⟨?_, ?_, ?_, ?_, ?_⟩ <;> omega)), (RS.i0 (f := h61 241) (by refine ⟨?_, ?_, ?_, ?_, ?_⟩ <;> omega)), gp97, (BRh.keep br0 (fun i => ((u61 2 i (fn_a (by decide) fn_0)).trans (u59 2 i (fn_a (by omega) fn_0)))) (fun i => ((u61 237 i (fn_a (by decide) fn_0)).trans (u59 237 i (fn_a (by omega) fn_0)))) (by omega)), (show h61 1 2 = h61 236 10 by omega), (show h61 1 3 = h61 236 11 by omega), (SVx.keep sv0 (by omega) (fun i _ => ((u61 3 i (fn_a (by decide) fn_0)).trans (u59 3 i (fn_a (by omega) fn_0)))) (fun i _ => ((u61 5 i (fn_a (by decide) fn_0)).trans (u59 5 i (fn_a (by omega) fn_0)))) (fun i _ => ((u61 6 i (fn_a (by decide) fn_0)).trans (u59 6 i (fn_a (by omega) fn_0)))) (fun i _ => ((u61 8 i (fn_a (by decide) fn_0)).trans (u59 8 i (fn_a (by omega) fn_0)))) (fun i _ => ((u61 238 i (fn_a (by decide) fn_0)).trans (u59 238 i (fn_a (by omega) fn_0))))), (show h61 0 12 = h61 236 21 by omega), (fun e => (SVx.keep (ss0 (by omega)) (by omega) (fun i _ => ((u61 210 i (fn_a (by decide) fn_0)).trans (u59 210 i (fn_a (by omega) fn_0)))) (fun i _ => ((u61 212 i (fn_a (by decide) fn_0)).trans (u59 212 i (fn_a (by omega) fn_0)))) (fun i _ => ((u61 213 i (fn_a (by decide) fn_0)).trans (u59 213 i (fn_a (by omega) fn_0)))) (fun i _ => ((u61 215 i (fn_a (by decide) fn_0)).trans (u59 215 i (fn_a (by omega) fn_0)))) (fun i _ => ((u61 241 i (fn_a (by decide) fn_0)).trans (u59 241 i (fn_a (by omega) fn_0)))))), gs101, mi117, (show h61 63 5 ≤ h61 18 16 by omega), (show (h61 63 5) < (h61 18 16) ∨ ((h61 18 7) ≤ (h61 3 2) ∧ (h61 66 1) = (h61 3 2) - (h61 18 7)) ∨ ((h61 3 2) < (h61 18 7) ∧ (h61 66 1) = 0) by omega), gq129, (MR.mv mr0 (MSN.then (MSN.refl) (fun i _ => ((u61 238 i (fn_a (by decide) fn_0)).trans (u59 238 i (fn_a (by omega) fn_0))))) (by omega) q130 q131 (by omega)), (fun e => SM.mv (sm0 (by omega)) q132 q133 q134 (by omega) q135)⟩, (by omega)⟩ (by omega) (by omega)
    ·
      exfalso; omega
  ·
    refine wk_h 12 (by decide) rfl ?_
    refine wr_astx (i := 3) (lo2 := [(3, .retAddr 0), (0, .ref 0), (1, vi ((xs i55).toInt)), (2, .ref 259)]) (nx := 13) (r1 := 0) (r2 := 0) (r3 := 0) rfl rfl ?_
    refine wi_iconst (n := 1) (nx := 14) (r1 := 0) (r2 := 0) (r3 := 0) rfl ?_
    refine wi_ireturn (nx := 15) (r1 := 0) (r2 := 0) (r3 := 0) rfl rfl ?_
    refine wk_i ?_
    refine wi_istore (i := 5) (e := 1) (lo2 := [(5, vi 1), (0, .ref 1000000), (1, .ref 0), (2, .ref 236), (3, .ref 259), (4, vi i)]) (nx := 491) (r1 := 0) (r2 := 0) (r3 := 0) rfl rfl ?_
    refine wi_aload_n (i := 2) (x := 236) (nx := 492) (r1 := 0) (r2 := 0) (r3 := 0) rfl rfl ?_
    refine wi_aload_n (i := 0) (x := 1000000) (nx := 493) (r1 := 0) (r2 := 0) (r3 := 0) rfl rfl ?_
    refine wi_iload (i := 4) (e := i) (nx := 495) (r1 := 0) (r2 := 0) (r3 := 0) rfl rfl ?_
    refine wi_iconst (n := 1) (nx := 496) (r1 := 0) (r2 := 0) (r3 := 0) rfl ?_
    refine wr_add (nx := 497) (r1 := 0) (r2 := 0) (r3 := 0) rfl (fun e59 (fe59 : e59 = i + 1) => ?_)
    refine wr_sc (a := e59) (f := i55) (nx := 498) (r1 := 0) (r2 := 0) (r3 := 0) rfl (by omega) (by omega) hL ?_
    refine wr_V (k0 := 236) (rest := []) (as := [.ref 236, vi ((xs i55).toInt)]) (nx := 501) (r1 := 239) (r2 := 1) (r3 := 11) rfl rfl rfl (of_decide_eq_true rfl) rfl rfl (by decide) rfl rfl (of_decide_eq_true rfl) (of_decide_eq_true rfl) ?_
    refine ct_239_236 hcr  g ((xs i55).toInt) (by omega)  (fun h60 z61 g60 u60 (fz61 : 0 ≤ z61 ∧ z61 ≤ 999) (p60_0 : (0 ≤ ((xs i55).toInt) ∧ ((xs i55).toInt) < (h 238 0) ∧ (h60 236 0) = 0) ∨ ((((xs i55).toInt) < 0 ∨ (h 238 0) ≤ ((xs i55).toInt)) ∧ (h60 236 0) = 1)) y60_0 => ?_)
    have b62 := gi_b (lo := 0) (hi := 2) g60 236 0 rfl
    refine wk_i ?_
    rcases p60_0 with p60_0 | p60_0
    ·
      exfalso; omega
    ·
      refine wi_istore (i := 6) (e := z61) (lo2 := [(6, vi z61), (5, vi 1), (0, .ref 1000000), (1, .ref 0), (2, .ref 236), (3, .ref 259), (4, vi i)]) (nx := 503) (r1 := 0) (r2 := 0) (r3 := 0) rfl rfl ?_
      refine wi_goto (nx := 506) (r1 := 1501) (r2 := 0) (r3 := 0) rfl ?_
      refine wp.lo (lo := [(0, .ref 1000000), (1, .ref 0), (2, .ref 236), (3, .ref 259), (4, vi i)]) ⟨rfl, rfl, rfl, rfl, rfl, trivial⟩ rfl ?_
      have e63 : h60 238 98 = h 238 98 := (u60 238 98 rfl)
      have e64 : h60 238 99 = h 238 99 := (u60 238 99 rfl)
      have e65 : h60 238 100 = h 238 100 := (u60 238 100 rfl)
      have e66 : h60 238 101 = h 238 101 := (u60 238 101 rfl)
      have e67 : h60 238 102 = h 238 102 := (u60 238 102 rfl)
      have e68 : h60 238 106 = h 238 106 := (u60 238 106 rfl)
      have e69 : h60 238 73 = h 238 73 := (u60 238 73 rfl)
      have e70 : h60 238 2 = h 238 2 := (u60 238 2 rfl)
      have e71 : h60 238 119 = h 238 119 := (u60 238 119 rfl)
      have e72 : h60 238 67 = h 238 67 := (u60 238 67 rfl)
      have e73 : h60 238 69 = h 238 69 := (u60 238 69 rfl)
      have e74 : h60 238 5 = h 238 5 := (u60 238 5 rfl)
      have e75 : h60 241 98 = h 241 98 := (u60 241 98 rfl)
      have e76 : h60 241 99 = h 241 99 := (u60 241 99 rfl)
      have e77 : h60 241 100 = h 241 100 := (u60 241 100 rfl)
      have e78 : h60 241 101 = h 241 101 := (u60 241 101 rfl)
      have e79 : h60 241 102 = h 241 102 := (u60 241 102 rfl)
      have e80 : h60 241 106 = h 241 106 := (u60 241 106 rfl)
      have e81 : h60 241 73 = h 241 73 := (u60 241 73 rfl)
      have e82 : h60 241 2 = h 241 2 := (u60 241 2 rfl)
      have e83 : h60 241 119 = h 241 119 := (u60 241 119 rfl)
      have e84 : h60 241 67 = h 241 67 := (u60 241 67 rfl)
      have e85 : h60 241 69 = h 241 69 := (u60 241 69 rfl)
      have e86 : h60 241 5 = h 241 5 := (u60 241 5 rfl)
      have e87 : h60 1 1 = h 1 1 := (u60 1 1 rfl)
      have e88 : h60 236 2 = h 236 2 := (u60 236 2 rfl)
      have e89 : h60 1 2 = h 1 2 := (u60 1 2 rfl)
      have e90 : h60 236 10 = h 236 10 := (u60 236 10 rfl)
      have e91 : h60 1 3 = h 1 3 := (u60 1 3 rfl)
      have e92 : h60 236 11 = h 236 11 := (u60 236 11 rfl)
      have gp93 := GPH.fr u60 rfl gp0
      have b94 := gi_b (lo := 0) (hi := 5) g 241 0 rfl
      have b95 := gi_b (lo := 0) (hi := 4) g 241 1 rfl
      have gs96 := GPS.fr u60 rfl gs0
      have e97 : h60 0 12 = h 0 12 := (u60 0 12 rfl)
      have e98 : h60 236 21 = h 236 21 := (u60 236 21 rfl)
      have e99 : h60 63 5 = h 63 5 := (u60 63 5 rfl)
      have e100 : h60 18 16 = h 18 16 := (u60 18 16 rfl)
      have e101 : h60 18 7 = h 18 7 := (u60 18 7 rfl)
      have e102 : h60 3 2 = h 3 2 := (u60 3 2 rfl)
      have e103 : h60 66 1 = h 66 1 := (u60 66 1 rfl)
      have b104 := gi_b (lo := 0) (hi := 6) g 73 1 rfl
      have e105 : h60 73 1 = h 73 1 := (u60 73 1 rfl)
      have b106 := gi_b (lo := 0) (hi := 6) g 73 2 rfl
      have e107 : h60 73 2 = h 73 2 := (u60 73 2 rfl)
      have b108 := gi_b (lo := 0) (hi := 6) g 236 22 rfl
      have e109 : h60 236 22 = h 236 22 := (u60 236 22 rfl)
      have b110 := gi_b (lo := 0) (hi := 12) g 210 2 rfl
      have e111 : h60 210 2 = h 210 2 := (u60 210 2 rfl)
      have q114 : h60 8 = h 8 := funext (fun i => (u60 8 i (fo_no_ok (by decide) i)))
      have q115 : h60 7 = h 7 := funext (fun i => (u60 7 i (fo_no_ok (by decide) i)))
      have q116 : h60 19 = h 19 := funext (fun i => (u60 19 i (fo_no_ok (by decide) i)))
      have q117 : h60 67 = h 67 := funext (fun i => (u60 67 i (fo_no_ok (by decide) i)))
      have ml113 : MCL h60 := MCL.mv mi0.1 q114 q115 q116 q117 (by omega) (by omega) (by omega) (by omega)
      have q119 : h60 69 = h 69 := funext (fun i => (u60 69 i (fo_no_ok (by decide) i)))
      have q120 : h60 70 = h 70 := funext (fun i => (u60 70 i (fo_no_ok (by decide) i)))
      have nb118 : NBc (h60 69) (h60 70) := by rw [q119, q120]; exact mi0.2.2
      have q121 : h60 8 = h 8 := funext (fun i => (u60 8 i (fo_no_ok (by decide) i)))
      have q122 : h60 7 = h 7 := funext (fun i => (u60 7 i (fo_no_ok (by decide) i)))
      have mi112 : MCI h60 := ⟨ml113, HIv.mv mi0.2.1 q121 q122 (by omega) (by omega) (sv_seven (P := fun x => ∀ i, h60 (76 + 19 * x) i = h (76 + 19 * x) i) (fun i => (u60 76 i (fn_a (by decide) fn_0))) (fun i => (u60 95 i (fn_a (by decide) fn_0))) (fun i => (u60 114 i (fn_a (by decide) fn_0))) (fun i => (u60 133 i (fn_a (by decide) fn_0))) (fun i => (u60 152 i (fn_a (by decide) fn_0))) (fun i => (u60 171 i (fn_a (by decide) fn_0))) (fun i => (u60 190 i (fn_a (by decide) fn_0)))) (by omega) (by omega), nb118⟩
      have gq123 := GQS.fr u60 rfl gq0
      have q124 : h60 8 = h 8 := funext (fun i => (u60 8 i (fo_no_ok (by decide) i)))
      have q125 : h60 7 = h 7 := funext (fun i => (u60 7 i (fo_no_ok (by decide) i)))
      have q126 : h60 215 = h 215 := funext (fun i => (u60 215 i (fo_no_ok (by decide) i)))
      have q127 : h60 218 = h 218 := funext (fun i => (u60 218 i (fo_no_ok (by decide) i)))
      have q128 : h60 214 = h 214 := funext (fun i => (u60 214 i (fo_no_ok (by decide) i)))
      have q129 : h60 241 = h 241 := funext (fun i => (u60 241 i (fo_no_ok (by decide) i)))
      exact k h60 (b - 1) (c - 6) ⟨⟨g60, (show h60 1 1 = h60 236 2 by omega), (RS.i0 (f := h60 238) (by refine ⟨?_, ?_, ?_, ?_, ?_⟩ <;> omega)), (RS.i0 (f := h60 241) (by refine ⟨?_, ?_, ?_, ?_, ?_⟩ <;> omega)), gp93, (BRh.keep br0 (fun i => (u60 2 i (fn_a (by decide) fn_0))) (fun i => (u60 237 i (fn_a (by decide) fn_0))) (by omega)), (show h60 1 2 = h60 236 10 by omega), (show h60 1 3 = h60 236 11 by omega), (SVx.keep sv0 (by omega) (fun i _ => (u60 3 i (fn_a (by decide) fn_0))) (fun i _ => (u60 5 i (fn_a (by decide) fn_0))) (fun i _ => (u60 6 i (fn_a (by decide) fn_0))) (fun i _ => (u60 8 i (fn_a (by decide) fn_0))) (fun i _ => (u60 238 i (fn_a (by decide) fn_0)))), (show h60 0 12 = h60 236 21 by omega), (fun e => (SVx.keep (ss0 (by omega)) (by omega) (fun i _ => (u60 210 i (fn_a (by decide) fn_0))) (fun i _ => (u60 212 i (fn_a (by decide) fn_0))) (fun i _ => (u60 213 i (fn_a (by decide) fn_0))) (fun i _ => (u60 215 i (fn_a (by decide) fn_0))) (fun i _ => (u60 241 i (fn_a (by decide) fn_0))))), gs96, mi112, (show h60 63 5 ≤ h60 18 16 by omega), (show (h60 63 5) < (h60 18 16) ∨ ((h60 18 7) ≤ (h60 3 2) ∧ (h60 66 1) = (h60 3 2) - (h60 18 7)) ∨ ((h60 3 2) < (h60 18 7) ∧ (h60 66 1) = 0) by omega), gq123, (MR.mv mr0 (MSN.then (MSN.refl) (fun i _ => (u60 238 i (fn_a (by decide) fn_0)))) (by omega) q124 q125 (by omega)), (fun e => SM.mv (sm0 (by omega)) q126 q127 q128 (by omega) q129)⟩, (by omega)⟩ (by omega) (by omega)
-- the law, case at 506
set_option maxRecDepth 100000 in
set_option maxHeartbeats 100000000 in
theorem lc_506 {L : Nat} {xs : Nat → Int32} {d b c : Nat} {h : hp} {cr : Nat → Nat → Option Nat} {Q : hp_Q} (hcr : CR cr) (hL : L ≤ 3072) (hr : 1 ≤ b ∧ 6 ≤ c) (i : Int) (I : LIm i h) (hi : 0 ≤ i ∧ i + 6 ≤ L) (k : ∀ (h2 : hp) (b2 c2 : Nat), LIm (i + 6) h2 → b ≤ b2 + 1 → c ≤ c2 + 6 → wp (md_xa (L, xs)) (d + 107) 0 (1501, [(0, .ref 1000000), (1, .ref 0), (2, .ref 236), (3, .ref 259), (4, vi i)], [], hp_w h2 cr, b2, c2) Q) : wp (md_xa (L, xs)) (d + 107) 0 (506, [(0, .ref 1000000), (1, .ref 0), (2, .ref 236), (3, .ref 259), (4, vi i)], [], hp_w h cr, b, c) Q := by
  obtain ⟨⟨g, i11, r238, r241, gp0, br0, er2, er3, sv0, sf0, ss0, gs0, mi0, ml1, ml2, gq0, mr0, sm0⟩, ie0⟩ := I
  have r238e := r238.e0
  have r241e := r241.e0
  obtain ⟨⟨se0, se1, se2, se3, se4, se5, se6, se7, se8, se9⟩, -⟩ := id sv0
  have b1 := gi_b (lo := 0) (hi := 5) g 3 0 rfl
  have b2 := gi_b (lo := 0) (hi := 5) g 238 0 rfl
  have b3 := gi_b (lo := 0) (hi := 4) g 3 1 rfl
  have b4 := gi_b (lo := 0) (hi := 4) g 238 1 rfl
  have b5 := gi_b (lo := 0) (hi := 12) g 3 2 rfl
  have b6 := gi_b (lo := 0) (hi := 12) g 238 2 rfl
  have b7 := gi_b (lo := -2147483648) (hi := 2147483647) g 3 3 rfl
  have b8 := gi_b (lo := 0) (hi := 999) g 238 3 rfl
  have b9 := gi_b (lo := -2147483648) (hi := 2147483647) g 3 4 rfl
  have b10 := gi_b (lo := 0) (hi := 999) g 238 4 rfl
  have b11 := gi_b (lo := -2147483648) (hi := 2147483647) g 3 5 rfl
  have b12 := gi_b (lo := 0) (hi := 9) g 238 5 rfl
  have b13 := gi_b (lo := -2147483648) (hi := 2147483647) g 3 6 rfl
  have b14 := gi_b (lo := 0) (hi := 999) g 238 6 rfl
  have b15 := gi_b (lo := -2147483648) (hi := 2147483647) g 3 7 rfl
  have b16 := gi_b (lo := 0) (hi := 3) g 238 7 rfl
  have b17 := gi_b (lo := -2147483648) (hi := 2147483647) g 3 8 rfl
  have b18 := gi_b (lo := 0) (hi := 999) g 238 8 rfl
  have b19 := gi_b (lo := -2147483648) (hi := 2147483647) g 3 9 rfl
  have b20 := gi_b (lo := 0) (hi := 999) g 238 9 rfl
  have b21 := gi_b (lo := -2147483648) (hi := 2147483647) g 63 5 rfl
  have b22 := gi_b (lo := 0) (hi := 12) g 18 7 rfl
  have b23 := gi_b (lo := 0) (hi := 12) g 66 1 rfl
  have b24 := gi_b (lo := 0) (hi := 1) g 0 12 rfl
  have b25 := gi_b (lo := 0) (hi := 1) g 236 21 rfl
  have bl_ := gi_b (lo := 0) (hi := 800) g 1 1 rfl
  have tb0 : BufC (h 2) (h 1 1) h := ⟨fun _ => rfl, rfl, by omega, by omega⟩
  have b26 := gi_b (lo := 0) (hi := 6) g 238 98 rfl
  have b27 := gi_b (lo := 0) (hi := 6) g 238 99 rfl
  have b28 := gi_b (lo := 0) (hi := 6) g 238 100 rfl
  have b29 := gi_b (lo := 0) (hi := 6) g 238 101 rfl
  have b30 := gi_b (lo := 0) (hi := 3) g 238 102 rfl
  have b31 := gi_b (lo := 0) (hi := 12) g 238 106 rfl
  have b32 := gi_b (lo := 0) (hi := 12) g 238 73 rfl
  have b33 := gi_b (lo := 0) (hi := 9999) g 238 119 rfl
  have b34 := gi_b (lo := 0) (hi := 9999) g 238 67 rfl
  have b35 := gi_b (lo := 0) (hi := 9) g 238 69 rfl
  have b36 := gi_b (lo := 0) (hi := 6) g 241 98 rfl
  have b37 := gi_b (lo := 0) (hi := 6) g 241 99 rfl
  have b38 := gi_b (lo := 0) (hi := 6) g 241 100 rfl
  have b39 := gi_b (lo := 0) (hi := 6) g 241 101 rfl
  have b40 := gi_b (lo := 0) (hi := 3) g 241 102 rfl
  have b41 := gi_b (lo := 0) (hi := 12) g 241 106 rfl
  have b42 := gi_b (lo := 0) (hi := 12) g 241 73 rfl
  have b43 := gi_b (lo := 0) (hi := 12) g 241 2 rfl
  have b44 := gi_b (lo := 0) (hi := 9999) g 241 119 rfl
  have b45 := gi_b (lo := 0) (hi := 9999) g 241 67 rfl
  have b46 := gi_b (lo := 0) (hi := 9) g 241 69 rfl
  have b47 := gi_b (lo := 0) (hi := 9) g 241 5 rfl
  have b48 := gi_b (lo := 0) (hi := 800) g 1 1 rfl
  have b49 := gi_b (lo := 0) (hi := 800) g 236 2 rfl
  have b50 := gi_b (lo := -2147483648) (hi := 2147483647) g 1 2 rfl
  have b51 := gi_b (lo := -2147483648) (hi := 2147483647) g 236 10 rfl
  have b52 := gi_b (lo := -2147483648) (hi := 2147483647) g 1 3 rfl
  have b53 := gi_b (lo := -2147483648) (hi := 2147483647) g 236 11 rfl
  refine wi_aload_n (i := 1) (x := 0) (nx := 507) (r1 := 0) (r2 := 0) (r3 := 0) rfl rfl ?_
  refine wi_aload_n (i := 0) (x := 1000000) (nx := 508) (r1 := 0) (r2 := 0) (r3 := 0) rfl rfl ?_
  refine wi_iload (i := 4) (e := i) (nx := 510) (r1 := 0) (r2 := 0) (r3 := 0) rfl rfl ?_
  refine wi_iconst (n := 1) (nx := 511) (r1 := 0) (r2 := 0) (r3 := 0) rfl ?_
  refine wr_add (nx := 512) (r1 := 0) (r2 := 0) (r3 := 0) rfl (fun e54 (fe54 : e54 = i + 1) => ?_)
  obtain ⟨i55, ei55⟩ : ∃ q : Nat, e54 = (q : Int) := ⟨(e54).toNat, by omega⟩
  have s56 := sc_b (xs i55)
  refine wr_sc (a := e54) (f := i55) (nx := 513) (r1 := 0) (r2 := 0) (r3 := 0) rfl (by omega) (by omega) hL ?_
  refine wi_aload_n (i := 3) (x := 259) (nx := 514) (r1 := 0) (r2 := 0) (r3 := 0) rfl rfl ?_
  refine wi_S (rest := []) (as := [.ref 0, vi ((xs i55).toInt), .ref 259]) (nx := 517) (r1 := 7) (r2 := 19) (r3 := 0) rfl rfl rfl (of_decide_eq_true rfl) rfl rfl (of_decide_eq_true rfl) (of_decide_eq_true rfl) ?_
  refine wi_aload_n (i := 2) (x := 259) (nx := 1) (r1 := 0) (r2 := 0) (r3 := 0) rfl rfl ?_
  refine wi_iconst (n := 0) (nx := 2) (r1 := 0) (r2 := 0) (r3 := 0) rfl ?_
  refine wi_aload_n (i := 0) (x := 0) (nx := 3) (r1 := 0) (r2 := 0) (r3 := 0) rfl rfl ?_
  refine wi_iload_n (i := 1) (e := (xs i55).toInt) (nx := 4) (r1 := 0) (r2 := 0) (r3 := 0) rfl rfl ?_
  refine wr_V (k0 := 0) (rest := [vi 0, .ref 259]) (as := [.ref 0, vi ((xs i55).toInt)]) (nx := 7) (r1 := 67) (r2 := 1) (r3 := 0) rfl rfl rfl (of_decide_eq_true rfl) rfl rfl (by decide) rfl rfl (of_decide_eq_true rfl) (of_decide_eq_true rfl) ?_
  refine ct_67_0 hcr hr  g ((xs i55).toInt) (by omega)  (fun z58  (fz58 : -2147483648 ≤ z58 ∧ z58 ≤ 2147483647) (p57_0 : 0 ≤ ((xs i55).toInt) ∧ ((xs i55).toInt) < (h 3 1)) y57_0 => ?_) (fun (pe57_0 : ((xs i55).toInt) < 0 ∨ (h 3 1) ≤ ((xs i55).toInt)) => ?_)
  ·
    refine wk_i ?_
    refine wi_i2l (nx := 8) (r1 := 0) (r2 := 0) (r3 := 0) rfl (by omega) ?_
    refine wr_ls (k0 := 259) (a := 0) (f := 0) (x := z58) (bl := -9223372036854775808) (bh := 9223372036854775807) (nx := 9) (r1 := 0) (r2 := 0) (r3 := 0) rfl (by decide) rfl (by omega) (by omega) (by decide) g rfl (by omega) (fun h59 g59 w59 u59 => ?_)
    refine wi_goto (nx := 12) (r1 := 15) (r2 := 0) (r3 := 0) rfl ?_
    refine wi_iconst (n := 0) (nx := 16) (r1 := 0) (r2 := 0) (r3 := 0) rfl ?_
    refine wi_ireturn (nx := 17) (r1 := 0) (r2 := 0) (r3 := 0) rfl rfl ?_
    refine wk_i ?_
    refine wi_istore (i := 5) (e := 0) (lo2 := [(5, vi 0), (0, .ref 1000000), (1, .ref 0), (2, .ref 236), (3, .ref 259), (4, vi i)]) (nx := 519) (r1 := 0) (r2 := 0) (r3 := 0) rfl rfl ?_
    refine wi_aload_n (i := 2) (x := 236) (nx := 520) (r1 := 0) (r2 := 0) (r3 := 0) rfl rfl ?_
    refine wi_aload_n (i := 0) (x := 1000000) (nx := 521) (r1 := 0) (r2 := 0) (r3 := 0) rfl rfl ?_
    refine wi_iload (i := 4) (e := i) (nx := 523) (r1 := 0) (r2 := 0) (r3 := 0) rfl rfl ?_
    refine wi_iconst (n := 1) (nx := 524) (r1 := 0) (r2 := 0) (r3 := 0) rfl ?_
    refine wr_add (nx := 525) (r1 := 0) (r2 := 0) (r3 := 0) rfl (fun e60 (fe60 : e60 = i + 1) => ?_)
    refine wr_sc (a := e60) (f := i55) (nx := 526) (r1 := 0) (r2 := 0) (r3 := 0) rfl (by omega) (by omega) hL ?_
    refine wr_V (k0 := 236) (rest := []) (as := [.ref 236, vi ((xs i55).toInt)]) (nx := 529) (r1 := 240) (r2 := 1) (r3 := 11) rfl rfl rfl (of_decide_eq_true rfl) rfl rfl (by decide) rfl rfl (of_decide_eq_true rfl) (of_decide_eq_true rfl) ?_
    refine ct_240_236 hcr  g59 ((xs i55).toInt) (by omega)  (fun h61 z62 g61 u61 (fz62 : 0 ≤ z62 ∧ z62 ≤ 6) (p61_0 : (0 ≤ ((xs i55).toInt) ∧ ((xs i55).toInt) < (h59 238 1) ∧ (h61 236 0) = 0) ∨ ((((xs i55).toInt) < 0 ∨ (h59 238 1) ≤ ((xs i55).toInt)) ∧ (h61 236 0) = 1)) y61_0 => ?_)
    have e63 : h59 238 1 = h 238 1 := (u59 238 1 rfl)
    have b64 := gi_b (lo := 0) (hi := 2) g61 236 0 rfl
    refine wk_i ?_
    rcases p61_0 with p61_0 | p61_0
    ·
      have an65 : z58 = z62 := (y57_0.trans (sv0.2.2.1 (((xs i55).toInt)).toNat (by omega))).trans (((y61_0 (by omega) (by omega)).trans (u59 238 ((15 + (((xs i55).toInt)).toNat)) (fn_a (by omega) fn_0)))).symm
      refine wi_istore (i := 6) (e := z62) (lo2 := [(6, vi z62), (5, vi 0), (0, .ref 1000000), (1, .ref 0), (2, .ref 236), (3, .ref 259), (4, vi i)]) (nx := 531) (r1 := 0) (r2 := 0) (r3 := 0) rfl rfl ?_
      refine wi_goto (nx := 534) (r1 := 1501) (r2 := 0) (r3 := 0) rfl ?_
      refine wp.lo (lo := [(0, .ref 1000000), (1, .ref 0), (2, .ref 236), (3, .ref 259), (4, vi i)]) ⟨rfl, rfl, rfl, rfl, rfl, trivial⟩ rfl ?_
      have e66 : h61 238 98 = h 238 98 := ((u61 238 98 rfl).trans (u59 238 98 rfl))
      have e67 : h61 238 99 = h 238 99 := ((u61 238 99 rfl).trans (u59 238 99 rfl))
      have e68 : h61 238 100 = h 238 100 := ((u61 238 100 rfl).trans (u59 238 100 rfl))
      have e69 : h61 238 101 = h 238 101 := ((u61 238 101 rfl).trans (u59 238 101 rfl))
      have e70 : h61 238 102 = h 238 102 := ((u61 238 102 rfl).trans (u59 238 102 rfl))
      have e71 : h61 238 106 = h 238 106 := ((u61 238 106 rfl).trans (u59 238 106 rfl))
      have e72 : h61 238 73 = h 238 73 := ((u61 238 73 rfl).trans (u59 238 73 rfl))
      have e73 : h61 238 2 = h 238 2 := ((u61 238 2 rfl).trans (u59 238 2 rfl))
      have e74 : h61 238 119 = h 238 119 := ((u61 238 119 rfl).trans (u59 238 119 rfl))
      have e75 : h61 238 67 = h 238 67 := ((u61 238 67 rfl).trans (u59 238 67 rfl))
      have e76 : h61 238 69 = h 238 69 := ((u61 238 69 rfl).trans (u59 238 69 rfl))
      have e77 : h61 238 5 = h 238 5 := ((u61 238 5 rfl).trans (u59 238 5 rfl))
      have e78 : h61 241 98 = h 241 98 := ((u61 241 98 rfl).trans (u59 241 98 rfl))
      have e79 : h61 241 99 = h 241 99 := ((u61 241 99 rfl).trans (u59 241 99 rfl))
      have e80 : h61 241 100 = h 241 100 := ((u61 241 100 rfl).trans (u59 241 100 rfl))
      have e81 : h61 241 101 = h 241 101 := ((u61 241 101 rfl).trans (u59 241 101 rfl))
      have e82 : h61 241 102 = h 241 102 := ((u61 241 102 rfl).trans (u59 241 102 rfl))
      have e83 : h61 241 106 = h 241 106 := ((u61 241 106 rfl).trans (u59 241 106 rfl))
      have e84 : h61 241 73 = h 241 73 := ((u61 241 73 rfl).trans (u59 241 73 rfl))
      have e85 : h61 241 2 = h 241 2 := ((u61 241 2 rfl).trans (u59 241 2 rfl))
      have e86 : h61 241 119 = h 241 119 := ((u61 241 119 rfl).trans (u59 241 119 rfl))
      have e87 : h61 241 67 = h 241 67 := ((u61 241 67 rfl).trans (u59 241 67 rfl))
      have e88 : h61 241 69 = h 241 69 := ((u61 241 69 rfl).trans (u59 241 69 rfl))
      have e89 : h61 241 5 = h 241 5 := ((u61 241 5 rfl).trans (u59 241 5 rfl))
      have e90 : h61 1 1 = h 1 1 := ((u61 1 1 rfl).trans (u59 1 1 rfl))
      have e91 : h61 236 2 = h 236 2 := ((u61 236 2 rfl).trans (u59 236 2 rfl))
      have e92 : h61 1 2 = h 1 2 := ((u61 1 2 rfl).trans (u59 1 2 rfl))
      have e93 : h61 236 10 = h 236 10 := ((u61 236 10 rfl).trans (u59 236 10 rfl))
      have e94 : h61 1 3 = h 1 3 := ((u61 1 3 rfl).trans (u59 1 3 rfl))
      have e95 : h61 236 11 = h 236 11 := ((u61 236 11 rfl).trans (u59 236 11 rfl))
      have gp96 := GPH.fr u59 rfl gp0
      have gp97 := GPH.fr u61 rfl gp96
      have b98 := gi_b (lo := 0) (hi := 5) g 241 0 rfl
      have b99 := gi_b (lo := 0) (hi := 4) g 241 1 rfl
      have gs100 := GPS.fr u59 rfl gs0
      have gs101 := GPS.fr u61 rfl gs100
      have e102 : h61 0 12 = h 0 12 := ((u61 0 12 rfl).trans (u59 0 12 rfl))
      have e103 : h61 236 21 = h 236 21 := ((u61 236 21 rfl).trans (u59 236 21 rfl))
      have e104 : h61 63 5 = h 63 5 := ((u61 63 5 rfl).trans (u59 63 5 rfl))
      have e105 : h61 18 16 = h 18 16 := ((u61 18 16 rfl).trans (u59 18 16 rfl))
      have e106 : h61 18 7 = h 18 7 := ((u61 18 7 rfl).trans (u59 18 7 rfl))
      have e107 : h61 3 2 = h 3 2 := ((u61 3 2 rfl).trans (u59 3 2 rfl))
      have e108 : h61 66 1 = h 66 1 := ((u61 66 1 rfl).trans (u59 66 1 rfl))
      have b109 := gi_b (lo := 0) (hi := 6) g 73 1 rfl
      have e110 : h61 73 1 = h 73 1 := ((u61 73 1 rfl).trans (u59 73 1 rfl))
      have b111 := gi_b (lo := 0) (hi := 6) g 73 2 rfl
      have e112 : h61 73 2 = h 73 2 := ((u61 73 2 rfl).trans (u59 73 2 rfl))
      have b113 := gi_b (lo := 0) (hi := 6) g 236 22 rfl
      have e114 : h61 236 22 = h 236 22 := ((u61 236 22 rfl).trans (u59 236 22 rfl))
      have b115 := gi_b (lo := 0) (hi := 12) g 210 2 rfl
      have e116 : h61 210 2 = h 210 2 := ((u61 210 2 rfl).trans (u59 210 2 rfl))
      have q119 : h61 8 = h 8 := funext (fun i => ((u61 8 i (fo_no_ok (by decide) i)).trans (u59 8 i rfl)))
      have q120 : h61 7 = h 7 := funext (fun i => ((u61 7 i (fo_no_ok (by decide) i)).trans (u59 7 i rfl)))
      have q121 : h61 19 = h 19 := funext (fun i => ((u61 19 i (fo_no_ok (by decide) i)).trans (u59 19 i rfl)))
      have q122 : h61 67 = h 67 := funext (fun i => ((u61 67 i (fo_no_ok (by decide) i)).trans (u59 67 i rfl)))
      have ml118 : MCL h61 := MCL.mv mi0.1 q119 q120 q121 q122 (by omega) (by omega) (by omega) (by omega)
      have q124 : h61 69 = h 69 := funext (fun i => ((u61 69 i (fo_no_ok (by decide) i)).trans (u59 69 i rfl)))
      have q125 : h61 70 = h 70 := funext (fun i => ((u61 70 i (fo_no_ok (by decide) i)).trans (u59 70 i rfl)))
      have nb123 : NBc (h61 69) (h61 70) := by rw [q124, q125]; exact mi0.2.2
      have q126 : h61 8 = h 8 := funext (fun i => ((u61 8 i (fo_no_ok (by decide) i)).trans (u59 8 i rfl)))
      have q127 : h61 7 = h 7 := funext (fun i => ((u61 7 i (fo_no_ok (by decide) i)).trans (u59 7 i rfl)))
      have mi117 : MCI h61 := ⟨ml118, HIv.mv mi0.2.1 q126 q127 (by omega) (by omega) (sv_seven (P := fun x => ∀ i, h61 (76 + 19 * x) i = h (76 + 19 * x) i) (fun i => ((u61 76 i (fn_a (by decide) fn_0)).trans (u59 76 i (fn_a (by omega) fn_0)))) (fun i => ((u61 95 i (fn_a (by decide) fn_0)).trans (u59 95 i (fn_a (by omega) fn_0)))) (fun i => ((u61 114 i (fn_a (by decide) fn_0)).trans (u59 114 i (fn_a (by omega) fn_0)))) (fun i => ((u61 133 i (fn_a (by decide) fn_0)).trans (u59 133 i (fn_a (by omega) fn_0)))) (fun i => ((u61 152 i (fn_a (by decide) fn_0)).trans (u59 152 i (fn_a (by omega) fn_0)))) (fun i => ((u61 171 i (fn_a (by decide) fn_0)).trans (u59 171 i (fn_a (by omega) fn_0)))) (fun i => ((u61 190 i (fn_a (by decide) fn_0)).trans (u59 190 i (fn_a (by omega) fn_0))))) (by omega) (by omega), nb123⟩
      have gq128 := GQS.fr u59 rfl gq0
      have gq129 := GQS.fr u61 rfl gq128
      have q130 : h61 8 = h 8 := funext (fun i => ((u61 8 i (fo_no_ok (by decide) i)).trans (u59 8 i rfl)))
      have q131 : h61 7 = h 7 := funext (fun i => ((u61 7 i (fo_no_ok (by decide) i)).trans (u59 7 i rfl)))
      have q132 : h61 215 = h 215 := funext (fun i => ((u61 215 i (fo_no_ok (by decide) i)).trans (u59 215 i rfl)))
      have q133 : h61 218 = h 218 := funext (fun i => ((u61 218 i (fo_no_ok (by decide) i)).trans (u59 218 i rfl)))
      have q134 : h61 214 = h 214 := funext (fun i => ((u61 214 i (fo_no_ok (by decide) i)).trans (u59 214 i rfl)))
      have q135 : h61 241 = h 241 := funext (fun i => ((u61 241 i (fo_no_ok (by decide) i)).trans (u59 241 i rfl)))
      exact k h61 b c ⟨⟨g61, (show h61 1 1 = h61 236 2 by omega), (RS.i0 (f := h61 238) (by refine ⟨?_, ?_, ?_, ?_, ?_⟩ <;> omega)), (RS.i0 (f := h61 241) (by refine ⟨?_, ?_, ?_, ?_, ?_⟩ <;> omega)), gp97, (BRh.keep br0 (fun i => ((u61 2 i (fn_a (by decide) fn_0)).trans (u59 2 i (fn_a (by omega) fn_0)))) (fun i => ((u61 237 i (fn_a (by decide) fn_0)).trans (u59 237 i (fn_a (by omega) fn_0)))) (by omega)), (show h61 1 2 = h61 236 10 by omega), (show h61 1 3 = h61 236 11 by omega), (SVx.keep sv0 (by omega) (fun i _ => ((u61 3 i (fn_a (by decide) fn_0)).trans (u59 3 i (fn_a (by omega) fn_0)))) (fun i _ => ((u61 5 i (fn_a (by decide) fn_0)).trans (u59 5 i (fn_a (by omega) fn_0)))) (fun i _ => ((u61 6 i (fn_a (by decide) fn_0)).trans (u59 6 i (fn_a (by omega) fn_0)))) (fun i _ => ((u61 8 i (fn_a (by decide) fn_0)).trans (u59 8 i (fn_a (by omega) fn_0)))) (fun i _ => ((u61 238 i (fn_a (by decide) fn_0)).trans (u59 238 i (fn_a (by omega) fn_0))))), (show h61 0 12 = h61 236 21 by omega), (fun e => (SVx.keep (ss0 (by omega)) (by omega) (fun i _ => ((u61 210 i (fn_a (by decide) fn_0)).trans (u59 210 i (fn_a (by omega) fn_0)))) (fun i _ => ((u61 212 i (fn_a (by decide) fn_0)).trans (u59 212 i (fn_a (by omega) fn_0)))) (fun i _ => ((u61 213 i (fn_a (by decide) fn_0)).trans (u59 213 i (fn_a (by omega) fn_0)))) (fun i _ => ((u61 215 i (fn_a (by decide) fn_0)).trans (u59 215 i (fn_a (by omega) fn_0)))) (fun i _ => ((u61 241 i (fn_a (by decide) fn_0)).trans (u59 241 i (fn_a (by omega) fn_0)))))), gs101, mi117, (show h61 63 5 ≤ h61 18 16 by omega), (show (h61 63 5) < (h61 18 16) ∨ ((h61 18 7) ≤ (h61 3 2) ∧ (h61 66 1) = (h61 3 2) - (h61 18 7)) ∨ ((h61 3 2) < (h61 18 7) ∧ (h61 66 1) = 0) by omega), gq129, (MR.mv mr0 (MSN.then (MSN.refl) (fun i _ => ((u61 238 i (fn_a (by decide) fn_0)).trans (u59 238 i (fn_a (by omega) fn_0))))) (by omega) q130 q131 (by omega)), (fun e => SM.mv (sm0 (by omega)) q132 q133 q134 (by omega) q135)⟩, (by omega)⟩ (by omega) (by omega)
    ·
      exfalso; omega
  ·
    refine wk_h 12 (by decide) rfl ?_
    refine wr_astx (i := 3) (lo2 := [(3, .retAddr 0), (0, .ref 0), (1, vi ((xs i55).toInt)), (2, .ref 259)]) (nx := 13) (r1 := 0) (r2 := 0) (r3 := 0) rfl rfl ?_
    refine wi_iconst (n := 1) (nx := 14) (r1 := 0) (r2 := 0) (r3 := 0) rfl ?_
    refine wi_ireturn (nx := 15) (r1 := 0) (r2 := 0) (r3 := 0) rfl rfl ?_
    refine wk_i ?_
    refine wi_istore (i := 5) (e := 1) (lo2 := [(5, vi 1), (0, .ref 1000000), (1, .ref 0), (2, .ref 236), (3, .ref 259), (4, vi i)]) (nx := 519) (r1 := 0) (r2 := 0) (r3 := 0) rfl rfl ?_
    refine wi_aload_n (i := 2) (x := 236) (nx := 520) (r1 := 0) (r2 := 0) (r3 := 0) rfl rfl ?_
    refine wi_aload_n (i := 0) (x := 1000000) (nx := 521) (r1 := 0) (r2 := 0) (r3 := 0) rfl rfl ?_
    refine wi_iload (i := 4) (e := i) (nx := 523) (r1 := 0) (r2 := 0) (r3 := 0) rfl rfl ?_
    refine wi_iconst (n := 1) (nx := 524) (r1 := 0) (r2 := 0) (r3 := 0) rfl ?_
    refine wr_add (nx := 525) (r1 := 0) (r2 := 0) (r3 := 0) rfl (fun e59 (fe59 : e59 = i + 1) => ?_)
    refine wr_sc (a := e59) (f := i55) (nx := 526) (r1 := 0) (r2 := 0) (r3 := 0) rfl (by omega) (by omega) hL ?_
    refine wr_V (k0 := 236) (rest := []) (as := [.ref 236, vi ((xs i55).toInt)]) (nx := 529) (r1 := 240) (r2 := 1) (r3 := 11) rfl rfl rfl (of_decide_eq_true rfl) rfl rfl (by decide) rfl rfl (of_decide_eq_true rfl) (of_decide_eq_true rfl) ?_
    refine ct_240_236 hcr  g ((xs i55).toInt) (by omega)  (fun h60 z61 g60 u60 (fz61 : 0 ≤ z61 ∧ z61 ≤ 6) (p60_0 : (0 ≤ ((xs i55).toInt) ∧ ((xs i55).toInt) < (h 238 1) ∧ (h60 236 0) = 0) ∨ ((((xs i55).toInt) < 0 ∨ (h 238 1) ≤ ((xs i55).toInt)) ∧ (h60 236 0) = 1)) y60_0 => ?_)
    have b62 := gi_b (lo := 0) (hi := 2) g60 236 0 rfl
    refine wk_i ?_
    rcases p60_0 with p60_0 | p60_0
    ·
      exfalso; omega
    ·
      refine wi_istore (i := 6) (e := z61) (lo2 := [(6, vi z61), (5, vi 1), (0, .ref 1000000), (1, .ref 0), (2, .ref 236), (3, .ref 259), (4, vi i)]) (nx := 531) (r1 := 0) (r2 := 0) (r3 := 0) rfl rfl ?_
      refine wi_goto (nx := 534) (r1 := 1501) (r2 := 0) (r3 := 0) rfl ?_
      refine wp.lo (lo := [(0, .ref 1000000), (1, .ref 0), (2, .ref 236), (3, .ref 259), (4, vi i)]) ⟨rfl, rfl, rfl, rfl, rfl, trivial⟩ rfl ?_
      have e63 : h60 238 98 = h 238 98 := (u60 238 98 rfl)
      have e64 : h60 238 99 = h 238 99 := (u60 238 99 rfl)
      have e65 : h60 238 100 = h 238 100 := (u60 238 100 rfl)
      have e66 : h60 238 101 = h 238 101 := (u60 238 101 rfl)
      have e67 : h60 238 102 = h 238 102 := (u60 238 102 rfl)
      have e68 : h60 238 106 = h 238 106 := (u60 238 106 rfl)
      have e69 : h60 238 73 = h 238 73 := (u60 238 73 rfl)
      have e70 : h60 238 2 = h 238 2 := (u60 238 2 rfl)
      have e71 : h60 238 119 = h 238 119 := (u60 238 119 rfl)
      have e72 : h60 238 67 = h 238 67 := (u60 238 67 rfl)
      have e73 : h60 238 69 = h 238 69 := (u60 238 69 rfl)
      have e74 : h60 238 5 = h 238 5 := (u60 238 5 rfl)
      have e75 : h60 241 98 = h 241 98 := (u60 241 98 rfl)
      have e76 : h60 241 99 = h 241 99 := (u60 241 99 rfl)
      have e77 : h60 241 100 = h 241 100 := (u60 241 100 rfl)
      have e78 : h60 241 101 = h 241 101 := (u60 241 101 rfl)
      have e79 : h60 241 102 = h 241 102 := (u60 241 102 rfl)
      have e80 : h60 241 106 = h 241 106 := (u60 241 106 rfl)
      have e81 : h60 241 73 = h 241 73 := (u60 241 73 rfl)
      have e82 : h60 241 2 = h 241 2 := (u60 241 2 rfl)
      have e83 : h60 241 119 = h 241 119 := (u60 241 119 rfl)
      have e84 : h60 241 67 = h 241 67 := (u60 241 67 rfl)
      have e85 : h60 241 69 = h 241 69 := (u60 241 69 rfl)
      have e86 : h60 241 5 = h 241 5 := (u60 241 5 rfl)
      have e87 : h60 1 1 = h 1 1 := (u60 1 1 rfl)
      have e88 : h60 236 2 = h 236 2 := (u60 236 2 rfl)
      have e89 : h60 1 2 = h 1 2 := (u60 1 2 rfl)
      have e90 : h60 236 10 = h 236 10 := (u60 236 10 rfl)
      have e91 : h60 1 3 = h 1 3 := (u60 1 3 rfl)
      have e92 : h60 236 11 = h 236 11 := (u60 236 11 rfl)
      have gp93 := GPH.fr u60 rfl gp0
      have b94 := gi_b (lo := 0) (hi := 5) g 241 0 rfl
      have b95 := gi_b (lo := 0) (hi := 4) g 241 1 rfl
      have gs96 := GPS.fr u60 rfl gs0
      have e97 : h60 0 12 = h 0 12 := (u60 0 12 rfl)
      have e98 : h60 236 21 = h 236 21 := (u60 236 21 rfl)
      have e99 : h60 63 5 = h 63 5 := (u60 63 5 rfl)
      have e100 : h60 18 16 = h 18 16 := (u60 18 16 rfl)
      have e101 : h60 18 7 = h 18 7 := (u60 18 7 rfl)
      have e102 : h60 3 2 = h 3 2 := (u60 3 2 rfl)
      have e103 : h60 66 1 = h 66 1 := (u60 66 1 rfl)
      have b104 := gi_b (lo := 0) (hi := 6) g 73 1 rfl
      have e105 : h60 73 1 = h 73 1 := (u60 73 1 rfl)
      have b106 := gi_b (lo := 0) (hi := 6) g 73 2 rfl
      have e107 : h60 73 2 = h 73 2 := (u60 73 2 rfl)
      have b108 := gi_b (lo := 0) (hi := 6) g 236 22 rfl
      have e109 : h60 236 22 = h 236 22 := (u60 236 22 rfl)
      have b110 := gi_b (lo := 0) (hi := 12) g 210 2 rfl
      have e111 : h60 210 2 = h 210 2 := (u60 210 2 rfl)
      have q114 : h60 8 = h 8 := funext (fun i => (u60 8 i (fo_no_ok (by decide) i)))
      have q115 : h60 7 = h 7 := funext (fun i => (u60 7 i (fo_no_ok (by decide) i)))
      have q116 : h60 19 = h 19 := funext (fun i => (u60 19 i (fo_no_ok (by decide) i)))
      have q117 : h60 67 = h 67 := funext (fun i => (u60 67 i (fo_no_ok (by decide) i)))
      have ml113 : MCL h60 := MCL.mv mi0.1 q114 q115 q116 q117 (by omega) (by omega) (by omega) (by omega)
      have q119 : h60 69 = h 69 := funext (fun i => (u60 69 i (fo_no_ok (by decide) i)))
      have q120 : h60 70 = h 70 := funext (fun i => (u60 70 i (fo_no_ok (by decide) i)))
      have nb118 : NBc (h60 69) (h60 70) := by rw [q119, q120]; exact mi0.2.2
      have q121 : h60 8 = h 8 := funext (fun i => (u60 8 i (fo_no_ok (by decide) i)))
      have q122 : h60 7 = h 7 := funext (fun i => (u60 7 i (fo_no_ok (by decide) i)))
      have mi112 : MCI h60 := ⟨ml113, HIv.mv mi0.2.1 q121 q122 (by omega) (by omega) (sv_seven (P := fun x => ∀ i, h60 (76 + 19 * x) i = h (76 + 19 * x) i) (fun i => (u60 76 i (fn_a (by decide) fn_0))) (fun i => (u60 95 i (fn_a (by decide) fn_0))) (fun i => (u60 114 i (fn_a (by decide) fn_0))) (fun i => (u60 133 i (fn_a (by decide) fn_0))) (fun i => (u60 152 i (fn_a (by decide) fn_0))) (fun i => (u60 171 i (fn_a (by decide) fn_0))) (fun i => (u60 190 i (fn_a (by decide) fn_0)))) (by omega) (by omega), nb118⟩
      have gq123 := GQS.fr u60 rfl gq0
      have q124 : h60 8 = h 8 := funext (fun i => (u60 8 i (fo_no_ok (by decide) i)))
      have q125 : h60 7 = h 7 := funext (fun i => (u60 7 i (fo_no_ok (by decide) i)))
      have q126 : h60 215 = h 215 := funext (fun i => (u60 215 i (fo_no_ok (by decide) i)))
      have q127 : h60 218 = h 218 := funext (fun i => (u60 218 i (fo_no_ok (by decide) i)))
      have q128 : h60 214 = h 214 := funext (fun i => (u60 214 i (fo_no_ok (by decide) i)))
      have q129 : h60 241 = h 241 := funext (fun i => (u60 241 i (fo_no_ok (by decide) i)))
      exact k h60 (b - 1) (c - 6) ⟨⟨g60, (show h60 1 1 = h60 236 2 by omega), (RS.i0 (f := h60 238) (by refine ⟨?_, ?_, ?_, ?_, ?_⟩ <;> omega)), (RS.i0 (f := h60 241) (by refine ⟨?_, ?_, ?_, ?_, ?_⟩ <;> omega)), gp93, (BRh.keep br0 (fun i => (u60 2 i (fn_a (by decide) fn_0))) (fun i => (u60 237 i (fn_a (by decide) fn_0))) (by omega)), (show h60 1 2 = h60 236 10 by omega), (show h60 1 3 = h60 236 11 by omega), (SVx.keep sv0 (by omega) (fun i _ => (u60 3 i (fn_a (by decide) fn_0))) (fun i _ => (u60 5 i (fn_a (by decide) fn_0))) (fun i _ => (u60 6 i (fn_a (by decide) fn_0))) (fun i _ => (u60 8 i (fn_a (by decide) fn_0))) (fun i _ => (u60 238 i (fn_a (by decide) fn_0)))), (show h60 0 12 = h60 236 21 by omega), (fun e => (SVx.keep (ss0 (by omega)) (by omega) (fun i _ => (u60 210 i (fn_a (by decide) fn_0))) (fun i _ => (u60 212 i (fn_a (by decide) fn_0))) (fun i _ => (u60 213 i (fn_a (by decide) fn_0))) (fun i _ => (u60 215 i (fn_a (by decide) fn_0))) (fun i _ => (u60 241 i (fn_a (by decide) fn_0))))), gs96, mi112, (show h60 63 5 ≤ h60 18 16 by omega), (show (h60 63 5) < (h60 18 16) ∨ ((h60 18 7) ≤ (h60 3 2) ∧ (h60 66 1) = (h60 3 2) - (h60 18 7)) ∨ ((h60 3 2) < (h60 18 7) ∧ (h60 66 1) = 0) by omega), gq123, (MR.mv mr0 (MSN.then (MSN.refl) (fun i _ => (u60 238 i (fn_a (by decide) fn_0)))) (by omega) q124 q125 (by omega)), (fun e => SM.mv (sm0 (by omega)) q126 q127 q128 (by omega) q129)⟩, (by omega)⟩ (by omega) (by omega)
-- the law, case at 534
set_option maxRecDepth 100000 in
set_option maxHeartbeats 100000000 in
theorem lc_534 {L : Nat} {xs : Nat → Int32} {d b c : Nat} {h : hp} {cr : Nat → Nat → Option Nat} {Q : hp_Q} (hcr : CR cr) (hL : L ≤ 3072) (hr : 1 ≤ b ∧ 6 ≤ c) (i : Int) (I : LIm i h) (hi : 0 ≤ i ∧ i + 6 ≤ L) (k : ∀ (h2 : hp) (b2 c2 : Nat), LIm (i + 6) h2 → b ≤ b2 + 1 → c ≤ c2 + 6 → wp (md_xa (L, xs)) (d + 107) 0 (1501, [(0, .ref 1000000), (1, .ref 0), (2, .ref 236), (3, .ref 259), (4, vi i)], [], hp_w h2 cr, b2, c2) Q) : wp (md_xa (L, xs)) (d + 107) 0 (534, [(0, .ref 1000000), (1, .ref 0), (2, .ref 236), (3, .ref 259), (4, vi i)], [], hp_w h cr, b, c) Q := by
  obtain ⟨⟨g, i11, r238, r241, gp0, br0, er2, er3, sv0, sf0, ss0, gs0, mi0, ml1, ml2, gq0, mr0, sm0⟩, ie0⟩ := I
  have r238e := r238.e0
  have r241e := r241.e0
  obtain ⟨⟨se0, se1, se2, se3, se4, se5, se6, se7, se8, se9⟩, -⟩ := id sv0
  have b1 := gi_b (lo := 0) (hi := 5) g 3 0 rfl
  have b2 := gi_b (lo := 0) (hi := 5) g 238 0 rfl
  have b3 := gi_b (lo := 0) (hi := 4) g 3 1 rfl
  have b4 := gi_b (lo := 0) (hi := 4) g 238 1 rfl
  have b5 := gi_b (lo := 0) (hi := 12) g 3 2 rfl
  have b6 := gi_b (lo := 0) (hi := 12) g 238 2 rfl
  have b7 := gi_b (lo := -2147483648) (hi := 2147483647) g 3 3 rfl
  have b8 := gi_b (lo := 0) (hi := 999) g 238 3 rfl
  have b9 := gi_b (lo := -2147483648) (hi := 2147483647) g 3 4 rfl
  have b10 := gi_b (lo := 0) (hi := 999) g 238 4 rfl
  have b11 := gi_b (lo := -2147483648) (hi := 2147483647) g 3 5 rfl
  have b12 := gi_b (lo := 0) (hi := 9) g 238 5 rfl
  have b13 := gi_b (lo := -2147483648) (hi := 2147483647) g 3 6 rfl
  have b14 := gi_b (lo := 0) (hi := 999) g 238 6 rfl
  have b15 := gi_b (lo := -2147483648) (hi := 2147483647) g 3 7 rfl
  have b16 := gi_b (lo := 0) (hi := 3) g 238 7 rfl
  have b17 := gi_b (lo := -2147483648) (hi := 2147483647) g 3 8 rfl
  have b18 := gi_b (lo := 0) (hi := 999) g 238 8 rfl
  have b19 := gi_b (lo := -2147483648) (hi := 2147483647) g 3 9 rfl
  have b20 := gi_b (lo := 0) (hi := 999) g 238 9 rfl
  have b21 := gi_b (lo := -2147483648) (hi := 2147483647) g 63 5 rfl
  have b22 := gi_b (lo := 0) (hi := 12) g 18 7 rfl
  have b23 := gi_b (lo := 0) (hi := 12) g 66 1 rfl
  have b24 := gi_b (lo := 0) (hi := 1) g 0 12 rfl
  have b25 := gi_b (lo := 0) (hi := 1) g 236 21 rfl
  have bl_ := gi_b (lo := 0) (hi := 800) g 1 1 rfl
  have tb0 : BufC (h 2) (h 1 1) h := ⟨fun _ => rfl, rfl, by omega, by omega⟩
  have b26 := gi_b (lo := 0) (hi := 6) g 238 98 rfl
  have b27 := gi_b (lo := 0) (hi := 6) g 238 99 rfl
  have b28 := gi_b (lo := 0) (hi := 6) g 238 100 rfl
  have b29 := gi_b (lo := 0) (hi := 6) g 238 101 rfl
  have b30 := gi_b (lo := 0) (hi := 3) g 238 102 rfl
  have b31 := gi_b (lo := 0) (hi := 12) g 238 106 rfl
  have b32 := gi_b (lo := 0) (hi := 12) g 238 73 rfl
  have b33 := gi_b (lo := 0) (hi := 9999) g 238 119 rfl
  have b34 := gi_b (lo := 0) (hi := 9999) g 238 67 rfl
  have b35 := gi_b (lo := 0) (hi := 9) g 238 69 rfl
  have b36 := gi_b (lo := 0) (hi := 6) g 241 98 rfl
  have b37 := gi_b (lo := 0) (hi := 6) g 241 99 rfl
  have b38 := gi_b (lo := 0) (hi := 6) g 241 100 rfl
  have b39 := gi_b (lo := 0) (hi := 6) g 241 101 rfl
  have b40 := gi_b (lo := 0) (hi := 3) g 241 102 rfl
  have b41 := gi_b (lo := 0) (hi := 12) g 241 106 rfl
  have b42 := gi_b (lo := 0) (hi := 12) g 241 73 rfl
  have b43 := gi_b (lo := 0) (hi := 12) g 241 2 rfl
  have b44 := gi_b (lo := 0) (hi := 9999) g 241 119 rfl
  have b45 := gi_b (lo := 0) (hi := 9999) g 241 67 rfl
  have b46 := gi_b (lo := 0) (hi := 9) g 241 69 rfl
  have b47 := gi_b (lo := 0) (hi := 9) g 241 5 rfl
  have b48 := gi_b (lo := 0) (hi := 800) g 1 1 rfl
  have b49 := gi_b (lo := 0) (hi := 800) g 236 2 rfl
  have b50 := gi_b (lo := -2147483648) (hi := 2147483647) g 1 2 rfl
  have b51 := gi_b (lo := -2147483648) (hi := 2147483647) g 236 10 rfl
  have b52 := gi_b (lo := -2147483648) (hi := 2147483647) g 1 3 rfl
  have b53 := gi_b (lo := -2147483648) (hi := 2147483647) g 236 11 rfl
  refine wi_aload_n (i := 1) (x := 0) (nx := 535) (r1 := 0) (r2 := 0) (r3 := 0) rfl rfl ?_
  refine wi_aload_n (i := 0) (x := 1000000) (nx := 536) (r1 := 0) (r2 := 0) (r3 := 0) rfl rfl ?_
  refine wi_iload (i := 4) (e := i) (nx := 538) (r1 := 0) (r2 := 0) (r3 := 0) rfl rfl ?_
  refine wi_iconst (n := 1) (nx := 539) (r1 := 0) (r2 := 0) (r3 := 0) rfl ?_
  refine wr_add (nx := 540) (r1 := 0) (r2 := 0) (r3 := 0) rfl (fun e54 (fe54 : e54 = i + 1) => ?_)
  obtain ⟨i55, ei55⟩ : ∃ q : Nat, e54 = (q : Int) := ⟨(e54).toNat, by omega⟩
  have s56 := sc_b (xs i55)
  refine wr_sc (a := e54) (f := i55) (nx := 541) (r1 := 0) (r2 := 0) (r3 := 0) rfl (by omega) (by omega) hL ?_
  refine wi_aload_n (i := 3) (x := 259) (nx := 542) (r1 := 0) (r2 := 0) (r3 := 0) rfl rfl ?_
  refine wi_S (rest := []) (as := [.ref 0, vi ((xs i55).toInt), .ref 259]) (nx := 545) (r1 := 8) (r2 := 19) (r3 := 0) rfl rfl rfl (of_decide_eq_true rfl) rfl rfl (of_decide_eq_true rfl) (of_decide_eq_true rfl) ?_
  refine wi_aload_n (i := 2) (x := 259) (nx := 1) (r1 := 0) (r2 := 0) (r3 := 0) rfl rfl ?_
  refine wi_iconst (n := 0) (nx := 2) (r1 := 0) (r2 := 0) (r3 := 0) rfl ?_
  refine wi_aload_n (i := 0) (x := 0) (nx := 3) (r1 := 0) (r2 := 0) (r3 := 0) rfl rfl ?_
  refine wi_iload_n (i := 1) (e := (xs i55).toInt) (nx := 4) (r1 := 0) (r2 := 0) (r3 := 0) rfl rfl ?_
  refine wr_V (k0 := 0) (rest := [vi 0, .ref 259]) (as := [.ref 0, vi ((xs i55).toInt)]) (nx := 7) (r1 := 69) (r2 := 1) (r3 := 0) rfl rfl rfl (of_decide_eq_true rfl) rfl rfl (by decide) rfl rfl (of_decide_eq_true rfl) (of_decide_eq_true rfl) ?_
  refine ct_69_0 hcr hr  g ((xs i55).toInt) (by omega)  (fun z58  (fz58 : -2147483648 ≤ z58 ∧ z58 ≤ 2147483647) (p57_0 : 0 ≤ ((xs i55).toInt) ∧ ((xs i55).toInt) < (h 3 2)) y57_0 => ?_) (fun (pe57_0 : ((xs i55).toInt) < 0 ∨ (h 3 2) ≤ ((xs i55).toInt)) => ?_)
  ·
    refine wk_i ?_
    refine wi_i2l (nx := 8) (r1 := 0) (r2 := 0) (r3 := 0) rfl (by omega) ?_
    refine wr_ls (k0 := 259) (a := 0) (f := 0) (x := z58) (bl := -9223372036854775808) (bh := 9223372036854775807) (nx := 9) (r1 := 0) (r2 := 0) (r3 := 0) rfl (by decide) rfl (by omega) (by omega) (by decide) g rfl (by omega) (fun h59 g59 w59 u59 => ?_)
    refine wi_goto (nx := 12) (r1 := 15) (r2 := 0) (r3 := 0) rfl ?_
    refine wi_iconst (n := 0) (nx := 16) (r1 := 0) (r2 := 0) (r3 := 0) rfl ?_
    refine wi_ireturn (nx := 17) (r1 := 0) (r2 := 0) (r3 := 0) rfl rfl ?_
    refine wk_i ?_
    refine wi_istore (i := 5) (e := 0) (lo2 := [(5, vi 0), (0, .ref 1000000), (1, .ref 0), (2, .ref 236), (3, .ref 259), (4, vi i)]) (nx := 547) (r1 := 0) (r2 := 0) (r3 := 0) rfl rfl ?_
    refine wi_aload_n (i := 2) (x := 236) (nx := 548) (r1 := 0) (r2 := 0) (r3 := 0) rfl rfl ?_
    refine wi_aload_n (i := 0) (x := 1000000) (nx := 549) (r1 := 0) (r2 := 0) (r3 := 0) rfl rfl ?_
    refine wi_iload (i := 4) (e := i) (nx := 551) (r1 := 0) (r2 := 0) (r3 := 0) rfl rfl ?_
    refine wi_iconst (n := 1) (nx := 552) (r1 := 0) (r2 := 0) (r3 := 0) rfl ?_
    refine wr_add (nx := 553) (r1 := 0) (r2 := 0) (r3 := 0) rfl (fun e60 (fe60 : e60 = i + 1) => ?_)
    refine wr_sc (a := e60) (f := i55) (nx := 554) (r1 := 0) (r2 := 0) (r3 := 0) rfl (by omega) (by omega) hL ?_
    refine wr_V (k0 := 236) (rest := []) (as := [.ref 236, vi ((xs i55).toInt)]) (nx := 557) (r1 := 242) (r2 := 1) (r3 := 11) rfl rfl rfl (of_decide_eq_true rfl) rfl rfl (by decide) rfl rfl (of_decide_eq_true rfl) (of_decide_eq_true rfl) ?_
    refine ct_242_236 hcr  g59 ((xs i55).toInt) (by omega)  (fun h61 z62 g61 u61 (fz62 : 0 ≤ z62 ∧ z62 ≤ 999) (p61_0 : (0 ≤ ((xs i55).toInt) ∧ ((xs i55).toInt) < (h59 238 2) ∧ (h61 236 0) = 0) ∨ ((((xs i55).toInt) < 0 ∨ (h59 238 2) ≤ ((xs i55).toInt)) ∧ (h61 236 0) = 1)) y61_0 => ?_)
    have e63 : h59 238 2 = h 238 2 := (u59 238 2 rfl)
    have b64 := gi_b (lo := 0) (hi := 2) g61 236 0 rfl
    refine wk_i ?_
    rcases p61_0 with p61_0 | p61_0
    ·
      have an65 : z58 = z62 := (y57_0.trans (sv0.2.2.2 (((xs i55).toInt)).toNat (by omega))).trans (((y61_0 (by omega) (by omega)).trans (u59 238 ((19 + (((xs i55).toInt)).toNat)) (fn_a (by omega) fn_0)))).symm
      refine wi_istore (i := 6) (e := z62) (lo2 := [(6, vi z62), (5, vi 0), (0, .ref 1000000), (1, .ref 0), (2, .ref 236), (3, .ref 259), (4, vi i)]) (nx := 559) (r1 := 0) (r2 := 0) (r3 := 0) rfl rfl ?_
      refine wi_goto (nx := 562) (r1 := 1501) (r2 := 0) (r3 := 0) rfl ?_
      refine wp.lo (lo := [(0, .ref 1000000), (1, .ref 0), (2, .ref 236), (3, .ref 259), (4, vi i)]) ⟨rfl, rfl, rfl, rfl, rfl, trivial⟩ rfl ?_
      have e66 : h61 238 98 = h 238 98 := ((u61 238 98 rfl).trans (u59 238 98 rfl))
      have e67 : h61 238 99 = h 238 99 := ((u61 238 99 rfl).trans (u59 238 99 rfl))
      have e68 : h61 238 100 = h 238 100 := ((u61 238 100 rfl).trans (u59 238 100 rfl))
      have e69 : h61 238 101 = h 238 101 := ((u61 238 101 rfl).trans (u59 238 101 rfl))
      have e70 : h61 238 102 = h 238 102 := ((u61 238 102 rfl).trans (u59 238 102 rfl))
      have e71 : h61 238 106 = h 238 106 := ((u61 238 106 rfl).trans (u59 238 106 rfl))
      have e72 : h61 238 73 = h 238 73 := ((u61 238 73 rfl).trans (u59 238 73 rfl))
      have e73 : h61 238 2 = h 238 2 := ((u61 238 2 rfl).trans (u59 238 2 rfl))
      have e74 : h61 238 119 = h 238 119 := ((u61 238 119 rfl).trans (u59 238 119 rfl))
      have e75 : h61 238 67 = h 238 67 := ((u61 238 67 rfl).trans (u59 238 67 rfl))
      have e76 : h61 238 69 = h 238 69 := ((u61 238 69 rfl).trans (u59 238 69 rfl))
      have e77 : h61 238 5 = h 238 5 := ((u61 238 5 rfl).trans (u59 238 5 rfl))
      have e78 : h61 241 98 = h 241 98 := ((u61 241 98 rfl).trans (u59 241 98 rfl))
      have e79 : h61 241 99 = h 241 99 := ((u61 241 99 rfl).trans (u59 241 99 rfl))
      have e80 : h61 241 100 = h 241 100 := ((u61 241 100 rfl).trans (u59 241 100 rfl))
      have e81 : h61 241 101 = h 241 101 := ((u61 241 101 rfl).trans (u59 241 101 rfl))
      have e82 : h61 241 102 = h 241 102 := ((u61 241 102 rfl).trans (u59 241 102 rfl))
      have e83 : h61 241 106 = h 241 106 := ((u61 241 106 rfl).trans (u59 241 106 rfl))
      have e84 : h61 241 73 = h 241 73 := ((u61 241 73 rfl).trans (u59 241 73 rfl))
      have e85 : h61 241 2 = h 241 2 := ((u61 241 2 rfl).trans (u59 241 2 rfl))
      have e86 : h61 241 119 = h 241 119 := ((u61 241 119 rfl).trans (u59 241 119 rfl))
      have e87 : h61 241 67 = h 241 67 := ((u61 241 67 rfl).trans (u59 241 67 rfl))
      have e88 : h61 241 69 = h 241 69 := ((u61 241 69 rfl).trans (u59 241 69 rfl))
      have e89 : h61 241 5 = h 241 5 := ((u61 241 5 rfl).trans (u59 241 5 rfl))
      have e90 : h61 1 1 = h 1 1 := ((u61 1 1 rfl).trans (u59 1 1 rfl))
      have e91 : h61 236 2 = h 236 2 := ((u61 236 2 rfl).trans (u59 236 2 rfl))
      have e92 : h61 1 2 = h 1 2 := ((u61 1 2 rfl).trans (u59 1 2 rfl))
      have e93 : h61 236 10 = h 236 10 := ((u61 236 10 rfl).trans (u59 236 10 rfl))
      have e94 : h61 1 3 = h 1 3 := ((u61 1 3 rfl).trans (u59 1 3 rfl))
      have e95 : h61 236 11 = h 236 11 := ((u61 236 11 rfl).trans (u59 236 11 rfl))
      have gp96 := GPH.fr u59 rfl gp0
      have gp97 := GPH.fr u61 rfl gp96
      have b98 := gi_b (lo := 0) (hi := 5) g 241 0 rfl
      have b99 := gi_b (lo := 0) (hi := 4) g 241 1 rfl
      have gs100 := GPS.fr u59 rfl gs0
      have gs101 := GPS.fr u61 rfl gs100
      have e102 : h61 0 12 = h 0 12 := ((u61 0 12 rfl).trans (u59 0 12 rfl))
      have e103 : h61 236 21 = h 236 21 := ((u61 236 21 rfl).trans (u59 236 21 rfl))
      have e104 : h61 63 5 = h 63 5 := ((u61 63 5 rfl).trans (u59 63 5 rfl))
      have e105 : h61 18 16 = h 18 16 := ((u61 18 16 rfl).trans (u59 18 16 rfl))
      have e106 : h61 18 7 = h 18 7 := ((u61 18 7 rfl).trans (u59 18 7 rfl))
      have e107 : h61 3 2 = h 3 2 := ((u61 3 2 rfl).trans (u59 3 2 rfl))
      have e108 : h61 66 1 = h 66 1 := ((u61 66 1 rfl).trans (u59 66 1 rfl))
      have b109 := gi_b (lo := 0) (hi := 6) g 73 1 rfl
      have e110 : h61 73 1 = h 73 1 := ((u61 73 1 rfl).trans (u59 73 1 rfl))
      have b111 := gi_b (lo := 0) (hi := 6) g 73 2 rfl
      have e112 : h61 73 2 = h 73 2 := ((u61 73 2 rfl).trans (u59 73 2 rfl))
      have b113 := gi_b (lo := 0) (hi := 6) g 236 22 rfl
      have e114 : h61 236 22 = h 236 22 := ((u61 236 22 rfl).trans (u59 236 22 rfl))
      have b115 := gi_b (lo := 0) (hi := 12) g 210 2 rfl
      have e116 : h61 210 2 = h 210 2 := ((u61 210 2 rfl).trans (u59 210 2 rfl))
      have q119 : h61 8 = h 8 := funext (fun i => ((u61 8 i (fo_no_ok (by decide) i)).trans (u59 8 i rfl)))
      have q120 : h61 7 = h 7 := funext (fun i => ((u61 7 i (fo_no_ok (by decide) i)).trans (u59 7 i rfl)))
      have q121 : h61 19 = h 19 := funext (fun i => ((u61 19 i (fo_no_ok (by decide) i)).trans (u59 19 i rfl)))
      have q122 : h61 67 = h 67 := funext (fun i => ((u61 67 i (fo_no_ok (by decide) i)).trans (u59 67 i rfl)))
      have ml118 : MCL h61 := MCL.mv mi0.1 q119 q120 q121 q122 (by omega) (by omega) (by omega) (by omega)
      have q124 : h61 69 = h 69 := funext (fun i => ((u61 69 i (fo_no_ok (by decide) i)).trans (u59 69 i rfl)))
      have q125 : h61 70 = h 70 := funext (fun i => ((u61 70 i (fo_no_ok (by decide) i)).trans (u59 70 i rfl)))
      have nb123 : NBc (h61 69) (h61 70) := by rw [q124, q125]; exact mi0.2.2
      have q126 : h61 8 = h 8 := funext (fun i => ((u61 8 i (fo_no_ok (by decide) i)).trans (u59 8 i rfl)))
      have q127 : h61 7 = h 7 := funext (fun i => ((u61 7 i (fo_no_ok (by decide) i)).trans (u59 7 i rfl)))
      have mi117 : MCI h61 := ⟨ml118, HIv.mv mi0.2.1 q126 q127 (by omega) (by omega) (sv_seven (P := fun x => ∀ i, h61 (76 + 19 * x) i = h (76 + 19 * x) i) (fun i => ((u61 76 i (fn_a (by decide) fn_0)).trans (u59 76 i (fn_a (by omega) fn_0)))) (fun i => ((u61 95 i (fn_a (by decide) fn_0)).trans (u59 95 i (fn_a (by omega) fn_0)))) (fun i => ((u61 114 i (fn_a (by decide) fn_0)).trans (u59 114 i (fn_a (by omega) fn_0)))) (fun i => ((u61 133 i (fn_a (by decide) fn_0)).trans (u59 133 i (fn_a (by omega) fn_0)))) (fun i => ((u61 152 i (fn_a (by decide) fn_0)).trans (u59 152 i (fn_a (by omega) fn_0)))) (fun i => ((u61 171 i (fn_a (by decide) fn_0)).trans (u59 171 i (fn_a (by omega) fn_0)))) (fun i => ((u61 190 i (fn_a (by decide) fn_0)).trans (u59 190 i (fn_a (by omega) fn_0))))) (by omega) (by omega), nb123⟩
      have gq128 := GQS.fr u59 rfl gq0
      have gq129 := GQS.fr u61 rfl gq128
      have q130 : h61 8 = h 8 := funext (fun i => ((u61 8 i (fo_no_ok (by decide) i)).trans (u59 8 i rfl)))
      have q131 : h61 7 = h 7 := funext (fun i => ((u61 7 i (fo_no_ok (by decide) i)).trans (u59 7 i rfl)))
      have q132 : h61 215 = h 215 := funext (fun i => ((u61 215 i (fo_no_ok (by decide) i)).trans (u59 215 i rfl)))
      have q133 : h61 218 = h 218 := funext (fun i => ((u61 218 i (fo_no_ok (by decide) i)).trans (u59 218 i rfl)))
      have q134 : h61 214 = h 214 := funext (fun i => ((u61 214 i (fo_no_ok (by decide) i)).trans (u59 214 i rfl)))
      have q135 : h61 241 = h 241 := funext (fun i => ((u61 241 i (fo_no_ok (by decide) i)).trans (u59 241 i rfl)))
      exact k h61 b c ⟨⟨g61, (show h61 1 1 = h61 236 2 by omega), (RS.i0 (f := h61 238) (by refine ⟨?_, ?_, ?_, ?_, ?_⟩ <;> omega)), (RS.i0 (f := h61 241) (by refine ⟨?_, ?_, ?_, ?_, ?_⟩ <;> omega)), gp97, (BRh.keep br0 (fun i => ((u61 2 i (fn_a (by decide) fn_0)).trans (u59 2 i (fn_a (by omega) fn_0)))) (fun i => ((u61 237 i (fn_a (by decide) fn_0)).trans (u59 237 i (fn_a (by omega) fn_0)))) (by omega)), (show h61 1 2 = h61 236 10 by omega), (show h61 1 3 = h61 236 11 by omega), (SVx.keep sv0 (by omega) (fun i _ => ((u61 3 i (fn_a (by decide) fn_0)).trans (u59 3 i (fn_a (by omega) fn_0)))) (fun i _ => ((u61 5 i (fn_a (by decide) fn_0)).trans (u59 5 i (fn_a (by omega) fn_0)))) (fun i _ => ((u61 6 i (fn_a (by decide) fn_0)).trans (u59 6 i (fn_a (by omega) fn_0)))) (fun i _ => ((u61 8 i (fn_a (by decide) fn_0)).trans (u59 8 i (fn_a (by omega) fn_0)))) (fun i _ => ((u61 238 i (fn_a (by decide) fn_0)).trans (u59 238 i (fn_a (by omega) fn_0))))), (show h61 0 12 = h61 236 21 by omega), (fun e => (SVx.keep (ss0 (by omega)) (by omega) (fun i _ => ((u61 210 i (fn_a (by decide) fn_0)).trans (u59 210 i (fn_a (by omega) fn_0)))) (fun i _ => ((u61 212 i (fn_a (by decide) fn_0)).trans (u59 212 i (fn_a (by omega) fn_0)))) (fun i _ => ((u61 213 i (fn_a (by decide) fn_0)).trans (u59 213 i (fn_a (by omega) fn_0)))) (fun i _ => ((u61 215 i (fn_a (by decide) fn_0)).trans (u59 215 i (fn_a (by omega) fn_0)))) (fun i _ => ((u61 241 i (fn_a (by decide) fn_0)).trans (u59 241 i (fn_a (by omega) fn_0)))))), gs101, mi117, (show h61 63 5 ≤ h61 18 16 by omega), (show (h61 63 5) < (h61 18 16) ∨ ((h61 18 7) ≤ (h61 3 2) ∧ (h61 66 1) = (h61 3 2) - (h61 18 7)) ∨ ((h61 3 2) < (h61 18 7) ∧ (h61 66 1) = 0) by omega), gq129, (MR.mv mr0 (MSN.then (MSN.refl) (fun i _ => ((u61 238 i (fn_a (by decide) fn_0)).trans (u59 238 i (fn_a (by omega) fn_0))))) (by omega) q130 q131 (by omega)), (fun e => SM.mv (sm0 (by omega)) q132 q133 q134 (by omega) q135)⟩, (by omega)⟩ (by omega) (by omega)
    ·
      exfalso; omega
  ·
    refine wk_h 12 (by decide) rfl ?_
    refine wr_astx (i := 3) (lo2 := [(3, .retAddr 0), (0, .ref 0), (1, vi ((xs i55).toInt)), (2, .ref 259)]) (nx := 13) (r1 := 0) (r2 := 0) (r3 := 0) rfl rfl ?_
    refine wi_iconst (n := 1) (nx := 14) (r1 := 0) (r2 := 0) (r3 := 0) rfl ?_
    refine wi_ireturn (nx := 15) (r1 := 0) (r2 := 0) (r3 := 0) rfl rfl ?_
    refine wk_i ?_
    refine wi_istore (i := 5) (e := 1) (lo2 := [(5, vi 1), (0, .ref 1000000), (1, .ref 0), (2, .ref 236), (3, .ref 259), (4, vi i)]) (nx := 547) (r1 := 0) (r2 := 0) (r3 := 0) rfl rfl ?_
    refine wi_aload_n (i := 2) (x := 236) (nx := 548) (r1 := 0) (r2 := 0) (r3 := 0) rfl rfl ?_
    refine wi_aload_n (i := 0) (x := 1000000) (nx := 549) (r1 := 0) (r2 := 0) (r3 := 0) rfl rfl ?_
    refine wi_iload (i := 4) (e := i) (nx := 551) (r1 := 0) (r2 := 0) (r3 := 0) rfl rfl ?_
    refine wi_iconst (n := 1) (nx := 552) (r1 := 0) (r2 := 0) (r3 := 0) rfl ?_
    refine wr_add (nx := 553) (r1 := 0) (r2 := 0) (r3 := 0) rfl (fun e59 (fe59 : e59 = i + 1) => ?_)
    refine wr_sc (a := e59) (f := i55) (nx := 554) (r1 := 0) (r2 := 0) (r3 := 0) rfl (by omega) (by omega) hL ?_
    refine wr_V (k0 := 236) (rest := []) (as := [.ref 236, vi ((xs i55).toInt)]) (nx := 557) (r1 := 242) (r2 := 1) (r3 := 11) rfl rfl rfl (of_decide_eq_true rfl) rfl rfl (by decide) rfl rfl (of_decide_eq_true rfl) (of_decide_eq_true rfl) ?_
    refine ct_242_236 hcr  g ((xs i55).toInt) (by omega)  (fun h60 z61 g60 u60 (fz61 : 0 ≤ z61 ∧ z61 ≤ 999) (p60_0 : (0 ≤ ((xs i55).toInt) ∧ ((xs i55).toInt) < (h 238 2) ∧ (h60 236 0) = 0) ∨ ((((xs i55).toInt) < 0 ∨ (h 238 2) ≤ ((xs i55).toInt)) ∧ (h60 236 0) = 1)) y60_0 => ?_)
    have b62 := gi_b (lo := 0) (hi := 2) g60 236 0 rfl
    refine wk_i ?_
    rcases p60_0 with p60_0 | p60_0
    ·
      exfalso; omega
    ·
      refine wi_istore (i := 6) (e := z61) (lo2 := [(6, vi z61), (5, vi 1), (0, .ref 1000000), (1, .ref 0), (2, .ref 236), (3, .ref 259), (4, vi i)]) (nx := 559) (r1 := 0) (r2 := 0) (r3 := 0) rfl rfl ?_
      refine wi_goto (nx := 562) (r1 := 1501) (r2 := 0) (r3 := 0) rfl ?_
      refine wp.lo (lo := [(0, .ref 1000000), (1, .ref 0), (2, .ref 236), (3, .ref 259), (4, vi i)]) ⟨rfl, rfl, rfl, rfl, rfl, trivial⟩ rfl ?_
      have e63 : h60 238 98 = h 238 98 := (u60 238 98 rfl)
      have e64 : h60 238 99 = h 238 99 := (u60 238 99 rfl)
      have e65 : h60 238 100 = h 238 100 := (u60 238 100 rfl)
      have e66 : h60 238 101 = h 238 101 := (u60 238 101 rfl)
      have e67 : h60 238 102 = h 238 102 := (u60 238 102 rfl)
      have e68 : h60 238 106 = h 238 106 := (u60 238 106 rfl)
      have e69 : h60 238 73 = h 238 73 := (u60 238 73 rfl)
      have e70 : h60 238 2 = h 238 2 := (u60 238 2 rfl)
      have e71 : h60 238 119 = h 238 119 := (u60 238 119 rfl)
      have e72 : h60 238 67 = h 238 67 := (u60 238 67 rfl)
      have e73 : h60 238 69 = h 238 69 := (u60 238 69 rfl)
      have e74 : h60 238 5 = h 238 5 := (u60 238 5 rfl)
      have e75 : h60 241 98 = h 241 98 := (u60 241 98 rfl)
      have e76 : h60 241 99 = h 241 99 := (u60 241 99 rfl)
      have e77 : h60 241 100 = h 241 100 := (u60 241 100 rfl)
      have e78 : h60 241 101 = h 241 101 := (u60 241 101 rfl)
      have e79 : h60 241 102 = h 241 102 := (u60 241 102 rfl)
      have e80 : h60 241 106 = h 241 106 := (u60 241 106 rfl)
      have e81 : h60 241 73 = h 241 73 := (u60 241 73 rfl)
      have e82 : h60 241 2 = h 241 2 := (u60 241 2 rfl)
      have e83 : h60 241 119 = h 241 119 := (u60 241 119 rfl)
      have e84 : h60 241 67 = h 241 67 := (u60 241 67 rfl)
      have e85 : h60 241 69 = h 241 69 := (u60 241 69 rfl)
      have e86 : h60 241 5 = h 241 5 := (u60 241 5 rfl)
      have e87 : h60 1 1 = h 1 1 := (u60 1 1 rfl)
      have e88 : h60 236 2 = h 236 2 := (u60 236 2 rfl)
      have e89 : h60 1 2 = h 1 2 := (u60 1 2 rfl)
      have e90 : h60 236 10 = h 236 10 := (u60 236 10 rfl)
      have e91 : h60 1 3 = h 1 3 := (u60 1 3 rfl)
      have e92 : h60 236 11 = h 236 11 := (u60 236 11 rfl)
      have gp93 := GPH.fr u60 rfl gp0
      have b94 := gi_b (lo := 0) (hi := 5) g 241 0 rfl
      have b95 := gi_b (lo := 0) (hi := 4) g 241 1 rfl
      have gs96 := GPS.fr u60 rfl gs0
      have e97 : h60 0 12 = h 0 12 := (u60 0 12 rfl)
      have e98 : h60 236 21 = h 236 21 := (u60 236 21 rfl)
      have e99 : h60 63 5 = h 63 5 := (u60 63 5 rfl)
      have e100 : h60 18 16 = h 18 16 := (u60 18 16 rfl)
      have e101 : h60 18 7 = h 18 7 := (u60 18 7 rfl)
      have e102 : h60 3 2 = h 3 2 := (u60 3 2 rfl)
      have e103 : h60 66 1 = h 66 1 := (u60 66 1 rfl)
      have b104 := gi_b (lo := 0) (hi := 6) g 73 1 rfl
      have e105 : h60 73 1 = h 73 1 := (u60 73 1 rfl)
      have b106 := gi_b (lo := 0) (hi := 6) g 73 2 rfl
      have e107 : h60 73 2 = h 73 2 := (u60 73 2 rfl)
      have b108 := gi_b (lo := 0) (hi := 6) g 236 22 rfl
      have e109 : h60 236 22 = h 236 22 := (u60 236 22 rfl)
      have b110 := gi_b (lo := 0) (hi := 12) g 210 2 rfl
      have e111 : h60 210 2 = h 210 2 := (u60 210 2 rfl)
      have q114 : h60 8 = h 8 := funext (fun i => (u60 8 i (fo_no_ok (by decide) i)))
      have q115 : h60 7 = h 7 := funext (fun i => (u60 7 i (fo_no_ok (by decide) i)))
      have q116 : h60 19 = h 19 := funext (fun i => (u60 19 i (fo_no_ok (by decide) i)))
      have q117 : h60 67 = h 67 := funext (fun i => (u60 67 i (fo_no_ok (by decide) i)))
      have ml113 : MCL h60 := MCL.mv mi0.1 q114 q115 q116 q117 (by omega) (by omega) (by omega) (by omega)
      have q119 : h60 69 = h 69 := funext (fun i => (u60 69 i (fo_no_ok (by decide) i)))
      have q120 : h60 70 = h 70 := funext (fun i => (u60 70 i (fo_no_ok (by decide) i)))
      have nb118 : NBc (h60 69) (h60 70) := by rw [q119, q120]; exact mi0.2.2
      have q121 : h60 8 = h 8 := funext (fun i => (u60 8 i (fo_no_ok (by decide) i)))
      have q122 : h60 7 = h 7 := funext (fun i => (u60 7 i (fo_no_ok (by decide) i)))
      have mi112 : MCI h60 := ⟨ml113, HIv.mv mi0.2.1 q121 q122 (by omega) (by omega) (sv_seven (P := fun x => ∀ i, h60 (76 + 19 * x) i = h (76 + 19 * x) i) (fun i => (u60 76 i (fn_a (by decide) fn_0))) (fun i => (u60 95 i (fn_a (by decide) fn_0))) (fun i => (u60 114 i (fn_a (by decide) fn_0))) (fun i => (u60 133 i (fn_a (by decide) fn_0))) (fun i => (u60 152 i (fn_a (by decide) fn_0))) (fun i => (u60 171 i (fn_a (by decide) fn_0))) (fun i => (u60 190 i (fn_a (by decide) fn_0)))) (by omega) (by omega), nb118⟩
      have gq123 := GQS.fr u60 rfl gq0
      have q124 : h60 8 = h 8 := funext (fun i => (u60 8 i (fo_no_ok (by decide) i)))
      have q125 : h60 7 = h 7 := funext (fun i => (u60 7 i (fo_no_ok (by decide) i)))
      have q126 : h60 215 = h 215 := funext (fun i => (u60 215 i (fo_no_ok (by decide) i)))
      have q127 : h60 218 = h 218 := funext (fun i => (u60 218 i (fo_no_ok (by decide) i)))
      have q128 : h60 214 = h 214 := funext (fun i => (u60 214 i (fo_no_ok (by decide) i)))
      have q129 : h60 241 = h 241 := funext (fun i => (u60 241 i (fo_no_ok (by decide) i)))
      exact k h60 (b - 1) (c - 6) ⟨⟨g60, (show h60 1 1 = h60 236 2 by omega), (RS.i0 (f := h60 238) (by refine ⟨?_, ?_, ?_, ?_, ?_⟩ <;> omega)), (RS.i0 (f := h60 241) (by refine ⟨?_, ?_, ?_, ?_, ?_⟩ <;> omega)), gp93, (BRh.keep br0 (fun i => (u60 2 i (fn_a (by decide) fn_0))) (fun i => (u60 237 i (fn_a (by decide) fn_0))) (by omega)), (show h60 1 2 = h60 236 10 by omega), (show h60 1 3 = h60 236 11 by omega), (SVx.keep sv0 (by omega) (fun i _ => (u60 3 i (fn_a (by decide) fn_0))) (fun i _ => (u60 5 i (fn_a (by decide) fn_0))) (fun i _ => (u60 6 i (fn_a (by decide) fn_0))) (fun i _ => (u60 8 i (fn_a (by decide) fn_0))) (fun i _ => (u60 238 i (fn_a (by decide) fn_0)))), (show h60 0 12 = h60 236 21 by omega), (fun e => (SVx.keep (ss0 (by omega)) (by omega) (fun i _ => (u60 210 i (fn_a (by decide) fn_0))) (fun i _ => (u60 212 i (fn_a (by decide) fn_0))) (fun i _ => (u60 213 i (fn_a (by decide) fn_0))) (fun i _ => (u60 215 i (fn_a (by decide) fn_0))) (fun i _ => (u60 241 i (fn_a (by decide) fn_0))))), gs96, mi112, (show h60 63 5 ≤ h60 18 16 by omega), (show (h60 63 5) < (h60 18 16) ∨ ((h60 18 7) ≤ (h60 3 2) ∧ (h60 66 1) = (h60 3 2) - (h60 18 7)) ∨ ((h60 3 2) < (h60 18 7) ∧ (h60 66 1) = 0) by omega), gq123, (MR.mv mr0 (MSN.then (MSN.refl) (fun i _ => (u60 238 i (fn_a (by decide) fn_0)))) (by omega) q124 q125 (by omega)), (fun e => SM.mv (sm0 (by omega)) q126 q127 q128 (by omega) q129)⟩, (by omega)⟩ (by omega) (by omega)
-- the law, case at 562
set_option maxRecDepth 100000 in
set_option maxHeartbeats 100000000 in
theorem lc_562 {L : Nat} {xs : Nat → Int32} {d b c : Nat} {h : hp} {cr : Nat → Nat → Option Nat} {Q : hp_Q} (hcr : CR cr) (hL : L ≤ 3072) (hr : 1 ≤ b ∧ 6 ≤ c) (i : Int) (I : LIm i h) (hi : 0 ≤ i ∧ i + 6 ≤ L) (k : ∀ (h2 : hp) (b2 c2 : Nat), LIm (i + 6) h2 → b ≤ b2 + 1 → c ≤ c2 + 6 → wp (md_xa (L, xs)) (d + 107) 0 (1501, [(0, .ref 1000000), (1, .ref 0), (2, .ref 236), (3, .ref 259), (4, vi i)], [], hp_w h2 cr, b2, c2) Q) : wp (md_xa (L, xs)) (d + 107) 0 (562, [(0, .ref 1000000), (1, .ref 0), (2, .ref 236), (3, .ref 259), (4, vi i)], [], hp_w h cr, b, c) Q := by
  obtain ⟨⟨g, i11, r238, r241, gp0, br0, er2, er3, sv0, sf0, ss0, gs0, mi0, ml1, ml2, gq0, mr0, sm0⟩, ie0⟩ := I
  have r238e := r238.e0
  have r241e := r241.e0
  obtain ⟨⟨se0, se1, se2, se3, se4, se5, se6, se7, se8, se9⟩, -⟩ := id sv0
  have b1 := gi_b (lo := 0) (hi := 5) g 3 0 rfl
  have b2 := gi_b (lo := 0) (hi := 5) g 238 0 rfl
  have b3 := gi_b (lo := 0) (hi := 4) g 3 1 rfl
  have b4 := gi_b (lo := 0) (hi := 4) g 238 1 rfl
  have b5 := gi_b (lo := 0) (hi := 12) g 3 2 rfl
  have b6 := gi_b (lo := 0) (hi := 12) g 238 2 rfl
  have b7 := gi_b (lo := -2147483648) (hi := 2147483647) g 3 3 rfl
  have b8 := gi_b (lo := 0) (hi := 999) g 238 3 rfl
  have b9 := gi_b (lo := -2147483648) (hi := 2147483647) g 3 4 rfl
  have b10 := gi_b (lo := 0) (hi := 999) g 238 4 rfl
  have b11 := gi_b (lo := -2147483648) (hi := 2147483647) g 3 5 rfl
  have b12 := gi_b (lo := 0) (hi := 9) g 238 5 rfl
  have b13 := gi_b (lo := -2147483648) (hi := 2147483647) g 3 6 rfl
  have b14 := gi_b (lo := 0) (hi := 999) g 238 6 rfl
  have b15 := gi_b (lo := -2147483648) (hi := 2147483647) g 3 7 rfl
  have b16 := gi_b (lo := 0) (hi := 3) g 238 7 rfl
  have b17 := gi_b (lo := -2147483648) (hi := 2147483647) g 3 8 rfl
  have b18 := gi_b (lo := 0) (hi := 999) g 238 8 rfl
  have b19 := gi_b (lo := -2147483648) (hi := 2147483647) g 3 9 rfl
  have b20 := gi_b (lo := 0) (hi := 999) g 238 9 rfl
  have b21 := gi_b (lo := -2147483648) (hi := 2147483647) g 63 5 rfl
  have b22 := gi_b (lo := 0) (hi := 12) g 18 7 rfl
  have b23 := gi_b (lo := 0) (hi := 12) g 66 1 rfl
  have b24 := gi_b (lo := 0) (hi := 1) g 0 12 rfl
  have b25 := gi_b (lo := 0) (hi := 1) g 236 21 rfl
  have bl_ := gi_b (lo := 0) (hi := 800) g 1 1 rfl
  have tb0 : BufC (h 2) (h 1 1) h := ⟨fun _ => rfl, rfl, by omega, by omega⟩
  have b26 := gi_b (lo := 0) (hi := 6) g 238 98 rfl
  have b27 := gi_b (lo := 0) (hi := 6) g 238 99 rfl
  have b28 := gi_b (lo := 0) (hi := 6) g 238 100 rfl
  have b29 := gi_b (lo := 0) (hi := 6) g 238 101 rfl
  have b30 := gi_b (lo := 0) (hi := 3) g 238 102 rfl
  have b31 := gi_b (lo := 0) (hi := 12) g 238 106 rfl
  have b32 := gi_b (lo := 0) (hi := 12) g 238 73 rfl
  have b33 := gi_b (lo := 0) (hi := 9999) g 238 119 rfl
  have b34 := gi_b (lo := 0) (hi := 9999) g 238 67 rfl
  have b35 := gi_b (lo := 0) (hi := 9) g 238 69 rfl
  have b36 := gi_b (lo := 0) (hi := 6) g 241 98 rfl
  have b37 := gi_b (lo := 0) (hi := 6) g 241 99 rfl
  have b38 := gi_b (lo := 0) (hi := 6) g 241 100 rfl
  have b39 := gi_b (lo := 0) (hi := 6) g 241 101 rfl
  have b40 := gi_b (lo := 0) (hi := 3) g 241 102 rfl
  have b41 := gi_b (lo := 0) (hi := 12) g 241 106 rfl
  have b42 := gi_b (lo := 0) (hi := 12) g 241 73 rfl
  have b43 := gi_b (lo := 0) (hi := 12) g 241 2 rfl
  have b44 := gi_b (lo := 0) (hi := 9999) g 241 119 rfl
  have b45 := gi_b (lo := 0) (hi := 9999) g 241 67 rfl
  have b46 := gi_b (lo := 0) (hi := 9) g 241 69 rfl
  have b47 := gi_b (lo := 0) (hi := 9) g 241 5 rfl
  have b48 := gi_b (lo := 0) (hi := 800) g 1 1 rfl
  have b49 := gi_b (lo := 0) (hi := 800) g 236 2 rfl
  have b50 := gi_b (lo := -2147483648) (hi := 2147483647) g 1 2 rfl
  have b51 := gi_b (lo := -2147483648) (hi := 2147483647) g 236 10 rfl
  have b52 := gi_b (lo := -2147483648) (hi := 2147483647) g 1 3 rfl
  have b53 := gi_b (lo := -2147483648) (hi := 2147483647) g 236 11 rfl
  refine wi_aload_n (i := 1) (x := 0) (nx := 563) (r1 := 0) (r2 := 0) (r3 := 0) rfl rfl ?_
  refine wi_aload_n (i := 0) (x := 1000000) (nx := 564) (r1 := 0) (r2 := 0) (r3 := 0) rfl rfl ?_
  refine wi_iload (i := 4) (e := i) (nx := 566) (r1 := 0) (r2 := 0) (r3 := 0) rfl rfl ?_
  refine wi_iconst (n := 1) (nx := 567) (r1 := 0) (r2 := 0) (r3 := 0) rfl ?_
  refine wr_add (nx := 568) (r1 := 0) (r2 := 0) (r3 := 0) rfl (fun e54 (fe54 : e54 = i + 1) => ?_)
  obtain ⟨i55, ei55⟩ : ∃ q : Nat, e54 = (q : Int) := ⟨(e54).toNat, by omega⟩
  have s56 := sc_b (xs i55)
  refine wr_sc (a := e54) (f := i55) (nx := 569) (r1 := 0) (r2 := 0) (r3 := 0) rfl (by omega) (by omega) hL ?_
  refine wi_aload_n (i := 3) (x := 259) (nx := 570) (r1 := 0) (r2 := 0) (r3 := 0) rfl rfl ?_
  refine wi_S (rest := []) (as := [.ref 0, vi ((xs i55).toInt), .ref 259]) (nx := 573) (r1 := 9) (r2 := 19) (r3 := 0) rfl rfl rfl (of_decide_eq_true rfl) rfl rfl (of_decide_eq_true rfl) (of_decide_eq_true rfl) ?_
  refine wi_aload_n (i := 2) (x := 259) (nx := 1) (r1 := 0) (r2 := 0) (r3 := 0) rfl rfl ?_
  refine wi_iconst (n := 0) (nx := 2) (r1 := 0) (r2 := 0) (r3 := 0) rfl ?_
  refine wi_aload_n (i := 0) (x := 0) (nx := 3) (r1 := 0) (r2 := 0) (r3 := 0) rfl rfl ?_
  refine wi_iload_n (i := 1) (e := (xs i55).toInt) (nx := 4) (r1 := 0) (r2 := 0) (r3 := 0) rfl rfl ?_
  refine wr_V (k0 := 0) (rest := [vi 0, .ref 259]) (as := [.ref 0, vi ((xs i55).toInt)]) (nx := 7) (r1 := 71) (r2 := 1) (r3 := 0) rfl rfl rfl (of_decide_eq_true rfl) rfl rfl (by decide) rfl rfl (of_decide_eq_true rfl) (of_decide_eq_true rfl) ?_
  refine ct_71_0 hcr hr  g ((xs i55).toInt) (by omega)  (fun z58  (fz58 : -2147483648 ≤ z58 ∧ z58 ≤ 2147483647) => ?_) ?_
  ·
    refine wk_i ?_
    refine wi_i2l (nx := 8) (r1 := 0) (r2 := 0) (r3 := 0) rfl (by omega) ?_
    refine wr_ls (k0 := 259) (a := 0) (f := 0) (x := z58) (bl := -9223372036854775808) (bh := 9223372036854775807) (nx := 9) (r1 := 0) (r2 := 0) (r3 := 0) rfl (by decide) rfl (by omega) (by omega) (by decide) g rfl (by omega) (fun h59 g59 w59 u59 => ?_)
    refine wi_goto (nx := 12) (r1 := 15) (r2 := 0) (r3 := 0) rfl ?_
    refine wi_iconst (n := 0) (nx := 16) (r1 := 0) (r2 := 0) (r3 := 0) rfl ?_
    refine wi_ireturn (nx := 17) (r1 := 0) (r2 := 0) (r3 := 0) rfl rfl ?_
    refine wk_i ?_
    refine wi_istore (i := 5) (e := 0) (lo2 := [(5, vi 0), (0, .ref 1000000), (1, .ref 0), (2, .ref 236), (3, .ref 259), (4, vi i)]) (nx := 575) (r1 := 0) (r2 := 0) (r3 := 0) rfl rfl ?_
    refine wi_aload_n (i := 2) (x := 236) (nx := 576) (r1 := 0) (r2 := 0) (r3 := 0) rfl rfl ?_
    refine wi_aload_n (i := 0) (x := 1000000) (nx := 577) (r1 := 0) (r2 := 0) (r3 := 0) rfl rfl ?_
    refine wi_iload (i := 4) (e := i) (nx := 579) (r1 := 0) (r2 := 0) (r3 := 0) rfl rfl ?_
    refine wi_iconst (n := 1) (nx := 580) (r1 := 0) (r2 := 0) (r3 := 0) rfl ?_
    refine wr_add (nx := 581) (r1 := 0) (r2 := 0) (r3 := 0) rfl (fun e60 (fe60 : e60 = i + 1) => ?_)
    refine wr_sc (a := e60) (f := i55) (nx := 582) (r1 := 0) (r2 := 0) (r3 := 0) rfl (by omega) (by omega) hL ?_
    refine wr_V (k0 := 236) (rest := []) (as := [.ref 236, vi ((xs i55).toInt)]) (nx := 585) (r1 := 244) (r2 := 1) (r3 := 11) rfl rfl rfl (of_decide_eq_true rfl) rfl rfl (by decide) rfl rfl (of_decide_eq_true rfl) (of_decide_eq_true rfl) ?_
    refine ct_244_236 hcr  g59 ((xs i55).toInt) (by omega)  (fun h61 z62 g61 u61 (fz62 : 0 ≤ z62 ∧ z62 ≤ 4) => ?_)
    refine wk_i ?_
    refine wi_istore (i := 6) (e := z62) (lo2 := [(6, vi z62), (5, vi 0), (0, .ref 1000000), (1, .ref 0), (2, .ref 236), (3, .ref 259), (4, vi i)]) (nx := 587) (r1 := 0) (r2 := 0) (r3 := 0) rfl rfl ?_
    refine wi_goto (nx := 590) (r1 := 1501) (r2 := 0) (r3 := 0) rfl ?_
    refine wp.lo (lo := [(0, .ref 1000000), (1, .ref 0), (2, .ref 236), (3, .ref 259), (4, vi i)]) ⟨rfl, rfl, rfl, rfl, rfl, trivial⟩ rfl ?_
    have e63 : h61 238 98 = h 238 98 := ((u61 238 98 rfl).trans (u59 238 98 rfl))
    have e64 : h61 238 99 = h 238 99 := ((u61 238 99 rfl).trans (u59 238 99 rfl))
    have e65 : h61 238 100 = h 238 100 := ((u61 238 100 rfl).trans (u59 238 100 rfl))
    have e66 : h61 238 101 = h 238 101 := ((u61 238 101 rfl).trans (u59 238 101 rfl))
    have e67 : h61 238 102 = h 238 102 := ((u61 238 102 rfl).trans (u59 238 102 rfl))
    have e68 : h61 238 106 = h 238 106 := ((u61 238 106 rfl).trans (u59 238 106 rfl))
    have e69 : h61 238 73 = h 238 73 := ((u61 238 73 rfl).trans (u59 238 73 rfl))
    have e70 : h61 238 2 = h 238 2 := ((u61 238 2 rfl).trans (u59 238 2 rfl))
    have e71 : h61 238 119 = h 238 119 := ((u61 238 119 rfl).trans (u59 238 119 rfl))
    have e72 : h61 238 67 = h 238 67 := ((u61 238 67 rfl).trans (u59 238 67 rfl))
    have e73 : h61 238 69 = h 238 69 := ((u61 238 69 rfl).trans (u59 238 69 rfl))
    have e74 : h61 238 5 = h 238 5 := ((u61 238 5 rfl).trans (u59 238 5 rfl))
    have e75 : h61 241 98 = h 241 98 := ((u61 241 98 rfl).trans (u59 241 98 rfl))
    have e76 : h61 241 99 = h 241 99 := ((u61 241 99 rfl).trans (u59 241 99 rfl))
    have e77 : h61 241 100 = h 241 100 := ((u61 241 100 rfl).trans (u59 241 100 rfl))
    have e78 : h61 241 101 = h 241 101 := ((u61 241 101 rfl).trans (u59 241 101 rfl))
    have e79 : h61 241 102 = h 241 102 := ((u61 241 102 rfl).trans (u59 241 102 rfl))
    have e80 : h61 241 106 = h 241 106 := ((u61 241 106 rfl).trans (u59 241 106 rfl))
    have e81 : h61 241 73 = h 241 73 := ((u61 241 73 rfl).trans (u59 241 73 rfl))
    have e82 : h61 241 2 = h 241 2 := ((u61 241 2 rfl).trans (u59 241 2 rfl))
    have e83 : h61 241 119 = h 241 119 := ((u61 241 119 rfl).trans (u59 241 119 rfl))
    have e84 : h61 241 67 = h 241 67 := ((u61 241 67 rfl).trans (u59 241 67 rfl))
    have e85 : h61 241 69 = h 241 69 := ((u61 241 69 rfl).trans (u59 241 69 rfl))
    have e86 : h61 241 5 = h 241 5 := ((u61 241 5 rfl).trans (u59 241 5 rfl))
    have e87 : h61 1 1 = h 1 1 := ((u61 1 1 rfl).trans (u59 1 1 rfl))
    have e88 : h61 236 2 = h 236 2 := ((u61 236 2 rfl).trans (u59 236 2 rfl))
    have e89 : h61 1 2 = h 1 2 := ((u61 1 2 rfl).trans (u59 1 2 rfl))
    have e90 : h61 236 10 = h 236 10 := ((u61 236 10 rfl).trans (u59 236 10 rfl))
    have e91 : h61 1 3 = h 1 3 := ((u61 1 3 rfl).trans (u59 1 3 rfl))
    have e92 : h61 236 11 = h 236 11 := ((u61 236 11 rfl).trans (u59 236 11 rfl))
    have gp93 := GPH.fr u59 rfl gp0
    have gp94 := GPH.fr u61 rfl gp93
    have b95 := gi_b (lo := 0) (hi := 5) g 241 0 rfl
    have b96 := gi_b (lo := 0) (hi := 4) g 241 1 rfl
    have gs97 := GPS.fr u59 rfl gs0
    have gs98 := GPS.fr u61 rfl gs97
    have e99 : h61 0 12 = h 0 12 := ((u61 0 12 rfl).trans (u59 0 12 rfl))
    have e100 : h61 236 21 = h 236 21 := ((u61 236 21 rfl).trans (u59 236 21 rfl))
    have e101 : h61 63 5 = h 63 5 := ((u61 63 5 rfl).trans (u59 63 5 rfl))
    have e102 : h61 18 16 = h 18 16 := ((u61 18 16 rfl).trans (u59 18 16 rfl))
    have e103 : h61 18 7 = h 18 7 := ((u61 18 7 rfl).trans (u59 18 7 rfl))
    have e104 : h61 3 2 = h 3 2 := ((u61 3 2 rfl).trans (u59 3 2 rfl))
    have e105 : h61 66 1 = h 66 1 := ((u61 66 1 rfl).trans (u59 66 1 rfl))
    have b106 := gi_b (lo := 0) (hi := 6) g 73 1 rfl
    have e107 : h61 73 1 = h 73 1 := ((u61 73 1 rfl).trans (u59 73 1 rfl))
    have b108 := gi_b (lo := 0) (hi := 6) g 73 2 rfl
    have e109 : h61 73 2 = h 73 2 := ((u61 73 2 rfl).trans (u59 73 2 rfl))
    have b110 := gi_b (lo := 0) (hi := 6) g 236 22 rfl
    have e111 : h61 236 22 = h 236 22 := ((u61 236 22 rfl).trans (u59 236 22 rfl))
    have b112 := gi_b (lo := 0) (hi := 12) g 210 2 rfl
    have e113 : h61 210 2 = h 210 2 := ((u61 210 2 rfl).trans (u59 210 2 rfl))
    have q116 : h61 8 = h 8 := funext (fun i => ((u61 8 i (fo_no_ok (by decide) i)).trans (u59 8 i rfl)))
    have q117 : h61 7 = h 7 := funext (fun i => ((u61 7 i (fo_no_ok (by decide) i)).trans (u59 7 i rfl)))
    have q118 : h61 19 = h 19 := funext (fun i => ((u61 19 i (fo_no_ok (by decide) i)).trans (u59 19 i rfl)))
    have q119 : h61 67 = h 67 := funext (fun i => ((u61 67 i (fo_no_ok (by decide) i)).trans (u59 67 i rfl)))
    have ml115 : MCL h61 := MCL.mv mi0.1 q116 q117 q118 q119 (by omega) (by omega) (by omega) (by omega)
    have q121 : h61 69 = h 69 := funext (fun i => ((u61 69 i (fo_no_ok (by decide) i)).trans (u59 69 i rfl)))
    have q122 : h61 70 = h 70 := funext (fun i => ((u61 70 i (fo_no_ok (by decide) i)).trans (u59 70 i rfl)))
    have nb120 : NBc (h61 69) (h61 70) := by rw [q121, q122]; exact mi0.2.2
    have q123 : h61 8 = h 8 := funext (fun i => ((u61 8 i (fo_no_ok (by decide) i)).trans (u59 8 i rfl)))
    have q124 : h61 7 = h 7 := funext (fun i => ((u61 7 i (fo_no_ok (by decide) i)).trans (u59 7 i rfl)))
    have mi114 : MCI h61 := ⟨ml115, HIv.mv mi0.2.1 q123 q124 (by omega) (by omega) (sv_seven (P := fun x => ∀ i, h61 (76 + 19 * x) i = h (76 + 19 * x) i) (fun i => ((u61 76 i (fn_a (by decide) fn_0)).trans (u59 76 i (fn_a (by omega) fn_0)))) (fun i => ((u61 95 i (fn_a (by decide) fn_0)).trans (u59 95 i (fn_a (by omega) fn_0)))) (fun i => ((u61 114 i (fn_a (by decide) fn_0)).trans (u59 114 i (fn_a (by omega) fn_0)))) (fun i => ((u61 133 i (fn_a (by decide) fn_0)).trans (u59 133 i (fn_a (by omega) fn_0)))) (fun i => ((u61 152 i (fn_a (by decide) fn_0)).trans (u59 152 i (fn_a (by omega) fn_0)))) (fun i => ((u61 171 i (fn_a (by decide) fn_0)).trans (u59 171 i (fn_a (by omega) fn_0)))) (fun i => ((u61 190 i (fn_a (by decide) fn_0)).trans (u59 190 i (fn_a (by omega) fn_0))))) (by omega) (by omega), nb120⟩
    have gq125 := GQS.fr u59 rfl gq0
    have gq126 := GQS.fr u61 rfl gq125
    have q127 : h61 8 = h 8 := funext (fun i => ((u61 8 i (fo_no_ok (by decide) i)).trans (u59 8 i rfl)))
    have q128 : h61 7 = h 7 := funext (fun i => ((u61 7 i (fo_no_ok (by decide) i)).trans (u59 7 i rfl)))
    have q129 : h61 215 = h 215 := funext (fun i => ((u61 215 i (fo_no_ok (by decide) i)).trans (u59 215 i rfl)))
    have q130 : h61 218 = h 218 := funext (fun i => ((u61 218 i (fo_no_ok (by decide) i)).trans (u59 218 i rfl)))
    have q131 : h61 214 = h 214 := funext (fun i => ((u61 214 i (fo_no_ok (by decide) i)).trans (u59 214 i rfl)))
    have q132 : h61 241 = h 241 := funext (fun i => ((u61 241 i (fo_no_ok (by decide) i)).trans (u59 241 i rfl)))
    exact k h61 b c ⟨⟨g61, (show h61 1 1 = h61 236 2 by omega), (RS.i0 (f := h61 238) (by refine ⟨?_, ?_, ?_, ?_, ?_⟩ <;> omega)), (RS.i0 (f := h61 241) (by refine ⟨?_, ?_, ?_, ?_, ?_⟩ <;> omega)), gp94, (BRh.keep br0 (fun i => ((u61 2 i (fn_a (by decide) fn_0)).trans (u59 2 i (fn_a (by omega) fn_0)))) (fun i => ((u61 237 i (fn_a (by decide) fn_0)).trans (u59 237 i (fn_a (by omega) fn_0)))) (by omega)), (show h61 1 2 = h61 236 10 by omega), (show h61 1 3 = h61 236 11 by omega), (SVx.keep sv0 (by omega) (fun i _ => ((u61 3 i (fn_a (by decide) fn_0)).trans (u59 3 i (fn_a (by omega) fn_0)))) (fun i _ => ((u61 5 i (fn_a (by decide) fn_0)).trans (u59 5 i (fn_a (by omega) fn_0)))) (fun i _ => ((u61 6 i (fn_a (by decide) fn_0)).trans (u59 6 i (fn_a (by omega) fn_0)))) (fun i _ => ((u61 8 i (fn_a (by decide) fn_0)).trans (u59 8 i (fn_a (by omega) fn_0)))) (fun i _ => ((u61 238 i (fn_a (by decide) fn_0)).trans (u59 238 i (fn_a (by omega) fn_0))))), (show h61 0 12 = h61 236 21 by omega), (fun e => (SVx.keep (ss0 (by omega)) (by omega) (fun i _ => ((u61 210 i (fn_a (by decide) fn_0)).trans (u59 210 i (fn_a (by omega) fn_0)))) (fun i _ => ((u61 212 i (fn_a (by decide) fn_0)).trans (u59 212 i (fn_a (by omega) fn_0)))) (fun i _ => ((u61 213 i (fn_a (by decide) fn_0)).trans (u59 213 i (fn_a (by omega) fn_0)))) (fun i _ => ((u61 215 i (fn_a (by decide) fn_0)).trans (u59 215 i (fn_a (by omega) fn_0)))) (fun i _ => ((u61 241 i (fn_a (by decide) fn_0)).trans (u59 241 i (fn_a (by omega) fn_0)))))), gs98, mi114, (show h61 63 5 ≤ h61 18 16 by omega), (show (h61 63 5) < (h61 18 16) ∨ ((h61 18 7) ≤ (h61 3 2) ∧ (h61 66 1) = (h61 3 2) - (h61 18 7)) ∨ ((h61 3 2) < (h61 18 7) ∧ (h61 66 1) = 0) by omega), gq126, (MR.mv mr0 (MSN.then (MSN.refl) (fun i _ => ((u61 238 i (fn_a (by decide) fn_0)).trans (u59 238 i (fn_a (by omega) fn_0))))) (by omega) q127 q128 (by omega)), (fun e => SM.mv (sm0 (by omega)) q129 q130 q131 (by omega) q132)⟩, (by omega)⟩ (by omega) (by omega)
  ·
    refine wk_h 12 (by decide) rfl ?_
    refine wr_astx (i := 3) (lo2 := [(3, .retAddr 0), (0, .ref 0), (1, vi ((xs i55).toInt)), (2, .ref 259)]) (nx := 13) (r1 := 0) (r2 := 0) (r3 := 0) rfl rfl ?_
    refine wi_iconst (n := 1) (nx := 14) (r1 := 0) (r2 := 0) (r3 := 0) rfl ?_
    refine wi_ireturn (nx := 15) (r1 := 0) (r2 := 0) (r3 := 0) rfl rfl ?_
    refine wk_i ?_
    refine wi_istore (i := 5) (e := 1) (lo2 := [(5, vi 1), (0, .ref 1000000), (1, .ref 0), (2, .ref 236), (3, .ref 259), (4, vi i)]) (nx := 575) (r1 := 0) (r2 := 0) (r3 := 0) rfl rfl ?_
    refine wi_aload_n (i := 2) (x := 236) (nx := 576) (r1 := 0) (r2 := 0) (r3 := 0) rfl rfl ?_
    refine wi_aload_n (i := 0) (x := 1000000) (nx := 577) (r1 := 0) (r2 := 0) (r3 := 0) rfl rfl ?_
    refine wi_iload (i := 4) (e := i) (nx := 579) (r1 := 0) (r2 := 0) (r3 := 0) rfl rfl ?_
    refine wi_iconst (n := 1) (nx := 580) (r1 := 0) (r2 := 0) (r3 := 0) rfl ?_
    refine wr_add (nx := 581) (r1 := 0) (r2 := 0) (r3 := 0) rfl (fun e59 (fe59 : e59 = i + 1) => ?_)
    refine wr_sc (a := e59) (f := i55) (nx := 582) (r1 := 0) (r2 := 0) (r3 := 0) rfl (by omega) (by omega) hL ?_
    refine wr_V (k0 := 236) (rest := []) (as := [.ref 236, vi ((xs i55).toInt)]) (nx := 585) (r1 := 244) (r2 := 1) (r3 := 11) rfl rfl rfl (of_decide_eq_true rfl) rfl rfl (by decide) rfl rfl (of_decide_eq_true rfl) (of_decide_eq_true rfl) ?_
    refine ct_244_236 hcr  g ((xs i55).toInt) (by omega)  (fun h60 z61 g60 u60 (fz61 : 0 ≤ z61 ∧ z61 ≤ 4) => ?_)
    refine wk_i ?_
    refine wi_istore (i := 6) (e := z61) (lo2 := [(6, vi z61), (5, vi 1), (0, .ref 1000000), (1, .ref 0), (2, .ref 236), (3, .ref 259), (4, vi i)]) (nx := 587) (r1 := 0) (r2 := 0) (r3 := 0) rfl rfl ?_
    refine wi_goto (nx := 590) (r1 := 1501) (r2 := 0) (r3 := 0) rfl ?_
    refine wp.lo (lo := [(0, .ref 1000000), (1, .ref 0), (2, .ref 236), (3, .ref 259), (4, vi i)]) ⟨rfl, rfl, rfl, rfl, rfl, trivial⟩ rfl ?_
    have e62 : h60 238 98 = h 238 98 := (u60 238 98 rfl)
    have e63 : h60 238 99 = h 238 99 := (u60 238 99 rfl)
    have e64 : h60 238 100 = h 238 100 := (u60 238 100 rfl)
    have e65 : h60 238 101 = h 238 101 := (u60 238 101 rfl)
    have e66 : h60 238 102 = h 238 102 := (u60 238 102 rfl)
    have e67 : h60 238 106 = h 238 106 := (u60 238 106 rfl)
    have e68 : h60 238 73 = h 238 73 := (u60 238 73 rfl)
    have e69 : h60 238 2 = h 238 2 := (u60 238 2 rfl)
    have e70 : h60 238 119 = h 238 119 := (u60 238 119 rfl)
    have e71 : h60 238 67 = h 238 67 := (u60 238 67 rfl)
    have e72 : h60 238 69 = h 238 69 := (u60 238 69 rfl)
    have e73 : h60 238 5 = h 238 5 := (u60 238 5 rfl)
    have e74 : h60 241 98 = h 241 98 := (u60 241 98 rfl)
    have e75 : h60 241 99 = h 241 99 := (u60 241 99 rfl)
    have e76 : h60 241 100 = h 241 100 := (u60 241 100 rfl)
    have e77 : h60 241 101 = h 241 101 := (u60 241 101 rfl)
    have e78 : h60 241 102 = h 241 102 := (u60 241 102 rfl)
    have e79 : h60 241 106 = h 241 106 := (u60 241 106 rfl)
    have e80 : h60 241 73 = h 241 73 := (u60 241 73 rfl)
    have e81 : h60 241 2 = h 241 2 := (u60 241 2 rfl)
    have e82 : h60 241 119 = h 241 119 := (u60 241 119 rfl)
    have e83 : h60 241 67 = h 241 67 := (u60 241 67 rfl)
    have e84 : h60 241 69 = h 241 69 := (u60 241 69 rfl)
    have e85 : h60 241 5 = h 241 5 := (u60 241 5 rfl)
    have e86 : h60 1 1 = h 1 1 := (u60 1 1 rfl)
    have e87 : h60 236 2 = h 236 2 := (u60 236 2 rfl)
    have e88 : h60 1 2 = h 1 2 := (u60 1 2 rfl)
    have e89 : h60 236 10 = h 236 10 := (u60 236 10 rfl)
    have e90 : h60 1 3 = h 1 3 := (u60 1 3 rfl)
    have e91 : h60 236 11 = h 236 11 := (u60 236 11 rfl)
    have gp92 := GPH.fr u60 rfl gp0
    have b93 := gi_b (lo := 0) (hi := 5) g 241 0 rfl
    have b94 := gi_b (lo := 0) (hi := 4) g 241 1 rfl
    have gs95 := GPS.fr u60 rfl gs0
    have e96 : h60 0 12 = h 0 12 := (u60 0 12 rfl)
    have e97 : h60 236 21 = h 236 21 := (u60 236 21 rfl)
    have e98 : h60 63 5 = h 63 5 := (u60 63 5 rfl)
    have e99 : h60 18 16 = h 18 16 := (u60 18 16 rfl)
    have e100 : h60 18 7 = h 18 7 := (u60 18 7 rfl)
    have e101 : h60 3 2 = h 3 2 := (u60 3 2 rfl)
    have e102 : h60 66 1 = h 66 1 := (u60 66 1 rfl)
    have b103 := gi_b (lo := 0) (hi := 6) g 73 1 rfl
    have e104 : h60 73 1 = h 73 1 := (u60 73 1 rfl)
    have b105 := gi_b (lo := 0) (hi := 6) g 73 2 rfl
    have e106 : h60 73 2 = h 73 2 := (u60 73 2 rfl)
    have b107 := gi_b (lo := 0) (hi := 6) g 236 22 rfl
    have e108 : h60 236 22 = h 236 22 := (u60 236 22 rfl)
    have b109 := gi_b (lo := 0) (hi := 12) g 210 2 rfl
    have e110 : h60 210 2 = h 210 2 := (u60 210 2 rfl)
    have q113 : h60 8 = h 8 := funext (fun i => (u60 8 i (fo_no_ok (by decide) i)))
    have q114 : h60 7 = h 7 := funext (fun i => (u60 7 i (fo_no_ok (by decide) i)))
    have q115 : h60 19 = h 19 := funext (fun i => (u60 19 i (fo_no_ok (by decide) i)))
    have q116 : h60 67 = h 67 := funext (fun i => (u60 67 i (fo_no_ok (by decide) i)))
    have ml112 : MCL h60 := MCL.mv mi0.1 q113 q114 q115 q116 (by omega) (by omega) (by omega) (by omega)
    have q118 : h60 69 = h 69 := funext (fun i => (u60 69 i (fo_no_ok (by decide) i)))
    have q119 : h60 70 = h 70 := funext (fun i => (u60 70 i (fo_no_ok (by decide) i)))
    have nb117 : NBc (h60 69) (h60 70) := by rw [q118, q119]; exact mi0.2.2
    have q120 : h60 8 = h 8 := funext (fun i => (u60 8 i (fo_no_ok (by decide) i)))
    have q121 : h60 7 = h 7 := funext (fun i => (u60 7 i (fo_no_ok (by decide) i)))
    have mi111 : MCI h60 := ⟨ml112, HIv.mv mi0.2.1 q120 q121 (by omega) (by omega) (sv_seven (P := fun x => ∀ i, h60 (76 + 19 * x) i = h (76 + 19 * x) i) (fun i => (u60 76 i (fn_a (by decide) fn_0))) (fun i => (u60 95 i (fn_a (by decide) fn_0))) (fun i => (u60 114 i (fn_a (by decide) fn_0))) (fun i => (u60 133 i (fn_a (by decide) fn_0))) (fun i => (u60 152 i (fn_a (by decide) fn_0))) (fun i => (u60 171 i (fn_a (by decide) fn_0))) (fun i => (u60 190 i (fn_a (by decide) fn_0)))) (by omega) (by omega), nb117⟩
    have gq122 := GQS.fr u60 rfl gq0
    have q123 : h60 8 = h 8 := funext (fun i => (u60 8 i (fo_no_ok (by decide) i)))
    have q124 : h60 7 = h 7 := funext (fun i => (u60 7 i (fo_no_ok (by decide) i)))
    have q125 : h60 215 = h 215 := funext (fun i => (u60 215 i (fo_no_ok (by decide) i)))
    have q126 : h60 218 = h 218 := funext (fun i => (u60 218 i (fo_no_ok (by decide) i)))
    have q127 : h60 214 = h 214 := funext (fun i => (u60 214 i (fo_no_ok (by decide) i)))
    have q128 : h60 241 = h 241 := funext (fun i => (u60 241 i (fo_no_ok (by decide) i)))
    exact k h60 (b - 1) (c - 6) ⟨⟨g60, (show h60 1 1 = h60 236 2 by omega), (RS.i0 (f := h60 238) (by refine ⟨?_, ?_, ?_, ?_, ?_⟩ <;> omega)), (RS.i0 (f := h60 241) (by refine ⟨?_, ?_, ?_, ?_, ?_⟩ <;> omega)), gp92, (BRh.keep br0 (fun i => (u60 2 i (fn_a (by decide) fn_0))) (fun i => (u60 237 i (fn_a (by decide) fn_0))) (by omega)), (show h60 1 2 = h60 236 10 by omega), (show h60 1 3 = h60 236 11 by omega), (SVx.keep sv0 (by omega) (fun i _ => (u60 3 i (fn_a (by decide) fn_0))) (fun i _ => (u60 5 i (fn_a (by decide) fn_0))) (fun i _ => (u60 6 i (fn_a (by decide) fn_0))) (fun i _ => (u60 8 i (fn_a (by decide) fn_0))) (fun i _ => (u60 238 i (fn_a (by decide) fn_0)))), (show h60 0 12 = h60 236 21 by omega), (fun e => (SVx.keep (ss0 (by omega)) (by omega) (fun i _ => (u60 210 i (fn_a (by decide) fn_0))) (fun i _ => (u60 212 i (fn_a (by decide) fn_0))) (fun i _ => (u60 213 i (fn_a (by decide) fn_0))) (fun i _ => (u60 215 i (fn_a (by decide) fn_0))) (fun i _ => (u60 241 i (fn_a (by decide) fn_0))))), gs95, mi111, (show h60 63 5 ≤ h60 18 16 by omega), (show (h60 63 5) < (h60 18 16) ∨ ((h60 18 7) ≤ (h60 3 2) ∧ (h60 66 1) = (h60 3 2) - (h60 18 7)) ∨ ((h60 3 2) < (h60 18 7) ∧ (h60 66 1) = 0) by omega), gq122, (MR.mv mr0 (MSN.then (MSN.refl) (fun i _ => (u60 238 i (fn_a (by decide) fn_0)))) (by omega) q123 q124 (by omega)), (fun e => SM.mv (sm0 (by omega)) q125 q126 q127 (by omega) q128)⟩, (by omega)⟩ (by omega) (by omega)
-- the law, case at 590
set_option maxRecDepth 100000 in
set_option maxHeartbeats 100000000 in
theorem lc_590 {L : Nat} {xs : Nat → Int32} {d b c : Nat} {h : hp} {cr : Nat → Nat → Option Nat} {Q : hp_Q} (hcr : CR cr) (hL : L ≤ 3072) (hr : 1 ≤ b ∧ 6 ≤ c) (i : Int) (I : LIm i h) (hi : 0 ≤ i ∧ i + 6 ≤ L) (k : ∀ (h2 : hp) (b2 c2 : Nat), LIm (i + 6) h2 → b ≤ b2 + 1 → c ≤ c2 + 6 → wp (md_xa (L, xs)) (d + 107) 0 (1501, [(0, .ref 1000000), (1, .ref 0), (2, .ref 236), (3, .ref 259), (4, vi i)], [], hp_w h2 cr, b2, c2) Q) : wp (md_xa (L, xs)) (d + 107) 0 (590, [(0, .ref 1000000), (1, .ref 0), (2, .ref 236), (3, .ref 259), (4, vi i)], [], hp_w h cr, b, c) Q := by
  obtain ⟨⟨g, i11, r238, r241, gp0, br0, er2, er3, sv0, sf0, ss0, gs0, mi0, ml1, ml2, gq0, mr0, sm0⟩, ie0⟩ := I
  have r238e := r238.e0
  have r241e := r241.e0
  obtain ⟨⟨se0, se1, se2, se3, se4, se5, se6, se7, se8, se9⟩, -⟩ := id sv0
  have b1 := gi_b (lo := 0) (hi := 5) g 3 0 rfl
  have b2 := gi_b (lo := 0) (hi := 5) g 238 0 rfl
  have b3 := gi_b (lo := 0) (hi := 4) g 3 1 rfl
  have b4 := gi_b (lo := 0) (hi := 4) g 238 1 rfl
  have b5 := gi_b (lo := 0) (hi := 12) g 3 2 rfl
  have b6 := gi_b (lo := 0) (hi := 12) g 238 2 rfl
  have b7 := gi_b (lo := -2147483648) (hi := 2147483647) g 3 3 rfl
  have b8 := gi_b (lo := 0) (hi := 999) g 238 3 rfl
  have b9 := gi_b (lo := -2147483648) (hi := 2147483647) g 3 4 rfl
  have b10 := gi_b (lo := 0) (hi := 999) g 238 4 rfl
  have b11 := gi_b (lo := -2147483648) (hi := 2147483647) g 3 5 rfl
  have b12 := gi_b (lo := 0) (hi := 9) g 238 5 rfl
  have b13 := gi_b (lo := -2147483648) (hi := 2147483647) g 3 6 rfl
  have b14 := gi_b (lo := 0) (hi := 999) g 238 6 rfl
  have b15 := gi_b (lo := -2147483648) (hi := 2147483647) g 3 7 rfl
  have b16 := gi_b (lo := 0) (hi := 3) g 238 7 rfl
  have b17 := gi_b (lo := -2147483648) (hi := 2147483647) g 3 8 rfl
  have b18 := gi_b (lo := 0) (hi := 999) g 238 8 rfl
  have b19 := gi_b (lo := -2147483648) (hi := 2147483647) g 3 9 rfl
  have b20 := gi_b (lo := 0) (hi := 999) g 238 9 rfl
  have b21 := gi_b (lo := -2147483648) (hi := 2147483647) g 63 5 rfl
  have b22 := gi_b (lo := 0) (hi := 12) g 18 7 rfl
  have b23 := gi_b (lo := 0) (hi := 12) g 66 1 rfl
  have b24 := gi_b (lo := 0) (hi := 1) g 0 12 rfl
  have b25 := gi_b (lo := 0) (hi := 1) g 236 21 rfl
  have bl_ := gi_b (lo := 0) (hi := 800) g 1 1 rfl
  have tb0 : BufC (h 2) (h 1 1) h := ⟨fun _ => rfl, rfl, by omega, by omega⟩
  have b26 := gi_b (lo := 0) (hi := 6) g 238 98 rfl
  have b27 := gi_b (lo := 0) (hi := 6) g 238 99 rfl
  have b28 := gi_b (lo := 0) (hi := 6) g 238 100 rfl
  have b29 := gi_b (lo := 0) (hi := 6) g 238 101 rfl
  have b30 := gi_b (lo := 0) (hi := 3) g 238 102 rfl
  have b31 := gi_b (lo := 0) (hi := 12) g 238 106 rfl
  have b32 := gi_b (lo := 0) (hi := 12) g 238 73 rfl
  have b33 := gi_b (lo := 0) (hi := 9999) g 238 119 rfl
  have b34 := gi_b (lo := 0) (hi := 9999) g 238 67 rfl
  have b35 := gi_b (lo := 0) (hi := 9) g 238 69 rfl
  have b36 := gi_b (lo := 0) (hi := 6) g 241 98 rfl
  have b37 := gi_b (lo := 0) (hi := 6) g 241 99 rfl
  have b38 := gi_b (lo := 0) (hi := 6) g 241 100 rfl
  have b39 := gi_b (lo := 0) (hi := 6) g 241 101 rfl
  have b40 := gi_b (lo := 0) (hi := 3) g 241 102 rfl
  have b41 := gi_b (lo := 0) (hi := 12) g 241 106 rfl
  have b42 := gi_b (lo := 0) (hi := 12) g 241 73 rfl
  have b43 := gi_b (lo := 0) (hi := 12) g 241 2 rfl
  have b44 := gi_b (lo := 0) (hi := 9999) g 241 119 rfl
  have b45 := gi_b (lo := 0) (hi := 9999) g 241 67 rfl
  have b46 := gi_b (lo := 0) (hi := 9) g 241 69 rfl
  have b47 := gi_b (lo := 0) (hi := 9) g 241 5 rfl
  have b48 := gi_b (lo := 0) (hi := 800) g 1 1 rfl
  have b49 := gi_b (lo := 0) (hi := 800) g 236 2 rfl
  have b50 := gi_b (lo := -2147483648) (hi := 2147483647) g 1 2 rfl
  have b51 := gi_b (lo := -2147483648) (hi := 2147483647) g 236 10 rfl
  have b52 := gi_b (lo := -2147483648) (hi := 2147483647) g 1 3 rfl
  have b53 := gi_b (lo := -2147483648) (hi := 2147483647) g 236 11 rfl
  refine wi_aload_n (i := 1) (x := 0) (nx := 591) (r1 := 0) (r2 := 0) (r3 := 0) rfl rfl ?_
  refine wi_aload_n (i := 0) (x := 1000000) (nx := 592) (r1 := 0) (r2 := 0) (r3 := 0) rfl rfl ?_
  refine wi_iload (i := 4) (e := i) (nx := 594) (r1 := 0) (r2 := 0) (r3 := 0) rfl rfl ?_
  refine wi_iconst (n := 1) (nx := 595) (r1 := 0) (r2 := 0) (r3 := 0) rfl ?_
  refine wr_add (nx := 596) (r1 := 0) (r2 := 0) (r3 := 0) rfl (fun e54 (fe54 : e54 = i + 1) => ?_)
  obtain ⟨i55, ei55⟩ : ∃ q : Nat, e54 = (q : Int) := ⟨(e54).toNat, by omega⟩
  have s56 := sc_b (xs i55)
  refine wr_sc (a := e54) (f := i55) (nx := 597) (r1 := 0) (r2 := 0) (r3 := 0) rfl (by omega) (by omega) hL ?_
  refine wi_aload_n (i := 3) (x := 259) (nx := 598) (r1 := 0) (r2 := 0) (r3 := 0) rfl rfl ?_
  refine wi_S (rest := []) (as := [.ref 0, vi ((xs i55).toInt), .ref 259]) (nx := 601) (r1 := 10) (r2 := 19) (r3 := 0) rfl rfl rfl (of_decide_eq_true rfl) rfl rfl (of_decide_eq_true rfl) (of_decide_eq_true rfl) ?_
  refine wi_aload_n (i := 2) (x := 259) (nx := 1) (r1 := 0) (r2 := 0) (r3 := 0) rfl rfl ?_
  refine wi_iconst (n := 0) (nx := 2) (r1 := 0) (r2 := 0) (r3 := 0) rfl ?_
  refine wi_aload_n (i := 0) (x := 0) (nx := 3) (r1 := 0) (r2 := 0) (r3 := 0) rfl rfl ?_
  refine wi_iload_n (i := 1) (e := (xs i55).toInt) (nx := 4) (r1 := 0) (r2 := 0) (r3 := 0) rfl rfl ?_
  refine wr_V (k0 := 0) (rest := [vi 0, .ref 259]) (as := [.ref 0, vi ((xs i55).toInt)]) (nx := 7) (r1 := 72) (r2 := 1) (r3 := 0) rfl rfl rfl (of_decide_eq_true rfl) rfl rfl (by decide) rfl rfl (of_decide_eq_true rfl) (of_decide_eq_true rfl) ?_
  refine ct_72_0 hcr hr  g ((xs i55).toInt) (by omega)  (fun z58  (fz58 : -2147483648 ≤ z58 ∧ z58 ≤ 2147483647) => ?_) ?_
  ·
    refine wk_i ?_
    refine wi_i2l (nx := 8) (r1 := 0) (r2 := 0) (r3 := 0) rfl (by omega) ?_
    refine wr_ls (k0 := 259) (a := 0) (f := 0) (x := z58) (bl := -9223372036854775808) (bh := 9223372036854775807) (nx := 9) (r1 := 0) (r2 := 0) (r3 := 0) rfl (by decide) rfl (by omega) (by omega) (by decide) g rfl (by omega) (fun h59 g59 w59 u59 => ?_)
    refine wi_goto (nx := 12) (r1 := 15) (r2 := 0) (r3 := 0) rfl ?_
    refine wi_iconst (n := 0) (nx := 16) (r1 := 0) (r2 := 0) (r3 := 0) rfl ?_
    refine wi_ireturn (nx := 17) (r1 := 0) (r2 := 0) (r3 := 0) rfl rfl ?_
    refine wk_i ?_
    refine wi_istore (i := 5) (e := 0) (lo2 := [(5, vi 0), (0, .ref 1000000), (1, .ref 0), (2, .ref 236), (3, .ref 259), (4, vi i)]) (nx := 603) (r1 := 0) (r2 := 0) (r3 := 0) rfl rfl ?_
    refine wi_aload_n (i := 2) (x := 236) (nx := 604) (r1 := 0) (r2 := 0) (r3 := 0) rfl rfl ?_
    refine wi_aload_n (i := 0) (x := 1000000) (nx := 605) (r1 := 0) (r2 := 0) (r3 := 0) rfl rfl ?_
    refine wi_iload (i := 4) (e := i) (nx := 607) (r1 := 0) (r2 := 0) (r3 := 0) rfl rfl ?_
    refine wi_iconst (n := 1) (nx := 608) (r1 := 0) (r2 := 0) (r3 := 0) rfl ?_
    refine wr_add (nx := 609) (r1 := 0) (r2 := 0) (r3 := 0) rfl (fun e60 (fe60 : e60 = i + 1) => ?_)
    refine wr_sc (a := e60) (f := i55) (nx := 610) (r1 := 0) (r2 := 0) (r3 := 0) rfl (by omega) (by omega) hL ?_
    refine wr_V (k0 := 236) (rest := []) (as := [.ref 236, vi ((xs i55).toInt)]) (nx := 613) (r1 := 245) (r2 := 1) (r3 := 11) rfl rfl rfl (of_decide_eq_true rfl) rfl rfl (by decide) rfl rfl (of_decide_eq_true rfl) (of_decide_eq_true rfl) ?_
    refine ct_245_236 hcr  g59 ((xs i55).toInt) (by omega)  (fun h61 z62 g61 u61 (fz62 : 0 ≤ z62 ∧ z62 ≤ 999) => ?_)
    refine wk_i ?_
    refine wi_istore (i := 6) (e := z62) (lo2 := [(6, vi z62), (5, vi 0), (0, .ref 1000000), (1, .ref 0), (2, .ref 236), (3, .ref 259), (4, vi i)]) (nx := 615) (r1 := 0) (r2 := 0) (r3 := 0) rfl rfl ?_
    refine wi_goto (nx := 618) (r1 := 1501) (r2 := 0) (r3 := 0) rfl ?_
    refine wp.lo (lo := [(0, .ref 1000000), (1, .ref 0), (2, .ref 236), (3, .ref 259), (4, vi i)]) ⟨rfl, rfl, rfl, rfl, rfl, trivial⟩ rfl ?_
    have e63 : h61 238 98 = h 238 98 := ((u61 238 98 rfl).trans (u59 238 98 rfl))
    have e64 : h61 238 99 = h 238 99 := ((u61 238 99 rfl).trans (u59 238 99 rfl))
    have e65 : h61 238 100 = h 238 100 := ((u61 238 100 rfl).trans (u59 238 100 rfl))
    have e66 : h61 238 101 = h 238 101 := ((u61 238 101 rfl).trans (u59 238 101 rfl))
    have e67 : h61 238 102 = h 238 102 := ((u61 238 102 rfl).trans (u59 238 102 rfl))
    have e68 : h61 238 106 = h 238 106 := ((u61 238 106 rfl).trans (u59 238 106 rfl))
    have e69 : h61 238 73 = h 238 73 := ((u61 238 73 rfl).trans (u59 238 73 rfl))
    have e70 : h61 238 2 = h 238 2 := ((u61 238 2 rfl).trans (u59 238 2 rfl))
    have e71 : h61 238 119 = h 238 119 := ((u61 238 119 rfl).trans (u59 238 119 rfl))
    have e72 : h61 238 67 = h 238 67 := ((u61 238 67 rfl).trans (u59 238 67 rfl))
    have e73 : h61 238 69 = h 238 69 := ((u61 238 69 rfl).trans (u59 238 69 rfl))
    have e74 : h61 238 5 = h 238 5 := ((u61 238 5 rfl).trans (u59 238 5 rfl))
    have e75 : h61 241 98 = h 241 98 := ((u61 241 98 rfl).trans (u59 241 98 rfl))
    have e76 : h61 241 99 = h 241 99 := ((u61 241 99 rfl).trans (u59 241 99 rfl))
    have e77 : h61 241 100 = h 241 100 := ((u61 241 100 rfl).trans (u59 241 100 rfl))
    have e78 : h61 241 101 = h 241 101 := ((u61 241 101 rfl).trans (u59 241 101 rfl))
    have e79 : h61 241 102 = h 241 102 := ((u61 241 102 rfl).trans (u59 241 102 rfl))
    have e80 : h61 241 106 = h 241 106 := ((u61 241 106 rfl).trans (u59 241 106 rfl))
    have e81 : h61 241 73 = h 241 73 := ((u61 241 73 rfl).trans (u59 241 73 rfl))
    have e82 : h61 241 2 = h 241 2 := ((u61 241 2 rfl).trans (u59 241 2 rfl))
    have e83 : h61 241 119 = h 241 119 := ((u61 241 119 rfl).trans (u59 241 119 rfl))
    have e84 : h61 241 67 = h 241 67 := ((u61 241 67 rfl).trans (u59 241 67 rfl))
    have e85 : h61 241 69 = h 241 69 := ((u61 241 69 rfl).trans (u59 241 69 rfl))
    have e86 : h61 241 5 = h 241 5 := ((u61 241 5 rfl).trans (u59 241 5 rfl))
    have e87 : h61 1 1 = h 1 1 := ((u61 1 1 rfl).trans (u59 1 1 rfl))
    have e88 : h61 236 2 = h 236 2 := ((u61 236 2 rfl).trans (u59 236 2 rfl))
    have e89 : h61 1 2 = h 1 2 := ((u61 1 2 rfl).trans (u59 1 2 rfl))
    have e90 : h61 236 10 = h 236 10 := ((u61 236 10 rfl).trans (u59 236 10 rfl))
    have e91 : h61 1 3 = h 1 3 := ((u61 1 3 rfl).trans (u59 1 3 rfl))
    have e92 : h61 236 11 = h 236 11 := ((u61 236 11 rfl).trans (u59 236 11 rfl))
    have gp93 := GPH.fr u59 rfl gp0
    have gp94 := GPH.fr u61 rfl gp93
    have b95 := gi_b (lo := 0) (hi := 5) g 241 0 rfl
    have b96 := gi_b (lo := 0) (hi := 4) g 241 1 rfl
    have gs97 := GPS.fr u59 rfl gs0
    have gs98 := GPS.fr u61 rfl gs97
    have e99 : h61 0 12 = h 0 12 := ((u61 0 12 rfl).trans (u59 0 12 rfl))
    have e100 : h61 236 21 = h 236 21 := ((u61 236 21 rfl).trans (u59 236 21 rfl))
    have e101 : h61 63 5 = h 63 5 := ((u61 63 5 rfl).trans (u59 63 5 rfl))
    have e102 : h61 18 16 = h 18 16 := ((u61 18 16 rfl).trans (u59 18 16 rfl))
    have e103 : h61 18 7 = h 18 7 := ((u61 18 7 rfl).trans (u59 18 7 rfl))
    have e104 : h61 3 2 = h 3 2 := ((u61 3 2 rfl).trans (u59 3 2 rfl))
    have e105 : h61 66 1 = h 66 1 := ((u61 66 1 rfl).trans (u59 66 1 rfl))
    have b106 := gi_b (lo := 0) (hi := 6) g 73 1 rfl
    have e107 : h61 73 1 = h 73 1 := ((u61 73 1 rfl).trans (u59 73 1 rfl))
    have b108 := gi_b (lo := 0) (hi := 6) g 73 2 rfl
    have e109 : h61 73 2 = h 73 2 := ((u61 73 2 rfl).trans (u59 73 2 rfl))
    have b110 := gi_b (lo := 0) (hi := 6) g 236 22 rfl
    have e111 : h61 236 22 = h 236 22 := ((u61 236 22 rfl).trans (u59 236 22 rfl))
    have b112 := gi_b (lo := 0) (hi := 12) g 210 2 rfl
    have e113 : h61 210 2 = h 210 2 := ((u61 210 2 rfl).trans (u59 210 2 rfl))
    have q116 : h61 8 = h 8 := funext (fun i => ((u61 8 i (fo_no_ok (by decide) i)).trans (u59 8 i rfl)))
    have q117 : h61 7 = h 7 := funext (fun i => ((u61 7 i (fo_no_ok (by decide) i)).trans (u59 7 i rfl)))
    have q118 : h61 19 = h 19 := funext (fun i => ((u61 19 i (fo_no_ok (by decide) i)).trans (u59 19 i rfl)))
    have q119 : h61 67 = h 67 := funext (fun i => ((u61 67 i (fo_no_ok (by decide) i)).trans (u59 67 i rfl)))
    have ml115 : MCL h61 := MCL.mv mi0.1 q116 q117 q118 q119 (by omega) (by omega) (by omega) (by omega)
    have q121 : h61 69 = h 69 := funext (fun i => ((u61 69 i (fo_no_ok (by decide) i)).trans (u59 69 i rfl)))
    have q122 : h61 70 = h 70 := funext (fun i => ((u61 70 i (fo_no_ok (by decide) i)).trans (u59 70 i rfl)))
    have nb120 : NBc (h61 69) (h61 70) := by rw [q121, q122]; exact mi0.2.2
    have q123 : h61 8 = h 8 := funext (fun i => ((u61 8 i (fo_no_ok (by decide) i)).trans (u59 8 i rfl)))
    have q124 : h61 7 = h 7 := funext (fun i => ((u61 7 i (fo_no_ok (by decide) i)).trans (u59 7 i rfl)))
    have mi114 : MCI h61 := ⟨ml115, HIv.mv mi0.2.1 q123 q124 (by omega) (by omega) (sv_seven (P := fun x => ∀ i, h61 (76 + 19 * x) i = h (76 + 19 * x) i) (fun i => ((u61 76 i (fn_a (by decide) fn_0)).trans (u59 76 i (fn_a (by omega) fn_0)))) (fun i => ((u61 95 i (fn_a (by decide) fn_0)).trans (u59 95 i (fn_a (by omega) fn_0)))) (fun i => ((u61 114 i (fn_a (by decide) fn_0)).trans (u59 114 i (fn_a (by omega) fn_0)))) (fun i => ((u61 133 i (fn_a (by decide) fn_0)).trans (u59 133 i (fn_a (by omega) fn_0)))) (fun i => ((u61 152 i (fn_a (by decide) fn_0)).trans (u59 152 i (fn_a (by omega) fn_0)))) (fun i => ((u61 171 i (fn_a (by decide) fn_0)).trans (u59 171 i (fn_a (by omega) fn_0)))) (fun i => ((u61 190 i (fn_a (by decide) fn_0)).trans (u59 190 i (fn_a (by omega) fn_0))))) (by omega) (by omega), nb120⟩
    have gq125 := GQS.fr u59 rfl gq0
    have gq126 := GQS.fr u61 rfl gq125
    have q127 : h61 8 = h 8 := funext (fun i => ((u61 8 i (fo_no_ok (by decide) i)).trans (u59 8 i rfl)))
    have q128 : h61 7 = h 7 := funext (fun i => ((u61 7 i (fo_no_ok (by decide) i)).trans (u59 7 i rfl)))
    have q129 : h61 215 = h 215 := funext (fun i => ((u61 215 i (fo_no_ok (by decide) i)).trans (u59 215 i rfl)))
    have q130 : h61 218 = h 218 := funext (fun i => ((u61 218 i (fo_no_ok (by decide) i)).trans (u59 218 i rfl)))
    have q131 : h61 214 = h 214 := funext (fun i => ((u61 214 i (fo_no_ok (by decide) i)).trans (u59 214 i rfl)))
    have q132 : h61 241 = h 241 := funext (fun i => ((u61 241 i (fo_no_ok (by decide) i)).trans (u59 241 i rfl)))
    exact k h61 b c ⟨⟨g61, (show h61 1 1 = h61 236 2 by omega), (RS.i0 (f := h61 238) (by refine ⟨?_, ?_, ?_, ?_, ?_⟩ <;> omega)), (RS.i0 (f := h61 241) (by refine ⟨?_, ?_, ?_, ?_, ?_⟩ <;> omega)), gp94, (BRh.keep br0 (fun i => ((u61 2 i (fn_a (by decide) fn_0)).trans (u59 2 i (fn_a (by omega) fn_0)))) (fun i => ((u61 237 i (fn_a (by decide) fn_0)).trans (u59 237 i (fn_a (by omega) fn_0)))) (by omega)), (show h61 1 2 = h61 236 10 by omega), (show h61 1 3 = h61 236 11 by omega), (SVx.keep sv0 (by omega) (fun i _ => ((u61 3 i (fn_a (by decide) fn_0)).trans (u59 3 i (fn_a (by omega) fn_0)))) (fun i _ => ((u61 5 i (fn_a (by decide) fn_0)).trans (u59 5 i (fn_a (by omega) fn_0)))) (fun i _ => ((u61 6 i (fn_a (by decide) fn_0)).trans (u59 6 i (fn_a (by omega) fn_0)))) (fun i _ => ((u61 8 i (fn_a (by decide) fn_0)).trans (u59 8 i (fn_a (by omega) fn_0)))) (fun i _ => ((u61 238 i (fn_a (by decide) fn_0)).trans (u59 238 i (fn_a (by omega) fn_0))))), (show h61 0 12 = h61 236 21 by omega), (fun e => (SVx.keep (ss0 (by omega)) (by omega) (fun i _ => ((u61 210 i (fn_a (by decide) fn_0)).trans (u59 210 i (fn_a (by omega) fn_0)))) (fun i _ => ((u61 212 i (fn_a (by decide) fn_0)).trans (u59 212 i (fn_a (by omega) fn_0)))) (fun i _ => ((u61 213 i (fn_a (by decide) fn_0)).trans (u59 213 i (fn_a (by omega) fn_0)))) (fun i _ => ((u61 215 i (fn_a (by decide) fn_0)).trans (u59 215 i (fn_a (by omega) fn_0)))) (fun i _ => ((u61 241 i (fn_a (by decide) fn_0)).trans (u59 241 i (fn_a (by omega) fn_0)))))), gs98, mi114, (show h61 63 5 ≤ h61 18 16 by omega), (show (h61 63 5) < (h61 18 16) ∨ ((h61 18 7) ≤ (h61 3 2) ∧ (h61 66 1) = (h61 3 2) - (h61 18 7)) ∨ ((h61 3 2) < (h61 18 7) ∧ (h61 66 1) = 0) by omega), gq126, (MR.mv mr0 (MSN.then (MSN.refl) (fun i _ => ((u61 238 i (fn_a (by decide) fn_0)).trans (u59 238 i (fn_a (by omega) fn_0))))) (by omega) q127 q128 (by omega)), (fun e => SM.mv (sm0 (by omega)) q129 q130 q131 (by omega) q132)⟩, (by omega)⟩ (by omega) (by omega)
  ·
    refine wk_h 12 (by decide) rfl ?_
    refine wr_astx (i := 3) (lo2 := [(3, .retAddr 0), (0, .ref 0), (1, vi ((xs i55).toInt)), (2, .ref 259)]) (nx := 13) (r1 := 0) (r2 := 0) (r3 := 0) rfl rfl ?_
    refine wi_iconst (n := 1) (nx := 14) (r1 := 0) (r2 := 0) (r3 := 0) rfl ?_
    refine wi_ireturn (nx := 15) (r1 := 0) (r2 := 0) (r3 := 0) rfl rfl ?_
    refine wk_i ?_
    refine wi_istore (i := 5) (e := 1) (lo2 := [(5, vi 1), (0, .ref 1000000), (1, .ref 0), (2, .ref 236), (3, .ref 259), (4, vi i)]) (nx := 603) (r1 := 0) (r2 := 0) (r3 := 0) rfl rfl ?_
    refine wi_aload_n (i := 2) (x := 236) (nx := 604) (r1 := 0) (r2 := 0) (r3 := 0) rfl rfl ?_
    refine wi_aload_n (i := 0) (x := 1000000) (nx := 605) (r1 := 0) (r2 := 0) (r3 := 0) rfl rfl ?_
    refine wi_iload (i := 4) (e := i) (nx := 607) (r1 := 0) (r2 := 0) (r3 := 0) rfl rfl ?_
    refine wi_iconst (n := 1) (nx := 608) (r1 := 0) (r2 := 0) (r3 := 0) rfl ?_
    refine wr_add (nx := 609) (r1 := 0) (r2 := 0) (r3 := 0) rfl (fun e59 (fe59 : e59 = i + 1) => ?_)
    refine wr_sc (a := e59) (f := i55) (nx := 610) (r1 := 0) (r2 := 0) (r3 := 0) rfl (by omega) (by omega) hL ?_
    refine wr_V (k0 := 236) (rest := []) (as := [.ref 236, vi ((xs i55).toInt)]) (nx := 613) (r1 := 245) (r2 := 1) (r3 := 11) rfl rfl rfl (of_decide_eq_true rfl) rfl rfl (by decide) rfl rfl (of_decide_eq_true rfl) (of_decide_eq_true rfl) ?_
    refine ct_245_236 hcr  g ((xs i55).toInt) (by omega)  (fun h60 z61 g60 u60 (fz61 : 0 ≤ z61 ∧ z61 ≤ 999) => ?_)
    refine wk_i ?_
    refine wi_istore (i := 6) (e := z61) (lo2 := [(6, vi z61), (5, vi 1), (0, .ref 1000000), (1, .ref 0), (2, .ref 236), (3, .ref 259), (4, vi i)]) (nx := 615) (r1 := 0) (r2 := 0) (r3 := 0) rfl rfl ?_
    refine wi_goto (nx := 618) (r1 := 1501) (r2 := 0) (r3 := 0) rfl ?_
    refine wp.lo (lo := [(0, .ref 1000000), (1, .ref 0), (2, .ref 236), (3, .ref 259), (4, vi i)]) ⟨rfl, rfl, rfl, rfl, rfl, trivial⟩ rfl ?_
    have e62 : h60 238 98 = h 238 98 := (u60 238 98 rfl)
    have e63 : h60 238 99 = h 238 99 := (u60 238 99 rfl)
    have e64 : h60 238 100 = h 238 100 := (u60 238 100 rfl)
    have e65 : h60 238 101 = h 238 101 := (u60 238 101 rfl)
    have e66 : h60 238 102 = h 238 102 := (u60 238 102 rfl)
    have e67 : h60 238 106 = h 238 106 := (u60 238 106 rfl)
    have e68 : h60 238 73 = h 238 73 := (u60 238 73 rfl)
    have e69 : h60 238 2 = h 238 2 := (u60 238 2 rfl)
    have e70 : h60 238 119 = h 238 119 := (u60 238 119 rfl)
    have e71 : h60 238 67 = h 238 67 := (u60 238 67 rfl)
    have e72 : h60 238 69 = h 238 69 := (u60 238 69 rfl)
    have e73 : h60 238 5 = h 238 5 := (u60 238 5 rfl)
    have e74 : h60 241 98 = h 241 98 := (u60 241 98 rfl)
    have e75 : h60 241 99 = h 241 99 := (u60 241 99 rfl)
    have e76 : h60 241 100 = h 241 100 := (u60 241 100 rfl)
    have e77 : h60 241 101 = h 241 101 := (u60 241 101 rfl)
    have e78 : h60 241 102 = h 241 102 := (u60 241 102 rfl)
    have e79 : h60 241 106 = h 241 106 := (u60 241 106 rfl)
    have e80 : h60 241 73 = h 241 73 := (u60 241 73 rfl)
    have e81 : h60 241 2 = h 241 2 := (u60 241 2 rfl)
    have e82 : h60 241 119 = h 241 119 := (u60 241 119 rfl)
    have e83 : h60 241 67 = h 241 67 := (u60 241 67 rfl)
    have e84 : h60 241 69 = h 241 69 := (u60 241 69 rfl)
    have e85 : h60 241 5 = h 241 5 := (u60 241 5 rfl)
    have e86 : h60 1 1 = h 1 1 := (u60 1 1 rfl)
    have e87 : h60 236 2 = h 236 2 := (u60 236 2 rfl)
    have e88 : h60 1 2 = h 1 2 := (u60 1 2 rfl)
    have e89 : h60 236 10 = h 236 10 := (u60 236 10 rfl)
    have e90 : h60 1 3 = h 1 3 := (u60 1 3 rfl)
    have e91 : h60 236 11 = h 236 11 := (u60 236 11 rfl)
    have gp92 := GPH.fr u60 rfl gp0
    have b93 := gi_b (lo := 0) (hi := 5) g 241 0 rfl
    have b94 := gi_b (lo := 0) (hi := 4) g 241 1 rfl
    have gs95 := GPS.fr u60 rfl gs0
    have e96 : h60 0 12 = h 0 12 := (u60 0 12 rfl)
    have e97 : h60 236 21 = h 236 21 := (u60 236 21 rfl)
    have e98 : h60 63 5 = h 63 5 := (u60 63 5 rfl)
    have e99 : h60 18 16 = h 18 16 := (u60 18 16 rfl)
    have e100 : h60 18 7 = h 18 7 := (u60 18 7 rfl)
    have e101 : h60 3 2 = h 3 2 := (u60 3 2 rfl)
    have e102 : h60 66 1 = h 66 1 := (u60 66 1 rfl)
    have b103 := gi_b (lo := 0) (hi := 6) g 73 1 rfl
    have e104 : h60 73 1 = h 73 1 := (u60 73 1 rfl)
    have b105 := gi_b (lo := 0) (hi := 6) g 73 2 rfl
    have e106 : h60 73 2 = h 73 2 := (u60 73 2 rfl)
    have b107 := gi_b (lo := 0) (hi := 6) g 236 22 rfl
    have e108 : h60 236 22 = h 236 22 := (u60 236 22 rfl)
    have b109 := gi_b (lo := 0) (hi := 12) g 210 2 rfl
    have e110 : h60 210 2 = h 210 2 := (u60 210 2 rfl)
    have q113 : h60 8 = h 8 := funext (fun i => (u60 8 i (fo_no_ok (by decide) i)))
    have q114 : h60 7 = h 7 := funext (fun i => (u60 7 i (fo_no_ok (by decide) i)))
    have q115 : h60 19 = h 19 := funext (fun i => (u60 19 i (fo_no_ok (by decide) i)))
    have q116 : h60 67 = h 67 := funext (fun i => (u60 67 i (fo_no_ok (by decide) i)))
    have ml112 : MCL h60 := MCL.mv mi0.1 q113 q114 q115 q116 (by omega) (by omega) (by omega) (by omega)
    have q118 : h60 69 = h 69 := funext (fun i => (u60 69 i (fo_no_ok (by decide) i)))
    have q119 : h60 70 = h 70 := funext (fun i => (u60 70 i (fo_no_ok (by decide) i)))
    have nb117 : NBc (h60 69) (h60 70) := by rw [q118, q119]; exact mi0.2.2
    have q120 : h60 8 = h 8 := funext (fun i => (u60 8 i (fo_no_ok (by decide) i)))
    have q121 : h60 7 = h 7 := funext (fun i => (u60 7 i (fo_no_ok (by decide) i)))
    have mi111 : MCI h60 := ⟨ml112, HIv.mv mi0.2.1 q120 q121 (by omega) (by omega) (sv_seven (P := fun x => ∀ i, h60 (76 + 19 * x) i = h (76 + 19 * x) i) (fun i => (u60 76 i (fn_a (by decide) fn_0))) (fun i => (u60 95 i (fn_a (by decide) fn_0))) (fun i => (u60 114 i (fn_a (by decide) fn_0))) (fun i => (u60 133 i (fn_a (by decide) fn_0))) (fun i => (u60 152 i (fn_a (by decide) fn_0))) (fun i => (u60 171 i (fn_a (by decide) fn_0))) (fun i => (u60 190 i (fn_a (by decide) fn_0)))) (by omega) (by omega), nb117⟩
    have gq122 := GQS.fr u60 rfl gq0
    have q123 : h60 8 = h 8 := funext (fun i => (u60 8 i (fo_no_ok (by decide) i)))
    have q124 : h60 7 = h 7 := funext (fun i => (u60 7 i (fo_no_ok (by decide) i)))
    have q125 : h60 215 = h 215 := funext (fun i => (u60 215 i (fo_no_ok (by decide) i)))
    have q126 : h60 218 = h 218 := funext (fun i => (u60 218 i (fo_no_ok (by decide) i)))
    have q127 : h60 214 = h 214 := funext (fun i => (u60 214 i (fo_no_ok (by decide) i)))
    have q128 : h60 241 = h 241 := funext (fun i => (u60 241 i (fo_no_ok (by decide) i)))
    exact k h60 (b - 1) (c - 6) ⟨⟨g60, (show h60 1 1 = h60 236 2 by omega), (RS.i0 (f := h60 238) (by refine ⟨?_, ?_, ?_, ?_, ?_⟩ <;> omega)), (RS.i0 (f := h60 241) (by refine ⟨?_, ?_, ?_, ?_, ?_⟩ <;> omega)), gp92, (BRh.keep br0 (fun i => (u60 2 i (fn_a (by decide) fn_0))) (fun i => (u60 237 i (fn_a (by decide) fn_0))) (by omega)), (show h60 1 2 = h60 236 10 by omega), (show h60 1 3 = h60 236 11 by omega), (SVx.keep sv0 (by omega) (fun i _ => (u60 3 i (fn_a (by decide) fn_0))) (fun i _ => (u60 5 i (fn_a (by decide) fn_0))) (fun i _ => (u60 6 i (fn_a (by decide) fn_0))) (fun i _ => (u60 8 i (fn_a (by decide) fn_0))) (fun i _ => (u60 238 i (fn_a (by decide) fn_0)))), (show h60 0 12 = h60 236 21 by omega), (fun e => (SVx.keep (ss0 (by omega)) (by omega) (fun i _ => (u60 210 i (fn_a (by decide) fn_0))) (fun i _ => (u60 212 i (fn_a (by decide) fn_0))) (fun i _ => (u60 213 i (fn_a (by decide) fn_0))) (fun i _ => (u60 215 i (fn_a (by decide) fn_0))) (fun i _ => (u60 241 i (fn_a (by decide) fn_0))))), gs95, mi111, (show h60 63 5 ≤ h60 18 16 by omega), (show (h60 63 5) < (h60 18 16) ∨ ((h60 18 7) ≤ (h60 3 2) ∧ (h60 66 1) = (h60 3 2) - (h60 18 7)) ∨ ((h60 3 2) < (h60 18 7) ∧ (h60 66 1) = 0) by omega), gq122, (MR.mv mr0 (MSN.then (MSN.refl) (fun i _ => (u60 238 i (fn_a (by decide) fn_0)))) (by omega) q123 q124 (by omega)), (fun e => SM.mv (sm0 (by omega)) q125 q126 q127 (by omega) q128)⟩, (by omega)⟩ (by omega) (by omega)
-- the law, case at 618
set_option maxRecDepth 100000 in
set_option maxHeartbeats 100000000 in
theorem lc_618 {L : Nat} {xs : Nat → Int32} {d b c : Nat} {h : hp} {cr : Nat → Nat → Option Nat} {Q : hp_Q} (hcr : CR cr) (hL : L ≤ 3072) (hr : 1 ≤ b ∧ 6 ≤ c) (i : Int) (I : LIm i h) (hi : 0 ≤ i ∧ i + 6 ≤ L) (k : ∀ (h2 : hp) (b2 c2 : Nat), LIm (i + 6) h2 → b ≤ b2 + 1 → c ≤ c2 + 6 → wp (md_xa (L, xs)) (d + 107) 0 (1501, [(0, .ref 1000000), (1, .ref 0), (2, .ref 236), (3, .ref 259), (4, vi i)], [], hp_w h2 cr, b2, c2) Q) : wp (md_xa (L, xs)) (d + 107) 0 (618, [(0, .ref 1000000), (1, .ref 0), (2, .ref 236), (3, .ref 259), (4, vi i)], [], hp_w h cr, b, c) Q := by
  obtain ⟨⟨g, i11, r238, r241, gp0, br0, er2, er3, sv0, sf0, ss0, gs0, mi0, ml1, ml2, gq0, mr0, sm0⟩, ie0⟩ := I
  have r238e := r238.e0
  have r241e := r241.e0
  obtain ⟨⟨se0, se1, se2, se3, se4, se5, se6, se7, se8, se9⟩, -⟩ := id sv0
  have b1 := gi_b (lo := 0) (hi := 5) g 3 0 rfl
  have b2 := gi_b (lo := 0) (hi := 5) g 238 0 rfl
  have b3 := gi_b (lo := 0) (hi := 4) g 3 1 rfl
  have b4 := gi_b (lo := 0) (hi := 4) g 238 1 rfl
  have b5 := gi_b (lo := 0) (hi := 12) g 3 2 rfl
  have b6 := gi_b (lo := 0) (hi := 12) g 238 2 rfl
  have b7 := gi_b (lo := -2147483648) (hi := 2147483647) g 3 3 rfl
  have b8 := gi_b (lo := 0) (hi := 999) g 238 3 rfl
  have b9 := gi_b (lo := -2147483648) (hi := 2147483647) g 3 4 rfl
  have b10 := gi_b (lo := 0) (hi := 999) g 238 4 rfl
  have b11 := gi_b (lo := -2147483648) (hi := 2147483647) g 3 5 rfl
  have b12 := gi_b (lo := 0) (hi := 9) g 238 5 rfl
  have b13 := gi_b (lo := -2147483648) (hi := 2147483647) g 3 6 rfl
  have b14 := gi_b (lo := 0) (hi := 999) g 238 6 rfl
  have b15 := gi_b (lo := -2147483648) (hi := 2147483647) g 3 7 rfl
  have b16 := gi_b (lo := 0) (hi := 3) g 238 7 rfl
  have b17 := gi_b (lo := -2147483648) (hi := 2147483647) g 3 8 rfl
  have b18 := gi_b (lo := 0) (hi := 999) g 238 8 rfl
  have b19 := gi_b (lo := -2147483648) (hi := 2147483647) g 3 9 rfl
  have b20 := gi_b (lo := 0) (hi := 999) g 238 9 rfl
  have b21 := gi_b (lo := -2147483648) (hi := 2147483647) g 63 5 rfl
  have b22 := gi_b (lo := 0) (hi := 12) g 18 7 rfl
  have b23 := gi_b (lo := 0) (hi := 12) g 66 1 rfl
  have b24 := gi_b (lo := 0) (hi := 1) g 0 12 rfl
  have b25 := gi_b (lo := 0) (hi := 1) g 236 21 rfl
  have bl_ := gi_b (lo := 0) (hi := 800) g 1 1 rfl
  have tb0 : BufC (h 2) (h 1 1) h := ⟨fun _ => rfl, rfl, by omega, by omega⟩
  have b26 := gi_b (lo := 0) (hi := 6) g 238 98 rfl
  have b27 := gi_b (lo := 0) (hi := 6) g 238 99 rfl
  have b28 := gi_b (lo := 0) (hi := 6) g 238 100 rfl
  have b29 := gi_b (lo := 0) (hi := 6) g 238 101 rfl
  have b30 := gi_b (lo := 0) (hi := 3) g 238 102 rfl
  have b31 := gi_b (lo := 0) (hi := 12) g 238 106 rfl
  have b32 := gi_b (lo := 0) (hi := 12) g 238 73 rfl
  have b33 := gi_b (lo := 0) (hi := 9999) g 238 119 rfl
  have b34 := gi_b (lo := 0) (hi := 9999) g 238 67 rfl
  have b35 := gi_b (lo := 0) (hi := 9) g 238 69 rfl
  have b36 := gi_b (lo := 0) (hi := 6) g 241 98 rfl
  have b37 := gi_b (lo := 0) (hi := 6) g 241 99 rfl
  have b38 := gi_b (lo := 0) (hi := 6) g 241 100 rfl
  have b39 := gi_b (lo := 0) (hi := 6) g 241 101 rfl
  have b40 := gi_b (lo := 0) (hi := 3) g 241 102 rfl
  have b41 := gi_b (lo := 0) (hi := 12) g 241 106 rfl
  have b42 := gi_b (lo := 0) (hi := 12) g 241 73 rfl
  have b43 := gi_b (lo := 0) (hi := 12) g 241 2 rfl
  have b44 := gi_b (lo := 0) (hi := 9999) g 241 119 rfl
  have b45 := gi_b (lo := 0) (hi := 9999) g 241 67 rfl
  have b46 := gi_b (lo := 0) (hi := 9) g 241 69 rfl
  have b47 := gi_b (lo := 0) (hi := 9) g 241 5 rfl
  have b48 := gi_b (lo := 0) (hi := 800) g 1 1 rfl
  have b49 := gi_b (lo := 0) (hi := 800) g 236 2 rfl
  have b50 := gi_b (lo := -2147483648) (hi := 2147483647) g 1 2 rfl
  have b51 := gi_b (lo := -2147483648) (hi := 2147483647) g 236 10 rfl
  have b52 := gi_b (lo := -2147483648) (hi := 2147483647) g 1 3 rfl
  have b53 := gi_b (lo := -2147483648) (hi := 2147483647) g 236 11 rfl
  refine wi_aload_n (i := 1) (x := 0) (nx := 619) (r1 := 0) (r2 := 0) (r3 := 0) rfl rfl ?_
  refine wr_V (k0 := 0) (rest := []) (as := [.ref 0]) (nx := 622) (r1 := 29) (r2 := 0) (r3 := 0) rfl rfl rfl (of_decide_eq_true rfl) rfl rfl (by decide) rfl rfl (of_decide_eq_true rfl) (of_decide_eq_true rfl) ?_
  refine ct_29_0 hcr  g    (fun z55  (fz55 : 0 ≤ z55 ∧ z55 ≤ 12) y54_0 => ?_)
  refine wk_i ?_
  refine wi_aload_n (i := 2) (x := 236) (nx := 623) (r1 := 0) (r2 := 0) (r3 := 0) rfl rfl ?_
  refine wr_V (k0 := 236) (rest := [vi z55]) (as := [.ref 236]) (nx := 626) (r1 := 246) (r2 := 0) (r3 := 11) rfl rfl rfl (of_decide_eq_true rfl) rfl rfl (by decide) rfl rfl (of_decide_eq_true rfl) (of_decide_eq_true rfl) ?_
  refine ct_246_236 hcr  g    (fun h56 z57 g56 u56 (fz57 : 0 ≤ z57 ∧ z57 ≤ 12) y56_0 => ?_)
  have q59 : h 238 = h 238 := funext (fun i => rfl)
  have an58 : z55 = z57 := by rw [y54_0, y56_0, show rB h = rB h by unfold rB; rw [q59], show rC h = rC h by unfold rC; rw [q59], q59, ← show h 3 2 = h 238 2 by omega]; exact congrArg Int.ofNat (MSE.k (MSE.trans mi0.1.1 (MSE.symm mr0)))
  refine wk_i ?_
  refine wi_icmp (cd := .eq) (nx := 629) (r1 := 1501) (r2 := 0) (r3 := 0) rfl (by omega) (by omega) (fun (q60 : z55 = z57) => ?_) (fun (q60 : ¬ (z55 = z57)) => by exfalso; omega)
  have e61 : h56 238 98 = h 238 98 := (u56 238 98 rfl)
  have e62 : h56 238 99 = h 238 99 := (u56 238 99 rfl)
  have e63 : h56 238 100 = h 238 100 := (u56 238 100 rfl)
  have e64 : h56 238 101 = h 238 101 := (u56 238 101 rfl)
  have e65 : h56 238 102 = h 238 102 := (u56 238 102 rfl)
  have e66 : h56 238 106 = h 238 106 := (u56 238 106 rfl)
  have e67 : h56 238 73 = h 238 73 := (u56 238 73 rfl)
  have e68 : h56 238 2 = h 238 2 := (u56 238 2 rfl)
  have e69 : h56 238 119 = h 238 119 := (u56 238 119 rfl)
  have e70 : h56 238 67 = h 238 67 := (u56 238 67 rfl)
  have e71 : h56 238 69 = h 238 69 := (u56 238 69 rfl)
  have e72 : h56 238 5 = h 238 5 := (u56 238 5 rfl)
  have e73 : h56 241 98 = h 241 98 := (u56 241 98 rfl)
  have e74 : h56 241 99 = h 241 99 := (u56 241 99 rfl)
  have e75 : h56 241 100 = h 241 100 := (u56 241 100 rfl)
  have e76 : h56 241 101 = h 241 101 := (u56 241 101 rfl)
  have e77 : h56 241 102 = h 241 102 := (u56 241 102 rfl)
  have e78 : h56 241 106 = h 241 106 := (u56 241 106 rfl)
  have e79 : h56 241 73 = h 241 73 := (u56 241 73 rfl)
  have e80 : h56 241 2 = h 241 2 := (u56 241 2 rfl)
  have e81 : h56 241 119 = h 241 119 := (u56 241 119 rfl)
  have e82 : h56 241 67 = h 241 67 := (u56 241 67 rfl)
  have e83 : h56 241 69 = h 241 69 := (u56 241 69 rfl)
  have e84 : h56 241 5 = h 241 5 := (u56 241 5 rfl)
  have e85 : h56 1 1 = h 1 1 := (u56 1 1 rfl)
  have e86 : h56 236 2 = h 236 2 := (u56 236 2 rfl)
  have e87 : h56 1 2 = h 1 2 := (u56 1 2 rfl)
  have e88 : h56 236 10 = h 236 10 := (u56 236 10 rfl)
  have e89 : h56 1 3 = h 1 3 := (u56 1 3 rfl)
  have e90 : h56 236 11 = h 236 11 := (u56 236 11 rfl)
  have gp91 := GPH.fr u56 rfl gp0
  have b92 := gi_b (lo := 0) (hi := 5) g 241 0 rfl
  have b93 := gi_b (lo := 0) (hi := 4) g 241 1 rfl
  have gs94 := GPS.fr u56 rfl gs0
  have e95 : h56 0 12 = h 0 12 := (u56 0 12 rfl)
  have e96 : h56 236 21 = h 236 21 := (u56 236 21 rfl)
  have e97 : h56 63 5 = h 63 5 := (u56 63 5 rfl)
  have e98 : h56 18 16 = h 18 16 := (u56 18 16 rfl)
  have e99 : h56 18 7 = h 18 7 := (u56 18 7 rfl)
  have e100 : h56 3 2 = h 3 2 := (u56 3 2 rfl)
  have e101 : h56 66 1 = h 66 1 := (u56 66 1 rfl)
  have b102 := gi_b (lo := 0) (hi := 6) g 73 1 rfl
  have e103 : h56 73 1 = h 73 1 := (u56 73 1 rfl)
  have b104 := gi_b (lo := 0) (hi := 6) g 73 2 rfl
  have e105 : h56 73 2 = h 73 2 := (u56 73 2 rfl)
  have b106 := gi_b (lo := 0) (hi := 6) g 236 22 rfl
  have e107 : h56 236 22 = h 236 22 := (u56 236 22 rfl)
  have b108 := gi_b (lo := 0) (hi := 12) g 210 2 rfl
  have e109 : h56 210 2 = h 210 2 := (u56 210 2 rfl)
  have q112 : h56 8 = h 8 := funext (fun i => (u56 8 i (fo_no_ok (by decide) i)))
  have q113 : h56 7 = h 7 := funext (fun i => (u56 7 i (fo_no_ok (by decide) i)))
  have q114 : h56 19 = h 19 := funext (fun i => (u56 19 i (fo_no_ok (by decide) i)))
  have q115 : h56 67 = h 67 := funext (fun i => (u56 67 i (fo_no_ok (by decide) i)))
  have ml111 : MCL h56 := MCL.mv mi0.1 q112 q113 q114 q115 (by omega) (by omega) (by omega) (by omega)
  have q117 : h56 69 = h 69 := funext (fun i => (u56 69 i (fo_no_ok (by decide) i)))
  have q118 : h56 70 = h 70 := funext (fun i => (u56 70 i (fo_no_ok (by decide) i)))
  have nb116 : NBc (h56 69) (h56 70) := by rw [q117, q118]; exact mi0.2.2
  have q119 : h56 8 = h 8 := funext (fun i => (u56 8 i (fo_no_ok (by decide) i)))
  have q120 : h56 7 = h 7 := funext (fun i => (u56 7 i (fo_no_ok (by decide) i)))
  have mi110 : MCI h56 := ⟨ml111, HIv.mv mi0.2.1 q119 q120 (by omega) (by omega) (sv_seven (P := fun x => ∀ i, h56 (76 + 19 * x) i = h (76 + 19 * x) i) (fun i => (u56 76 i (fn_a (by decide) fn_0))) (fun i => (u56 95 i (fn_a (by decide) fn_0))) (fun i => (u56 114 i (fn_a (by decide) fn_0))) (fun i => (u56 133 i (fn_a (by decide) fn_0))) (fun i => (u56 152 i (fn_a (by decide) fn_0))) (fun i => (u56 171 i (fn_a (by decide) fn_0))) (fun i => (u56 190 i (fn_a (by decide) fn_0)))) (by omega) (by omega), nb116⟩
  have gq121 := GQS.fr u56 rfl gq0
  have q122 : h56 8 = h 8 := funext (fun i => (u56 8 i (fo_no_ok (by decide) i)))
  have q123 : h56 7 = h 7 := funext (fun i => (u56 7 i (fo_no_ok (by decide) i)))
  have q124 : h56 215 = h 215 := funext (fun i => (u56 215 i (fo_no_ok (by decide) i)))
  have q125 : h56 218 = h 218 := funext (fun i => (u56 218 i (fo_no_ok (by decide) i)))
  have q126 : h56 214 = h 214 := funext (fun i => (u56 214 i (fo_no_ok (by decide) i)))
  have q127 : h56 241 = h 241 := funext (fun i => (u56 241 i (fo_no_ok (by decide) i)))
  exact k h56 b c ⟨⟨g56, (show h56 1 1 = h56 236 2 by omega), (RS.i0 (f := h56 238) (by refine ⟨?_, ?_, ?_, ?_, ?_⟩ <;> omega)), (RS.i0 (f := h56 241) (by refine ⟨?_, ?_, ?_, ?_, ?_⟩ <;> omega)), gp91, (BRh.keep br0 (fun i => (u56 2 i (fn_a (by decide) fn_0))) (fun i => (u56 237 i (fn_a (by decide) fn_0))) (by omega)), (show h56 1 2 = h56 236 10 by omega), (show h56 1 3 = h56 236 11 by omega), (SVx.keep sv0 (by omega) (fun i _ => (u56 3 i (fn_a (by decide) fn_0))) (fun i _ => (u56 5 i (fn_a (by decide) fn_0))) (fun i _ => (u56 6 i (fn_a (by decide) fn_0))) (fun i _ => (u56 8 i (fn_a (by decide) fn_0))) (fun i _ => (u56 238 i (fn_a (by decide) fn_0)))), (show h56 0 12 = h56 236 21 by omega), (fun e => (SVx.keep (ss0 (by omega)) (by omega) (fun i _ => (u56 210 i (fn_a (by decide) fn_0))) (fun i _ => (u56 212 i (fn_a (by decide) fn_0))) (fun i _ => (u56 213 i (fn_a (by decide) fn_0))) (fun i _ => (u56 215 i (fn_a (by decide) fn_0))) (fun i _ => (u56 241 i (fn_a (by decide) fn_0))))), gs94, mi110, (show h56 63 5 ≤ h56 18 16 by omega), (show (h56 63 5) < (h56 18 16) ∨ ((h56 18 7) ≤ (h56 3 2) ∧ (h56 66 1) = (h56 3 2) - (h56 18 7)) ∨ ((h56 3 2) < (h56 18 7) ∧ (h56 66 1) = 0) by omega), gq121, (MR.mv mr0 (MSN.then (MSN.refl) (fun i _ => (u56 238 i (fn_a (by decide) fn_0)))) (by omega) q122 q123 (by omega)), (fun e => SM.mv (sm0 (by omega)) q124 q125 q126 (by omega) q127)⟩, (by omega)⟩ (by omega) (by omega)
-- the law, case at 631
set_option maxRecDepth 100000 in
set_option maxHeartbeats 100000000 in
theorem lc_631 {L : Nat} {xs : Nat → Int32} {d b c : Nat} {h : hp} {cr : Nat → Nat → Option Nat} {Q : hp_Q} (hcr : CR cr) (hL : L ≤ 3072) (hr : 1 ≤ b ∧ 6 ≤ c) (i : Int) (I : LIm i h) (hi : 0 ≤ i ∧ i + 6 ≤ L) (k : ∀ (h2 : hp) (b2 c2 : Nat), LIm (i + 6) h2 → b ≤ b2 + 1 → c ≤ c2 + 6 → wp (md_xa (L, xs)) (d + 107) 0 (1501, [(0, .ref 1000000), (1, .ref 0), (2, .ref 236), (3, .ref 259), (4, vi i)], [], hp_w h2 cr, b2, c2) Q) : wp (md_xa (L, xs)) (d + 107) 0 (631, [(0, .ref 1000000), (1, .ref 0), (2, .ref 236), (3, .ref 259), (4, vi i)], [], hp_w h cr, b, c) Q := by
  obtain ⟨⟨g, i11, r238, r241, gp0, br0, er2, er3, sv0, sf0, ss0, gs0, mi0, ml1, ml2, gq0, mr0, sm0⟩, ie0⟩ := I
  have r238e := r238.e0
  have r241e := r241.e0
  obtain ⟨⟨se0, se1, se2, se3, se4, se5, se6, se7, se8, se9⟩, -⟩ := id sv0
  have b1 := gi_b (lo := 0) (hi := 5) g 3 0 rfl
  have b2 := gi_b (lo := 0) (hi := 5) g 238 0 rfl
  have b3 := gi_b (lo := 0) (hi := 4) g 3 1 rfl
  have b4 := gi_b (lo := 0) (hi := 4) g 238 1 rfl
  have b5 := gi_b (lo := 0) (hi := 12) g 3 2 rfl
  have b6 := gi_b (lo := 0) (hi := 12) g 238 2 rfl
  have b7 := gi_b (lo := -2147483648) (hi := 2147483647) g 3 3 rfl
  have b8 := gi_b (lo := 0) (hi := 999) g 238 3 rfl
  have b9 := gi_b (lo := -2147483648) (hi := 2147483647) g 3 4 rfl
  have b10 := gi_b (lo := 0) (hi := 999) g 238 4 rfl
  have b11 := gi_b (lo := -2147483648) (hi := 2147483647) g 3 5 rfl
  have b12 := gi_b (lo := 0) (hi := 9) g 238 5 rfl
  have b13 := gi_b (lo := -2147483648) (hi := 2147483647) g 3 6 rfl
  have b14 := gi_b (lo := 0) (hi := 999) g 238 6 rfl
  have b15 := gi_b (lo := -2147483648) (hi := 2147483647) g 3 7 rfl
  have b16 := gi_b (lo := 0) (hi := 3) g 238 7 rfl
  have b17 := gi_b (lo := -2147483648) (hi := 2147483647) g 3 8 rfl
  have b18 := gi_b (lo := 0) (hi := 999) g 238 8 rfl
  have b19 := gi_b (lo := -2147483648) (hi := 2147483647) g 3 9 rfl
  have b20 := gi_b (lo := 0) (hi := 999) g 238 9 rfl
  have b21 := gi_b (lo := -2147483648) (hi := 2147483647) g 63 5 rfl
  have b22 := gi_b (lo := 0) (hi := 12) g 18 7 rfl
  have b23 := gi_b (lo := 0) (hi := 12) g 66 1 rfl
  have b24 := gi_b (lo := 0) (hi := 1) g 0 12 rfl
  have b25 := gi_b (lo := 0) (hi := 1) g 236 21 rfl
  have bl_ := gi_b (lo := 0) (hi := 800) g 1 1 rfl
  have tb0 : BufC (h 2) (h 1 1) h := ⟨fun _ => rfl, rfl, by omega, by omega⟩
  have b26 := gi_b (lo := 0) (hi := 6) g 238 98 rfl
  have b27 := gi_b (lo := 0) (hi := 6) g 238 99 rfl
  have b28 := gi_b (lo := 0) (hi := 6) g 238 100 rfl
  have b29 := gi_b (lo := 0) (hi := 6) g 238 101 rfl
  have b30 := gi_b (lo := 0) (hi := 3) g 238 102 rfl
  have b31 := gi_b (lo := 0) (hi := 12) g 238 106 rfl
  have b32 := gi_b (lo := 0) (hi := 12) g 238 73 rfl
  have b33 := gi_b (lo := 0) (hi := 9999) g 238 119 rfl
  have b34 := gi_b (lo := 0) (hi := 9999) g 238 67 rfl
  have b35 := gi_b (lo := 0) (hi := 9) g 238 69 rfl
  have b36 := gi_b (lo := 0) (hi := 6) g 241 98 rfl
  have b37 := gi_b (lo := 0) (hi := 6) g 241 99 rfl
  have b38 := gi_b (lo := 0) (hi := 6) g 241 100 rfl
  have b39 := gi_b (lo := 0) (hi := 6) g 241 101 rfl
  have b40 := gi_b (lo := 0) (hi := 3) g 241 102 rfl
  have b41 := gi_b (lo := 0) (hi := 12) g 241 106 rfl
  have b42 := gi_b (lo := 0) (hi := 12) g 241 73 rfl
  have b43 := gi_b (lo := 0) (hi := 12) g 241 2 rfl
  have b44 := gi_b (lo := 0) (hi := 9999) g 241 119 rfl
  have b45 := gi_b (lo := 0) (hi := 9999) g 241 67 rfl
  have b46 := gi_b (lo := 0) (hi := 9) g 241 69 rfl
  have b47 := gi_b (lo := 0) (hi := 9) g 241 5 rfl
  have b48 := gi_b (lo := 0) (hi := 800) g 1 1 rfl
  have b49 := gi_b (lo := 0) (hi := 800) g 236 2 rfl
  have b50 := gi_b (lo := -2147483648) (hi := 2147483647) g 1 2 rfl
  have b51 := gi_b (lo := -2147483648) (hi := 2147483647) g 236 10 rfl
  have b52 := gi_b (lo := -2147483648) (hi := 2147483647) g 1 3 rfl
  have b53 := gi_b (lo := -2147483648) (hi := 2147483647) g 236 11 rfl
  refine wi_aload_n (i := 1) (x := 0) (nx := 632) (r1 := 0) (r2 := 0) (r3 := 0) rfl rfl ?_
  refine wr_V (k0 := 0) (rest := []) (as := [.ref 0]) (nx := 635) (r1 := 30) (r2 := 0) (r3 := 0) rfl rfl rfl (of_decide_eq_true rfl) rfl rfl (by decide) rfl rfl (of_decide_eq_true rfl) (of_decide_eq_true rfl) ?_
  refine ct_30_0 hcr  g    (fun z55  (fz55 : 0 ≤ z55 ∧ z55 ≤ 24) y54_0 => ?_)
  refine wk_i ?_
  refine wi_pop (nx := 636) (r1 := 0) (r2 := 0) (r3 := 0) rfl rfl ?_
  refine wi_aload_n (i := 2) (x := 236) (nx := 637) (r1 := 0) (r2 := 0) (r3 := 0) rfl rfl ?_
  refine wr_V (k0 := 236) (rest := []) (as := [.ref 236]) (nx := 640) (r1 := 247) (r2 := 0) (r3 := 11) rfl rfl rfl (of_decide_eq_true rfl) rfl rfl (by decide) rfl rfl (of_decide_eq_true rfl) (of_decide_eq_true rfl) ?_
  refine ct_247_236 hcr  g    (fun h56 z57 g56 u56 (fz57 : 0 ≤ z57 ∧ z57 ≤ 24) y56_0 => ?_)
  have q59 : h 238 = h 238 := funext (fun i => rfl)
  have an58 : z55 = z57 := by rw [y54_0, y56_0, show rB h = rB h by unfold rB; rw [q59], show rC h = rC h by unfold rC; rw [q59], q59, ← show h 3 2 = h 238 2 by omega]; exact congrArg Int.ofNat (MSE.m (MSE.trans mi0.1.1 (MSE.symm mr0)))
  refine wk_i ?_
  refine wi_pop (nx := 641) (r1 := 0) (r2 := 0) (r3 := 0) rfl rfl ?_
  refine wi_goto (nx := 644) (r1 := 1501) (r2 := 0) (r3 := 0) rfl ?_
  have e60 : h56 238 98 = h 238 98 := (u56 238 98 rfl)
  have e61 : h56 238 99 = h 238 99 := (u56 238 99 rfl)
  have e62 : h56 238 100 = h 238 100 := (u56 238 100 rfl)
  have e63 : h56 238 101 = h 238 101 := (u56 238 101 rfl)
  have e64 : h56 238 102 = h 238 102 := (u56 238 102 rfl)
  have e65 : h56 238 106 = h 238 106 := (u56 238 106 rfl)
  have e66 : h56 238 73 = h 238 73 := (u56 238 73 rfl)
  have e67 : h56 238 2 = h 238 2 := (u56 238 2 rfl)
  have e68 : h56 238 119 = h 238 119 := (u56 238 119 rfl)
  have e69 : h56 238 67 = h 238 67 := (u56 238 67 rfl)
  have e70 : h56 238 69 = h 238 69 := (u56 238 69 rfl)
  have e71 : h56 238 5 = h 238 5 := (u56 238 5 rfl)
  have e72 : h56 241 98 = h 241 98 := (u56 241 98 rfl)
  have e73 : h56 241 99 = h 241 99 := (u56 241 99 rfl)
  have e74 : h56 241 100 = h 241 100 := (u56 241 100 rfl)
  have e75 : h56 241 101 = h 241 101 := (u56 241 101 rfl)
  have e76 : h56 241 102 = h 241 102 := (u56 241 102 rfl)
  have e77 : h56 241 106 = h 241 106 := (u56 241 106 rfl)
  have e78 : h56 241 73 = h 241 73 := (u56 241 73 rfl)
  have e79 : h56 241 2 = h 241 2 := (u56 241 2 rfl)
  have e80 : h56 241 119 = h 241 119 := (u56 241 119 rfl)
  have e81 : h56 241 67 = h 241 67 := (u56 241 67 rfl)
  have e82 : h56 241 69 = h 241 69 := (u56 241 69 rfl)
  have e83 : h56 241 5 = h 241 5 := (u56 241 5 rfl)
  have e84 : h56 1 1 = h 1 1 := (u56 1 1 rfl)
  have e85 : h56 236 2 = h 236 2 := (u56 236 2 rfl)
  have e86 : h56 1 2 = h 1 2 := (u56 1 2 rfl)
  have e87 : h56 236 10 = h 236 10 := (u56 236 10 rfl)
  have e88 : h56 1 3 = h 1 3 := (u56 1 3 rfl)
  have e89 : h56 236 11 = h 236 11 := (u56 236 11 rfl)
  have gp90 := GPH.fr u56 rfl gp0
  have b91 := gi_b (lo := 0) (hi := 5) g 241 0 rfl
  have b92 := gi_b (lo := 0) (hi := 4) g 241 1 rfl
  have gs93 := GPS.fr u56 rfl gs0
  have e94 : h56 0 12 = h 0 12 := (u56 0 12 rfl)
  have e95 : h56 236 21 = h 236 21 := (u56 236 21 rfl)
  have e96 : h56 63 5 = h 63 5 := (u56 63 5 rfl)
  have e97 : h56 18 16 = h 18 16 := (u56 18 16 rfl)
  have e98 : h56 18 7 = h 18 7 := (u56 18 7 rfl)
  have e99 : h56 3 2 = h 3 2 := (u56 3 2 rfl)
  have e100 : h56 66 1 = h 66 1 := (u56 66 1 rfl)
  have b101 := gi_b (lo := 0) (hi := 6) g 73 1 rfl
  have e102 : h56 73 1 = h 73 1 := (u56 73 1 rfl)
  have b103 := gi_b (lo := 0) (hi := 6) g 73 2 rfl
  have e104 : h56 73 2 = h 73 2 := (u56 73 2 rfl)
  have b105 := gi_b (lo := 0) (hi := 6) g 236 22 rfl
  have e106 : h56 236 22 = h 236 22 := (u56 236 22 rfl)
  have b107 := gi_b (lo := 0) (hi := 12) g 210 2 rfl
  have e108 : h56 210 2 = h 210 2 := (u56 210 2 rfl)
  have q111 : h56 8 = h 8 := funext (fun i => (u56 8 i (fo_no_ok (by decide) i)))
  have q112 : h56 7 = h 7 := funext (fun i => (u56 7 i (fo_no_ok (by decide) i)))
  have q113 : h56 19 = h 19 := funext (fun i => (u56 19 i (fo_no_ok (by decide) i)))
  have q114 : h56 67 = h 67 := funext (fun i => (u56 67 i (fo_no_ok (by decide) i)))
  have ml110 : MCL h56 := MCL.mv mi0.1 q111 q112 q113 q114 (by omega) (by omega) (by omega) (by omega)
  have q116 : h56 69 = h 69 := funext (fun i => (u56 69 i (fo_no_ok (by decide) i)))
  have q117 : h56 70 = h 70 := funext (fun i => (u56 70 i (fo_no_ok (by decide) i)))
  have nb115 : NBc (h56 69) (h56 70) := by rw [q116, q117]; exact mi0.2.2
  have q118 : h56 8 = h 8 := funext (fun i => (u56 8 i (fo_no_ok (by decide) i)))
  have q119 : h56 7 = h 7 := funext (fun i => (u56 7 i (fo_no_ok (by decide) i)))
  have mi109 : MCI h56 := ⟨ml110, HIv.mv mi0.2.1 q118 q119 (by omega) (by omega) (sv_seven (P := fun x => ∀ i, h56 (76 + 19 * x) i = h (76 + 19 * x) i) (fun i => (u56 76 i (fn_a (by decide) fn_0))) (fun i => (u56 95 i (fn_a (by decide) fn_0))) (fun i => (u56 114 i (fn_a (by decide) fn_0))) (fun i => (u56 133 i (fn_a (by decide) fn_0))) (fun i => (u56 152 i (fn_a (by decide) fn_0))) (fun i => (u56 171 i (fn_a (by decide) fn_0))) (fun i => (u56 190 i (fn_a (by decide) fn_0)))) (by omega) (by omega), nb115⟩
  have gq120 := GQS.fr u56 rfl gq0
  have q121 : h56 8 = h 8 := funext (fun i => (u56 8 i (fo_no_ok (by decide) i)))
  have q122 : h56 7 = h 7 := funext (fun i => (u56 7 i (fo_no_ok (by decide) i)))
  have q123 : h56 215 = h 215 := funext (fun i => (u56 215 i (fo_no_ok (by decide) i)))
  have q124 : h56 218 = h 218 := funext (fun i => (u56 218 i (fo_no_ok (by decide) i)))
  have q125 : h56 214 = h 214 := funext (fun i => (u56 214 i (fo_no_ok (by decide) i)))
  have q126 : h56 241 = h 241 := funext (fun i => (u56 241 i (fo_no_ok (by decide) i)))
  exact k h56 b c ⟨⟨g56, (show h56 1 1 = h56 236 2 by omega), (RS.i0 (f := h56 238) (by refine ⟨?_, ?_, ?_, ?_, ?_⟩ <;> omega)), (RS.i0 (f := h56 241) (by refine ⟨?_, ?_, ?_, ?_, ?_⟩ <;> omega)), gp90, (BRh.keep br0 (fun i => (u56 2 i (fn_a (by decide) fn_0))) (fun i => (u56 237 i (fn_a (by decide) fn_0))) (by omega)), (show h56 1 2 = h56 236 10 by omega), (show h56 1 3 = h56 236 11 by omega), (SVx.keep sv0 (by omega) (fun i _ => (u56 3 i (fn_a (by decide) fn_0))) (fun i _ => (u56 5 i (fn_a (by decide) fn_0))) (fun i _ => (u56 6 i (fn_a (by decide) fn_0))) (fun i _ => (u56 8 i (fn_a (by decide) fn_0))) (fun i _ => (u56 238 i (fn_a (by decide) fn_0)))), (show h56 0 12 = h56 236 21 by omega), (fun e => (SVx.keep (ss0 (by omega)) (by omega) (fun i _ => (u56 210 i (fn_a (by decide) fn_0))) (fun i _ => (u56 212 i (fn_a (by decide) fn_0))) (fun i _ => (u56 213 i (fn_a (by decide) fn_0))) (fun i _ => (u56 215 i (fn_a (by decide) fn_0))) (fun i _ => (u56 241 i (fn_a (by decide) fn_0))))), gs93, mi109, (show h56 63 5 ≤ h56 18 16 by omega), (show (h56 63 5) < (h56 18 16) ∨ ((h56 18 7) ≤ (h56 3 2) ∧ (h56 66 1) = (h56 3 2) - (h56 18 7)) ∨ ((h56 3 2) < (h56 18 7) ∧ (h56 66 1) = 0) by omega), gq120, (MR.mv mr0 (MSN.then (MSN.refl) (fun i _ => (u56 238 i (fn_a (by decide) fn_0)))) (by omega) q121 q122 (by omega)), (fun e => SM.mv (sm0 (by omega)) q123 q124 q125 (by omega) q126)⟩, (by omega)⟩ (by omega) (by omega)
-- the law, case at 644
set_option maxRecDepth 100000 in
set_option maxHeartbeats 100000000 in
theorem lc_644 {L : Nat} {xs : Nat → Int32} {d b c : Nat} {h : hp} {cr : Nat → Nat → Option Nat} {Q : hp_Q} (hcr : CR cr) (hL : L ≤ 3072) (hr : 1 ≤ b ∧ 6 ≤ c) (i : Int) (I : LIm i h) (hi : 0 ≤ i ∧ i + 6 ≤ L) (k : ∀ (h2 : hp) (b2 c2 : Nat), LIm (i + 6) h2 → b ≤ b2 + 1 → c ≤ c2 + 6 → wp (md_xa (L, xs)) (d + 107) 0 (1501, [(0, .ref 1000000), (1, .ref 0), (2, .ref 236), (3, .ref 259), (4, vi i)], [], hp_w h2 cr, b2, c2) Q) : wp (md_xa (L, xs)) (d + 107) 0 (644, [(0, .ref 1000000), (1, .ref 0), (2, .ref 236), (3, .ref 259), (4, vi i)], [], hp_w h cr, b, c) Q := by
  obtain ⟨⟨g, i11, r238, r241, gp0, br0, er2, er3, sv0, sf0, ss0, gs0, mi0, ml1, ml2, gq0, mr0, sm0⟩, ie0⟩ := I
  have r238e := r238.e0
  have r241e := r241.e0
  obtain ⟨⟨se0, se1, se2, se3, se4, se5, se6, se7, se8, se9⟩, -⟩ := id sv0
  have b1 := gi_b (lo := 0) (hi := 5) g 3 0 rfl
  have b2 := gi_b (lo := 0) (hi := 5) g 238 0 rfl
  have b3 := gi_b (lo := 0) (hi := 4) g 3 1 rfl
  have b4 := gi_b (lo := 0) (hi := 4) g 238 1 rfl
  have b5 := gi_b (lo := 0) (hi := 12) g 3 2 rfl
  have b6 := gi_b (lo := 0) (hi := 12) g 238 2 rfl
  have b7 := gi_b (lo := -2147483648) (hi := 2147483647) g 3 3 rfl
  have b8 := gi_b (lo := 0) (hi := 999) g 238 3 rfl
  have b9 := gi_b (lo := -2147483648) (hi := 2147483647) g 3 4 rfl
  have b10 := gi_b (lo := 0) (hi := 999) g 238 4 rfl
  have b11 := gi_b (lo := -2147483648) (hi := 2147483647) g 3 5 rfl
  have b12 := gi_b (lo := 0) (hi := 9) g 238 5 rfl
  have b13 := gi_b (lo := -2147483648) (hi := 2147483647) g 3 6 rfl
  have b14 := gi_b (lo := 0) (hi := 999) g 238 6 rfl
  have b15 := gi_b (lo := -2147483648) (hi := 2147483647) g 3 7 rfl
  have b16 := gi_b (lo := 0) (hi := 3) g 238 7 rfl
  have b17 := gi_b (lo := -2147483648) (hi := 2147483647) g 3 8 rfl
  have b18 := gi_b (lo := 0) (hi := 999) g 238 8 rfl
  have b19 := gi_b (lo := -2147483648) (hi := 2147483647) g 3 9 rfl
  have b20 := gi_b (lo := 0) (hi := 999) g 238 9 rfl
  have b21 := gi_b (lo := -2147483648) (hi := 2147483647) g 63 5 rfl
  have b22 := gi_b (lo := 0) (hi := 12) g 18 7 rfl
  have b23 := gi_b (lo := 0) (hi := 12) g 66 1 rfl
  have b24 := gi_b (lo := 0) (hi := 1) g 0 12 rfl
  have b25 := gi_b (lo := 0) (hi := 1) g 236 21 rfl
  have bl_ := gi_b (lo := 0) (hi := 800) g 1 1 rfl
  have tb0 : BufC (h 2) (h 1 1) h := ⟨fun _ => rfl, rfl, by omega, by omega⟩
  have b26 := gi_b (lo := 0) (hi := 6) g 238 98 rfl
  have b27 := gi_b (lo := 0) (hi := 6) g 238 99 rfl
  have b28 := gi_b (lo := 0) (hi := 6) g 238 100 rfl
  have b29 := gi_b (lo := 0) (hi := 6) g 238 101 rfl
  have b30 := gi_b (lo := 0) (hi := 3) g 238 102 rfl
  have b31 := gi_b (lo := 0) (hi := 12) g 238 106 rfl
  have b32 := gi_b (lo := 0) (hi := 12) g 238 73 rfl
  have b33 := gi_b (lo := 0) (hi := 9999) g 238 119 rfl
  have b34 := gi_b (lo := 0) (hi := 9999) g 238 67 rfl
  have b35 := gi_b (lo := 0) (hi := 9) g 238 69 rfl
  have b36 := gi_b (lo := 0) (hi := 6) g 241 98 rfl
  have b37 := gi_b (lo := 0) (hi := 6) g 241 99 rfl
  have b38 := gi_b (lo := 0) (hi := 6) g 241 100 rfl
  have b39 := gi_b (lo := 0) (hi := 6) g 241 101 rfl
  have b40 := gi_b (lo := 0) (hi := 3) g 241 102 rfl
  have b41 := gi_b (lo := 0) (hi := 12) g 241 106 rfl
  have b42 := gi_b (lo := 0) (hi := 12) g 241 73 rfl
  have b43 := gi_b (lo := 0) (hi := 12) g 241 2 rfl
  have b44 := gi_b (lo := 0) (hi := 9999) g 241 119 rfl
  have b45 := gi_b (lo := 0) (hi := 9999) g 241 67 rfl
  have b46 := gi_b (lo := 0) (hi := 9) g 241 69 rfl
  have b47 := gi_b (lo := 0) (hi := 9) g 241 5 rfl
  have b48 := gi_b (lo := 0) (hi := 800) g 1 1 rfl
  have b49 := gi_b (lo := 0) (hi := 800) g 236 2 rfl
  have b50 := gi_b (lo := -2147483648) (hi := 2147483647) g 1 2 rfl
  have b51 := gi_b (lo := -2147483648) (hi := 2147483647) g 236 10 rfl
  have b52 := gi_b (lo := -2147483648) (hi := 2147483647) g 1 3 rfl
  have b53 := gi_b (lo := -2147483648) (hi := 2147483647) g 236 11 rfl
  refine wi_aload_n (i := 1) (x := 0) (nx := 645) (r1 := 0) (r2 := 0) (r3 := 0) rfl rfl ?_
  refine wi_aload_n (i := 0) (x := 1000000) (nx := 646) (r1 := 0) (r2 := 0) (r3 := 0) rfl rfl ?_
  refine wi_iload (i := 4) (e := i) (nx := 648) (r1 := 0) (r2 := 0) (r3 := 0) rfl rfl ?_
  refine wi_iconst (n := 1) (nx := 649) (r1 := 0) (r2 := 0) (r3 := 0) rfl ?_
  refine wr_add (nx := 650) (r1 := 0) (r2 := 0) (r3 := 0) rfl (fun e54 (fe54 : e54 = i + 1) => ?_)
  obtain ⟨i55, ei55⟩ : ∃ q : Nat, e54 = (q : Int) := ⟨(e54).toNat, by omega⟩
  have s56 := sc_b (xs i55)
  refine wr_sc (a := e54) (f := i55) (nx := 651) (r1 := 0) (r2 := 0) (r3 := 0) rfl (by omega) (by omega) hL ?_
  refine wi_aload_n (i := 3) (x := 259) (nx := 652) (r1 := 0) (r2 := 0) (r3 := 0) rfl rfl ?_
  refine wi_S (rest := []) (as := [.ref 0, vi ((xs i55).toInt), .ref 259]) (nx := 655) (r1 := 11) (r2 := 19) (r3 := 0) rfl rfl rfl (of_decide_eq_true rfl) rfl rfl (of_decide_eq_true rfl) (of_decide_eq_true rfl) ?_
  refine wi_aload_n (i := 2) (x := 259) (nx := 1) (r1 := 0) (r2 := 0) (r3 := 0) rfl rfl ?_
  refine wi_iconst (n := 0) (nx := 2) (r1 := 0) (r2 := 0) (r3 := 0) rfl ?_
  refine wi_aload_n (i := 0) (x := 0) (nx := 3) (r1 := 0) (r2 := 0) (r3 := 0) rfl rfl ?_
  refine wi_iload_n (i := 1) (e := (xs i55).toInt) (nx := 4) (r1 := 0) (r2 := 0) (r3 := 0) rfl rfl ?_
  refine wr_V (k0 := 0) (rest := [vi 0, .ref 259]) (as := [.ref 0, vi ((xs i55).toInt)]) (nx := 7) (r1 := 73) (r2 := 1) (r3 := 0) rfl rfl rfl (of_decide_eq_true rfl) rfl rfl (by decide) rfl rfl (of_decide_eq_true rfl) (of_decide_eq_true rfl) ?_
  refine ct_73_0 hcr hr  g ((xs i55).toInt) (by omega)  (fun z58  (fz58 : 0 ≤ z58 ∧ z58 ≤ 3) => ?_) ?_
  ·
    refine wk_i ?_
    refine wi_i2l (nx := 8) (r1 := 0) (r2 := 0) (r3 := 0) rfl (by omega) ?_
    refine wr_ls (k0 := 259) (a := 0) (f := 0) (x := z58) (bl := -9223372036854775808) (bh := 9223372036854775807) (nx := 9) (r1 := 0) (r2 := 0) (r3 := 0) rfl (by decide) rfl (by omega) (by omega) (by decide) g rfl (by omega) (fun h59 g59 w59 u59 => ?_)
    refine wi_goto (nx := 12) (r1 := 15) (r2 := 0) (r3 := 0) rfl ?_
    refine wi_iconst (n := 0) (nx := 16) (r1 := 0) (r2 := 0) (r3 := 0) rfl ?_
    refine wi_ireturn (nx := 17) (r1 := 0) (r2 := 0) (r3 := 0) rfl rfl ?_
    refine wk_i ?_
    refine wi_istore (i := 5) (e := 0) (lo2 := [(5, vi 0), (0, .ref 1000000), (1, .ref 0), (2, .ref 236), (3, .ref 259), (4, vi i)]) (nx := 657) (r1 := 0) (r2 := 0) (r3 := 0) rfl rfl ?_
    refine wi_aload_n (i := 2) (x := 236) (nx := 658) (r1 := 0) (r2 := 0) (r3 := 0) rfl rfl ?_
    refine wi_aload_n (i := 0) (x := 1000000) (nx := 659) (r1 := 0) (r2 := 0) (r3 := 0) rfl rfl ?_
    refine wi_iload (i := 4) (e := i) (nx := 661) (r1 := 0) (r2 := 0) (r3 := 0) rfl rfl ?_
    refine wi_iconst (n := 1) (nx := 662) (r1 := 0) (r2 := 0) (r3 := 0) rfl ?_
    refine wr_add (nx := 663) (r1 := 0) (r2 := 0) (r3 := 0) rfl (fun e60 (fe60 : e60 = i + 1) => ?_)
    refine wr_sc (a := e60) (f := i55) (nx := 664) (r1 := 0) (r2 := 0) (r3 := 0) rfl (by omega) (by omega) hL ?_
    refine wr_V (k0 := 236) (rest := []) (as := [.ref 236, vi ((xs i55).toInt)]) (nx := 667) (r1 := 250) (r2 := 1) (r3 := 11) rfl rfl rfl (of_decide_eq_true rfl) rfl rfl (by decide) rfl rfl (of_decide_eq_true rfl) (of_decide_eq_true rfl) ?_
    refine ct_250_236 hcr  g59 ((xs i55).toInt) (by omega)  (fun h61 z62 g61 u61 (fz62 : 0 ≤ z62 ∧ z62 ≤ 3) => ?_)
    refine wk_i ?_
    refine wi_istore (i := 6) (e := z62) (lo2 := [(6, vi z62), (5, vi 0), (0, .ref 1000000), (1, .ref 0), (2, .ref 236), (3, .ref 259), (4, vi i)]) (nx := 669) (r1 := 0) (r2 := 0) (r3 := 0) rfl rfl ?_
    refine wi_goto (nx := 672) (r1 := 1501) (r2 := 0) (r3 := 0) rfl ?_
    refine wp.lo (lo := [(0, .ref 1000000), (1, .ref 0), (2, .ref 236), (3, .ref 259), (4, vi i)]) ⟨rfl, rfl, rfl, rfl, rfl, trivial⟩ rfl ?_
    have e63 : h61 238 98 = h 238 98 := ((u61 238 98 rfl).trans (u59 238 98 rfl))
    have e64 : h61 238 99 = h 238 99 := ((u61 238 99 rfl).trans (u59 238 99 rfl))
    have e65 : h61 238 100 = h 238 100 := ((u61 238 100 rfl).trans (u59 238 100 rfl))
    have e66 : h61 238 101 = h 238 101 := ((u61 238 101 rfl).trans (u59 238 101 rfl))
    have e67 : h61 238 102 = h 238 102 := ((u61 238 102 rfl).trans (u59 238 102 rfl))
    have e68 : h61 238 106 = h 238 106 := ((u61 238 106 rfl).trans (u59 238 106 rfl))
    have e69 : h61 238 73 = h 238 73 := ((u61 238 73 rfl).trans (u59 238 73 rfl))
    have e70 : h61 238 2 = h 238 2 := ((u61 238 2 rfl).trans (u59 238 2 rfl))
    have e71 : h61 238 119 = h 238 119 := ((u61 238 119 rfl).trans (u59 238 119 rfl))
    have e72 : h61 238 67 = h 238 67 := ((u61 238 67 rfl).trans (u59 238 67 rfl))
    have e73 : h61 238 69 = h 238 69 := ((u61 238 69 rfl).trans (u59 238 69 rfl))
    have e74 : h61 238 5 = h 238 5 := ((u61 238 5 rfl).trans (u59 238 5 rfl))
    have e75 : h61 241 98 = h 241 98 := ((u61 241 98 rfl).trans (u59 241 98 rfl))
    have e76 : h61 241 99 = h 241 99 := ((u61 241 99 rfl).trans (u59 241 99 rfl))
    have e77 : h61 241 100 = h 241 100 := ((u61 241 100 rfl).trans (u59 241 100 rfl))
    have e78 : h61 241 101 = h 241 101 := ((u61 241 101 rfl).trans (u59 241 101 rfl))
    have e79 : h61 241 102 = h 241 102 := ((u61 241 102 rfl).trans (u59 241 102 rfl))
    have e80 : h61 241 106 = h 241 106 := ((u61 241 106 rfl).trans (u59 241 106 rfl))
    have e81 : h61 241 73 = h 241 73 := ((u61 241 73 rfl).trans (u59 241 73 rfl))
    have e82 : h61 241 2 = h 241 2 := ((u61 241 2 rfl).trans (u59 241 2 rfl))
    have e83 : h61 241 119 = h 241 119 := ((u61 241 119 rfl).trans (u59 241 119 rfl))
    have e84 : h61 241 67 = h 241 67 := ((u61 241 67 rfl).trans (u59 241 67 rfl))
    have e85 : h61 241 69 = h 241 69 := ((u61 241 69 rfl).trans (u59 241 69 rfl))
    have e86 : h61 241 5 = h 241 5 := ((u61 241 5 rfl).trans (u59 241 5 rfl))
    have e87 : h61 1 1 = h 1 1 := ((u61 1 1 rfl).trans (u59 1 1 rfl))
    have e88 : h61 236 2 = h 236 2 := ((u61 236 2 rfl).trans (u59 236 2 rfl))
    have e89 : h61 1 2 = h 1 2 := ((u61 1 2 rfl).trans (u59 1 2 rfl))
    have e90 : h61 236 10 = h 236 10 := ((u61 236 10 rfl).trans (u59 236 10 rfl))
    have e91 : h61 1 3 = h 1 3 := ((u61 1 3 rfl).trans (u59 1 3 rfl))
    have e92 : h61 236 11 = h 236 11 := ((u61 236 11 rfl).trans (u59 236 11 rfl))
    have gp93 := GPH.fr u59 rfl gp0
    have gp94 := GPH.fr u61 rfl gp93
    have b95 := gi_b (lo := 0) (hi := 5) g 241 0 rfl
    have b96 := gi_b (lo := 0) (hi := 4) g 241 1 rfl
    have gs97 := GPS.fr u59 rfl gs0
    have gs98 := GPS.fr u61 rfl gs97
    have e99 : h61 0 12 = h 0 12 := ((u61 0 12 rfl).trans (u59 0 12 rfl))
    have e100 : h61 236 21 = h 236 21 := ((u61 236 21 rfl).trans (u59 236 21 rfl))
    have e101 : h61 63 5 = h 63 5 := ((u61 63 5 rfl).trans (u59 63 5 rfl))
    have e102 : h61 18 16 = h 18 16 := ((u61 18 16 rfl).trans (u59 18 16 rfl))
    have e103 : h61 18 7 = h 18 7 := ((u61 18 7 rfl).trans (u59 18 7 rfl))
    have e104 : h61 3 2 = h 3 2 := ((u61 3 2 rfl).trans (u59 3 2 rfl))
    have e105 : h61 66 1 = h 66 1 := ((u61 66 1 rfl).trans (u59 66 1 rfl))
    have b106 := gi_b (lo := 0) (hi := 6) g 73 1 rfl
    have e107 : h61 73 1 = h 73 1 := ((u61 73 1 rfl).trans (u59 73 1 rfl))
    have b108 := gi_b (lo := 0) (hi := 6) g 73 2 rfl
    have e109 : h61 73 2 = h 73 2 := ((u61 73 2 rfl).trans (u59 73 2 rfl))
    have b110 := gi_b (lo := 0) (hi := 6) g 236 22 rfl
    have e111 : h61 236 22 = h 236 22 := ((u61 236 22 rfl).trans (u59 236 22 rfl))
    have b112 := gi_b (lo := 0) (hi := 12) g 210 2 rfl
    have e113 : h61 210 2 = h 210 2 := ((u61 210 2 rfl).trans (u59 210 2 rfl))
    have q116 : h61 8 = h 8 := funext (fun i => ((u61 8 i (fo_no_ok (by decide) i)).trans (u59 8 i rfl)))
    have q117 : h61 7 = h 7 := funext (fun i => ((u61 7 i (fo_no_ok (by decide) i)).trans (u59 7 i rfl)))
    have q118 : h61 19 = h 19 := funext (fun i => ((u61 19 i (fo_no_ok (by decide) i)).trans (u59 19 i rfl)))
    have q119 : h61 67 = h 67 := funext (fun i => ((u61 67 i (fo_no_ok (by decide) i)).trans (u59 67 i rfl)))
    have ml115 : MCL h61 := MCL.mv mi0.1 q116 q117 q118 q119 (by omega) (by omega) (by omega) (by omega)
    have q121 : h61 69 = h 69 := funext (fun i => ((u61 69 i (fo_no_ok (by decide) i)).trans (u59 69 i rfl)))
    have q122 : h61 70 = h 70 := funext (fun i => ((u61 70 i (fo_no_ok (by decide) i)).trans (u59 70 i rfl)))
    have nb120 : NBc (h61 69) (h61 70) := by rw [q121, q122]; exact mi0.2.2
    have q123 : h61 8 = h 8 := funext (fun i => ((u61 8 i (fo_no_ok (by decide) i)).trans (u59 8 i rfl)))
    have q124 : h61 7 = h 7 := funext (fun i => ((u61 7 i (fo_no_ok (by decide) i)).trans (u59 7 i rfl)))
    have mi114 : MCI h61 := ⟨ml115, HIv.mv mi0.2.1 q123 q124 (by omega) (by omega) (sv_seven (P := fun x => ∀ i, h61 (76 + 19 * x) i = h (76 + 19 * x) i) (fun i => ((u61 76 i (fn_a (by decide) fn_0)).trans (u59 76 i (fn_a (by omega) fn_0)))) (fun i => ((u61 95 i (fn_a (by decide) fn_0)).trans (u59 95 i (fn_a (by omega) fn_0)))) (fun i => ((u61 114 i (fn_a (by decide) fn_0)).trans (u59 114 i (fn_a (by omega) fn_0)))) (fun i => ((u61 133 i (fn_a (by decide) fn_0)).trans (u59 133 i (fn_a (by omega) fn_0)))) (fun i => ((u61 152 i (fn_a (by decide) fn_0)).trans (u59 152 i (fn_a (by omega) fn_0)))) (fun i => ((u61 171 i (fn_a (by decide) fn_0)).trans (u59 171 i (fn_a (by omega) fn_0)))) (fun i => ((u61 190 i (fn_a (by decide) fn_0)).trans (u59 190 i (fn_a (by omega) fn_0))))) (by omega) (by omega), nb120⟩
    have gq125 := GQS.fr u59 rfl gq0
    have gq126 := GQS.fr u61 rfl gq125
    have q127 : h61 8 = h 8 := funext (fun i => ((u61 8 i (fo_no_ok (by decide) i)).trans (u59 8 i rfl)))
    have q128 : h61 7 = h 7 := funext (fun i => ((u61 7 i (fo_no_ok (by decide) i)).trans (u59 7 i rfl)))
    have q129 : h61 215 = h 215 := funext (fun i => ((u61 215 i (fo_no_ok (by decide) i)).trans (u59 215 i rfl)))
    have q130 : h61 218 = h 218 := funext (fun i => ((u61 218 i (fo_no_ok (by decide) i)).trans (u59 218 i rfl)))
    have q131 : h61 214 = h 214 := funext (fun i => ((u61 214 i (fo_no_ok (by decide) i)).trans (u59 214 i rfl)))
    have q132 : h61 241 = h 241 := funext (fun i => ((u61 241 i (fo_no_ok (by decide) i)).trans (u59 241 i rfl)))
    exact k h61 b c ⟨⟨g61, (show h61 1 1 = h61 236 2 by omega), (RS.i0 (f := h61 238) (by refine ⟨?_, ?_, ?_, ?_, ?_⟩ <;> omega)), (RS.i0 (f := h61 241) (by refine ⟨?_, ?_, ?_, ?_, ?_⟩ <;> omega)), gp94, (BRh.keep br0 (fun i => ((u61 2 i (fn_a (by decide) fn_0)).trans (u59 2 i (fn_a (by omega) fn_0)))) (fun i => ((u61 237 i (fn_a (by decide) fn_0)).trans (u59 237 i (fn_a (by omega) fn_0)))) (by omega)), (show h61 1 2 = h61 236 10 by omega), (show h61 1 3 = h61 236 11 by omega), (SVx.keep sv0 (by omega) (fun i _ => ((u61 3 i (fn_a (by decide) fn_0)).trans (u59 3 i (fn_a (by omega) fn_0)))) (fun i _ => ((u61 5 i (fn_a (by decide) fn_0)).trans (u59 5 i (fn_a (by omega) fn_0)))) (fun i _ => ((u61 6 i (fn_a (by decide) fn_0)).trans (u59 6 i (fn_a (by omega) fn_0)))) (fun i _ => ((u61 8 i (fn_a (by decide) fn_0)).trans (u59 8 i (fn_a (by omega) fn_0)))) (fun i _ => ((u61 238 i (fn_a (by decide) fn_0)).trans (u59 238 i (fn_a (by omega) fn_0))))), (show h61 0 12 = h61 236 21 by omega), (fun e => (SVx.keep (ss0 (by omega)) (by omega) (fun i _ => ((u61 210 i (fn_a (by decide) fn_0)).trans (u59 210 i (fn_a (by omega) fn_0)))) (fun i _ => ((u61 212 i (fn_a (by decide) fn_0)).trans (u59 212 i (fn_a (by omega) fn_0)))) (fun i _ => ((u61 213 i (fn_a (by decide) fn_0)).trans (u59 213 i (fn_a (by omega) fn_0)))) (fun i _ => ((u61 215 i (fn_a (by decide) fn_0)).trans (u59 215 i (fn_a (by omega) fn_0)))) (fun i _ => ((u61 241 i (fn_a (by decide) fn_0)).trans (u59 241 i (fn_a (by omega) fn_0)))))), gs98, mi114, (show h61 63 5 ≤ h61 18 16 by omega), (show (h61 63 5) < (h61 18 16) ∨ ((h61 18 7) ≤ (h61 3 2) ∧ (h61 66 1) = (h61 3 2) - (h61 18 7)) ∨ ((h61 3 2) < (h61 18 7) ∧ (h61 66 1) = 0) by omega), gq126, (MR.mv mr0 (MSN.then (MSN.refl) (fun i _ => ((u61 238 i (fn_a (by decide) fn_0)).trans (u59 238 i (fn_a (by omega) fn_0))))) (by omega) q127 q128 (by omega)), (fun e => SM.mv (sm0 (by omega)) q129 q130 q131 (by omega) q132)⟩, (by omega)⟩ (by omega) (by omega)
  ·
    refine wk_h 12 (by decide) rfl ?_
    refine wr_astx (i := 3) (lo2 := [(3, .retAddr 0), (0, .ref 0), (1, vi ((xs i55).toInt)), (2, .ref 259)]) (nx := 13) (r1 := 0) (r2 := 0) (r3 := 0) rfl rfl ?_
    refine wi_iconst (n := 1) (nx := 14) (r1 := 0) (r2 := 0) (r3 := 0) rfl ?_
    refine wi_ireturn (nx := 15) (r1 := 0) (r2 := 0) (r3 := 0) rfl rfl ?_
    refine wk_i ?_
    refine wi_istore (i := 5) (e := 1) (lo2 := [(5, vi 1), (0, .ref 1000000), (1, .ref 0), (2, .ref 236), (3, .ref 259), (4, vi i)]) (nx := 657) (r1 := 0) (r2 := 0) (r3 := 0) rfl rfl ?_
    refine wi_aload_n (i := 2) (x := 236) (nx := 658) (r1 := 0) (r2 := 0) (r3 := 0) rfl rfl ?_
    refine wi_aload_n (i := 0) (x := 1000000) (nx := 659) (r1 := 0) (r2 := 0) (r3 := 0) rfl rfl ?_
    refine wi_iload (i := 4) (e := i) (nx := 661) (r1 := 0) (r2 := 0) (r3 := 0) rfl rfl ?_
    refine wi_iconst (n := 1) (nx := 662) (r1 := 0) (r2 := 0) (r3 := 0) rfl ?_
    refine wr_add (nx := 663) (r1 := 0) (r2 := 0) (r3 := 0) rfl (fun e59 (fe59 : e59 = i + 1) => ?_)
    refine wr_sc (a := e59) (f := i55) (nx := 664) (r1 := 0) (r2 := 0) (r3 := 0) rfl (by omega) (by omega) hL ?_
    refine wr_V (k0 := 236) (rest := []) (as := [.ref 236, vi ((xs i55).toInt)]) (nx := 667) (r1 := 250) (r2 := 1) (r3 := 11) rfl rfl rfl (of_decide_eq_true rfl) rfl rfl (by decide) rfl rfl (of_decide_eq_true rfl) (of_decide_eq_true rfl) ?_
    refine ct_250_236 hcr  g ((xs i55).toInt) (by omega)  (fun h60 z61 g60 u60 (fz61 : 0 ≤ z61 ∧ z61 ≤ 3) => ?_)
    refine wk_i ?_
    refine wi_istore (i := 6) (e := z61) (lo2 := [(6, vi z61), (5, vi 1), (0, .ref 1000000), (1, .ref 0), (2, .ref 236), (3, .ref 259), (4, vi i)]) (nx := 669) (r1 := 0) (r2 := 0) (r3 := 0) rfl rfl ?_
    refine wi_goto (nx := 672) (r1 := 1501) (r2 := 0) (r3 := 0) rfl ?_
    refine wp.lo (lo := [(0, .ref 1000000), (1, .ref 0), (2, .ref 236), (3, .ref 259), (4, vi i)]) ⟨rfl, rfl, rfl, rfl, rfl, trivial⟩ rfl ?_
    have e62 : h60 238 98 = h 238 98 := (u60 238 98 rfl)
    have e63 : h60 238 99 = h 238 99 := (u60 238 99 rfl)
    have e64 : h60 238 100 = h 238 100 := (u60 238 100 rfl)
    have e65 : h60 238 101 = h 238 101 := (u60 238 101 rfl)
    have e66 : h60 238 102 = h 238 102 := (u60 238 102 rfl)
    have e67 : h60 238 106 = h 238 106 := (u60 238 106 rfl)
    have e68 : h60 238 73 = h 238 73 := (u60 238 73 rfl)
    have e69 : h60 238 2 = h 238 2 := (u60 238 2 rfl)
    have e70 : h60 238 119 = h 238 119 := (u60 238 119 rfl)
    have e71 : h60 238 67 = h 238 67 := (u60 238 67 rfl)
    have e72 : h60 238 69 = h 238 69 := (u60 238 69 rfl)
    have e73 : h60 238 5 = h 238 5 := (u60 238 5 rfl)
    have e74 : h60 241 98 = h 241 98 := (u60 241 98 rfl)
    have e75 : h60 241 99 = h 241 99 := (u60 241 99 rfl)
    have e76 : h60 241 100 = h 241 100 := (u60 241 100 rfl)
    have e77 : h60 241 101 = h 241 101 := (u60 241 101 rfl)
    have e78 : h60 241 102 = h 241 102 := (u60 241 102 rfl)
    have e79 : h60 241 106 = h 241 106 := (u60 241 106 rfl)
    have e80 : h60 241 73 = h 241 73 := (u60 241 73 rfl)
    have e81 : h60 241 2 = h 241 2 := (u60 241 2 rfl)
    have e82 : h60 241 119 = h 241 119 := (u60 241 119 rfl)
    have e83 : h60 241 67 = h 241 67 := (u60 241 67 rfl)
    have e84 : h60 241 69 = h 241 69 := (u60 241 69 rfl)
    have e85 : h60 241 5 = h 241 5 := (u60 241 5 rfl)
    have e86 : h60 1 1 = h 1 1 := (u60 1 1 rfl)
    have e87 : h60 236 2 = h 236 2 := (u60 236 2 rfl)
    have e88 : h60 1 2 = h 1 2 := (u60 1 2 rfl)
    have e89 : h60 236 10 = h 236 10 := (u60 236 10 rfl)
    have e90 : h60 1 3 = h 1 3 := (u60 1 3 rfl)
    have e91 : h60 236 11 = h 236 11 := (u60 236 11 rfl)
    have gp92 := GPH.fr u60 rfl gp0
    have b93 := gi_b (lo := 0) (hi := 5) g 241 0 rfl
    have b94 := gi_b (lo := 0) (hi := 4) g 241 1 rfl
    have gs95 := GPS.fr u60 rfl gs0
    have e96 : h60 0 12 = h 0 12 := (u60 0 12 rfl)
    have e97 : h60 236 21 = h 236 21 := (u60 236 21 rfl)
    have e98 : h60 63 5 = h 63 5 := (u60 63 5 rfl)
    have e99 : h60 18 16 = h 18 16 := (u60 18 16 rfl)
    have e100 : h60 18 7 = h 18 7 := (u60 18 7 rfl)
    have e101 : h60 3 2 = h 3 2 := (u60 3 2 rfl)
    have e102 : h60 66 1 = h 66 1 := (u60 66 1 rfl)
    have b103 := gi_b (lo := 0) (hi := 6) g 73 1 rfl
    have e104 : h60 73 1 = h 73 1 := (u60 73 1 rfl)
    have b105 := gi_b (lo := 0) (hi := 6) g 73 2 rfl
    have e106 : h60 73 2 = h 73 2 := (u60 73 2 rfl)
    have b107 := gi_b (lo := 0) (hi := 6) g 236 22 rfl
    have e108 : h60 236 22 = h 236 22 := (u60 236 22 rfl)
    have b109 := gi_b (lo := 0) (hi := 12) g 210 2 rfl
    have e110 : h60 210 2 = h 210 2 := (u60 210 2 rfl)
    have q113 : h60 8 = h 8 := funext (fun i => (u60 8 i (fo_no_ok (by decide) i)))
    have q114 : h60 7 = h 7 := funext (fun i => (u60 7 i (fo_no_ok (by decide) i)))
    have q115 : h60 19 = h 19 := funext (fun i => (u60 19 i (fo_no_ok (by decide) i)))
    have q116 : h60 67 = h 67 := funext (fun i => (u60 67 i (fo_no_ok (by decide) i)))
    have ml112 : MCL h60 := MCL.mv mi0.1 q113 q114 q115 q116 (by omega) (by omega) (by omega) (by omega)
    have q118 : h60 69 = h 69 := funext (fun i => (u60 69 i (fo_no_ok (by decide) i)))
    have q119 : h60 70 = h 70 := funext (fun i => (u60 70 i (fo_no_ok (by decide) i)))
    have nb117 : NBc (h60 69) (h60 70) := by rw [q118, q119]; exact mi0.2.2
    have q120 : h60 8 = h 8 := funext (fun i => (u60 8 i (fo_no_ok (by decide) i)))
    have q121 : h60 7 = h 7 := funext (fun i => (u60 7 i (fo_no_ok (by decide) i)))
    have mi111 : MCI h60 := ⟨ml112, HIv.mv mi0.2.1 q120 q121 (by omega) (by omega) (sv_seven (P := fun x => ∀ i, h60 (76 + 19 * x) i = h (76 + 19 * x) i) (fun i => (u60 76 i (fn_a (by decide) fn_0))) (fun i => (u60 95 i (fn_a (by decide) fn_0))) (fun i => (u60 114 i (fn_a (by decide) fn_0))) (fun i => (u60 133 i (fn_a (by decide) fn_0))) (fun i => (u60 152 i (fn_a (by decide) fn_0))) (fun i => (u60 171 i (fn_a (by decide) fn_0))) (fun i => (u60 190 i (fn_a (by decide) fn_0)))) (by omega) (by omega), nb117⟩
    have gq122 := GQS.fr u60 rfl gq0
    have q123 : h60 8 = h 8 := funext (fun i => (u60 8 i (fo_no_ok (by decide) i)))
    have q124 : h60 7 = h 7 := funext (fun i => (u60 7 i (fo_no_ok (by decide) i)))
    have q125 : h60 215 = h 215 := funext (fun i => (u60 215 i (fo_no_ok (by decide) i)))
    have q126 : h60 218 = h 218 := funext (fun i => (u60 218 i (fo_no_ok (by decide) i)))
    have q127 : h60 214 = h 214 := funext (fun i => (u60 214 i (fo_no_ok (by decide) i)))
    have q128 : h60 241 = h 241 := funext (fun i => (u60 241 i (fo_no_ok (by decide) i)))
    exact k h60 (b - 1) (c - 6) ⟨⟨g60, (show h60 1 1 = h60 236 2 by omega), (RS.i0 (f := h60 238) (by refine ⟨?_, ?_, ?_, ?_, ?_⟩ <;> omega)), (RS.i0 (f := h60 241) (by refine ⟨?_, ?_, ?_, ?_, ?_⟩ <;> omega)), gp92, (BRh.keep br0 (fun i => (u60 2 i (fn_a (by decide) fn_0))) (fun i => (u60 237 i (fn_a (by decide) fn_0))) (by omega)), (show h60 1 2 = h60 236 10 by omega), (show h60 1 3 = h60 236 11 by omega), (SVx.keep sv0 (by omega) (fun i _ => (u60 3 i (fn_a (by decide) fn_0))) (fun i _ => (u60 5 i (fn_a (by decide) fn_0))) (fun i _ => (u60 6 i (fn_a (by decide) fn_0))) (fun i _ => (u60 8 i (fn_a (by decide) fn_0))) (fun i _ => (u60 238 i (fn_a (by decide) fn_0)))), (show h60 0 12 = h60 236 21 by omega), (fun e => (SVx.keep (ss0 (by omega)) (by omega) (fun i _ => (u60 210 i (fn_a (by decide) fn_0))) (fun i _ => (u60 212 i (fn_a (by decide) fn_0))) (fun i _ => (u60 213 i (fn_a (by decide) fn_0))) (fun i _ => (u60 215 i (fn_a (by decide) fn_0))) (fun i _ => (u60 241 i (fn_a (by decide) fn_0))))), gs95, mi111, (show h60 63 5 ≤ h60 18 16 by omega), (show (h60 63 5) < (h60 18 16) ∨ ((h60 18 7) ≤ (h60 3 2) ∧ (h60 66 1) = (h60 3 2) - (h60 18 7)) ∨ ((h60 3 2) < (h60 18 7) ∧ (h60 66 1) = 0) by omega), gq122, (MR.mv mr0 (MSN.then (MSN.refl) (fun i _ => (u60 238 i (fn_a (by decide) fn_0)))) (by omega) q123 q124 (by omega)), (fun e => SM.mv (sm0 (by omega)) q125 q126 q127 (by omega) q128)⟩, (by omega)⟩ (by omega) (by omega)
