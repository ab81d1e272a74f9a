-- the law, case at 883
set_option maxRecDepth 100000 in
set_option maxHeartbeats 100000000 in
theorem lc_883 {L : Nat} {xs : Nat → Int32} {d b c : Nat} {h : hp} {cr : Nat → Nat → Option Nat} {Q : hp_Q} (hcr : CR cr) (hL : L ≤ 3072) (hr : 1 ≤ b ∧ 6 ≤ c) (i : Int) (I : LIm i h) (hi : 0 ≤ i ∧ i + 6 ≤ L) (k : ∀ (h2 : hp) (b2 c2 : Nat), LIm (i + 6) h2 → b ≤ b2 + 1 → c ≤ c2 + 6 → wp (md_xa (L, xs)) (d + 107) 0 (1501, [(0, .ref 1000000), (1, .ref 0), (2, .ref 236), (3, .ref 259), (4, vi i)], [], hp_w h2 cr, b2, c2) Q) : wp (md_xa (L, xs)) (d + 107) 0 (883, [(0, .ref 1000000), (1, .ref 0), (2, .ref 236), (3, .ref 259), (4, vi i)], [], hp_w h cr, b, c) Q := by
  obtain ⟨⟨g, i11, r238, r241, gp0, br0, er2, er3, sv0, sf0, ss0, gs0, mi0, ml1, ml2, gq0, mr0, sm0⟩, ie0⟩ := I
  have r238e := r238.e0
  have r241e := r241.e0
  obtain ⟨⟨se0, se1, se2, se3, se4, se5, se6, se7, se8, se9⟩, -⟩ := id sv0
  have b1 := gi_b (lo := 0) (hi := 5) g 3 0 rfl
  have b2 := gi_b (lo := 0) (hi := 5) g 238 0 rfl
  have b3 := gi_b (lo := 0) (hi := 4) g 3 1 rfl
  have b4 := gi_b (lo := 0) (hi := 4) g 238 1 rfl
  have b5 := gi_b (lo := 0) (hi := 12) g 3 2 rfl
  have b6 := gi_b (lo := 0) (hi := 12) g 238 2 rfl
  have b7 := gi_b (lo := -2147483648) (hi := 2147483647) g 3 3 rfl
  have b8 := gi_b (lo := 0) (hi := 999) g 238 3 rfl
  have b9 := gi_b (lo := -2147483648) (hi := 2147483647) g 3 4 rfl
  have b10 := gi_b (lo := 0) (hi := 999) g 238 4 rfl
  have b11 := gi_b (lo := -2147483648) (hi := 2147483647) g 3 5 rfl
  have b12 := gi_b (lo := 0) (hi := 9) g 238 5 rfl
  have b13 := gi_b (lo := -2147483648) (hi := 2147483647) g 3 6 rfl
  have b14 := gi_b (lo := 0) (hi := 999) g 238 6 rfl
  have b15 := gi_b (lo := -2147483648) (hi := 2147483647) g 3 7 rfl
  have b16 := gi_b (lo := 0) (hi := 3) g 238 7 rfl
  have b17 := gi_b (lo := -2147483648) (hi := 2147483647) g 3 8 rfl
  have b18 := gi_b (lo := 0) (hi := 999) g 238 8 rfl
  have b19 := gi_b (lo := -2147483648) (hi := 2147483647) g 3 9 rfl
  have b20 := gi_b (lo := 0) (hi := 999) g 238 9 rfl
  have b21 := gi_b (lo := -2147483648) (hi := 2147483647) g 63 5 rfl
  have b22 := gi_b (lo := 0) (hi := 12) g 18 7 rfl
  have b23 := gi_b (lo := 0) (hi := 12) g 66 1 rfl
  have b24 := gi_b (lo := 0) (hi := 1) g 0 12 rfl
  have b25 := gi_b (lo := 0) (hi := 1) g 236 21 rfl
  have bl_ := gi_b (lo := 0) (hi := 800) g 1 1 rfl
  have tb0 : BufC (h 2) (h 1 1) h := ⟨fun _ => rfl, rfl, by omega, by omega⟩
  have b26 := gi_b (lo := 0) (hi := 6) g 238 98 rfl
  have b27 := gi_b (lo := 0) (hi := 6) g 238 99 rfl
  have b28 := gi_b (lo := 0) (hi := 6) g 238 100 rfl
  have b29 := gi_b (lo := 0) (hi := 6) g 238 101 rfl
  have b30 := gi_b (lo := 0) (hi := 3) g 238 102 rfl
  have b31 := gi_b (lo := 0) (hi := 12) g 238 106 rfl
  have b32 := gi_b (lo := 0) (hi := 12) g 238 73 rfl
  have b33 := gi_b (lo := 0) (hi := 9999) g 238 119 rfl
  have b34 := gi_b (lo := 0) (hi := 9999) g 238 67 rfl
  have b35 := gi_b (lo := 0) (hi := 9) g 238 69 rfl
  have b36 := gi_b (lo := 0) (hi := 6) g 241 98 rfl
  have b37 := gi_b (lo := 0) (hi := 6) g 241 99 rfl
  have b38 := gi_b (lo := 0) (hi := 6) g 241 100 rfl
  have b39 := gi_b (lo := 0) (hi := 6) g 241 101 rfl
  have b40 := gi_b (lo := 0) (hi := 3) g 241 102 rfl
  have b41 := gi_b (lo := 0) (hi := 12) g 241 106 rfl
  have b42 := gi_b (lo := 0) (hi := 12) g 241 73 rfl
  have b43 := gi_b (lo := 0) (hi := 12) g 241 2 rfl
  have b44 := gi_b (lo := 0) (hi := 9999) g 241 119 rfl
  have b45 := gi_b (lo := 0) (hi := 9999) g 241 67 rfl
  have b46 := gi_b (lo := 0) (hi := 9) g 241 69 rfl
  have b47 := gi_b (lo := 0) (hi := 9) g 241 5 rfl
  have b48 := gi_b (lo := 0) (hi := 800) g 1 1 rfl
  have b49 := gi_b (lo := 0) (hi := 800) g 236 2 rfl
  have b50 := gi_b (lo := -2147483648) (hi := 2147483647) g 1 2 rfl
  have b51 := gi_b (lo := -2147483648) (hi := 2147483647) g 236 10 rfl
  have b52 := gi_b (lo := -2147483648) (hi := 2147483647) g 1 3 rfl
  have b53 := gi_b (lo := -2147483648) (hi := 2147483647) g 236 11 rfl
  refine wi_aload_n (i := 1) (x := 0) (nx := 884) (r1 := 0) (r2 := 0) (r3 := 0) rfl rfl ?_
  refine wi_aload_n (i := 0) (x := 1000000) (nx := 885) (r1 := 0) (r2 := 0) (r3 := 0) rfl rfl ?_
  refine wi_iload (i := 4) (e := i) (nx := 887) (r1 := 0) (r2 := 0) (r3 := 0) rfl rfl ?_
  refine wi_iconst (n := 1) (nx := 888) (r1 := 0) (r2 := 0) (r3 := 0) rfl ?_
  refine wr_add (nx := 889) (r1 := 0) (r2 := 0) (r3 := 0) rfl (fun e54 (fe54 : e54 = i + 1) => ?_)
  obtain ⟨i55, ei55⟩ : ∃ q : Nat, e54 = (q : Int) := ⟨(e54).toNat, by omega⟩
  have s56 := sc_b (xs i55)
  refine wr_sc (a := e54) (f := i55) (nx := 890) (r1 := 0) (r2 := 0) (r3 := 0) rfl (by omega) (by omega) hL ?_
  refine wi_aload_n (i := 3) (x := 259) (nx := 891) (r1 := 0) (r2 := 0) (r3 := 0) rfl rfl ?_
  refine wi_S (rest := []) (as := [.ref 0, vi ((xs i55).toInt), .ref 259]) (nx := 894) (r1 := 15) (r2 := 19) (r3 := 0) rfl rfl rfl (of_decide_eq_true rfl) rfl rfl (of_decide_eq_true rfl) (of_decide_eq_true rfl) ?_
  refine wi_aload_n (i := 2) (x := 259) (nx := 1) (r1 := 0) (r2 := 0) (r3 := 0) rfl rfl ?_
  refine wi_iconst (n := 0) (nx := 2) (r1 := 0) (r2 := 0) (r3 := 0) rfl ?_
  refine wi_aload_n (i := 0) (x := 0) (nx := 3) (r1 := 0) (r2 := 0) (r3 := 0) rfl rfl ?_
  refine wi_iload_n (i := 1) (e := (xs i55).toInt) (nx := 4) (r1 := 0) (r2 := 0) (r3 := 0) rfl rfl ?_
  refine wr_V (k0 := 0) (rest := [vi 0, .ref 259]) (as := [.ref 0, vi ((xs i55).toInt)]) (nx := 7) (r1 := 77) (r2 := 1) (r3 := 0) rfl rfl rfl (of_decide_eq_true rfl) rfl rfl (by decide) rfl rfl (of_decide_eq_true rfl) (of_decide_eq_true rfl) ?_
  refine ct_77_0 hcr hr  g ((xs i55).toInt) (by omega)  (fun z58  (fz58 : 0 ≤ z58 ∧ z58 ≤ 1) m57_0 m57_1 => ?_) ?_
  ·
    refine wk_i ?_
    refine wi_if (cd := .eq) (nx := 10) (r1 := 14) (r2 := 0) (r3 := 0) rfl (by omega) (fun (q59 : z58 = 0) => ?_) (fun (q59 : ¬ (z58 = 0)) => ?_)
    ·
      have f60 : 0 ≤ ((xs i55).toInt) ∧ ((xs i55).toInt) ≤ 3 := m57_0 (by omega)
      refine wi_lconst (n := 0) (e := 0) (nx := 15) (r1 := 0) (r2 := 0) (r3 := 0) rfl (by decide) ?_
      refine wr_ls (k0 := 259) (a := 0) (f := 0) (x := 0) (bl := -9223372036854775808) (bh := 9223372036854775807) (nx := 16) (r1 := 0) (r2 := 0) (r3 := 0) rfl (by decide) rfl (by omega) (by omega) (by decide) g rfl (by omega) (fun h61 g61 w61 u61 => ?_)
      refine wi_goto (nx := 19) (r1 := 22) (r2 := 0) (r3 := 0) rfl ?_
      refine wi_iconst (n := 0) (nx := 23) (r1 := 0) (r2 := 0) (r3 := 0) rfl ?_
      refine wi_ireturn (nx := 24) (r1 := 0) (r2 := 0) (r3 := 0) rfl rfl ?_
      refine wk_i ?_
      refine wi_istore (i := 5) (e := 0) (lo2 := [(5, vi 0), (0, .ref 1000000), (1, .ref 0), (2, .ref 236), (3, .ref 259), (4, vi i)]) (nx := 896) (r1 := 0) (r2 := 0) (r3 := 0) rfl rfl ?_
      refine wi_aload_n (i := 2) (x := 236) (nx := 897) (r1 := 0) (r2 := 0) (r3 := 0) rfl rfl ?_
      refine wi_aload_n (i := 0) (x := 1000000) (nx := 898) (r1 := 0) (r2 := 0) (r3 := 0) rfl rfl ?_
      refine wi_iload (i := 4) (e := i) (nx := 900) (r1 := 0) (r2 := 0) (r3 := 0) rfl rfl ?_
      refine wi_iconst (n := 1) (nx := 901) (r1 := 0) (r2 := 0) (r3 := 0) rfl ?_
      refine wr_add (nx := 902) (r1 := 0) (r2 := 0) (r3 := 0) rfl (fun e62 (fe62 : e62 = i + 1) => ?_)
      refine wr_sc (a := e62) (f := i55) (nx := 903) (r1 := 0) (r2 := 0) (r3 := 0) rfl (by omega) (by omega) hL ?_
      refine wr_V (k0 := 236) (rest := []) (as := [.ref 236, vi ((xs i55).toInt)]) (nx := 906) (r1 := 265) (r2 := 1) (r3 := 11) rfl rfl rfl (of_decide_eq_true rfl) rfl rfl (by decide) rfl rfl (of_decide_eq_true rfl) (of_decide_eq_true rfl) ?_
      refine ct_265_236 hcr  g61 ((xs i55).toInt) (by omega)  (fun h63 z64 g63 u63 (fz64 : 0 ≤ z64 ∧ z64 ≤ 1) m63_0 => ?_)
      refine wk_i ?_
      refine wi_istore (i := 6) (e := z64) (lo2 := [(6, vi z64), (5, vi 0), (0, .ref 1000000), (1, .ref 0), (2, .ref 236), (3, .ref 259), (4, vi i)]) (nx := 908) (r1 := 0) (r2 := 0) (r3 := 0) rfl rfl ?_
      refine wi_goto (nx := 911) (r1 := 1501) (r2 := 0) (r3 := 0) rfl ?_
      refine wp.lo (lo := [(0, .ref 1000000), (1, .ref 0), (2, .ref 236), (3, .ref 259), (4, vi i)]) ⟨rfl, rfl, rfl, rfl, rfl, trivial⟩ rfl ?_
      have e65 : h63 238 98 = h 238 98 := ((u63 238 98 rfl).trans (u61 238 98 rfl))
      have e66 : h63 238 99 = h 238 99 := ((u63 238 99 rfl).trans (u61 238 99 rfl))
      have e67 : h63 238 100 = h 238 100 := ((u63 238 100 rfl).trans (u61 238 100 rfl))
      have e68 : h63 238 101 = h 238 101 := ((u63 238 101 rfl).trans (u61 238 101 rfl))
      have e69 : h63 238 102 = h 238 102 := ((u63 238 102 rfl).trans (u61 238 102 rfl))
      have e70 : h63 238 106 = h 238 106 := ((u63 238 106 rfl).trans (u61 238 106 rfl))
      have e71 : h63 238 73 = h 238 73 := ((u63 238 73 rfl).trans (u61 238 73 rfl))
      have e72 : h63 238 2 = h 238 2 := ((u63 238 2 rfl).trans (u61 238 2 rfl))
      have e73 : h63 238 119 = h 238 119 := ((u63 238 119 rfl).trans (u61 238 119 rfl))
      have e74 : h63 238 67 = h 238 67 := ((u63 238 67 rfl).trans (u61 238 67 rfl))
      have e75 : h63 238 69 = h 238 69 := ((u63 238 69 rfl).trans (u61 238 69 rfl))
      have e76 : h63 238 5 = h 238 5 := ((u63 238 5 rfl).trans (u61 238 5 rfl))
      have e77 : h63 241 98 = h 241 98 := ((u63 241 98 rfl).trans (u61 241 98 rfl))
      have e78 : h63 241 99 = h 241 99 := ((u63 241 99 rfl).trans (u61 241 99 rfl))
      have e79 : h63 241 100 = h 241 100 := ((u63 241 100 rfl).trans (u61 241 100 rfl))
      have e80 : h63 241 101 = h 241 101 := ((u63 241 101 rfl).trans (u61 241 101 rfl))
      have e81 : h63 241 102 = h 241 102 := ((u63 241 102 rfl).trans (u61 241 102 rfl))
      have e82 : h63 241 106 = h 241 106 := ((u63 241 106 rfl).trans (u61 241 106 rfl))
      have e83 : h63 241 73 = h 241 73 := ((u63 241 73 rfl).trans (u61 241 73 rfl))
      have e84 : h63 241 2 = h 241 2 := ((u63 241 2 rfl).trans (u61 241 2 rfl))
      have e85 : h63 241 119 = h 241 119 := ((u63 241 119 rfl).trans (u61 241 119 rfl))
      have e86 : h63 241 67 = h 241 67 := ((u63 241 67 rfl).trans (u61 241 67 rfl))
      have e87 : h63 241 69 = h 241 69 := ((u63 241 69 rfl).trans (u61 241 69 rfl))
      have e88 : h63 241 5 = h 241 5 := ((u63 241 5 rfl).trans (u61 241 5 rfl))
      have e89 : h63 1 1 = h 1 1 := ((u63 1 1 rfl).trans (u61 1 1 rfl))
      have e90 : h63 236 2 = h 236 2 := ((u63 236 2 rfl).trans (u61 236 2 rfl))
      have e91 : h63 1 2 = h 1 2 := ((u63 1 2 rfl).trans (u61 1 2 rfl))
      have e92 : h63 236 10 = h 236 10 := ((u63 236 10 rfl).trans (u61 236 10 rfl))
      have e93 : h63 1 3 = h 1 3 := ((u63 1 3 rfl).trans (u61 1 3 rfl))
      have e94 : h63 236 11 = h 236 11 := ((u63 236 11 rfl).trans (u61 236 11 rfl))
      have gp95 := GPH.fr u61 rfl gp0
      have gp96 := GPH.fr u63 rfl gp95
      have b97 := gi_b (lo := 0) (hi := 5) g 241 0 rfl
      have b98 := gi_b (lo := 0) (hi := 4) g 241 1 rfl
      have gs99 := GPS.fr u61 rfl gs0
      have gs100 := GPS.fr u63 rfl gs99
      have e101 : h63 0 12 = h 0 12 := ((u63 0 12 rfl).trans (u61 0 12 rfl))
      have e102 : h63 236 21 = h 236 21 := ((u63 236 21 rfl).trans (u61 236 21 rfl))
      have e103 : h63 63 5 = h 63 5 := ((u63 63 5 rfl).trans (u61 63 5 rfl))
      have e104 : h63 18 16 = h 18 16 := ((u63 18 16 rfl).trans (u61 18 16 rfl))
      have e105 : h63 18 7 = h 18 7 := ((u63 18 7 rfl).trans (u61 18 7 rfl))
      have e106 : h63 3 2 = h 3 2 := ((u63 3 2 rfl).trans (u61 3 2 rfl))
      have e107 : h63 66 1 = h 66 1 := ((u63 66 1 rfl).trans (u61 66 1 rfl))
      have b108 := gi_b (lo := 0) (hi := 6) g 73 1 rfl
      have e109 : h63 73 1 = h 73 1 := ((u63 73 1 rfl).trans (u61 73 1 rfl))
      have b110 := gi_b (lo := 0) (hi := 6) g 73 2 rfl
      have e111 : h63 73 2 = h 73 2 := ((u63 73 2 rfl).trans (u61 73 2 rfl))
      have b112 := gi_b (lo := 0) (hi := 6) g 236 22 rfl
      have e113 : h63 236 22 = h 236 22 := ((u63 236 22 rfl).trans (u61 236 22 rfl))
      have b114 := gi_b (lo := 0) (hi := 12) g 210 2 rfl
      have e115 : h63 210 2 = h 210 2 := ((u63 210 2 rfl).trans (u61 210 2 rfl))
      have q118 : h63 8 = h 8 := funext (fun i => ((u63 8 i (fo_no_ok (by decide) i)).trans (u61 8 i rfl)))
      have q119 : h63 7 = h 7 := funext (fun i => ((u63 7 i (fo_no_ok (by decide) i)).trans (u61 7 i rfl)))
      have q120 : h63 19 = h 19 := funext (fun i => ((u63 19 i (fo_no_ok (by decide) i)).trans (u61 19 i rfl)))
      have q121 : h63 67 = h 67 := funext (fun i => ((u63 67 i (fo_no_ok (by decide) i)).trans (u61 67 i rfl)))
      have ml117 : MCL h63 := MCL.mv mi0.1 q118 q119 q120 q121 (by omega) (by omega) (by omega) (by omega)
      have q123 : h63 69 = h 69 := funext (fun i => ((u63 69 i (fo_no_ok (by decide) i)).trans (u61 69 i rfl)))
      have q124 : h63 70 = h 70 := funext (fun i => ((u63 70 i (fo_no_ok (by decide) i)).trans (u61 70 i rfl)))
      have nb122 : NBc (h63 69) (h63 70) := by rw [q123, q124]; exact mi0.2.2
      have q125 : h63 8 = h 8 := funext (fun i => ((u63 8 i (fo_no_ok (by decide) i)).trans (u61 8 i rfl)))
      have q126 : h63 7 = h 7 := funext (fun i => ((u63 7 i (fo_no_ok (by decide) i)).trans (u61 7 i rfl)))
      have mi116 : MCI h63 := ⟨ml117, HIv.mv mi0.2.1 q125 q126 (by omega) (by omega) (sv_seven (P := fun x => ∀ i, h63 (76 + 19 * x) i = h (76 + 19 * x) i) (fun i => ((u63 76 i (fn_a (by decide) fn_0)).trans (u61 76 i (fn_a (by omega) fn_0)))) (fun i => ((u63 95 i (fn_a (by decide) fn_0)).trans (u61 95 i (fn_a (by omega) fn_0)))) (fun i => ((u63 114 i (fn_a (by decide) fn_0)).trans (u61 114 i (fn_a (by omega) fn_0)))) (fun i => ((u63 133 i (fn_a (by decide) fn_0)).trans (u61 133 i (fn_a (by omega) fn_0)))) (fun i => ((u63 152 i (fn_a (by decide) fn_0)).trans (u61 152 i (fn_a (by omega) fn_0)))) (fun i => ((u63 171 i (fn_a (by decide) fn_0)).trans (u61 171 i (fn_a (by omega) fn_0)))) (fun i => ((u63 190 i (fn_a (by decide) fn_0)).trans (u61 190 i (fn_a (by omega) fn_0))))) (by omega) (by omega), nb122⟩
      have gq127 := GQS.fr u61 rfl gq0
      have gq128 := GQS.fr u63 rfl gq127
      have q129 : h63 8 = h 8 := funext (fun i => ((u63 8 i (fo_no_ok (by decide) i)).trans (u61 8 i rfl)))
      have q130 : h63 7 = h 7 := funext (fun i => ((u63 7 i (fo_no_ok (by decide) i)).trans (u61 7 i rfl)))
      have q131 : h63 215 = h 215 := funext (fun i => ((u63 215 i (fo_no_ok (by decide) i)).trans (u61 215 i rfl)))
      have q132 : h63 218 = h 218 := funext (fun i => ((u63 218 i (fo_no_ok (by decide) i)).trans (u61 218 i rfl)))
      have q133 : h63 214 = h 214 := funext (fun i => ((u63 214 i (fo_no_ok (by decide) i)).trans (u61 214 i rfl)))
      have q134 : h63 241 = h 241 := funext (fun i => ((u63 241 i (fo_no_ok (by decide) i)).trans (u61 241 i rfl)))
      exact k h63 b c ⟨⟨g63, (show h63 1 1 = h63 236 2 by omega), (RS.i0 (f := h63 238) (by refine ⟨?_, ?_, ?_, ?_, ?_⟩ <;> omega)), (RS.i0 (f := h63 241) (by refine ⟨?_, ?_, ?_, ?_, ?_⟩ <;> omega)), gp96, (BRh.keep br0 (fun i => ((u63 2 i (fn_a (by decide) fn_0)).trans (u61 2 i (fn_a (by omega) fn_0)))) (fun i => ((u63 237 i (fn_a (by decide) fn_0)).trans (u61 237 i (fn_a (by omega) fn_0)))) (by omega)), (show h63 1 2 = h63 236 10 by omega), (show h63 1 3 = h63 236 11 by omega), (SVx.keep sv0 (by omega) (fun i _ => ((u63 3 i (fn_a (by decide) fn_0)).trans (u61 3 i (fn_a (by omega) fn_0)))) (fun i _ => ((u63 5 i (fn_a (by decide) fn_0)).trans (u61 5 i (fn_a (by omega) fn_0)))) (fun i _ => ((u63 6 i (fn_a (by decide) fn_0)).trans (u61 6 i (fn_a (by omega) fn_0)))) (fun i _ => ((u63 8 i (fn_a (by decide) fn_0)).trans (u61 8 i (fn_a (by omega) fn_0)))) (fun i _ => ((u63 238 i (fn_a (by decide) fn_0)).trans (u61 238 i (fn_a (by omega) fn_0))))), (show h63 0 12 = h63 236 21 by omega), (fun e => (SVx.keep (ss0 (by omega)) (by omega) (fun i _ => ((u63 210 i (fn_a (by decide) fn_0)).trans (u61 210 i (fn_a (by omega) fn_0)))) (fun i _ => ((u63 212 i (fn_a (by decide) fn_0)).trans (u61 212 i (fn_a (by omega) fn_0)))) (fun i _ => ((u63 213 i (fn_a (by decide) fn_0)).trans (u61 213 i (fn_a (by omega) fn_0)))) (fun i _ => ((u63 215 i (fn_a (by decide) fn_0)).trans (u61 215 i (fn_a (by omega) fn_0)))) (fun i _ => ((u63 241 i (fn_a (by decide) fn_0)).trans (u61 241 i (fn_a (by omega) fn_0)))))), gs100, mi116, (show h63 63 5 ≤ h63 18 16 by omega), (show (h63 63 5) < (h63 18 16) ∨ ((h63 18 7) ≤ (h63 3 2) ∧ (h63 66 1) = (h63 3 2) - (h63 18 7)) ∨ ((h63 3 2) < (h63 18 7) ∧ (h63 66 1) = 0) by omega), gq128, (MR.mv mr0 (MSN.then (MSN.refl) (fun i _ => ((u63 238 i (fn_a (by decide) fn_0)).trans (u61 238 i (fn_a (by omega) fn_0))))) (by omega) q129 q130 (by omega)), (fun e => SM.mv (sm0 (by omega)) q131 q132 q133 (by omega) q134)⟩, (by omega)⟩ (by omega) (by omega)
    ·
      have f60 : 0 ≤ ((xs i55).toInt) ∧ ((xs i55).toInt) ≤ 3 := m57_1 (by omega)
      refine wi_lconst (n := 1) (e := 1) (nx := 11) (r1 := 0) (r2 := 0) (r3 := 0) rfl (by decide) ?_
      refine wi_goto (nx := 14) (r1 := 15) (r2 := 0) (r3 := 0) rfl ?_
      refine wr_ls (k0 := 259) (a := 0) (f := 0) (x := 1) (bl := -9223372036854775808) (bh := 9223372036854775807) (nx := 16) (r1 := 0) (r2 := 0) (r3 := 0) rfl (by decide) rfl (by omega) (by omega) (by decide) g rfl (by omega) (fun h61 g61 w61 u61 => ?_)
      refine wi_goto (nx := 19) (r1 := 22) (r2 := 0) (r3 := 0) rfl ?_
      refine wi_iconst (n := 0) (nx := 23) (r1 := 0) (r2 := 0) (r3 := 0) rfl ?_
      refine wi_ireturn (nx := 24) (r1 := 0) (r2 := 0) (r3 := 0) rfl rfl ?_
      refine wk_i ?_
      refine wi_istore (i := 5) (e := 0) (lo2 := [(5, vi 0), (0, .ref 1000000), (1, .ref 0), (2, .ref 236), (3, .ref 259), (4, vi i)]) (nx := 896) (r1 := 0) (r2 := 0) (r3 := 0) rfl rfl ?_
      refine wi_aload_n (i := 2) (x := 236) (nx := 897) (r1 := 0) (r2 := 0) (r3 := 0) rfl rfl ?_
      refine wi_aload_n (i := 0) (x := 1000000) (nx := 898) (r1 := 0) (r2 := 0) (r3 := 0) rfl rfl ?_
      refine wi_iload (i := 4) (e := i) (nx := 900) (r1 := 0) (r2 := 0) (r3 := 0) rfl rfl ?_
      refine wi_iconst (n := 1) (nx := 901) (r1 := 0) (r2 := 0) (r3 := 0) rfl ?_
      refine wr_add (nx := 902) (r1 := 0) (r2 := 0) (r3 := 0) rfl (fun e62 (fe62 : e62 = i + 1) => ?_)
      refine wr_sc (a := e62) (f := i55) (nx := 903) (r1 := 0) (r2 := 0) (r3 := 0) rfl (by omega) (by omega) hL ?_
      refine wr_V (k0 := 236) (rest := []) (as := [.ref 236, vi ((xs i55).toInt)]) (nx := 906) (r1 := 265) (r2 := 1) (r3 := 11) rfl rfl rfl (of_decide_eq_true rfl) rfl rfl (by decide) rfl rfl (of_decide_eq_true rfl) (of_decide_eq_true rfl) ?_
      refine ct_265_236 hcr  g61 ((xs i55).toInt) (by omega)  (fun h63 z64 g63 u63 (fz64 : 0 ≤ z64 ∧ z64 ≤ 1) m63_0 => ?_)
      refine wk_i ?_
      refine wi_istore (i := 6) (e := z64) (lo2 := [(6, vi z64), (5, vi 0), (0, .ref 1000000), (1, .ref 0), (2, .ref 236), (3, .ref 259), (4, vi i)]) (nx := 908) (r1 := 0) (r2 := 0) (r3 := 0) rfl rfl ?_
      refine wi_goto (nx := 911) (r1 := 1501) (r2 := 0) (r3 := 0) rfl ?_
      refine wp.lo (lo := [(0, .ref 1000000), (1, .ref 0), (2, .ref 236), (3, .ref 259), (4, vi i)]) ⟨rfl, rfl, rfl, rfl, rfl, trivial⟩ rfl ?_
      have e65 : h63 238 98 = h 238 98 := ((u63 238 98 rfl).trans (u61 238 98 rfl))
      have e66 : h63 238 99 = h 238 99 := ((u63 238 99 rfl).trans (u61 238 99 rfl))
      have e67 : h63 238 100 = h 238 100 := ((u63 238 100 rfl).trans (u61 238 100 rfl))
      have e68 : h63 238 101 = h 238 101 := ((u63 238 101 rfl).trans (u61 238 101 rfl))
      have e69 : h63 238 102 = h 238 102 := ((u63 238 102 rfl).trans (u61 238 102 rfl))
      have e70 : h63 238 106 = h 238 106 := ((u63 238 106 rfl).trans (u61 238 106 rfl))
      have e71 : h63 238 73 = h 238 73 := ((u63 238 73 rfl).trans (u61 238 73 rfl))
      have e72 : h63 238 2 = h 238 2 := ((u63 238 2 rfl).trans (u61 238 2 rfl))
      have e73 : h63 238 119 = h 238 119 := ((u63 238 119 rfl).trans (u61 238 119 rfl))
      have e74 : h63 238 67 = h 238 67 := ((u63 238 67 rfl).trans (u61 238 67 rfl))
      have e75 : h63 238 69 = h 238 69 := ((u63 238 69 rfl).trans (u61 238 69 rfl))
      have e76 : h63 238 5 = h 238 5 := ((u63 238 5 rfl).trans (u61 238 5 rfl))
      have e77 : h63 241 98 = h 241 98 := ((u63 241 98 rfl).trans (u61 241 98 rfl))
      have e78 : h63 241 99 = h 241 99 := ((u63 241 99 rfl).trans (u61 241 99 rfl))
      have e79 : h63 241 100 = h 241 100 := ((u63 241 100 rfl).trans (u61 241 100 rfl))
      have e80 : h63 241 101 = h 241 101 := ((u63 241 101 rfl).trans (u61 241 101 rfl))
      have e81 : h63 241 102 = h 241 102 := ((u63 241 102 rfl).trans (u61 241 102 rfl))
      have e82 : h63 241 106 = h 241 106 := ((u63 241 106 rfl).trans (u61 241 106 rfl))
      have e83 : h63 241 73 = h 241 73 := ((u63 241 73 rfl).trans (u61 241 73 rfl))
      have e84 : h63 241 2 = h 241 2 := ((u63 241 2 rfl).trans (u61 241 2 rfl))
      have e85 : h63 241 119 = h 241 119 := ((u63 241 119 rfl).trans (u61 241 119 rfl))
      have e86 : h63 241 67 = h 241 67 := ((u63 241 67 rfl).trans (u61 241 67 rfl))
      have e87 : h63 241 69 = h 241 69 := ((u63 241 69 rfl).trans (u61 241 69 rfl))
      have e88 : h63 241 5 = h 241 5 := ((u63 241 5 rfl).trans (u61 241 5 rfl))
      have e89 : h63 1 1 = h 1 1 := ((u63 1 1 rfl).trans (u61 1 1 rfl))
      have e90 : h63 236 2 = h 236 2 := ((u63 236 2 rfl).trans (u61 236 2 rfl))
      have e91 : h63 1 2 = h 1 2 := ((u63 1 2 rfl).trans (u61 1 2 rfl))
      have e92 : h63 236 10 = h 236 10 := ((u63 236 10 rfl).trans (u61 236 10 rfl))
      have e93 : h63 1 3 = h 1 3 := ((u63 1 3 rfl).trans (u61 1 3 rfl))
      have e94 : h63 236 11 = h 236 11 := ((u63 236 11 rfl).trans (u61 236 11 rfl))
      have gp95 := GPH.fr u61 rfl gp0
      have gp96 := GPH.fr u63 rfl gp95
      have b97 := gi_b (lo := 0) (hi := 5) g 241 0 rfl
      have b98 := gi_b (lo := 0) (hi := 4) g 241 1 rfl
      have gs99 := GPS.fr u61 rfl gs0
      have gs100 := GPS.fr u63 rfl gs99
      have e101 : h63 0 12 = h 0 12 := ((u63 0 12 rfl).trans (u61 0 12 rfl))
      have e102 : h63 236 21 = h 236 21 := ((u63 236 21 rfl).trans (u61 236 21 rfl))
      have e103 : h63 63 5 = h 63 5 := ((u63 63 5 rfl).trans (u61 63 5 rfl))
      have e104 : h63 18 16 = h 18 16 := ((u63 18 16 rfl).trans (u61 18 16 rfl))
      have e105 : h63 18 7 = h 18 7 := ((u63 18 7 rfl).trans (u61 18 7 rfl))
      have e106 : h63 3 2 = h 3 2 := ((u63 3 2 rfl).trans (u61 3 2 rfl))
      have e107 : h63 66 1 = h 66 1 := ((u63 66 1 rfl).trans (u61 66 1 rfl))
      have b108 := gi_b (lo := 0) (hi := 6) g 73 1 rfl
      have e109 : h63 73 1 = h 73 1 := ((u63 73 1 rfl).trans (u61 73 1 rfl))
      have b110 := gi_b (lo := 0) (hi := 6) g 73 2 rfl
      have e111 : h63 73 2 = h 73 2 := ((u63 73 2 rfl).trans (u61 73 2 rfl))
      have b112 := gi_b (lo := 0) (hi := 6) g 236 22 rfl
      have e113 : h63 236 22 = h 236 22 := ((u63 236 22 rfl).trans (u61 236 22 rfl))
      have b114 := gi_b (lo := 0) (hi := 12) g 210 2 rfl
      have e115 : h63 210 2 = h 210 2 := ((u63 210 2 rfl).trans (u61 210 2 rfl))
      have q118 : h63 8 = h 8 := funext (fun i => ((u63 8 i (fo_no_ok (by decide) i)).trans (u61 8 i rfl)))
      have q119 : h63 7 = h 7 := funext (fun i => ((u63 7 i (fo_no_ok (by decide) i)).trans (u61 7 i rfl)))
      have q120 : h63 19 = h 19 := funext (fun i => ((u63 19 i (fo_no_ok (by decide) i)).trans (u61 19 i rfl)))
      have q121 : h63 67 = h 67 := funext (fun i => ((u63 67 i (fo_no_ok (by decide) i)).trans (u61 67 i rfl)))
      have ml117 : MCL h63 := MCL.mv mi0.1 q118 q119 q120 q121 (by omega) (by omega) (by omega) (by omega)
      have q123 : h63 69 = h 69 := funext (fun i => ((u63 69 i (fo_no_ok (by decide) i)).trans (u61 69 i rfl)))
      have q124 : h63 70 = h 70 := funext (fun i => ((u63 70 i (fo_no_ok (by decide) i)).trans (u61 70 i rfl)))
      have nb122 : NBc (h63 69) (h63 70) := by rw [q123, q124]; exact mi0.2.2
      have q125 : h63 8 = h 8 := funext (fun i => ((u63 8 i (fo_no_ok (by decide) i)).trans (u61 8 i rfl)))
      have q126 : h63 7 = h 7 := funext (fun i => ((u63 7 i (fo_no_ok (by decide) i)).trans (u61 7 i rfl)))
      have mi116 : MCI h63 := ⟨ml117, HIv.mv mi0.2.1 q125 q126 (by omega) (by omega) (sv_seven (P := fun x => ∀ i, h63 (76 + 19 * x) i = h (76 + 19 * x) i) (fun i => ((u63 76 i (fn_a (by decide) fn_0)).trans (u61 76 i (fn_a (by omega) fn_0)))) (fun i => ((u63 95 i (fn_a (by decide) fn_0)).trans (u61 95 i (fn_a (by omega) fn_0)))) (fun i => ((u63 114 i (fn_a (by decide) fn_0)).trans (u61 114 i (fn_a (by omega) fn_0)))) (fun i => ((u63 133 i (fn_a (by decide) fn_0)).trans (u61 133 i (fn_a (by omega) fn_0)))) (fun i => ((u63 152 i (fn_a (by decide) fn_0)).trans (u61 152 i (fn_a (by omega) fn_0)))) (fun i => ((u63 171 i (fn_a (by decide) fn_0)).trans (u61 171 i (fn_a (by omega) fn_0)))) (fun i => ((u63 190 i (fn_a (by decide) fn_0)).trans (u61 190 i (fn_a (by omega) fn_0))))) (by omega) (by omega), nb122⟩
      have gq127 := GQS.fr u61 rfl gq0
      have gq128 := GQS.fr u63 rfl gq127
      have q129 : h63 8 = h 8 := funext (fun i => ((u63 8 i (fo_no_ok (by decide) i)).trans (u61 8 i rfl)))
      have q130 : h63 7 = h 7 := funext (fun i => ((u63 7 i (fo_no_ok (by decide) i)).trans (u61 7 i rfl)))
      have q131 : h63 215 = h 215 := funext (fun i => ((u63 215 i (fo_no_ok (by decide) i)).trans (u61 215 i rfl)))
      have q132 : h63 218 = h 218 := funext (fun i => ((u63 218 i (fo_no_ok (by decide) i)).trans (u61 218 i rfl)))
      have q133 : h63 214 = h 214 := funext (fun i => ((u63 214 i (fo_no_ok (by decide) i)).trans (u61 214 i rfl)))
      have q134 : h63 241 = h 241 := funext (fun i => ((u63 241 i (fo_no_ok (by decide) i)).trans (u61 241 i rfl)))
      exact k h63 b c ⟨⟨g63, (show h63 1 1 = h63 236 2 by omega), (RS.i0 (f := h63 238) (by refine ⟨?_, ?_, ?_, ?_, ?_⟩ <;> omega)), (RS.i0 (f := h63 241) (by refine ⟨?_, ?_, ?_, ?_, ?_⟩ <;> omega)), gp96, (BRh.keep br0 (fun i => ((u63 2 i (fn_a (by decide) fn_0)).trans (u61 2 i (fn_a (by omega) fn_0)))) (fun i => ((u63 237 i (fn_a (by decide) fn_0)).trans (u61 237 i (fn_a (by omega) fn_0)))) (by omega)), (show h63 1 2 = h63 236 10 by omega), (show h63 1 3 = h63 236 11 by omega), (SVx.keep sv0 (by omega) (fun i _ => ((u63 3 i (fn_a (by decide) fn_0)).trans (u61 3 i (fn_a (by omega) fn_0)))) (fun i _ => ((u63 5 i (fn_a (by decide) fn_0)).trans (u61 5 i (fn_a (by omega) fn_0)))) (fun i _ => ((u63 6 i (fn_a (by decide) fn_0)).trans (u61 6 i (fn_a (by omega) fn_0)))) (fun i _ => ((u63 8 i (fn_a (by decide) fn_0)).trans (u61 8 i (fn_a (by omega) fn_0)))) (fun i _ => ((u63 238 i (fn_a (by decide) fn_0)).trans (u61 238 i (fn_a (by omega) fn_0))))), (show h63 0 12 = h63 236 21 by omega), (fun e => (SVx.keep (ss0 (by omega)) (by omega) (fun i _ => ((u63 210 i (fn_a (by decide) fn_0)).trans (u61 210 i (fn_a (by omega) fn_0)))) (fun i _ => ((u63 212 i (fn_a (by decide) fn_0)).trans (u61 212 i (fn_a (by omega) fn_0)))) (fun i _ => ((u63 213 i (fn_a (by decide) fn_0)).trans (u61 213 i (fn_a (by omega) fn_0)))) (fun i _ => ((u63 215 i (fn_a (by decide) fn_0)).trans (u61 215 i (fn_a (by omega) fn_0)))) (fun i _ => ((u63 241 i (fn_a (by decide) fn_0)).trans (u61 241 i (fn_a (by omega) fn_0)))))), gs100, mi116, (show h63 63 5 ≤ h63 18 16 by omega), (show (h63 63 5) < (h63 18 16) ∨ ((h63 18 7) ≤ (h63 3 2) ∧ (h63 66 1) = (h63 3 2) - (h63 18 7)) ∨ ((h63 3 2) < (h63 18 7) ∧ (h63 66 1) = 0) by omega), gq128, (MR.mv mr0 (MSN.then (MSN.refl) (fun i _ => ((u63 238 i (fn_a (by decide) fn_0)).trans (u61 238 i (fn_a (by omega) fn_0))))) (by omega) q129 q130 (by omega)), (fun e => SM.mv (sm0 (by omega)) q131 q132 q133 (by omega) q134)⟩, (by omega)⟩ (by omega) (by omega)
  ·
    refine wk_h 19 (by decide) rfl ?_
    refine wr_astx (i := 3) (lo2 := [(3, .retAddr 0), (0, .ref 0), (1, vi ((xs i55).toInt)), (2, .ref 259)]) (nx := 20) (r1 := 0) (r2 := 0) (r3 := 0) rfl rfl ?_
    refine wi_iconst (n := 1) (nx := 21) (r1 := 0) (r2 := 0) (r3 := 0) rfl ?_
    refine wi_ireturn (nx := 22) (r1 := 0) (r2 := 0) (r3 := 0) rfl rfl ?_
    refine wk_i ?_
    refine wi_istore (i := 5) (e := 1) (lo2 := [(5, vi 1), (0, .ref 1000000), (1, .ref 0), (2, .ref 236), (3, .ref 259), (4, vi i)]) (nx := 896) (r1 := 0) (r2 := 0) (r3 := 0) rfl rfl ?_
    refine wi_aload_n (i := 2) (x := 236) (nx := 897) (r1 := 0) (r2 := 0) (r3 := 0) rfl rfl ?_
    refine wi_aload_n (i := 0) (x := 1000000) (nx := 898) (r1 := 0) (r2 := 0) (r3 := 0) rfl rfl ?_
    refine wi_iload (i := 4) (e := i) (nx := 900) (r1 := 0) (r2 := 0) (r3 := 0) rfl rfl ?_
    refine wi_iconst (n := 1) (nx := 901) (r1 := 0) (r2 := 0) (r3 := 0) rfl ?_
    refine wr_add (nx := 902) (r1 := 0) (r2 := 0) (r3 := 0) rfl (fun e59 (fe59 : e59 = i + 1) => ?_)
    refine wr_sc (a := e59) (f := i55) (nx := 903) (r1 := 0) (r2 := 0) (r3 := 0) rfl (by omega) (by omega) hL ?_
    refine wr_V (k0 := 236) (rest := []) (as := [.ref 236, vi ((xs i55).toInt)]) (nx := 906) (r1 := 265) (r2 := 1) (r3 := 11) rfl rfl rfl (of_decide_eq_true rfl) rfl rfl (by decide) rfl rfl (of_decide_eq_true rfl) (of_decide_eq_true rfl) ?_
    refine ct_265_236 hcr  g ((xs i55).toInt) (by omega)  (fun h60 z61 g60 u60 (fz61 : 0 ≤ z61 ∧ z61 ≤ 1) m60_0 => ?_)
    refine wk_i ?_
    refine wi_istore (i := 6) (e := z61) (lo2 := [(6, vi z61), (5, vi 1), (0, .ref 1000000), (1, .ref 0), (2, .ref 236), (3, .ref 259), (4, vi i)]) (nx := 908) (r1 := 0) (r2 := 0) (r3 := 0) rfl rfl ?_
    refine wi_goto (nx := 911) (r1 := 1501) (r2 := 0) (r3 := 0) rfl ?_
    refine wp.lo (lo := [(0, .ref 1000000), (1, .ref 0), (2, .ref 236), (3, .ref 259), (4, vi i)]) ⟨rfl, rfl, rfl, rfl, rfl, trivial⟩ rfl ?_
    have e62 : h60 238 98 = h 238 98 := (u60 238 98 rfl)
    have e63 : h60 238 99 = h 238 99 := (u60 238 99 rfl)
    have e64 : h60 238 100 = h 238 100 := (u60 238 100 rfl)
    have e65 : h60 238 101 = h 238 101 := (u60 238 101 rfl)
    have e66 : h60 238 102 = h 238 102 := (u60 238 102 rfl)
    have e67 : h60 238 106 = h 238 106 := (u60 238 106 rfl)
    have e68 : h60 238 73 = h 238 73 := (u60 238 73 rfl)
    have e69 : h60 238 2 = h 238 2 := (u60 238 2 rfl)
    have e70 : h60 238 119 = h 238 119 := (u60 238 119 rfl)
    have e71 : h60 238 67 = h 238 67 := (u60 238 67 rfl)
    have e72 : h60 238 69 = h 238 69 := (u60 238 69 rfl)
    have e73 : h60 238 5 = h 238 5 := (u60 238 5 rfl)
    have e74 : h60 241 98 = h 241 98 := (u60 241 98 rfl)
    have e75 : h60 241 99 = h 241 99 := (u60 241 99 rfl)
    have e76 : h60 241 100 = h 241 100 := (u60 241 100 rfl)
    have e77 : h60 241 101 = h 241 101 := (u60 241 101 rfl)
    have e78 : h60 241 102 = h 241 102 := (u60 241 102 rfl)
    have e79 : h60 241 106 = h 241 106 := (u60 241 106 rfl)
    have e80 : h60 241 73 = h 241 73 := (u60 241 73 rfl)
    have e81 : h60 241 2 = h 241 2 := (u60 241 2 rfl)
    have e82 : h60 241 119 = h 241 119 := (u60 241 119 rfl)
    have e83 : h60 241 67 = h 241 67 := (u60 241 67 rfl)
    have e84 : h60 241 69 = h 241 69 := (u60 241 69 rfl)
    have e85 : h60 241 5 = h 241 5 := (u60 241 5 rfl)
    have e86 : h60 1 1 = h 1 1 := (u60 1 1 rfl)
    have e87 : h60 236 2 = h 236 2 := (u60 236 2 rfl)
    have e88 : h60 1 2 = h 1 2 := (u60 1 2 rfl)
    have e89 : h60 236 10 = h 236 10 := (u60 236 10 rfl)
    have e90 : h60 1 3 = h 1 3 := (u60 1 3 rfl)
    have e91 : h60 236 11 = h 236 11 := (u60 236 11 rfl)
    have gp92 := GPH.fr u60 rfl gp0
    have b93 := gi_b (lo := 0) (hi := 5) g 241 0 rfl
    have b94 := gi_b (lo := 0) (hi := 4) g 241 1 rfl
    have gs95 := GPS.fr u60 rfl gs0
    have e96 : h60 0 12 = h 0 12 := (u60 0 12 rfl)
    have e97 : h60 236 21 = h 236 21 := (u60 236 21 rfl)
    have e98 : h60 63 5 = h 63 5 := (u60 63 5 rfl)
    have e99 : h60 18 16 = h 18 16 := (u60 18 16 rfl)
    have e100 : h60 18 7 = h 18 7 := (u60 18 7 rfl)
    have e101 : h60 3 2 = h 3 2 := (u60 3 2 rfl)
    have e102 : h60 66 1 = h 66 1 := (u60 66 1 rfl)
    have b103 := gi_b (lo := 0) (hi := 6) g 73 1 rfl
    have e104 : h60 73 1 = h 73 1 := (u60 73 1 rfl)
    have b105 := gi_b (lo := 0) (hi := 6) g 73 2 rfl
    have e106 : h60 73 2 = h 73 2 := (u60 73 2 rfl)
    have b107 := gi_b (lo := 0) (hi := 6) g 236 22 rfl
    have e108 : h60 236 22 = h 236 22 := (u60 236 22 rfl)
    have b109 := gi_b (lo := 0) (hi := 12) g 210 2 rfl
    have e110 : h60 210 2 = h 210 2 := (u60 210 2 rfl)
    have q113 : h60 8 = h 8 := funext (fun i => (u60 8 i (fo_no_ok (by decide) i)))
    have q114 : h60 7 = h 7 := funext (fun i => (u60 7 i (fo_no_ok (by decide) i)))
    have q115 : h60 19 = h 19 := funext (fun i => (u60 19 i (fo_no_ok (by decide) i)))
    have q116 : h60 67 = h 67 := funext (fun i => (u60 67 i (fo_no_ok (by decide) i)))
    have ml112 : MCL h60 := MCL.mv mi0.1 q113 q114 q115 q116 (by omega) (by omega) (by omega) (by omega)
    have q118 : h60 69 = h 69 := funext (fun i => (u60 69 i (fo_no_ok (by decide) i)))
    have q119 : h60 70 = h 70 := funext (fun i => (u60 70 i (fo_no_ok (by decide) i)))
    have nb117 : NBc (h60 69) (h60 70) := by rw [q118, q119]; exact mi0.2.2
    have q120 : h60 8 = h 8 := funext (fun i => (u60 8 i (fo_no_ok (by decide) i)))
    have q121 : h60 7 = h 7 := funext (fun i => (u60 7 i (fo_no_ok (by decide) i)))
    have mi111 : MCI h60 := ⟨ml112, HIv.mv mi0.2.1 q120 q121 (by omega) (by omega) (sv_seven (P := fun x => ∀ i, h60 (76 + 19 * x) i = h (76 + 19 * x) i) (fun i => (u60 76 i (fn_a (by decide) fn_0))) (fun i => (u60 95 i (fn_a (by decide) fn_0))) (fun i => (u60 114 i (fn_a (by decide) fn_0))) (fun i => (u60 133 i (fn_a (by decide) fn_0))) (fun i => (u60 152 i (fn_a (by decide) fn_0))) (fun i => (u60 171 i (fn_a (by decide) fn_0))) (fun i => (u60 190 i (fn_a (by decide) fn_0)))) (by omega) (by omega), nb117⟩
    have gq122 := GQS.fr u60 rfl gq0
    have q123 : h60 8 = h 8 := funext (fun i => (u60 8 i (fo_no_ok (by decide) i)))
    have q124 : h60 7 = h 7 := funext (fun i => (u60 7 i (fo_no_ok (by decide) i)))
    have q125 : h60 215 = h 215 := funext (fun i => (u60 215 i (fo_no_ok (by decide) i)))
    have q126 : h60 218 = h 218 := funext (fun i => (u60 218 i (fo_no_ok (by decide) i)))
    have q127 : h60 214 = h 214 := funext (fun i => (u60 214 i (fo_no_ok (by decide) i)))
    have q128 : h60 241 = h 241 := funext (fun i => (u60 241 i (fo_no_ok (by decide) i)))
    exact k h60 (b - 1) (c - 6) ⟨⟨g60, (show h60 1 1 = h60 236 2 by omega), (RS.i0 (f := h60 238) (by refine ⟨?_, ?_, ?_, ?_, ?_⟩ <;> omega)), (RS.i0 (f := h60 241) (by refine ⟨?_, ?_, ?_, ?_, ?_⟩ <;> omega)), gp92, (BRh.keep br0 (fun i => (u60 2 i (fn_a (by decide) fn_0))) (fun i => (u60 237 i (fn_a (by decide) fn_0))) (by omega)), (show h60 1 2 = h60 236 10 by omega), (show h60 1 3 = h60 236 11 by omega), (SVx.keep sv0 (by omega) (fun i _ => (u60 3 i (fn_a (by decide) fn_0))) (fun i _ => (u60 5 i (fn_a (by decide) fn_0))) (fun i _ => (u60 6 i (fn_a (by decide) fn_0))) (fun i _ => (u60 8 i (fn_a (by decide) fn_0))) (fun i _ => (u60 238 i (fn_a (by decide) fn_0)))), (show h60 0 12 = h60 236 21 by omega), (fun e => (SVx.keep (ss0 (by omega)) (by omega) (fun i _ => (u60 210 i (fn_a (by decide) fn_0))) (fun i _ => (u60 212 i (fn_a (by decide) fn_0))) (fun i _ => (u60 213 i (fn_a (by decide) fn_0))) (fun i _ => (u60 215 i (fn_a (by decide) fn_0))) (fun i _ => (u60 241 i (fn_a (by decide) fn_0))))), gs95, mi111, (show h60 63 5 ≤ h60 18 16 by omega), (show (h60 63 5) < (h60 18 16) ∨ ((h60 18 7) ≤ (h60 3 2) ∧ (h60 66 1) = (h60 3 2) - (h60 18 7)) ∨ ((h60 3 2) < (h60 18 7) ∧ (h60 66 1) = 0) by omega), gq122, (MR.mv mr0 (MSN.then (MSN.refl) (fun i _ => (u60 238 i (fn_a (by decide) fn_0)))) (by omega) q123 q124 (by omega)), (fun e => SM.mv (sm0 (by omega)) q125 q126 q127 (by omega) q128)⟩, (by omega)⟩ (by omega) (by omega)
-- the law, case at 911
set_option maxRecDepth 100000 in
set_option maxHeartbeats 100000000 in
theorem lc_911 {L : Nat} {xs : Nat → Int32} {d b c : Nat} {h : hp} {cr : Nat → Nat → Option Nat} {Q : hp_Q} (hcr : CR cr) (hL : L ≤ 3072) (hr : 1 ≤ b ∧ 6 ≤ c) (i : Int) (I : LIm i h) (hi : 0 ≤ i ∧ i + 6 ≤ L) (k : ∀ (h2 : hp) (b2 c2 : Nat), LIm (i + 6) h2 → b ≤ b2 + 1 → c ≤ c2 + 6 → wp (md_xa (L, xs)) (d + 107) 0 (1501, [(0, .ref 1000000), (1, .ref 0), (2, .ref 236), (3, .ref 259), (4, vi i)], [], hp_w h2 cr, b2, c2) Q) : wp (md_xa (L, xs)) (d + 107) 0 (911, [(0, .ref 1000000), (1, .ref 0), (2, .ref 236), (3, .ref 259), (4, vi i)], [], hp_w h cr, b, c) Q := by
  obtain ⟨⟨g, i11, r238, r241, gp0, br0, er2, er3, sv0, sf0, ss0, gs0, mi0, ml1, ml2, gq0, mr0, sm0⟩, ie0⟩ := I
  have r238e := r238.e0
  have r241e := r241.e0
  obtain ⟨⟨se0, se1, se2, se3, se4, se5, se6, se7, se8, se9⟩, -⟩ := id sv0
  have b1 := gi_b (lo := 0) (hi := 5) g 3 0 rfl
  have b2 := gi_b (lo := 0) (hi := 5) g 238 0 rfl
  have b3 := gi_b (lo := 0) (hi := 4) g 3 1 rfl
  have b4 := gi_b (lo := 0) (hi := 4) g 238 1 rfl
  have b5 := gi_b (lo := 0) (hi := 12) g 3 2 rfl
  have b6 := gi_b (lo := 0) (hi := 12) g 238 2 rfl
  have b7 := gi_b (lo := -2147483648) (hi := 2147483647) g 3 3 rfl
  have b8 := gi_b (lo := 0) (hi := 999) g 238 3 rfl
  have b9 := gi_b (lo := -2147483648) (hi := 2147483647) g 3 4 rfl
  have b10 := gi_b (lo := 0) (hi := 999) g 238 4 rfl
  have b11 := gi_b (lo := -2147483648) (hi := 2147483647) g 3 5 rfl
  have b12 := gi_b (lo := 0) (hi := 9) g 238 5 rfl
  have b13 := gi_b (lo := -2147483648) (hi := 2147483647) g 3 6 rfl
  have b14 := gi_b (lo := 0) (hi := 999) g 238 6 rfl
  have b15 := gi_b (lo := -2147483648) (hi := 2147483647) g 3 7 rfl
  have b16 := gi_b (lo := 0) (hi := 3) g 238 7 rfl
  have b17 := gi_b (lo := -2147483648) (hi := 2147483647) g 3 8 rfl
  have b18 := gi_b (lo := 0) (hi := 999) g 238 8 rfl
  have b19 := gi_b (lo := -2147483648) (hi := 2147483647) g 3 9 rfl
  have b20 := gi_b (lo := 0) (hi := 999) g 238 9 rfl
  have b21 := gi_b (lo := -2147483648) (hi := 2147483647) g 63 5 rfl
  have b22 := gi_b (lo := 0) (hi := 12) g 18 7 rfl
  have b23 := gi_b (lo := 0) (hi := 12) g 66 1 rfl
  have b24 := gi_b (lo := 0) (hi := 1) g 0 12 rfl
  have b25 := gi_b (lo := 0) (hi := 1) g 236 21 rfl
  have bl_ := gi_b (lo := 0) (hi := 800) g 1 1 rfl
  have tb0 : BufC (h 2) (h 1 1) h := ⟨fun _ => rfl, rfl, by omega, by omega⟩
  have b26 := gi_b (lo := 0) (hi := 6) g 238 98 rfl
  have b27 := gi_b (lo := 0) (hi := 6) g 238 99 rfl
  have b28 := gi_b (lo := 0) (hi := 6) g 238 100 rfl
  have b29 := gi_b (lo := 0) (hi := 6) g 238 101 rfl
  have b30 := gi_b (lo := 0) (hi := 3) g 238 102 rfl
  have b31 := gi_b (lo := 0) (hi := 12) g 238 106 rfl
  have b32 := gi_b (lo := 0) (hi := 12) g 238 73 rfl
  have b33 := gi_b (lo := 0) (hi := 9999) g 238 119 rfl
  have b34 := gi_b (lo := 0) (hi := 9999) g 238 67 rfl
  have b35 := gi_b (lo := 0) (hi := 9) g 238 69 rfl
  have b36 := gi_b (lo := 0) (hi := 6) g 241 98 rfl
  have b37 := gi_b (lo := 0) (hi := 6) g 241 99 rfl
  have b38 := gi_b (lo := 0) (hi := 6) g 241 100 rfl
  have b39 := gi_b (lo := 0) (hi := 6) g 241 101 rfl
  have b40 := gi_b (lo := 0) (hi := 3) g 241 102 rfl
  have b41 := gi_b (lo := 0) (hi := 12) g 241 106 rfl
  have b42 := gi_b (lo := 0) (hi := 12) g 241 73 rfl
  have b43 := gi_b (lo := 0) (hi := 12) g 241 2 rfl
  have b44 := gi_b (lo := 0) (hi := 9999) g 241 119 rfl
  have b45 := gi_b (lo := 0) (hi := 9999) g 241 67 rfl
  have b46 := gi_b (lo := 0) (hi := 9) g 241 69 rfl
  have b47 := gi_b (lo := 0) (hi := 9) g 241 5 rfl
  have b48 := gi_b (lo := 0) (hi := 800) g 1 1 rfl
  have b49 := gi_b (lo := 0) (hi := 800) g 236 2 rfl
  have b50 := gi_b (lo := -2147483648) (hi := 2147483647) g 1 2 rfl
  have b51 := gi_b (lo := -2147483648) (hi := 2147483647) g 236 10 rfl
  have b52 := gi_b (lo := -2147483648) (hi := 2147483647) g 1 3 rfl
  have b53 := gi_b (lo := -2147483648) (hi := 2147483647) g 236 11 rfl
  refine wi_aload_n (i := 1) (x := 0) (nx := 912) (r1 := 0) (r2 := 0) (r3 := 0) rfl rfl ?_
  refine wr_V (k0 := 0) (rest := []) (as := [.ref 0]) (nx := 915) (r1 := 38) (r2 := 0) (r3 := 0) rfl rfl rfl (of_decide_eq_true rfl) rfl rfl (by decide) rfl rfl (of_decide_eq_true rfl) (of_decide_eq_true rfl) ?_
  refine ct_38_0 hcr  g    (fun z55  (fz55 : -2147483648 ≤ z55 ∧ z55 ≤ 2147483647) => ?_)
  refine wk_i ?_
  refine wi_pop (nx := 916) (r1 := 0) (r2 := 0) (r3 := 0) rfl rfl ?_
  refine wi_aload_n (i := 2) (x := 236) (nx := 917) (r1 := 0) (r2 := 0) (r3 := 0) rfl rfl ?_
  refine wr_V (k0 := 236) (rest := []) (as := [.ref 236]) (nx := 920) (r1 := 267) (r2 := 0) (r3 := 11) rfl rfl rfl (of_decide_eq_true rfl) rfl rfl (by decide) rfl rfl (of_decide_eq_true rfl) (of_decide_eq_true rfl) ?_
  refine ct_267_236 hcr  g    (fun h56 z57 g56 u56 (fz57 : -1 ≤ z57 ∧ z57 ≤ 4) => ?_)
  refine wk_i ?_
  refine wi_pop (nx := 921) (r1 := 0) (r2 := 0) (r3 := 0) rfl rfl ?_
  refine wi_goto (nx := 924) (r1 := 1501) (r2 := 0) (r3 := 0) rfl ?_
  have e58 : h56 238 98 = h 238 98 := (u56 238 98 rfl)
  have e59 : h56 238 99 = h 238 99 := (u56 238 99 rfl)
  have e60 : h56 238 100 = h 238 100 := (u56 238 100 rfl)
  have e61 : h56 238 101 = h 238 101 := (u56 238 101 rfl)
  have e62 : h56 238 102 = h 238 102 := (u56 238 102 rfl)
  have e63 : h56 238 106 = h 238 106 := (u56 238 106 rfl)
  have e64 : h56 238 73 = h 238 73 := (u56 238 73 rfl)
  have e65 : h56 238 2 = h 238 2 := (u56 238 2 rfl)
  have e66 : h56 238 119 = h 238 119 := (u56 238 119 rfl)
  have e67 : h56 238 67 = h 238 67 := (u56 238 67 rfl)
  have e68 : h56 238 69 = h 238 69 := (u56 238 69 rfl)
  have e69 : h56 238 5 = h 238 5 := (u56 238 5 rfl)
  have e70 : h56 241 98 = h 241 98 := (u56 241 98 rfl)
  have e71 : h56 241 99 = h 241 99 := (u56 241 99 rfl)
  have e72 : h56 241 100 = h 241 100 := (u56 241 100 rfl)
  have e73 : h56 241 101 = h 241 101 := (u56 241 101 rfl)
  have e74 : h56 241 102 = h 241 102 := (u56 241 102 rfl)
  have e75 : h56 241 106 = h 241 106 := (u56 241 106 rfl)
  have e76 : h56 241 73 = h 241 73 := (u56 241 73 rfl)
  have e77 : h56 241 2 = h 241 2 := (u56 241 2 rfl)
  have e78 : h56 241 119 = h 241 119 := (u56 241 119 rfl)
  have e79 : h56 241 67 = h 241 67 := (u56 241 67 rfl)
  have e80 : h56 241 69 = h 241 69 := (u56 241 69 rfl)
  have e81 : h56 241 5 = h 241 5 := (u56 241 5 rfl)
  have e82 : h56 1 1 = h 1 1 := (u56 1 1 rfl)
  have e83 : h56 236 2 = h 236 2 := (u56 236 2 rfl)
  have e84 : h56 1 2 = h 1 2 := (u56 1 2 rfl)
  have e85 : h56 236 10 = h 236 10 := (u56 236 10 rfl)
  have e86 : h56 1 3 = h 1 3 := (u56 1 3 rfl)
  have e87 : h56 236 11 = h 236 11 := (u56 236 11 rfl)
  have gp88 := GPH.fr u56 rfl gp0
  have b89 := gi_b (lo := 0) (hi := 5) g 241 0 rfl
  have b90 := gi_b (lo := 0) (hi := 4) g 241 1 rfl
  have gs91 := GPS.fr u56 rfl gs0
  have e92 : h56 0 12 = h 0 12 := (u56 0 12 rfl)
  have e93 : h56 236 21 = h 236 21 := (u56 236 21 rfl)
  have e94 : h56 63 5 = h 63 5 := (u56 63 5 rfl)
  have e95 : h56 18 16 = h 18 16 := (u56 18 16 rfl)
  have e96 : h56 18 7 = h 18 7 := (u56 18 7 rfl)
  have e97 : h56 3 2 = h 3 2 := (u56 3 2 rfl)
  have e98 : h56 66 1 = h 66 1 := (u56 66 1 rfl)
  have b99 := gi_b (lo := 0) (hi := 6) g 73 1 rfl
  have e100 : h56 73 1 = h 73 1 := (u56 73 1 rfl)
  have b101 := gi_b (lo := 0) (hi := 6) g 73 2 rfl
  have e102 : h56 73 2 = h 73 2 := (u56 73 2 rfl)
  have b103 := gi_b (lo := 0) (hi := 6) g 236 22 rfl
  have e104 : h56 236 22 = h 236 22 := (u56 236 22 rfl)
  have b105 := gi_b (lo := 0) (hi := 12) g 210 2 rfl
  have e106 : h56 210 2 = h 210 2 := (u56 210 2 rfl)
  have q109 : h56 8 = h 8 := funext (fun i => (u56 8 i (fo_no_ok (by decide) i)))
  have q110 : h56 7 = h 7 := funext (fun i => (u56 7 i (fo_no_ok (by decide) i)))
  have q111 : h56 19 = h 19 := funext (fun i => (u56 19 i (fo_no_ok (by decide) i)))
  have q112 : h56 67 = h 67 := funext (fun i => (u56 67 i (fo_no_ok (by decide) i)))
  have ml108 : MCL h56 := MCL.mv mi0.1 q109 q110 q111 q112 (by omega) (by omega) (by omega) (by omega)
  have q114 : h56 69 = h 69 := funext (fun i => (u56 69 i (fo_no_ok (by decide) i)))
  have q115 : h56 70 = h 70 := funext (fun i => (u56 70 i (fo_no_ok (by decide) i)))
  have nb113 : NBc (h56 69) (h56 70) := by rw [q114, q115]; exact mi0.2.2
  have q116 : h56 8 = h 8 := funext (fun i => (u56 8 i (fo_no_ok (by decide) i)))
  have q117 : h56 7 = h 7 := funext (fun i => (u56 7 i (fo_no_ok (by decide) i)))
  have mi107 : MCI h56 := ⟨ml108, HIv.mv mi0.2.1 q116 q117 (by omega) (by omega) (sv_seven (P := fun x => ∀ i, h56 (76 + 19 * x) i = h (76 + 19 * x) i) (fun i => (u56 76 i (fn_a (by decide) fn_0))) (fun i => (u56 95 i (fn_a (by decide) fn_0))) (fun i => (u56 114 i (fn_a (by decide) fn_0))) (fun i => (u56 133 i (fn_a (by decide) fn_0))) (fun i => (u56 152 i (fn_a (by decide) fn_0))) (fun i => (u56 171 i (fn_a (by decide) fn_0))) (fun i => (u56 190 i (fn_a (by decide) fn_0)))) (by omega) (by omega), nb113⟩
  have gq118 := GQS.fr u56 rfl gq0
  have q119 : h56 8 = h 8 := funext (fun i => (u56 8 i (fo_no_ok (by decide) i)))
  have q120 : h56 7 = h 7 := funext (fun i => (u56 7 i (fo_no_ok (by decide) i)))
  have q121 : h56 215 = h 215 := funext (fun i => (u56 215 i (fo_no_ok (by decide) i)))
  have q122 : h56 218 = h 218 := funext (fun i => (u56 218 i (fo_no_ok (by decide) i)))
  have q123 : h56 214 = h 214 := funext (fun i => (u56 214 i (fo_no_ok (by decide) i)))
  have q124 : h56 241 = h 241 := funext (fun i => (u56 241 i (fo_no_ok (by decide) i)))
  exact k h56 b c ⟨⟨g56, (show h56 1 1 = h56 236 2 by omega), (RS.i0 (f := h56 238) (by refine ⟨?_, ?_, ?_, ?_, ?_⟩ <;> omega)), (RS.i0 (f := h56 241) (by refine ⟨?_, ?_, ?_, ?_, ?_⟩ <;> omega)), gp88, (BRh.keep br0 (fun i => (u56 2 i (fn_a (by decide) fn_0))) (fun i => (u56 237 i (fn_a (by decide) fn_0))) (by omega)), (show h56 1 2 = h56 236 10 by omega), (show h56 1 3 = h56 236 11 by omega), (SVx.keep sv0 (by omega) (fun i _ => (u56 3 i (fn_a (by decide) fn_0))) (fun i _ => (u56 5 i (fn_a (by decide) fn_0))) (fun i _ => (u56 6 i (fn_a (by decide) fn_0))) (fun i _ => (u56 8 i (fn_a (by decide) fn_0))) (fun i _ => (u56 238 i (fn_a (by decide) fn_0)))), (show h56 0 12 = h56 236 21 by omega), (fun e => (SVx.keep (ss0 (by omega)) (by omega) (fun i _ => (u56 210 i (fn_a (by decide) fn_0))) (fun i _ => (u56 212 i (fn_a (by decide) fn_0))) (fun i _ => (u56 213 i (fn_a (by decide) fn_0))) (fun i _ => (u56 215 i (fn_a (by decide) fn_0))) (fun i _ => (u56 241 i (fn_a (by decide) fn_0))))), gs91, mi107, (show h56 63 5 ≤ h56 18 16 by omega), (show (h56 63 5) < (h56 18 16) ∨ ((h56 18 7) ≤ (h56 3 2) ∧ (h56 66 1) = (h56 3 2) - (h56 18 7)) ∨ ((h56 3 2) < (h56 18 7) ∧ (h56 66 1) = 0) by omega), gq118, (MR.mv mr0 (MSN.then (MSN.refl) (fun i _ => (u56 238 i (fn_a (by decide) fn_0)))) (by omega) q119 q120 (by omega)), (fun e => SM.mv (sm0 (by omega)) q121 q122 q123 (by omega) q124)⟩, (by omega)⟩ (by omega) (by omega)
-- the law, case at 924
set_option maxRecDepth 100000 in
set_option maxHeartbeats 100000000 in
theorem lc_924 {L : Nat} {xs : Nat → Int32} {d b c : Nat} {h : hp} {cr : Nat → Nat → Option Nat} {Q : hp_Q} (hcr : CR cr) (hL : L ≤ 3072) (hr : 1 ≤ b ∧ 6 ≤ c) (i : Int) (I : LIm i h) (hi : 0 ≤ i ∧ i + 6 ≤ L) (k : ∀ (h2 : hp) (b2 c2 : Nat), LIm (i + 6) h2 → b ≤ b2 + 1 → c ≤ c2 + 6 → wp (md_xa (L, xs)) (d + 107) 0 (1501, [(0, .ref 1000000), (1, .ref 0), (2, .ref 236), (3, .ref 259), (4, vi i)], [], hp_w h2 cr, b2, c2) Q) : wp (md_xa (L, xs)) (d + 107) 0 (924, [(0, .ref 1000000), (1, .ref 0), (2, .ref 236), (3, .ref 259), (4, vi i)], [], hp_w h cr, b, c) Q := by
  obtain ⟨⟨g, i11, r238, r241, gp0, br0, er2, er3, sv0, sf0, ss0, gs0, mi0, ml1, ml2, gq0, mr0, sm0⟩, ie0⟩ := I
  have r238e := r238.e0
  have r241e := r241.e0
  obtain ⟨⟨se0, se1, se2, se3, se4, se5, se6, se7, se8, se9⟩, -⟩ := id sv0
  have b1 := gi_b (lo := 0) (hi := 5) g 3 0 rfl
  have b2 := gi_b (lo := 0) (hi := 5) g 238 0 rfl
  have b3 := gi_b (lo := 0) (hi := 4) g 3 1 rfl
  have b4 := gi_b (lo := 0) (hi := 4) g 238 1 rfl
  have b5 := gi_b (lo := 0) (hi := 12) g 3 2 rfl
  have b6 := gi_b (lo := 0) (hi := 12) g 238 2 rfl
  have b7 := gi_b (lo := -2147483648) (hi := 2147483647) g 3 3 rfl
  have b8 := gi_b (lo := 0) (hi := 999) g 238 3 rfl
  have b9 := gi_b (lo := -2147483648) (hi := 2147483647) g 3 4 rfl
  have b10 := gi_b (lo := 0) (hi := 999) g 238 4 rfl
  have b11 := gi_b (lo := -2147483648) (hi := 2147483647) g 3 5 rfl
  have b12 := gi_b (lo := 0) (hi := 9) g 238 5 rfl
  have b13 := gi_b (lo := -2147483648) (hi := 2147483647) g 3 6 rfl
  have b14 := gi_b (lo := 0) (hi := 999) g 238 6 rfl
  have b15 := gi_b (lo := -2147483648) (hi := 2147483647) g 3 7 rfl
  have b16 := gi_b (lo := 0) (hi := 3) g 238 7 rfl
  have b17 := gi_b (lo := -2147483648) (hi := 2147483647) g 3 8 rfl
  have b18 := gi_b (lo := 0) (hi := 999) g 238 8 rfl
  have b19 := gi_b (lo := -2147483648) (hi := 2147483647) g 3 9 rfl
  have b20 := gi_b (lo := 0) (hi := 999) g 238 9 rfl
  have b21 := gi_b (lo := -2147483648) (hi := 2147483647) g 63 5 rfl
  have b22 := gi_b (lo := 0) (hi := 12) g 18 7 rfl
  have b23 := gi_b (lo := 0) (hi := 12) g 66 1 rfl
  have b24 := gi_b (lo := 0) (hi := 1) g 0 12 rfl
  have b25 := gi_b (lo := 0) (hi := 1) g 236 21 rfl
  have bl_ := gi_b (lo := 0) (hi := 800) g 1 1 rfl
  have tb0 : BufC (h 2) (h 1 1) h := ⟨fun _ => rfl, rfl, by omega, by omega⟩
  have b26 := gi_b (lo := 0) (hi := 6) g 238 98 rfl
  have b27 := gi_b (lo := 0) (hi := 6) g 238 99 rfl
  have b28 := gi_b (lo := 0) (hi := 6) g 238 100 rfl
  have b29 := gi_b (lo := 0) (hi := 6) g 238 101 rfl
  have b30 := gi_b (lo := 0) (hi := 3) g 238 102 rfl
  have b31 := gi_b (lo := 0) (hi := 12) g 238 106 rfl
  have b32 := gi_b (lo := 0) (hi := 12) g 238 73 rfl
  have b33 := gi_b (lo := 0) (hi := 9999) g 238 119 rfl
  have b34 := gi_b (lo := 0) (hi := 9999) g 238 67 rfl
  have b35 := gi_b (lo := 0) (hi := 9) g 238 69 rfl
  have b36 := gi_b (lo := 0) (hi := 6) g 241 98 rfl
  have b37 := gi_b (lo := 0) (hi := 6) g 241 99 rfl
  have b38 := gi_b (lo := 0) (hi := 6) g 241 100 rfl
  have b39 := gi_b (lo := 0) (hi := 6) g 241 101 rfl
  have b40 := gi_b (lo := 0) (hi := 3) g 241 102 rfl
  have b41 := gi_b (lo := 0) (hi := 12) g 241 106 rfl
  have b42 := gi_b (lo := 0) (hi := 12) g 241 73 rfl
  have b43 := gi_b (lo := 0) (hi := 12) g 241 2 rfl
  have b44 := gi_b (lo := 0) (hi := 9999) g 241 119 rfl
  have b45 := gi_b (lo := 0) (hi := 9999) g 241 67 rfl
  have b46 := gi_b (lo := 0) (hi := 9) g 241 69 rfl
  have b47 := gi_b (lo := 0) (hi := 9) g 241 5 rfl
  have b48 := gi_b (lo := 0) (hi := 800) g 1 1 rfl
  have b49 := gi_b (lo := 0) (hi := 800) g 236 2 rfl
  have b50 := gi_b (lo := -2147483648) (hi := 2147483647) g 1 2 rfl
  have b51 := gi_b (lo := -2147483648) (hi := 2147483647) g 236 10 rfl
  have b52 := gi_b (lo := -2147483648) (hi := 2147483647) g 1 3 rfl
  have b53 := gi_b (lo := -2147483648) (hi := 2147483647) g 236 11 rfl
  refine wi_aload_n (i := 1) (x := 0) (nx := 925) (r1 := 0) (r2 := 0) (r3 := 0) rfl rfl ?_
  refine wr_V (k0 := 0) (rest := []) (as := [.ref 0]) (nx := 928) (r1 := 39) (r2 := 0) (r3 := 0) rfl rfl rfl (of_decide_eq_true rfl) rfl rfl (by decide) rfl rfl (of_decide_eq_true rfl) (of_decide_eq_true rfl) ?_
  refine ct_39_0 hcr  g    (fun z55  (fz55 : -2147483648 ≤ z55 ∧ z55 ≤ 2147483647) => ?_)
  refine wk_i ?_
  refine wi_pop (nx := 929) (r1 := 0) (r2 := 0) (r3 := 0) rfl rfl ?_
  refine wi_aload_n (i := 2) (x := 236) (nx := 930) (r1 := 0) (r2 := 0) (r3 := 0) rfl rfl ?_
  refine wr_V (k0 := 236) (rest := []) (as := [.ref 236]) (nx := 933) (r1 := 269) (r2 := 0) (r3 := 11) rfl rfl rfl (of_decide_eq_true rfl) rfl rfl (by decide) rfl rfl (of_decide_eq_true rfl) (of_decide_eq_true rfl) ?_
  refine ct_269_236 hcr  g    (fun h56 z57 g56 u56 (fz57 : 0 ≤ z57 ∧ z57 ≤ 9) => ?_)
  refine wk_i ?_
  refine wi_pop (nx := 934) (r1 := 0) (r2 := 0) (r3 := 0) rfl rfl ?_
  refine wi_goto (nx := 937) (r1 := 1501) (r2 := 0) (r3 := 0) rfl ?_
  have e58 : h56 238 98 = h 238 98 := (u56 238 98 rfl)
  have e59 : h56 238 99 = h 238 99 := (u56 238 99 rfl)
  have e60 : h56 238 100 = h 238 100 := (u56 238 100 rfl)
  have e61 : h56 238 101 = h 238 101 := (u56 238 101 rfl)
  have e62 : h56 238 102 = h 238 102 := (u56 238 102 rfl)
  have e63 : h56 238 106 = h 238 106 := (u56 238 106 rfl)
  have e64 : h56 238 73 = h 238 73 := (u56 238 73 rfl)
  have e65 : h56 238 2 = h 238 2 := (u56 238 2 rfl)
  have e66 : h56 238 119 = h 238 119 := (u56 238 119 rfl)
  have e67 : h56 238 67 = h 238 67 := (u56 238 67 rfl)
  have e68 : h56 238 69 = h 238 69 := (u56 238 69 rfl)
  have e69 : h56 238 5 = h 238 5 := (u56 238 5 rfl)
  have e70 : h56 241 98 = h 241 98 := (u56 241 98 rfl)
  have e71 : h56 241 99 = h 241 99 := (u56 241 99 rfl)
  have e72 : h56 241 100 = h 241 100 := (u56 241 100 rfl)
  have e73 : h56 241 101 = h 241 101 := (u56 241 101 rfl)
  have e74 : h56 241 102 = h 241 102 := (u56 241 102 rfl)
  have e75 : h56 241 106 = h 241 106 := (u56 241 106 rfl)
  have e76 : h56 241 73 = h 241 73 := (u56 241 73 rfl)
  have e77 : h56 241 2 = h 241 2 := (u56 241 2 rfl)
  have e78 : h56 241 119 = h 241 119 := (u56 241 119 rfl)
  have e79 : h56 241 67 = h 241 67 := (u56 241 67 rfl)
  have e80 : h56 241 69 = h 241 69 := (u56 241 69 rfl)
  have e81 : h56 241 5 = h 241 5 := (u56 241 5 rfl)
  have e82 : h56 1 1 = h 1 1 := (u56 1 1 rfl)
  have e83 : h56 236 2 = h 236 2 := (u56 236 2 rfl)
  have e84 : h56 1 2 = h 1 2 := (u56 1 2 rfl)
  have e85 : h56 236 10 = h 236 10 := (u56 236 10 rfl)
  have e86 : h56 1 3 = h 1 3 := (u56 1 3 rfl)
  have e87 : h56 236 11 = h 236 11 := (u56 236 11 rfl)
  have gp88 := GPH.fr u56 rfl gp0
  have b89 := gi_b (lo := 0) (hi := 5) g 241 0 rfl
  have b90 := gi_b (lo := 0) (hi := 4) g 241 1 rfl
  have gs91 := GPS.fr u56 rfl gs0
  have e92 : h56 0 12 = h 0 12 := (u56 0 12 rfl)
  have e93 : h56 236 21 = h 236 21 := (u56 236 21 rfl)
  have e94 : h56 63 5 = h 63 5 := (u56 63 5 rfl)
  have e95 : h56 18 16 = h 18 16 := (u56 18 16 rfl)
  have e96 : h56 18 7 = h 18 7 := (u56 18 7 rfl)
  have e97 : h56 3 2 = h 3 2 := (u56 3 2 rfl)
  have e98 : h56 66 1 = h 66 1 := (u56 66 1 rfl)
  have b99 := gi_b (lo := 0) (hi := 6) g 73 1 rfl
  have e100 : h56 73 1 = h 73 1 := (u56 73 1 rfl)
  have b101 := gi_b (lo := 0) (hi := 6) g 73 2 rfl
  have e102 : h56 73 2 = h 73 2 := (u56 73 2 rfl)
  have b103 := gi_b (lo := 0) (hi := 6) g 236 22 rfl
  have e104 : h56 236 22 = h 236 22 := (u56 236 22 rfl)
  have b105 := gi_b (lo := 0) (hi := 12) g 210 2 rfl
  have e106 : h56 210 2 = h 210 2 := (u56 210 2 rfl)
  have q109 : h56 8 = h 8 := funext (fun i => (u56 8 i (fo_no_ok (by decide) i)))
  have q110 : h56 7 = h 7 := funext (fun i => (u56 7 i (fo_no_ok (by decide) i)))
  have q111 : h56 19 = h 19 := funext (fun i => (u56 19 i (fo_no_ok (by decide) i)))
  have q112 : h56 67 = h 67 := funext (fun i => (u56 67 i (fo_no_ok (by decide) i)))
  have ml108 : MCL h56 := MCL.mv mi0.1 q109 q110 q111 q112 (by omega) (by omega) (by omega) (by omega)
  have q114 : h56 69 = h 69 := funext (fun i => (u56 69 i (fo_no_ok (by decide) i)))
  have q115 : h56 70 = h 70 := funext (fun i => (u56 70 i (fo_no_ok (by decide) i)))
  have nb113 : NBc (h56 69) (h56 70) := by rw [q114, q115]; exact mi0.2.2
  have q116 : h56 8 = h 8 := funext (fun i => (u56 8 i (fo_no_ok (by decide) i)))
  have q117 : h56 7 = h 7 := funext (fun i => (u56 7 i (fo_no_ok (by decide) i)))
  have mi107 : MCI h56 := ⟨ml108, HIv.mv mi0.2.1 q116 q117 (by omega) (by omega) (sv_seven (P := fun x => ∀ i, h56 (76 + 19 * x) i = h (76 + 19 * x) i) (fun i => (u56 76 i (fn_a (by decide) fn_0))) (fun i => (u56 95 i (fn_a (by decide) fn_0))) (fun i => (u56 114 i (fn_a (by decide) fn_0))) (fun i => (u56 133 i (fn_a (by decide) fn_0))) (fun i => (u56 152 i (fn_a (by decide) fn_0))) (fun i => (u56 171 i (fn_a (by decide) fn_0))) (fun i => (u56 190 i (fn_a (by decide) fn_0)))) (by omega) (by omega), nb113⟩
  have gq118 := GQS.fr u56 rfl gq0
  have q119 : h56 8 = h 8 := funext (fun i => (u56 8 i (fo_no_ok (by decide) i)))
  have q120 : h56 7 = h 7 := funext (fun i => (u56 7 i (fo_no_ok (by decide) i)))
  have q121 : h56 215 = h 215 := funext (fun i => (u56 215 i (fo_no_ok (by decide) i)))
  have q122 : h56 218 = h 218 := funext (fun i => (u56 218 i (fo_no_ok (by decide) i)))
  have q123 : h56 214 = h 214 := funext (fun i => (u56 214 i (fo_no_ok (by decide) i)))
  have q124 : h56 241 = h 241 := funext (fun i => (u56 241 i (fo_no_ok (by decide) i)))
  exact k h56 b c ⟨⟨g56, (show h56 1 1 = h56 236 2 by omega), (RS.i0 (f := h56 238) (by refine ⟨?_, ?_, ?_, ?_, ?_⟩ <;> omega)), (RS.i0 (f := h56 241) (by refine ⟨?_, ?_, ?_, ?_, ?_⟩ <;> omega)), gp88, (BRh.keep br0 (fun i => (u56 2 i (fn_a (by decide) fn_0))) (fun i => (u56 237 i (fn_a (by decide) fn_0))) (by omega)), (show h56 1 2 = h56 236 10 by omega), (show h56 1 3 = h56 236 11 by omega), (SVx.keep sv0 (by omega) (fun i _ => (u56 3 i (fn_a (by decide) fn_0))) (fun i _ => (u56 5 i (fn_a (by decide) fn_0))) (fun i _ => (u56 6 i (fn_a (by decide) fn_0))) (fun i _ => (u56 8 i (fn_a (by decide) fn_0))) (fun i _ => (u56 238 i (fn_a (by decide) fn_0)))), (show h56 0 12 = h56 236 21 by omega), (fun e => (SVx.keep (ss0 (by omega)) (by omega) (fun i _ => (u56 210 i (fn_a (by decide) fn_0))) (fun i _ => (u56 212 i (fn_a (by decide) fn_0))) (fun i _ => (u56 213 i (fn_a (by decide) fn_0))) (fun i _ => (u56 215 i (fn_a (by decide) fn_0))) (fun i _ => (u56 241 i (fn_a (by decide) fn_0))))), gs91, mi107, (show h56 63 5 ≤ h56 18 16 by omega), (show (h56 63 5) < (h56 18 16) ∨ ((h56 18 7) ≤ (h56 3 2) ∧ (h56 66 1) = (h56 3 2) - (h56 18 7)) ∨ ((h56 3 2) < (h56 18 7) ∧ (h56 66 1) = 0) by omega), gq118, (MR.mv mr0 (MSN.then (MSN.refl) (fun i _ => (u56 238 i (fn_a (by decide) fn_0)))) (by omega) q119 q120 (by omega)), (fun e => SM.mv (sm0 (by omega)) q121 q122 q123 (by omega) q124)⟩, (by omega)⟩ (by omega) (by omega)
-- the law, case at 937
set_option maxRecDepth 100000 in
set_option maxHeartbeats 100000000 in
theorem lc_937 {L : Nat} {xs : Nat → Int32} {d b c : Nat} {h : hp} {cr : Nat → Nat → Option Nat} {Q : hp_Q} (hcr : CR cr) (hL : L ≤ 3072) (hr : 1 ≤ b ∧ 6 ≤ c) (i : Int) (I : LIm i h) (hi : 0 ≤ i ∧ i + 6 ≤ L) (k : ∀ (h2 : hp) (b2 c2 : Nat), LIm (i + 6) h2 → b ≤ b2 + 1 → c ≤ c2 + 6 → wp (md_xa (L, xs)) (d + 107) 0 (1501, [(0, .ref 1000000), (1, .ref 0), (2, .ref 236), (3, .ref 259), (4, vi i)], [], hp_w h2 cr, b2, c2) Q) : wp (md_xa (L, xs)) (d + 107) 0 (937, [(0, .ref 1000000), (1, .ref 0), (2, .ref 236), (3, .ref 259), (4, vi i)], [], hp_w h cr, b, c) Q := by
  obtain ⟨⟨g, i11, r238, r241, gp0, br0, er2, er3, sv0, sf0, ss0, gs0, mi0, ml1, ml2, gq0, mr0, sm0⟩, ie0⟩ := I
  have r238e := r238.e0
  have r241e := r241.e0
  obtain ⟨⟨se0, se1, se2, se3, se4, se5, se6, se7, se8, se9⟩, -⟩ := id sv0
  have b1 := gi_b (lo := 0) (hi := 5) g 3 0 rfl
  have b2 := gi_b (lo := 0) (hi := 5) g 238 0 rfl
  have b3 := gi_b (lo := 0) (hi := 4) g 3 1 rfl
  have b4 := gi_b (lo := 0) (hi := 4) g 238 1 rfl
  have b5 := gi_b (lo := 0) (hi := 12) g 3 2 rfl
  have b6 := gi_b (lo := 0) (hi := 12) g 238 2 rfl
  have b7 := gi_b (lo := -2147483648) (hi := 2147483647) g 3 3 rfl
  have b8 := gi_b (lo := 0) (hi := 999) g 238 3 rfl
  have b9 := gi_b (lo := -2147483648) (hi := 2147483647) g 3 4 rfl
  have b10 := gi_b (lo := 0) (hi := 999) g 238 4 rfl
  have b11 := gi_b (lo := -2147483648) (hi := 2147483647) g 3 5 rfl
  have b12 := gi_b (lo := 0) (hi := 9) g 238 5 rfl
  have b13 := gi_b (lo := -2147483648) (hi := 2147483647) g 3 6 rfl
  have b14 := gi_b (lo := 0) (hi := 999) g 238 6 rfl
  have b15 := gi_b (lo := -2147483648) (hi := 2147483647) g 3 7 rfl
  have b16 := gi_b (lo := 0) (hi := 3) g 238 7 rfl
  have b17 := gi_b (lo := -2147483648) (hi := 2147483647) g 3 8 rfl
  have b18 := gi_b (lo := 0) (hi := 999) g 238 8 rfl
  have b19 := gi_b (lo := -2147483648) (hi := 2147483647) g 3 9 rfl
  have b20 := gi_b (lo := 0) (hi := 999) g 238 9 rfl
  have b21 := gi_b (lo := -2147483648) (hi := 2147483647) g 63 5 rfl
  have b22 := gi_b (lo := 0) (hi := 12) g 18 7 rfl
  have b23 := gi_b (lo := 0) (hi := 12) g 66 1 rfl
  have b24 := gi_b (lo := 0) (hi := 1) g 0 12 rfl
  have b25 := gi_b (lo := 0) (hi := 1) g 236 21 rfl
  have bl_ := gi_b (lo := 0) (hi := 800) g 1 1 rfl
  have tb0 : BufC (h 2) (h 1 1) h := ⟨fun _ => rfl, rfl, by omega, by omega⟩
  have b26 := gi_b (lo := 0) (hi := 6) g 238 98 rfl
  have b27 := gi_b (lo := 0) (hi := 6) g 238 99 rfl
  have b28 := gi_b (lo := 0) (hi := 6) g 238 100 rfl
  have b29 := gi_b (lo := 0) (hi := 6) g 238 101 rfl
  have b30 := gi_b (lo := 0) (hi := 3) g 238 102 rfl
  have b31 := gi_b (lo := 0) (hi := 12) g 238 106 rfl
  have b32 := gi_b (lo := 0) (hi := 12) g 238 73 rfl
  have b33 := gi_b (lo := 0) (hi := 9999) g 238 119 rfl
  have b34 := gi_b (lo := 0) (hi := 9999) g 238 67 rfl
  have b35 := gi_b (lo := 0) (hi := 9) g 238 69 rfl
  have b36 := gi_b (lo := 0) (hi := 6) g 241 98 rfl
  have b37 := gi_b (lo := 0) (hi := 6) g 241 99 rfl
  have b38 := gi_b (lo := 0) (hi := 6) g 241 100 rfl
  have b39 := gi_b (lo := 0) (hi := 6) g 241 101 rfl
  have b40 := gi_b (lo := 0) (hi := 3) g 241 102 rfl
  have b41 := gi_b (lo := 0) (hi := 12) g 241 106 rfl
  have b42 := gi_b (lo := 0) (hi := 12) g 241 73 rfl
  have b43 := gi_b (lo := 0) (hi := 12) g 241 2 rfl
  have b44 := gi_b (lo := 0) (hi := 9999) g 241 119 rfl
  have b45 := gi_b (lo := 0) (hi := 9999) g 241 67 rfl
  have b46 := gi_b (lo := 0) (hi := 9) g 241 69 rfl
  have b47 := gi_b (lo := 0) (hi := 9) g 241 5 rfl
  have b48 := gi_b (lo := 0) (hi := 800) g 1 1 rfl
  have b49 := gi_b (lo := 0) (hi := 800) g 236 2 rfl
  have b50 := gi_b (lo := -2147483648) (hi := 2147483647) g 1 2 rfl
  have b51 := gi_b (lo := -2147483648) (hi := 2147483647) g 236 10 rfl
  have b52 := gi_b (lo := -2147483648) (hi := 2147483647) g 1 3 rfl
  have b53 := gi_b (lo := -2147483648) (hi := 2147483647) g 236 11 rfl
  refine wi_aload_n (i := 1) (x := 0) (nx := 938) (r1 := 0) (r2 := 0) (r3 := 0) rfl rfl ?_
  refine wr_V (k0 := 0) (rest := []) (as := [.ref 0]) (nx := 941) (r1 := 40) (r2 := 0) (r3 := 0) rfl rfl rfl (of_decide_eq_true rfl) rfl rfl (by decide) rfl rfl (of_decide_eq_true rfl) (of_decide_eq_true rfl) ?_
  refine ct_40_0 hcr  g    (fun z55  (fz55 : -2147483648 ≤ z55 ∧ z55 ≤ 2147483647) => ?_)
  refine wk_i ?_
  refine wi_pop (nx := 942) (r1 := 0) (r2 := 0) (r3 := 0) rfl rfl ?_
  refine wi_aload_n (i := 2) (x := 236) (nx := 943) (r1 := 0) (r2 := 0) (r3 := 0) rfl rfl ?_
  refine wr_V (k0 := 236) (rest := []) (as := [.ref 236]) (nx := 946) (r1 := 270) (r2 := 0) (r3 := 11) rfl rfl rfl (of_decide_eq_true rfl) rfl rfl (by decide) rfl rfl (of_decide_eq_true rfl) (of_decide_eq_true rfl) ?_
  refine ct_270_236 hcr  g    (fun h56 z57 g56 u56 (fz57 : 0 ≤ z57 ∧ z57 ≤ 9999) => ?_)
  refine wk_i ?_
  refine wi_pop (nx := 947) (r1 := 0) (r2 := 0) (r3 := 0) rfl rfl ?_
  refine wi_goto (nx := 950) (r1 := 1501) (r2 := 0) (r3 := 0) rfl ?_
  have e58 : h56 238 98 = h 238 98 := (u56 238 98 rfl)
  have e59 : h56 238 99 = h 238 99 := (u56 238 99 rfl)
  have e60 : h56 238 100 = h 238 100 := (u56 238 100 rfl)
  have e61 : h56 238 101 = h 238 101 := (u56 238 101 rfl)
  have e62 : h56 238 102 = h 238 102 := (u56 238 102 rfl)
  have e63 : h56 238 106 = h 238 106 := (u56 238 106 rfl)
  have e64 : h56 238 73 = h 238 73 := (u56 238 73 rfl)
  have e65 : h56 238 2 = h 238 2 := (u56 238 2 rfl)
  have e66 : h56 238 119 = h 238 119 := (u56 238 119 rfl)
  have e67 : h56 238 67 = h 238 67 := (u56 238 67 rfl)
  have e68 : h56 238 69 = h 238 69 := (u56 238 69 rfl)
  have e69 : h56 238 5 = h 238 5 := (u56 238 5 rfl)
  have e70 : h56 241 98 = h 241 98 := (u56 241 98 rfl)
  have e71 : h56 241 99 = h 241 99 := (u56 241 99 rfl)
  have e72 : h56 241 100 = h 241 100 := (u56 241 100 rfl)
  have e73 : h56 241 101 = h 241 101 := (u56 241 101 rfl)
  have e74 : h56 241 102 = h 241 102 := (u56 241 102 rfl)
  have e75 : h56 241 106 = h 241 106 := (u56 241 106 rfl)
  have e76 : h56 241 73 = h 241 73 := (u56 241 73 rfl)
  have e77 : h56 241 2 = h 241 2 := (u56 241 2 rfl)
  have e78 : h56 241 119 = h 241 119 := (u56 241 119 rfl)
  have e79 : h56 241 67 = h 241 67 := (u56 241 67 rfl)
  have e80 : h56 241 69 = h 241 69 := (u56 241 69 rfl)
  have e81 : h56 241 5 = h 241 5 := (u56 241 5 rfl)
  have e82 : h56 1 1 = h 1 1 := (u56 1 1 rfl)
  have e83 : h56 236 2 = h 236 2 := (u56 236 2 rfl)
  have e84 : h56 1 2 = h 1 2 := (u56 1 2 rfl)
  have e85 : h56 236 10 = h 236 10 := (u56 236 10 rfl)
  have e86 : h56 1 3 = h 1 3 := (u56 1 3 rfl)
  have e87 : h56 236 11 = h 236 11 := (u56 236 11 rfl)
  have gp88 := GPH.fr u56 rfl gp0
  have b89 := gi_b (lo := 0) (hi := 5) g 241 0 rfl
  have b90 := gi_b (lo := 0) (hi := 4) g 241 1 rfl
  have gs91 := GPS.fr u56 rfl gs0
  have e92 : h56 0 12 = h 0 12 := (u56 0 12 rfl)
  have e93 : h56 236 21 = h 236 21 := (u56 236 21 rfl)
  have e94 : h56 63 5 = h 63 5 := (u56 63 5 rfl)
  have e95 : h56 18 16 = h 18 16 := (u56 18 16 rfl)
  have e96 : h56 18 7 = h 18 7 := (u56 18 7 rfl)
  have e97 : h56 3 2 = h 3 2 := (u56 3 2 rfl)
  have e98 : h56 66 1 = h 66 1 := (u56 66 1 rfl)
  have b99 := gi_b (lo := 0) (hi := 6) g 73 1 rfl
  have e100 : h56 73 1 = h 73 1 := (u56 73 1 rfl)
  have b101 := gi_b (lo := 0) (hi := 6) g 73 2 rfl
  have e102 : h56 73 2 = h 73 2 := (u56 73 2 rfl)
  have b103 := gi_b (lo := 0) (hi := 6) g 236 22 rfl
  have e104 : h56 236 22 = h 236 22 := (u56 236 22 rfl)
  have b105 := gi_b (lo := 0) (hi := 12) g 210 2 rfl
  have e106 : h56 210 2 = h 210 2 := (u56 210 2 rfl)
  have q109 : h56 8 = h 8 := funext (fun i => (u56 8 i (fo_no_ok (by decide) i)))
  have q110 : h56 7 = h 7 := funext (fun i => (u56 7 i (fo_no_ok (by decide) i)))
  have q111 : h56 19 = h 19 := funext (fun i => (u56 19 i (fo_no_ok (by decide) i)))
  have q112 : h56 67 = h 67 := funext (fun i => (u56 67 i (fo_no_ok (by decide) i)))
  have ml108 : MCL h56 := MCL.mv mi0.1 q109 q110 q111 q112 (by omega) (by omega) (by omega) (by omega)
  have q114 : h56 69 = h 69 := funext (fun i => (u56 69 i (fo_no_ok (by decide) i)))
  have q115 : h56 70 = h 70 := funext (fun i => (u56 70 i (fo_no_ok (by decide) i)))
  have nb113 : NBc (h56 69) (h56 70) := by rw [q114, q115]; exact mi0.2.2
  have q116 : h56 8 = h 8 := funext (fun i => (u56 8 i (fo_no_ok (by decide) i)))
  have q117 : h56 7 = h 7 := funext (fun i => (u56 7 i (fo_no_ok (by decide) i)))
  have mi107 : MCI h56 := ⟨ml108, HIv.mv mi0.2.1 q116 q117 (by omega) (by omega) (sv_seven (P := fun x => ∀ i, h56 (76 + 19 * x) i = h (76 + 19 * x) i) (fun i => (u56 76 i (fn_a (by decide) fn_0))) (fun i => (u56 95 i (fn_a (by decide) fn_0))) (fun i => (u56 114 i (fn_a (by decide) fn_0))) (fun i => (u56 133 i (fn_a (by decide) fn_0))) (fun i => (u56 152 i (fn_a (by decide) fn_0))) (fun i => (u56 171 i (fn_a (by decide) fn_0))) (fun i => (u56 190 i (fn_a (by decide) fn_0)))) (by omega) (by omega), nb113⟩
  have gq118 := GQS.fr u56 rfl gq0
  have q119 : h56 8 = h 8 := funext (fun i => (u56 8 i (fo_no_ok (by decide) i)))
  have q120 : h56 7 = h 7 := funext (fun i => (u56 7 i (fo_no_ok (by decide) i)))
  have q121 : h56 215 = h 215 := funext (fun i => (u56 215 i (fo_no_ok (by decide) i)))
  have q122 : h56 218 = h 218 := funext (fun i => (u56 218 i (fo_no_ok (by decide) i)))
  have q123 : h56 214 = h 214 := funext (fun i => (u56 214 i (fo_no_ok (by decide) i)))
  have q124 : h56 241 = h 241 := funext (fun i => (u56 241 i (fo_no_ok (by decide) i)))
  exact k h56 b c ⟨⟨g56, (show h56 1 1 = h56 236 2 by omega), (RS.i0 (f := h56 238) (by refine ⟨?_, ?_, ?_, ?_, ?_⟩ <;> omega)), (RS.i0 (f := h56 241) (by refine ⟨?_, ?_, ?_, ?_, ?_⟩ <;> omega)), gp88, (BRh.keep br0 (fun i => (u56 2 i (fn_a (by decide) fn_0))) (fun i => (u56 237 i (fn_a (by decide) fn_0))) (by omega)), (show h56 1 2 = h56 236 10 by omega), (show h56 1 3 = h56 236 11 by omega), (SVx.keep sv0 (by omega) (fun i _ => (u56 3 i (fn_a (by decide) fn_0))) (fun i _ => (u56 5 i (fn_a (by decide) fn_0))) (fun i _ => (u56 6 i (fn_a (by decide) fn_0))) (fun i _ => (u56 8 i (fn_a (by decide) fn_0))) (fun i _ => (u56 238 i (fn_a (by decide) fn_0)))), (show h56 0 12 = h56 236 21 by omega), (fun e => (SVx.keep (ss0 (by omega)) (by omega) (fun i _ => (u56 210 i (fn_a (by decide) fn_0))) (fun i _ => (u56 212 i (fn_a (by decide) fn_0))) (fun i _ => (u56 213 i (fn_a (by decide) fn_0))) (fun i _ => (u56 215 i (fn_a (by decide) fn_0))) (fun i _ => (u56 241 i (fn_a (by decide) fn_0))))), gs91, mi107, (show h56 63 5 ≤ h56 18 16 by omega), (show (h56 63 5) < (h56 18 16) ∨ ((h56 18 7) ≤ (h56 3 2) ∧ (h56 66 1) = (h56 3 2) - (h56 18 7)) ∨ ((h56 3 2) < (h56 18 7) ∧ (h56 66 1) = 0) by omega), gq118, (MR.mv mr0 (MSN.then (MSN.refl) (fun i _ => (u56 238 i (fn_a (by decide) fn_0)))) (by omega) q119 q120 (by omega)), (fun e => SM.mv (sm0 (by omega)) q121 q122 q123 (by omega) q124)⟩, (by omega)⟩ (by omega) (by omega)
-- the law, case at 950
set_option maxRecDepth 100000 in
set_option maxHeartbeats 100000000 in
theorem lc_950 {L : Nat} {xs : Nat → Int32} {d b c : Nat} {h : hp} {cr : Nat → Nat → Option Nat} {Q : hp_Q} (hcr : CR cr) (hL : L ≤ 3072) (hr : 1 ≤ b ∧ 6 ≤ c) (i : Int) (I : LIm i h) (hi : 0 ≤ i ∧ i + 6 ≤ L) (k : ∀ (h2 : hp) (b2 c2 : Nat), LIm (i + 6) h2 → b ≤ b2 + 1 → c ≤ c2 + 6 → wp (md_xa (L, xs)) (d + 107) 0 (1501, [(0, .ref 1000000), (1, .ref 0), (2, .ref 236), (3, .ref 259), (4, vi i)], [], hp_w h2 cr, b2, c2) Q) : wp (md_xa (L, xs)) (d + 107) 0 (950, [(0, .ref 1000000), (1, .ref 0), (2, .ref 236), (3, .ref 259), (4, vi i)], [], hp_w h cr, b, c) Q := by
  obtain ⟨⟨g, i11, r238, r241, gp0, br0, er2, er3, sv0, sf0, ss0, gs0, mi0, ml1, ml2, gq0, mr0, sm0⟩, ie0⟩ := I
  have r238e := r238.e0
  have r241e := r241.e0
  obtain ⟨⟨se0, se1, se2, se3, se4, se5, se6, se7, se8, se9⟩, -⟩ := id sv0
  have b1 := gi_b (lo := 0) (hi := 5) g 3 0 rfl
  have b2 := gi_b (lo := 0) (hi := 5) g 238 0 rfl
  have b3 := gi_b (lo := 0) (hi := 4) g 3 1 rfl
  have b4 := gi_b (lo := 0) (hi := 4) g 238 1 rfl
  have b5 := gi_b (lo := 0) (hi := 12) g 3 2 rfl
  have b6 := gi_b (lo := 0) (hi := 12) g 238 2 rfl
  have b7 := gi_b (lo := -2147483648) (hi := 2147483647) g 3 3 rfl
  have b8 := gi_b (lo := 0) (hi := 999) g 238 3 rfl
  have b9 := gi_b (lo := -2147483648) (hi := 2147483647) g 3 4 rfl
  have b10 := gi_b (lo := 0) (hi := 999) g 238 4 rfl
  have b11 := gi_b (lo := -2147483648) (hi := 2147483647) g 3 5 rfl
  have b12 := gi_b (lo := 0) (hi := 9) g 238 5 rfl
  have b13 := gi_b (lo := -2147483648) (hi := 2147483647) g 3 6 rfl
  have b14 := gi_b (lo := 0) (hi := 999) g 238 6 rfl
  have b15 := gi_b (lo := -2147483648) (hi := 2147483647) g 3 7 rfl
  have b16 := gi_b (lo := 0) (hi := 3) g 238 7 rfl
  have b17 := gi_b (lo := -2147483648) (hi := 2147483647) g 3 8 rfl
  have b18 := gi_b (lo := 0) (hi := 999) g 238 8 rfl
  have b19 := gi_b (lo := -2147483648) (hi := 2147483647) g 3 9 rfl
  have b20 := gi_b (lo := 0) (hi := 999) g 238 9 rfl
  have b21 := gi_b (lo := -2147483648) (hi := 2147483647) g 63 5 rfl
  have b22 := gi_b (lo := 0) (hi := 12) g 18 7 rfl
  have b23 := gi_b (lo := 0) (hi := 12) g 66 1 rfl
  have b24 := gi_b (lo := 0) (hi := 1) g 0 12 rfl
  have b25 := gi_b (lo := 0) (hi := 1) g 236 21 rfl
  have bl_ := gi_b (lo := 0) (hi := 800) g 1 1 rfl
  have tb0 : BufC (h 2) (h 1 1) h := ⟨fun _ => rfl, rfl, by omega, by omega⟩
  have b26 := gi_b (lo := 0) (hi := 6) g 238 98 rfl
  have b27 := gi_b (lo := 0) (hi := 6) g 238 99 rfl
  have b28 := gi_b (lo := 0) (hi := 6) g 238 100 rfl
  have b29 := gi_b (lo := 0) (hi := 6) g 238 101 rfl
  have b30 := gi_b (lo := 0) (hi := 3) g 238 102 rfl
  have b31 := gi_b (lo := 0) (hi := 12) g 238 106 rfl
  have b32 := gi_b (lo := 0) (hi := 12) g 238 73 rfl
  have b33 := gi_b (lo := 0) (hi := 9999) g 238 119 rfl
  have b34 := gi_b (lo := 0) (hi := 9999) g 238 67 rfl
  have b35 := gi_b (lo := 0) (hi := 9) g 238 69 rfl
  have b36 := gi_b (lo := 0) (hi := 6) g 241 98 rfl
  have b37 := gi_b (lo := 0) (hi := 6) g 241 99 rfl
  have b38 := gi_b (lo := 0) (hi := 6) g 241 100 rfl
  have b39 := gi_b (lo := 0) (hi := 6) g 241 101 rfl
  have b40 := gi_b (lo := 0) (hi := 3) g 241 102 rfl
  have b41 := gi_b (lo := 0) (hi := 12) g 241 106 rfl
  have b42 := gi_b (lo := 0) (hi := 12) g 241 73 rfl
  have b43 := gi_b (lo := 0) (hi := 12) g 241 2 rfl
  have b44 := gi_b (lo := 0) (hi := 9999) g 241 119 rfl
  have b45 := gi_b (lo := 0) (hi := 9999) g 241 67 rfl
  have b46 := gi_b (lo := 0) (hi := 9) g 241 69 rfl
  have b47 := gi_b (lo := 0) (hi := 9) g 241 5 rfl
  have b48 := gi_b (lo := 0) (hi := 800) g 1 1 rfl
  have b49 := gi_b (lo := 0) (hi := 800) g 236 2 rfl
  have b50 := gi_b (lo := -2147483648) (hi := 2147483647) g 1 2 rfl
  have b51 := gi_b (lo := -2147483648) (hi := 2147483647) g 236 10 rfl
  have b52 := gi_b (lo := -2147483648) (hi := 2147483647) g 1 3 rfl
  have b53 := gi_b (lo := -2147483648) (hi := 2147483647) g 236 11 rfl
  refine wi_aload_n (i := 1) (x := 0) (nx := 951) (r1 := 0) (r2 := 0) (r3 := 0) rfl rfl ?_
  refine wr_V (k0 := 0) (rest := []) (as := [.ref 0]) (nx := 954) (r1 := 41) (r2 := 0) (r3 := 0) rfl rfl rfl (of_decide_eq_true rfl) rfl rfl (by decide) rfl rfl (of_decide_eq_true rfl) (of_decide_eq_true rfl) ?_
  refine ct_41_0 hcr  g    (fun z55  (fz55 : -2147483648 ≤ z55 ∧ z55 ≤ 2147483647) => ?_)
  refine wk_i ?_
  refine wi_pop (nx := 955) (r1 := 0) (r2 := 0) (r3 := 0) rfl rfl ?_
  refine wi_aload_n (i := 2) (x := 236) (nx := 956) (r1 := 0) (r2 := 0) (r3 := 0) rfl rfl ?_
  refine wr_V (k0 := 236) (rest := []) (as := [.ref 236]) (nx := 959) (r1 := 271) (r2 := 0) (r3 := 11) rfl rfl rfl (of_decide_eq_true rfl) rfl rfl (by decide) rfl rfl (of_decide_eq_true rfl) (of_decide_eq_true rfl) ?_
  refine ct_271_236 hcr  g    (fun h56 z57 g56 u56 (fz57 : -2147483648 ≤ z57 ∧ z57 ≤ 2147483647) => ?_)
  refine wk_i ?_
  refine wi_pop (nx := 960) (r1 := 0) (r2 := 0) (r3 := 0) rfl rfl ?_
  refine wi_goto (nx := 963) (r1 := 1501) (r2 := 0) (r3 := 0) rfl ?_
  have e58 : h56 238 98 = h 238 98 := (u56 238 98 rfl)
  have e59 : h56 238 99 = h 238 99 := (u56 238 99 rfl)
  have e60 : h56 238 100 = h 238 100 := (u56 238 100 rfl)
  have e61 : h56 238 101 = h 238 101 := (u56 238 101 rfl)
  have e62 : h56 238 102 = h 238 102 := (u56 238 102 rfl)
  have e63 : h56 238 106 = h 238 106 := (u56 238 106 rfl)
  have e64 : h56 238 73 = h 238 73 := (u56 238 73 rfl)
  have e65 : h56 238 2 = h 238 2 := (u56 238 2 rfl)
  have e66 : h56 238 119 = h 238 119 := (u56 238 119 rfl)
  have e67 : h56 238 67 = h 238 67 := (u56 238 67 rfl)
  have e68 : h56 238 69 = h 238 69 := (u56 238 69 rfl)
  have e69 : h56 238 5 = h 238 5 := (u56 238 5 rfl)
  have e70 : h56 241 98 = h 241 98 := (u56 241 98 rfl)
  have e71 : h56 241 99 = h 241 99 := (u56 241 99 rfl)
  have e72 : h56 241 100 = h 241 100 := (u56 241 100 rfl)
  have e73 : h56 241 101 = h 241 101 := (u56 241 101 rfl)
  have e74 : h56 241 102 = h 241 102 := (u56 241 102 rfl)
  have e75 : h56 241 106 = h 241 106 := (u56 241 106 rfl)
  have e76 : h56 241 73 = h 241 73 := (u56 241 73 rfl)
  have e77 : h56 241 2 = h 241 2 := (u56 241 2 rfl)
  have e78 : h56 241 119 = h 241 119 := (u56 241 119 rfl)
  have e79 : h56 241 67 = h 241 67 := (u56 241 67 rfl)
  have e80 : h56 241 69 = h 241 69 := (u56 241 69 rfl)
  have e81 : h56 241 5 = h 241 5 := (u56 241 5 rfl)
  have e82 : h56 1 1 = h 1 1 := (u56 1 1 rfl)
  have e83 : h56 236 2 = h 236 2 := (u56 236 2 rfl)
  have e84 : h56 1 2 = h 1 2 := (u56 1 2 rfl)
  have e85 : h56 236 10 = h 236 10 := (u56 236 10 rfl)
  have e86 : h56 1 3 = h 1 3 := (u56 1 3 rfl)
  have e87 : h56 236 11 = h 236 11 := (u56 236 11 rfl)
  have gp88 := GPH.fr u56 rfl gp0
  have b89 := gi_b (lo := 0) (hi := 5) g 241 0 rfl
  have b90 := gi_b (lo := 0) (hi := 4) g 241 1 rfl
  have gs91 := GPS.fr u56 rfl gs0
  have e92 : h56 0 12 = h 0 12 := (u56 0 12 rfl)
  have e93 : h56 236 21 = h 236 21 := (u56 236 21 rfl)
  have e94 : h56 63 5 = h 63 5 := (u56 63 5 rfl)
  have e95 : h56 18 16 = h 18 16 := (u56 18 16 rfl)
  have e96 : h56 18 7 = h 18 7 := (u56 18 7 rfl)
  have e97 : h56 3 2 = h 3 2 := (u56 3 2 rfl)
  have e98 : h56 66 1 = h 66 1 := (u56 66 1 rfl)
  have b99 := gi_b (lo := 0) (hi := 6) g 73 1 rfl
  have e100 : h56 73 1 = h 73 1 := (u56 73 1 rfl)
  have b101 := gi_b (lo := 0) (hi := 6) g 73 2 rfl
  have e102 : h56 73 2 = h 73 2 := (u56 73 2 rfl)
  have b103 := gi_b (lo := 0) (hi := 6) g 236 22 rfl
  have e104 : h56 236 22 = h 236 22 := (u56 236 22 rfl)
  have b105 := gi_b (lo := 0) (hi := 12) g 210 2 rfl
  have e106 : h56 210 2 = h 210 2 := (u56 210 2 rfl)
  have q109 : h56 8 = h 8 := funext (fun i => (u56 8 i (fo_no_ok (by decide) i)))
  have q110 : h56 7 = h 7 := funext (fun i => (u56 7 i (fo_no_ok (by decide) i)))
  have q111 : h56 19 = h 19 := funext (fun i => (u56 19 i (fo_no_ok (by decide) i)))
  have q112 : h56 67 = h 67 := funext (fun i => (u56 67 i (fo_no_ok (by decide) i)))
  have ml108 : MCL h56 := MCL.mv mi0.1 q109 q110 q111 q112 (by omega) (by omega) (by omega) (by omega)
  have q114 : h56 69 = h 69 := funext (fun i => (u56 69 i (fo_no_ok (by decide) i)))
  have q115 : h56 70 = h 70 := funext (fun i => (u56 70 i (fo_no_ok (by decide) i)))
  have nb113 : NBc (h56 69) (h56 70) := by rw [q114, q115]; exact mi0.2.2
  have q116 : h56 8 = h 8 := funext (fun i => (u56 8 i (fo_no_ok (by decide) i)))
  have q117 : h56 7 = h 7 := funext (fun i => (u56 7 i (fo_no_ok (by decide) i)))
  have mi107 : MCI h56 := ⟨ml108, HIv.mv mi0.2.1 q116 q117 (by omega) (by omega) (sv_seven (P := fun x => ∀ i, h56 (76 + 19 * x) i = h (76 + 19 * x) i) (fun i => (u56 76 i (fn_a (by decide) fn_0))) (fun i => (u56 95 i (fn_a (by decide) fn_0))) (fun i => (u56 114 i (fn_a (by decide) fn_0))) (fun i => (u56 133 i (fn_a (by decide) fn_0))) (fun i => (u56 152 i (fn_a (by decide) fn_0))) (fun i => (u56 171 i (fn_a (by decide) fn_0))) (fun i => (u56 190 i (fn_a (by decide) fn_0)))) (by omega) (by omega), nb113⟩
  have gq118 := GQS.fr u56 rfl gq0
  have q119 : h56 8 = h 8 := funext (fun i => (u56 8 i (fo_no_ok (by decide) i)))
  have q120 : h56 7 = h 7 := funext (fun i => (u56 7 i (fo_no_ok (by decide) i)))
  have q121 : h56 215 = h 215 := funext (fun i => (u56 215 i (fo_no_ok (by decide) i)))
  have q122 : h56 218 = h 218 := funext (fun i => (u56 218 i (fo_no_ok (by decide) i)))
  have q123 : h56 214 = h 214 := funext (fun i => (u56 214 i (fo_no_ok (by decide) i)))
  have q124 : h56 241 = h 241 := funext (fun i => (u56 241 i (fo_no_ok (by decide) i)))
  exact k h56 b c ⟨⟨g56, (show h56 1 1 = h56 236 2 by omega), (RS.i0 (f := h56 238) (by refine ⟨?_, ?_, ?_, ?_, ?_⟩ <;> omega)), (RS.i0 (f := h56 241) (by refine ⟨?_, ?_, ?_, ?_, ?_⟩ <;> omega)), gp88, (BRh.keep br0 (fun i => (u56 2 i (fn_a (by decide) fn_0))) (fun i => (u56 237 i (fn_a (by decide) fn_0))) (by omega)), (show h56 1 2 = h56 236 10 by omega), (show h56 1 3 = h56 236 11 by omega), (SVx.keep sv0 (by omega) (fun i _ => (u56 3 i (fn_a (by decide) fn_0))) (fun i _ => (u56 5 i (fn_a (by decide) fn_0))) (fun i _ => (u56 6 i (fn_a (by decide) fn_0))) (fun i _ => (u56 8 i (fn_a (by decide) fn_0))) (fun i _ => (u56 238 i (fn_a (by decide) fn_0)))), (show h56 0 12 = h56 236 21 by omega), (fun e => (SVx.keep (ss0 (by omega)) (by omega) (fun i _ => (u56 210 i (fn_a (by decide) fn_0))) (fun i _ => (u56 212 i (fn_a (by decide) fn_0))) (fun i _ => (u56 213 i (fn_a (by decide) fn_0))) (fun i _ => (u56 215 i (fn_a (by decide) fn_0))) (fun i _ => (u56 241 i (fn_a (by decide) fn_0))))), gs91, mi107, (show h56 63 5 ≤ h56 18 16 by omega), (show (h56 63 5) < (h56 18 16) ∨ ((h56 18 7) ≤ (h56 3 2) ∧ (h56 66 1) = (h56 3 2) - (h56 18 7)) ∨ ((h56 3 2) < (h56 18 7) ∧ (h56 66 1) = 0) by omega), gq118, (MR.mv mr0 (MSN.then (MSN.refl) (fun i _ => (u56 238 i (fn_a (by decide) fn_0)))) (by omega) q119 q120 (by omega)), (fun e => SM.mv (sm0 (by omega)) q121 q122 q123 (by omega) q124)⟩, (by omega)⟩ (by omega) (by omega)
-- the law, case at 963
set_option maxRecDepth 100000 in
set_option maxHeartbeats 100000000 in
theorem lc_963 {L : Nat} {xs : Nat → Int32} {d b c : Nat} {h : hp} {cr : Nat → Nat → Option Nat} {Q : hp_Q} (hcr : CR cr) (hL : L ≤ 3072) (hr : 1 ≤ b ∧ 6 ≤ c) (i : Int) (I : LIm i h) (hi : 0 ≤ i ∧ i + 6 ≤ L) (k : ∀ (h2 : hp) (b2 c2 : Nat), LIm (i + 6) h2 → b ≤ b2 + 1 → c ≤ c2 + 6 → wp (md_xa (L, xs)) (d + 107) 0 (1501, [(0, .ref 1000000), (1, .ref 0), (2, .ref 236), (3, .ref 259), (4, vi i)], [], hp_w h2 cr, b2, c2) Q) : wp (md_xa (L, xs)) (d + 107) 0 (963, [(0, .ref 1000000), (1, .ref 0), (2, .ref 236), (3, .ref 259), (4, vi i)], [], hp_w h cr, b, c) Q := by
  obtain ⟨⟨g, i11, r238, r241, gp0, br0, er2, er3, sv0, sf0, ss0, gs0, mi0, ml1, ml2, gq0, mr0, sm0⟩, ie0⟩ := I
  have r238e := r238.e0
  have r241e := r241.e0
  obtain ⟨⟨se0, se1, se2, se3, se4, se5, se6, se7, se8, se9⟩, -⟩ := id sv0
  have b1 := gi_b (lo := 0) (hi := 5) g 3 0 rfl
  have b2 := gi_b (lo := 0) (hi := 5) g 238 0 rfl
  have b3 := gi_b (lo := 0) (hi := 4) g 3 1 rfl
  have b4 := gi_b (lo := 0) (hi := 4) g 238 1 rfl
  have b5 := gi_b (lo := 0) (hi := 12) g 3 2 rfl
  have b6 := gi_b (lo := 0) (hi := 12) g 238 2 rfl
  have b7 := gi_b (lo := -2147483648) (hi := 2147483647) g 3 3 rfl
  have b8 := gi_b (lo := 0) (hi := 999) g 238 3 rfl
  have b9 := gi_b (lo := -2147483648) (hi := 2147483647) g 3 4 rfl
  have b10 := gi_b (lo := 0) (hi := 999) g 238 4 rfl
  have b11 := gi_b (lo := -2147483648) (hi := 2147483647) g 3 5 rfl
  have b12 := gi_b (lo := 0) (hi := 9) g 238 5 rfl
  have b13 := gi_b (lo := -2147483648) (hi := 2147483647) g 3 6 rfl
  have b14 := gi_b (lo := 0) (hi := 999) g 238 6 rfl
  have b15 := gi_b (lo := -2147483648) (hi := 2147483647) g 3 7 rfl
  have b16 := gi_b (lo := 0) (hi := 3) g 238 7 rfl
  have b17 := gi_b (lo := -2147483648) (hi := 2147483647) g 3 8 rfl
  have b18 := gi_b (lo := 0) (hi := 999) g 238 8 rfl
  have b19 := gi_b (lo := -2147483648) (hi := 2147483647) g 3 9 rfl
  have b20 := gi_b (lo := 0) (hi := 999) g 238 9 rfl
  have b21 := gi_b (lo := -2147483648) (hi := 2147483647) g 63 5 rfl
  have b22 := gi_b (lo := 0) (hi := 12) g 18 7 rfl
  have b23 := gi_b (lo := 0) (hi := 12) g 66 1 rfl
  have b24 := gi_b (lo := 0) (hi := 1) g 0 12 rfl
  have b25 := gi_b (lo := 0) (hi := 1) g 236 21 rfl
  have bl_ := gi_b (lo := 0) (hi := 800) g 1 1 rfl
  have tb0 : BufC (h 2) (h 1 1) h := ⟨fun _ => rfl, rfl, by omega, by omega⟩
  have b26 := gi_b (lo := 0) (hi := 6) g 238 98 rfl
  have b27 := gi_b (lo := 0) (hi := 6) g 238 99 rfl
  have b28 := gi_b (lo := 0) (hi := 6) g 238 100 rfl
  have b29 := gi_b (lo := 0) (hi := 6) g 238 101 rfl
  have b30 := gi_b (lo := 0) (hi := 3) g 238 102 rfl
  have b31 := gi_b (lo := 0) (hi := 12) g 238 106 rfl
  have b32 := gi_b (lo := 0) (hi := 12) g 238 73 rfl
  have b33 := gi_b (lo := 0) (hi := 9999) g 238 119 rfl
  have b34 := gi_b (lo := 0) (hi := 9999) g 238 67 rfl
  have b35 := gi_b (lo := 0) (hi := 9) g 238 69 rfl
  have b36 := gi_b (lo := 0) (hi := 6) g 241 98 rfl
  have b37 := gi_b (lo := 0) (hi := 6) g 241 99 rfl
  have b38 := gi_b (lo := 0) (hi := 6) g 241 100 rfl
  have b39 := gi_b (lo := 0) (hi := 6) g 241 101 rfl
  have b40 := gi_b (lo := 0) (hi := 3) g 241 102 rfl
  have b41 := gi_b (lo := 0) (hi := 12) g 241 106 rfl
  have b42 := gi_b (lo := 0) (hi := 12) g 241 73 rfl
  have b43 := gi_b (lo := 0) (hi := 12) g 241 2 rfl
  have b44 := gi_b (lo := 0) (hi := 9999) g 241 119 rfl
  have b45 := gi_b (lo := 0) (hi := 9999) g 241 67 rfl
  have b46 := gi_b (lo := 0) (hi := 9) g 241 69 rfl
  have b47 := gi_b (lo := 0) (hi := 9) g 241 5 rfl
  have b48 := gi_b (lo := 0) (hi := 800) g 1 1 rfl
  have b49 := gi_b (lo := 0) (hi := 800) g 236 2 rfl
  have b50 := gi_b (lo := -2147483648) (hi := 2147483647) g 1 2 rfl
  have b51 := gi_b (lo := -2147483648) (hi := 2147483647) g 236 10 rfl
  have b52 := gi_b (lo := -2147483648) (hi := 2147483647) g 1 3 rfl
  have b53 := gi_b (lo := -2147483648) (hi := 2147483647) g 236 11 rfl
  refine wi_aload_n (i := 1) (x := 0) (nx := 964) (r1 := 0) (r2 := 0) (r3 := 0) rfl rfl ?_
  refine wr_V (k0 := 0) (rest := []) (as := [.ref 0]) (nx := 967) (r1 := 42) (r2 := 0) (r3 := 0) rfl rfl rfl (of_decide_eq_true rfl) rfl rfl (by decide) rfl rfl (of_decide_eq_true rfl) (of_decide_eq_true rfl) ?_
  refine ct_42_0 hcr  g    (fun z55  (fz55 : -2147483648 ≤ z55 ∧ z55 ≤ 2147483647) => ?_)
  refine wk_i ?_
  refine wi_pop (nx := 968) (r1 := 0) (r2 := 0) (r3 := 0) rfl rfl ?_
  refine wi_aload_n (i := 2) (x := 236) (nx := 969) (r1 := 0) (r2 := 0) (r3 := 0) rfl rfl ?_
  refine wr_V (k0 := 236) (rest := []) (as := [.ref 236]) (nx := 972) (r1 := 272) (r2 := 0) (r3 := 11) rfl rfl rfl (of_decide_eq_true rfl) rfl rfl (by decide) rfl rfl (of_decide_eq_true rfl) (of_decide_eq_true rfl) ?_
  refine ct_272_236 hcr  g    (fun h56 z57 g56 u56 (fz57 : -2147483648 ≤ z57 ∧ z57 ≤ 2147483647) => ?_)
  refine wk_i ?_
  refine wi_pop (nx := 973) (r1 := 0) (r2 := 0) (r3 := 0) rfl rfl ?_
  refine wi_goto (nx := 976) (r1 := 1501) (r2 := 0) (r3 := 0) rfl ?_
  have e58 : h56 238 98 = h 238 98 := (u56 238 98 rfl)
  have e59 : h56 238 99 = h 238 99 := (u56 238 99 rfl)
  have e60 : h56 238 100 = h 238 100 := (u56 238 100 rfl)
  have e61 : h56 238 101 = h 238 101 := (u56 238 101 rfl)
  have e62 : h56 238 102 = h 238 102 := (u56 238 102 rfl)
  have e63 : h56 238 106 = h 238 106 := (u56 238 106 rfl)
  have e64 : h56 238 73 = h 238 73 := (u56 238 73 rfl)
  have e65 : h56 238 2 = h 238 2 := (u56 238 2 rfl)
  have e66 : h56 238 119 = h 238 119 := (u56 238 119 rfl)
  have e67 : h56 238 67 = h 238 67 := (u56 238 67 rfl)
  have e68 : h56 238 69 = h 238 69 := (u56 238 69 rfl)
  have e69 : h56 238 5 = h 238 5 := (u56 238 5 rfl)
  have e70 : h56 241 98 = h 241 98 := (u56 241 98 rfl)
  have e71 : h56 241 99 = h 241 99 := (u56 241 99 rfl)
  have e72 : h56 241 100 = h 241 100 := (u56 241 100 rfl)
  have e73 : h56 241 101 = h 241 101 := (u56 241 101 rfl)
  have e74 : h56 241 102 = h 241 102 := (u56 241 102 rfl)
  have e75 : h56 241 106 = h 241 106 := (u56 241 106 rfl)
  have e76 : h56 241 73 = h 241 73 := (u56 241 73 rfl)
  have e77 : h56 241 2 = h 241 2 := (u56 241 2 rfl)
  have e78 : h56 241 119 = h 241 119 := (u56 241 119 rfl)
  have e79 : h56 241 67 = h 241 67 := (u56 241 67 rfl)
  have e80 : h56 241 69 = h 241 69 := (u56 241 69 rfl)
  have e81 : h56 241 5 = h 241 5 := (u56 241 5 rfl)
  have e82 : h56 1 1 = h 1 1 := (u56 1 1 rfl)
  have e83 : h56 236 2 = h 236 2 := (u56 236 2 rfl)
  have e84 : h56 1 2 = h 1 2 := (u56 1 2 rfl)
  have e85 : h56 236 10 = h 236 10 := (u56 236 10 rfl)
  have e86 : h56 1 3 = h 1 3 := (u56 1 3 rfl)
  have e87 : h56 236 11 = h 236 11 := (u56 236 11 rfl)
  have gp88 := GPH.fr u56 rfl gp0
  have b89 := gi_b (lo := 0) (hi := 5) g 241 0 rfl
  have b90 := gi_b (lo := 0) (hi := 4) g 241 1 rfl
  have gs91 := GPS.fr u56 rfl gs0
  have e92 : h56 0 12 = h 0 12 := (u56 0 12 rfl)
  have e93 : h56 236 21 = h 236 21 := (u56 236 21 rfl)
  have e94 : h56 63 5 = h 63 5 := (u56 63 5 rfl)
  have e95 : h56 18 16 = h 18 16 := (u56 18 16 rfl)
  have e96 : h56 18 7 = h 18 7 := (u56 18 7 rfl)
  have e97 : h56 3 2 = h 3 2 := (u56 3 2 rfl)
  have e98 : h56 66 1 = h 66 1 := (u56 66 1 rfl)
  have b99 := gi_b (lo := 0) (hi := 6) g 73 1 rfl
  have e100 : h56 73 1 = h 73 1 := (u56 73 1 rfl)
  have b101 := gi_b (lo := 0) (hi := 6) g 73 2 rfl
  have e102 : h56 73 2 = h 73 2 := (u56 73 2 rfl)
  have b103 := gi_b (lo := 0) (hi := 6) g 236 22 rfl
  have e104 : h56 236 22 = h 236 22 := (u56 236 22 rfl)
  have b105 := gi_b (lo := 0) (hi := 12) g 210 2 rfl
  have e106 : h56 210 2 = h 210 2 := (u56 210 2 rfl)
  have q109 : h56 8 = h 8 := funext (fun i => (u56 8 i (fo_no_ok (by decide) i)))
  have q110 : h56 7 = h 7 := funext (fun i => (u56 7 i (fo_no_ok (by decide) i)))
  have q111 : h56 19 = h 19 := funext (fun i => (u56 19 i (fo_no_ok (by decide) i)))
  have q112 : h56 67 = h 67 := funext (fun i => (u56 67 i (fo_no_ok (by decide) i)))
  have ml108 : MCL h56 := MCL.mv mi0.1 q109 q110 q111 q112 (by omega) (by omega) (by omega) (by omega)
  have q114 : h56 69 = h 69 := funext (fun i => (u56 69 i (fo_no_ok (by decide) i)))
  have q115 : h56 70 = h 70 := funext (fun i => (u56 70 i (fo_no_ok (by decide) i)))
  have nb113 : NBc (h56 69) (h56 70) := by rw [q114, q115]; exact mi0.2.2
  have q116 : h56 8 = h 8 := funext (fun i => (u56 8 i (fo_no_ok (by decide) i)))
  have q117 : h56 7 = h 7 := funext (fun i => (u56 7 i (fo_no_ok (by decide) i)))
  have mi107 : MCI h56 := ⟨ml108, HIv.mv mi0.2.1 q116 q117 (by omega) (by omega) (sv_seven (P := fun x => ∀ i, h56 (76 + 19 * x) i = h (76 + 19 * x) i) (fun i => (u56 76 i (fn_a (by decide) fn_0))) (fun i => (u56 95 i (fn_a (by decide) fn_0))) (fun i => (u56 114 i (fn_a (by decide) fn_0))) (fun i => (u56 133 i (fn_a (by decide) fn_0))) (fun i => (u56 152 i (fn_a (by decide) fn_0))) (fun i => (u56 171 i (fn_a (by decide) fn_0))) (fun i => (u56 190 i (fn_a (by decide) fn_0)))) (by omega) (by omega), nb113⟩
  have gq118 := GQS.fr u56 rfl gq0
  have q119 : h56 8 = h 8 := funext (fun i => (u56 8 i (fo_no_ok (by decide) i)))
  have q120 : h56 7 = h 7 := funext (fun i => (u56 7 i (fo_no_ok (by decide) i)))
  have q121 : h56 215 = h 215 := funext (fun i => (u56 215 i (fo_no_ok (by decide) i)))
  have q122 : h56 218 = h 218 := funext (fun i => (u56 218 i (fo_no_ok (by decide) i)))
  have q123 : h56 214 = h 214 := funext (fun i => (u56 214 i (fo_no_ok (by decide) i)))
  have q124 : h56 241 = h 241 := funext (fun i => (u56 241 i (fo_no_ok (by decide) i)))
  exact k h56 b c ⟨⟨g56, (show h56 1 1 = h56 236 2 by omega), (RS.i0 (f := h56 238) (by refine ⟨?_, ?_, ?_, ?_, ?_⟩ <;> omega)), (RS.i0 (f := h56 241) (by refine ⟨?_, ?_, ?_, ?_, ?_⟩ <;> omega)), gp88, (BRh.keep br0 (fun i => (u56 2 i (fn_a (by decide) fn_0))) (fun i => (u56 237 i (fn_a (by decide) fn_0))) (by omega)), (show h56 1 2 = h56 236 10 by omega), (show h56 1 3 = h56 236 11 by omega), (SVx.keep sv0 (by omega) (fun i _ => (u56 3 i (fn_a (by decide) fn_0))) (fun i _ => (u56 5 i (fn_a (by decide) fn_0))) (fun i _ => (u56 6 i (fn_a (by decide) fn_0))) (fun i _ => (u56 8 i (fn_a (by decide) fn_0))) (fun i _ => (u56 238 i (fn_a (by decide) fn_0)))), (show h56 0 12 = h56 236 21 by omega), (fun e => (SVx.keep (ss0 (by omega)) (by omega) (fun i _ => (u56 210 i (fn_a (by decide) fn_0))) (fun i _ => (u56 212 i (fn_a (by decide) fn_0))) (fun i _ => (u56 213 i (fn_a (by decide) fn_0))) (fun i _ => (u56 215 i (fn_a (by decide) fn_0))) (fun i _ => (u56 241 i (fn_a (by decide) fn_0))))), gs91, mi107, (show h56 63 5 ≤ h56 18 16 by omega), (show (h56 63 5) < (h56 18 16) ∨ ((h56 18 7) ≤ (h56 3 2) ∧ (h56 66 1) = (h56 3 2) - (h56 18 7)) ∨ ((h56 3 2) < (h56 18 7) ∧ (h56 66 1) = 0) by omega), gq118, (MR.mv mr0 (MSN.then (MSN.refl) (fun i _ => (u56 238 i (fn_a (by decide) fn_0)))) (by omega) q119 q120 (by omega)), (fun e => SM.mv (sm0 (by omega)) q121 q122 q123 (by omega) q124)⟩, (by omega)⟩ (by omega) (by omega)
-- the law, case at 976
set_option maxRecDepth 100000 in
set_option maxHeartbeats 100000000 in
theorem lc_976 {L : Nat} {xs : Nat → Int32} {d b c : Nat} {h : hp} {cr : Nat → Nat → Option Nat} {Q : hp_Q} (hcr : CR cr) (hL : L ≤ 3072) (hr : 1 ≤ b ∧ 6 ≤ c) (i : Int) (I : LIm i h) (hi : 0 ≤ i ∧ i + 6 ≤ L) (k : ∀ (h2 : hp) (b2 c2 : Nat), LIm (i + 6) h2 → b ≤ b2 + 1 → c ≤ c2 + 6 → wp (md_xa (L, xs)) (d + 107) 0 (1501, [(0, .ref 1000000), (1, .ref 0), (2, .ref 236), (3, .ref 259), (4, vi i)], [], hp_w h2 cr, b2, c2) Q) : wp (md_xa (L, xs)) (d + 107) 0 (976, [(0, .ref 1000000), (1, .ref 0), (2, .ref 236), (3, .ref 259), (4, vi i)], [], hp_w h cr, b, c) Q := by
  obtain ⟨⟨g, i11, r238, r241, gp0, br0, er2, er3, sv0, sf0, ss0, gs0, mi0, ml1, ml2, gq0, mr0, sm0⟩, ie0⟩ := I
  have r238e := r238.e0
  have r241e := r241.e0
  obtain ⟨⟨se0, se1, se2, se3, se4, se5, se6, se7, se8, se9⟩, -⟩ := id sv0
  have b1 := gi_b (lo := 0) (hi := 5) g 3 0 rfl
  have b2 := gi_b (lo := 0) (hi := 5) g 238 0 rfl
  have b3 := gi_b (lo := 0) (hi := 4) g 3 1 rfl
  have b4 := gi_b (lo := 0) (hi := 4) g 238 1 rfl
  have b5 := gi_b (lo := 0) (hi := 12) g 3 2 rfl
  have b6 := gi_b (lo := 0) (hi := 12) g 238 2 rfl
  have b7 := gi_b (lo := -2147483648) (hi := 2147483647) g 3 3 rfl
  have b8 := gi_b (lo := 0) (hi := 999) g 238 3 rfl
  have b9 := gi_b (lo := -2147483648) (hi := 2147483647) g 3 4 rfl
  have b10 := gi_b (lo := 0) (hi := 999) g 238 4 rfl
  have b11 := gi_b (lo := -2147483648) (hi := 2147483647) g 3 5 rfl
  have b12 := gi_b (lo := 0) (hi := 9) g 238 5 rfl
  have b13 := gi_b (lo := -2147483648) (hi := 2147483647) g 3 6 rfl
  have b14 := gi_b (lo := 0) (hi := 999) g 238 6 rfl
  have b15 := gi_b (lo := -2147483648) (hi := 2147483647) g 3 7 rfl
  have b16 := gi_b (lo := 0) (hi := 3) g 238 7 rfl
  have b17 := gi_b (lo := -2147483648) (hi := 2147483647) g 3 8 rfl
  have b18 := gi_b (lo := 0) (hi := 999) g 238 8 rfl
  have b19 := gi_b (lo := -2147483648) (hi := 2147483647) g 3 9 rfl
  have b20 := gi_b (lo := 0) (hi := 999) g 238 9 rfl
  have b21 := gi_b (lo := -2147483648) (hi := 2147483647) g 63 5 rfl
  have b22 := gi_b (lo := 0) (hi := 12) g 18 7 rfl
  have b23 := gi_b (lo := 0) (hi := 12) g 66 1 rfl
  have b24 := gi_b (lo := 0) (hi := 1) g 0 12 rfl
  have b25 := gi_b (lo := 0) (hi := 1) g 236 21 rfl
  have bl_ := gi_b (lo := 0) (hi := 800) g 1 1 rfl
  have tb0 : BufC (h 2) (h 1 1) h := ⟨fun _ => rfl, rfl, by omega, by omega⟩
  have b26 := gi_b (lo := 0) (hi := 6) g 238 98 rfl
  have b27 := gi_b (lo := 0) (hi := 6) g 238 99 rfl
  have b28 := gi_b (lo := 0) (hi := 6) g 238 100 rfl
  have b29 := gi_b (lo := 0) (hi := 6) g 238 101 rfl
  have b30 := gi_b (lo := 0) (hi := 3) g 238 102 rfl
  have b31 := gi_b (lo := 0) (hi := 12) g 238 106 rfl
  have b32 := gi_b (lo := 0) (hi := 12) g 238 73 rfl
  have b33 := gi_b (lo := 0) (hi := 9999) g 238 119 rfl
  have b34 := gi_b (lo := 0) (hi := 9999) g 238 67 rfl
  have b35 := gi_b (lo := 0) (hi := 9) g 238 69 rfl
  have b36 := gi_b (lo := 0) (hi := 6) g 241 98 rfl
  have b37 := gi_b (lo := 0) (hi := 6) g 241 99 rfl
  have b38 := gi_b (lo := 0) (hi := 6) g 241 100 rfl
  have b39 := gi_b (lo := 0) (hi := 6) g 241 101 rfl
  have b40 := gi_b (lo := 0) (hi := 3) g 241 102 rfl
  have b41 := gi_b (lo := 0) (hi := 12) g 241 106 rfl
  have b42 := gi_b (lo := 0) (hi := 12) g 241 73 rfl
  have b43 := gi_b (lo := 0) (hi := 12) g 241 2 rfl
  have b44 := gi_b (lo := 0) (hi := 9999) g 241 119 rfl
  have b45 := gi_b (lo := 0) (hi := 9999) g 241 67 rfl
  have b46 := gi_b (lo := 0) (hi := 9) g 241 69 rfl
  have b47 := gi_b (lo := 0) (hi := 9) g 241 5 rfl
  have b48 := gi_b (lo := 0) (hi := 800) g 1 1 rfl
  have b49 := gi_b (lo := 0) (hi := 800) g 236 2 rfl
  have b50 := gi_b (lo := -2147483648) (hi := 2147483647) g 1 2 rfl
  have b51 := gi_b (lo := -2147483648) (hi := 2147483647) g 236 10 rfl
  have b52 := gi_b (lo := -2147483648) (hi := 2147483647) g 1 3 rfl
  have b53 := gi_b (lo := -2147483648) (hi := 2147483647) g 236 11 rfl
  refine wi_aload_n (i := 1) (x := 0) (nx := 977) (r1 := 0) (r2 := 0) (r3 := 0) rfl rfl ?_
  refine wr_V (k0 := 0) (rest := []) (as := [.ref 0]) (nx := 980) (r1 := 43) (r2 := 0) (r3 := 0) rfl rfl rfl (of_decide_eq_true rfl) rfl rfl (by decide) rfl rfl (of_decide_eq_true rfl) (of_decide_eq_true rfl) ?_
  refine ct_43_0 hcr  g    (fun z55  (fz55 : -2147483648 ≤ z55 ∧ z55 ≤ 2147483647) => ?_)
  refine wk_i ?_
  refine wi_pop (nx := 981) (r1 := 0) (r2 := 0) (r3 := 0) rfl rfl ?_
  refine wi_aload_n (i := 2) (x := 236) (nx := 982) (r1 := 0) (r2 := 0) (r3 := 0) rfl rfl ?_
  refine wr_V (k0 := 236) (rest := []) (as := [.ref 236]) (nx := 985) (r1 := 273) (r2 := 0) (r3 := 11) rfl rfl rfl (of_decide_eq_true rfl) rfl rfl (by decide) rfl rfl (of_decide_eq_true rfl) (of_decide_eq_true rfl) ?_
  refine ct_273_236 hcr  g    (fun h56 z57 g56 u56 (fz57 : -2147483648 ≤ z57 ∧ z57 ≤ 2147483647) => ?_)
  refine wk_i ?_
  refine wi_pop (nx := 986) (r1 := 0) (r2 := 0) (r3 := 0) rfl rfl ?_
  refine wi_goto (nx := 989) (r1 := 1501) (r2 := 0) (r3 := 0) rfl ?_
  have e58 : h56 238 98 = h 238 98 := (u56 238 98 rfl)
  have e59 : h56 238 99 = h 238 99 := (u56 238 99 rfl)
  have e60 : h56 238 100 = h 238 100 := (u56 238 100 rfl)
  have e61 : h56 238 101 = h 238 101 := (u56 238 101 rfl)
  have e62 : h56 238 102 = h 238 102 := (u56 238 102 rfl)
  have e63 : h56 238 106 = h 238 106 := (u56 238 106 rfl)
  have e64 : h56 238 73 = h 238 73 := (u56 238 73 rfl)
  have e65 : h56 238 2 = h 238 2 := (u56 238 2 rfl)
  have e66 : h56 238 119 = h 238 119 := (u56 238 119 rfl)
  have e67 : h56 238 67 = h 238 67 := (u56 238 67 rfl)
  have e68 : h56 238 69 = h 238 69 := (u56 238 69 rfl)
  have e69 : h56 238 5 = h 238 5 := (u56 238 5 rfl)
  have e70 : h56 241 98 = h 241 98 := (u56 241 98 rfl)
  have e71 : h56 241 99 = h 241 99 := (u56 241 99 rfl)
  have e72 : h56 241 100 = h 241 100 := (u56 241 100 rfl)
  have e73 : h56 241 101 = h 241 101 := (u56 241 101 rfl)
  have e74 : h56 241 102 = h 241 102 := (u56 241 102 rfl)
  have e75 : h56 241 106 = h 241 106 := (u56 241 106 rfl)
  have e76 : h56 241 73 = h 241 73 := (u56 241 73 rfl)
  have e77 : h56 241 2 = h 241 2 := (u56 241 2 rfl)
  have e78 : h56 241 119 = h 241 119 := (u56 241 119 rfl)
  have e79 : h56 241 67 = h 241 67 := (u56 241 67 rfl)
  have e80 : h56 241 69 = h 241 69 := (u56 241 69 rfl)
  have e81 : h56 241 5 = h 241 5 := (u56 241 5 rfl)
  have e82 : h56 1 1 = h 1 1 := (u56 1 1 rfl)
  have e83 : h56 236 2 = h 236 2 := (u56 236 2 rfl)
  have e84 : h56 1 2 = h 1 2 := (u56 1 2 rfl)
  have e85 : h56 236 10 = h 236 10 := (u56 236 10 rfl)
  have e86 : h56 1 3 = h 1 3 := (u56 1 3 rfl)
  have e87 : h56 236 11 = h 236 11 := (u56 236 11 rfl)
  have gp88 := GPH.fr u56 rfl gp0
  have b89 := gi_b (lo := 0) (hi := 5) g 241 0 rfl
  have b90 := gi_b (lo := 0) (hi := 4) g 241 1 rfl
  have gs91 := GPS.fr u56 rfl gs0
  have e92 : h56 0 12 = h 0 12 := (u56 0 12 rfl)
  have e93 : h56 236 21 = h 236 21 := (u56 236 21 rfl)
  have e94 : h56 63 5 = h 63 5 := (u56 63 5 rfl)
  have e95 : h56 18 16 = h 18 16 := (u56 18 16 rfl)
  have e96 : h56 18 7 = h 18 7 := (u56 18 7 rfl)
  have e97 : h56 3 2 = h 3 2 := (u56 3 2 rfl)
  have e98 : h56 66 1 = h 66 1 := (u56 66 1 rfl)
  have b99 := gi_b (lo := 0) (hi := 6) g 73 1 rfl
  have e100 : h56 73 1 = h 73 1 := (u56 73 1 rfl)
  have b101 := gi_b (lo := 0) (hi := 6) g 73 2 rfl
  have e102 : h56 73 2 = h 73 2 := (u56 73 2 rfl)
  have b103 := gi_b (lo := 0) (hi := 6) g 236 22 rfl
  have e104 : h56 236 22 = h 236 22 := (u56 236 22 rfl)
  have b105 := gi_b (lo := 0) (hi := 12) g 210 2 rfl
  have e106 : h56 210 2 = h 210 2 := (u56 210 2 rfl)
  have q109 : h56 8 = h 8 := funext (fun i => (u56 8 i (fo_no_ok (by decide) i)))
  have q110 : h56 7 = h 7 := funext (fun i => (u56 7 i (fo_no_ok (by decide) i)))
  have q111 : h56 19 = h 19 := funext (fun i => (u56 19 i (fo_no_ok (by decide) i)))
  have q112 : h56 67 = h 67 := funext (fun i => (u56 67 i (fo_no_ok (by decide) i)))
  have ml108 : MCL h56 := MCL.mv mi0.1 q109 q110 q111 q112 (by omega) (by omega) (by omega) (by omega)
  have q114 : h56 69 = h 69 := funext (fun i => (u56 69 i (fo_no_ok (by decide) i)))
  have q115 : h56 70 = h 70 := funext (fun i => (u56 70 i (fo_no_ok (by decide) i)))
  have nb113 : NBc (h56 69) (h56 70) := by rw [q114, q115]; exact mi0.2.2
  have q116 : h56 8 = h 8 := funext (fun i => (u56 8 i (fo_no_ok (by decide) i)))
  have q117 : h56 7 = h 7 := funext (fun i => (u56 7 i (fo_no_ok (by decide) i)))
  have mi107 : MCI h56 := ⟨ml108, HIv.mv mi0.2.1 q116 q117 (by omega) (by omega) (sv_seven (P := fun x => ∀ i, h56 (76 + 19 * x) i = h (76 + 19 * x) i) (fun i => (u56 76 i (fn_a (by decide) fn_0))) (fun i => (u56 95 i (fn_a (by decide) fn_0))) (fun i => (u56 114 i (fn_a (by decide) fn_0))) (fun i => (u56 133 i (fn_a (by decide) fn_0))) (fun i => (u56 152 i (fn_a (by decide) fn_0))) (fun i => (u56 171 i (fn_a (by decide) fn_0))) (fun i => (u56 190 i (fn_a (by decide) fn_0)))) (by omega) (by omega), nb113⟩
  have gq118 := GQS.fr u56 rfl gq0
  have q119 : h56 8 = h 8 := funext (fun i => (u56 8 i (fo_no_ok (by decide) i)))
  have q120 : h56 7 = h 7 := funext (fun i => (u56 7 i (fo_no_ok (by decide) i)))
  have q121 : h56 215 = h 215 := funext (fun i => (u56 215 i (fo_no_ok (by decide) i)))
  have q122 : h56 218 = h 218 := funext (fun i => (u56 218 i (fo_no_ok (by decide) i)))
  have q123 : h56 214 = h 214 := funext (fun i => (u56 214 i (fo_no_ok (by decide) i)))
  have q124 : h56 241 = h 241 := funext (fun i => (u56 241 i (fo_no_ok (by decide) i)))
  exact k h56 b c ⟨⟨g56, (show h56 1 1 = h56 236 2 by omega), (RS.i0 (f := h56 238) (by refine ⟨?_, ?_, ?_, ?_, ?_⟩ <;> omega)), (RS.i0 (f := h56 241) (by refine ⟨?_, ?_, ?_, ?_, ?_⟩ <;> omega)), gp88, (BRh.keep br0 (fun i => (u56 2 i (fn_a (by decide) fn_0))) (fun i => (u56 237 i (fn_a (by decide) fn_0))) (by omega)), (show h56 1 2 = h56 236 10 by omega), (show h56 1 3 = h56 236 11 by omega), (SVx.keep sv0 (by omega) (fun i _ => (u56 3 i (fn_a (by decide) fn_0))) (fun i _ => (u56 5 i (fn_a (by decide) fn_0))) (fun i _ => (u56 6 i (fn_a (by decide) fn_0))) (fun i _ => (u56 8 i (fn_a (by decide) fn_0))) (fun i _ => (u56 238 i (fn_a (by decide) fn_0)))), (show h56 0 12 = h56 236 21 by omega), (fun e => (SVx.keep (ss0 (by omega)) (by omega) (fun i _ => (u56 210 i (fn_a (by decide) fn_0))) (fun i _ => (u56 212 i (fn_a (by decide) fn_0))) (fun i _ => (u56 213 i (fn_a (by decide) fn_0))) (fun i _ => (u56 215 i (fn_a (by decide) fn_0))) (fun i _ => (u56 241 i (fn_a (by decide) fn_0))))), gs91, mi107, (show h56 63 5 ≤ h56 18 16 by omega), (show (h56 63 5) < (h56 18 16) ∨ ((h56 18 7) ≤ (h56 3 2) ∧ (h56 66 1) = (h56 3 2) - (h56 18 7)) ∨ ((h56 3 2) < (h56 18 7) ∧ (h56 66 1) = 0) by omega), gq118, (MR.mv mr0 (MSN.then (MSN.refl) (fun i _ => (u56 238 i (fn_a (by decide) fn_0)))) (by omega) q119 q120 (by omega)), (fun e => SM.mv (sm0 (by omega)) q121 q122 q123 (by omega) q124)⟩, (by omega)⟩ (by omega) (by omega)
-- the law, case at 989
set_option maxRecDepth 100000 in
set_option maxHeartbeats 100000000 in
theorem lc_989 {L : Nat} {xs : Nat → Int32} {d b c : Nat} {h : hp} {cr : Nat → Nat → Option Nat} {Q : hp_Q} (hcr : CR cr) (hL : L ≤ 3072) (hr : 1 ≤ b ∧ 6 ≤ c) (i : Int) (I : LIm i h) (hi : 0 ≤ i ∧ i + 6 ≤ L) (k : ∀ (h2 : hp) (b2 c2 : Nat), LIm (i + 6) h2 → b ≤ b2 + 1 → c ≤ c2 + 6 → wp (md_xa (L, xs)) (d + 107) 0 (1501, [(0, .ref 1000000), (1, .ref 0), (2, .ref 236), (3, .ref 259), (4, vi i)], [], hp_w h2 cr, b2, c2) Q) : wp (md_xa (L, xs)) (d + 107) 0 (989, [(0, .ref 1000000), (1, .ref 0), (2, .ref 236), (3, .ref 259), (4, vi i)], [], hp_w h cr, b, c) Q := by
  obtain ⟨⟨g, i11, r238, r241, gp0, br0, er2, er3, sv0, sf0, ss0, gs0, mi0, ml1, ml2, gq0, mr0, sm0⟩, ie0⟩ := I
  have r238e := r238.e0
  have r241e := r241.e0
  obtain ⟨⟨se0, se1, se2, se3, se4, se5, se6, se7, se8, se9⟩, -⟩ := id sv0
  have b1 := gi_b (lo := 0) (hi := 5) g 3 0 rfl
  have b2 := gi_b (lo := 0) (hi := 5) g 238 0 rfl
  have b3 := gi_b (lo := 0) (hi := 4) g 3 1 rfl
  have b4 := gi_b (lo := 0) (hi := 4) g 238 1 rfl
  have b5 := gi_b (lo := 0) (hi := 12) g 3 2 rfl
  have b6 := gi_b (lo := 0) (hi := 12) g 238 2 rfl
  have b7 := gi_b (lo := -2147483648) (hi := 2147483647) g 3 3 rfl
  have b8 := gi_b (lo := 0) (hi := 999) g 238 3 rfl
  have b9 := gi_b (lo := -2147483648) (hi := 2147483647) g 3 4 rfl
  have b10 := gi_b (lo := 0) (hi := 999) g 238 4 rfl
  have b11 := gi_b (lo := -2147483648) (hi := 2147483647) g 3 5 rfl
  have b12 := gi_b (lo := 0) (hi := 9) g 238 5 rfl
  have b13 := gi_b (lo := -2147483648) (hi := 2147483647) g 3 6 rfl
  have b14 := gi_b (lo := 0) (hi := 999) g 238 6 rfl
  have b15 := gi_b (lo := -2147483648) (hi := 2147483647) g 3 7 rfl
  have b16 := gi_b (lo := 0) (hi := 3) g 238 7 rfl
  have b17 := gi_b (lo := -2147483648) (hi := 2147483647) g 3 8 rfl
  have b18 := gi_b (lo := 0) (hi := 999) g 238 8 rfl
  have b19 := gi_b (lo := -2147483648) (hi := 2147483647) g 3 9 rfl
  have b20 := gi_b (lo := 0) (hi := 999) g 238 9 rfl
  have b21 := gi_b (lo := -2147483648) (hi := 2147483647) g 63 5 rfl
  have b22 := gi_b (lo := 0) (hi := 12) g 18 7 rfl
  have b23 := gi_b (lo := 0) (hi := 12) g 66 1 rfl
  have b24 := gi_b (lo := 0) (hi := 1) g 0 12 rfl
  have b25 := gi_b (lo := 0) (hi := 1) g 236 21 rfl
  have bl_ := gi_b (lo := 0) (hi := 800) g 1 1 rfl
  have tb0 : BufC (h 2) (h 1 1) h := ⟨fun _ => rfl, rfl, by omega, by omega⟩
  have b26 := gi_b (lo := 0) (hi := 6) g 238 98 rfl
  have b27 := gi_b (lo := 0) (hi := 6) g 238 99 rfl
  have b28 := gi_b (lo := 0) (hi := 6) g 238 100 rfl
  have b29 := gi_b (lo := 0) (hi := 6) g 238 101 rfl
  have b30 := gi_b (lo := 0) (hi := 3) g 238 102 rfl
  have b31 := gi_b (lo := 0) (hi := 12) g 238 106 rfl
  have b32 := gi_b (lo := 0) (hi := 12) g 238 73 rfl
  have b33 := gi_b (lo := 0) (hi := 9999) g 238 119 rfl
  have b34 := gi_b (lo := 0) (hi := 9999) g 238 67 rfl
  have b35 := gi_b (lo := 0) (hi := 9) g 238 69 rfl
  have b36 := gi_b (lo := 0) (hi := 6) g 241 98 rfl
  have b37 := gi_b (lo := 0) (hi := 6) g 241 99 rfl
  have b38 := gi_b (lo := 0) (hi := 6) g 241 100 rfl
  have b39 := gi_b (lo := 0) (hi := 6) g 241 101 rfl
  have b40 := gi_b (lo := 0) (hi := 3) g 241 102 rfl
  have b41 := gi_b (lo := 0) (hi := 12) g 241 106 rfl
  have b42 := gi_b (lo := 0) (hi := 12) g 241 73 rfl
  have b43 := gi_b (lo := 0) (hi := 12) g 241 2 rfl
  have b44 := gi_b (lo := 0) (hi := 9999) g 241 119 rfl
  have b45 := gi_b (lo := 0) (hi := 9999) g 241 67 rfl
  have b46 := gi_b (lo := 0) (hi := 9) g 241 69 rfl
  have b47 := gi_b (lo := 0) (hi := 9) g 241 5 rfl
  have b48 := gi_b (lo := 0) (hi := 800) g 1 1 rfl
  have b49 := gi_b (lo := 0) (hi := 800) g 236 2 rfl
  have b50 := gi_b (lo := -2147483648) (hi := 2147483647) g 1 2 rfl
  have b51 := gi_b (lo := -2147483648) (hi := 2147483647) g 236 10 rfl
  have b52 := gi_b (lo := -2147483648) (hi := 2147483647) g 1 3 rfl
  have b53 := gi_b (lo := -2147483648) (hi := 2147483647) g 236 11 rfl
  refine wi_aload_n (i := 1) (x := 0) (nx := 990) (r1 := 0) (r2 := 0) (r3 := 0) rfl rfl ?_
  refine wi_aload_n (i := 0) (x := 1000000) (nx := 991) (r1 := 0) (r2 := 0) (r3 := 0) rfl rfl ?_
  refine wi_iload (i := 4) (e := i) (nx := 993) (r1 := 0) (r2 := 0) (r3 := 0) rfl rfl ?_
  refine wi_iconst (n := 1) (nx := 994) (r1 := 0) (r2 := 0) (r3 := 0) rfl ?_
  refine wr_add (nx := 995) (r1 := 0) (r2 := 0) (r3 := 0) rfl (fun e54 (fe54 : e54 = i + 1) => ?_)
  obtain ⟨i55, ei55⟩ : ∃ q : Nat, e54 = (q : Int) := ⟨(e54).toNat, by omega⟩
  have s56 := sc_b (xs i55)
  refine wr_sc (a := e54) (f := i55) (nx := 996) (r1 := 0) (r2 := 0) (r3 := 0) rfl (by omega) (by omega) hL ?_
  refine wi_aload_n (i := 3) (x := 259) (nx := 997) (r1 := 0) (r2 := 0) (r3 := 0) rfl rfl ?_
  refine wi_S (rest := []) (as := [.ref 0, vi ((xs i55).toInt), .ref 259]) (nx := 1000) (r1 := 16) (r2 := 19) (r3 := 0) rfl rfl rfl (of_decide_eq_true rfl) rfl rfl (of_decide_eq_true rfl) (of_decide_eq_true rfl) ?_
  refine wi_aload_n (i := 2) (x := 259) (nx := 1) (r1 := 0) (r2 := 0) (r3 := 0) rfl rfl ?_
  refine wi_iconst (n := 0) (nx := 2) (r1 := 0) (r2 := 0) (r3 := 0) rfl ?_
  refine wi_aload_n (i := 0) (x := 0) (nx := 3) (r1 := 0) (r2 := 0) (r3 := 0) rfl rfl ?_
  refine wi_iload_n (i := 1) (e := (xs i55).toInt) (nx := 4) (r1 := 0) (r2 := 0) (r3 := 0) rfl rfl ?_
  refine wr_V (k0 := 0) (rest := [vi 0, .ref 259]) (as := [.ref 0, vi ((xs i55).toInt)]) (nx := 7) (r1 := 78) (r2 := 1) (r3 := 0) rfl rfl rfl (of_decide_eq_true rfl) rfl rfl (by decide) rfl rfl (of_decide_eq_true rfl) (of_decide_eq_true rfl) ?_
  refine ct_78_0 hcr hr  g ((xs i55).toInt) (by omega) (show (h 63 5) ≤ (h 18 16) by omega) (show (h 63 5) < (h 18 16) ∨ ((h 18 7) ≤ (h 3 2) ∧ (h 66 1) = (h 3 2) - (h 18 7)) ∨ ((h 3 2) < (h 18 7) ∧ (h 66 1) = 0) by omega) (show 0 ≤ (h 3 9) by omega) (show (h 18 16) ≤ 1900000000 by omega) mi0 (fun h57 z58 g57 u57 (fz58 : -1 ≤ z58 ∧ z58 ≤ 11) (p57_0 : (h57 63 5) ≤ (h57 18 16)) (p57_1 : (h57 63 5) < (h57 18 16) ∨ ((h57 18 7) ≤ (h57 3 2) ∧ (h57 66 1) = (h57 3 2) - (h57 18 7)) ∨ ((h57 3 2) < (h57 18 7) ∧ (h57 66 1) = 0)) (p57_2 : (h 18 16) ≤ (h57 18 16) ∧ (h57 18 16) ≤ (h 18 16) + 4) y57_0 => ?_) (fun h57 g57 u57 (pe57_0 : (h57 63 5) ≤ (h57 18 16)) (pe57_1 : (h57 63 5) < (h57 18 16) ∨ ((h57 18 7) ≤ (h57 3 2) ∧ (h57 66 1) = (h57 3 2) - (h57 18 7)) ∨ ((h57 3 2) < (h57 18 7) ∧ (h57 66 1) = 0)) (pe57_2 : (h57 18 16) = (h 18 16)) ye57_0 => ?_)
  ·
    have e59 : h57 63 5 = h 63 5 := (u57 63 5 rfl)
    have b60 := gi_b (lo := -2147483648) (hi := 2147483647) g57 18 16 rfl
    have b61 := gi_b (lo := 0) (hi := 12) g57 18 7 rfl
    have e62 : h57 3 2 = h 3 2 := (u57 3 2 rfl)
    have e63 : h57 66 1 = h 66 1 := (u57 66 1 rfl)
    refine wk_i ?_
    refine wi_i2l (nx := 8) (r1 := 0) (r2 := 0) (r3 := 0) rfl (by omega) ?_
    refine wr_ls (k0 := 259) (a := 0) (f := 0) (x := z58) (bl := -9223372036854775808) (bh := 9223372036854775807) (nx := 9) (r1 := 0) (r2 := 0) (r3 := 0) rfl (by decide) rfl (by omega) (by omega) (by decide) g57 rfl (by omega) (fun h64 g64 w64 u64 => ?_)
    refine wi_goto (nx := 12) (r1 := 15) (r2 := 0) (r3 := 0) rfl ?_
    refine wi_iconst (n := 0) (nx := 16) (r1 := 0) (r2 := 0) (r3 := 0) rfl ?_
    refine wi_ireturn (nx := 17) (r1 := 0) (r2 := 0) (r3 := 0) rfl rfl ?_
    refine wk_i ?_
    refine wi_istore (i := 5) (e := 0) (lo2 := [(5, vi 0), (0, .ref 1000000), (1, .ref 0), (2, .ref 236), (3, .ref 259), (4, vi i)]) (nx := 1002) (r1 := 0) (r2 := 0) (r3 := 0) rfl rfl ?_
    refine wi_aload_n (i := 2) (x := 236) (nx := 1003) (r1 := 0) (r2 := 0) (r3 := 0) rfl rfl ?_
    refine wi_aload_n (i := 0) (x := 1000000) (nx := 1004) (r1 := 0) (r2 := 0) (r3 := 0) rfl rfl ?_
    refine wi_iload (i := 4) (e := i) (nx := 1006) (r1 := 0) (r2 := 0) (r3 := 0) rfl rfl ?_
    refine wi_iconst (n := 1) (nx := 1007) (r1 := 0) (r2 := 0) (r3 := 0) rfl ?_
    refine wr_add (nx := 1008) (r1 := 0) (r2 := 0) (r3 := 0) rfl (fun e65 (fe65 : e65 = i + 1) => ?_)
    refine wr_sc (a := e65) (f := i55) (nx := 1009) (r1 := 0) (r2 := 0) (r3 := 0) rfl (by omega) (by omega) hL ?_
    refine wr_V (k0 := 236) (rest := []) (as := [.ref 236, vi ((xs i55).toInt)]) (nx := 1012) (r1 := 274) (r2 := 1) (r3 := 11) rfl rfl rfl (of_decide_eq_true rfl) rfl rfl (by decide) rfl rfl (of_decide_eq_true rfl) (of_decide_eq_true rfl) ?_
    have e67 : h64 238 98 = h 238 98 := ((u64 238 98 rfl).trans (u57 238 98 rfl))
    have e68 : h64 238 99 = h 238 99 := ((u64 238 99 rfl).trans (u57 238 99 rfl))
    have e69 : h64 238 100 = h 238 100 := ((u64 238 100 rfl).trans (u57 238 100 rfl))
    have e70 : h64 238 101 = h 238 101 := ((u64 238 101 rfl).trans (u57 238 101 rfl))
    have e71 : h64 238 102 = h 238 102 := ((u64 238 102 rfl).trans (u57 238 102 rfl))
    have e72 : h64 238 106 = h 238 106 := ((u64 238 106 rfl).trans (u57 238 106 rfl))
    have e73 : h64 238 73 = h 238 73 := ((u64 238 73 rfl).trans (u57 238 73 rfl))
    have e74 : h64 238 2 = h 238 2 := ((u64 238 2 rfl).trans (u57 238 2 rfl))
    have e75 : h64 238 119 = h 238 119 := ((u64 238 119 rfl).trans (u57 238 119 rfl))
    have e76 : h64 238 67 = h 238 67 := ((u64 238 67 rfl).trans (u57 238 67 rfl))
    have e77 : h64 238 69 = h 238 69 := ((u64 238 69 rfl).trans (u57 238 69 rfl))
    have e78 : h64 238 5 = h 238 5 := ((u64 238 5 rfl).trans (u57 238 5 rfl))
    have gs80 := GPS.fr u57 rfl gs0
    have gs81 := GPS.fr u64 rfl gs80
    have gq82 := GQS.fr u57 rfl gq0
    have gq83 := GQS.fr u64 rfl gq82
    have gp84 := GPH.fr u57 rfl gp0
    have gp85 := GPH.fr u64 rfl gp84
    refine ct_274_236 hcr  g64 ((xs i55).toInt) (by omega) (show (h64 238 98) + (h64 238 99) + (h64 238 100) + (h64 238 101) + (h64 238 102) + (h64 238 106) = (h64 238 73) by omega) (show (h64 238 73) ≤ (h64 238 2) by omega) (show (h64 238 119) ≤ (h64 238 67) by omega) (show (h64 238 69) ≤ (h64 238 5) by omega) (show (h64 238 2) ≤ 12 * (h64 238 5) by omega) gs81 gq83 gp85 (fun h66 z79 g66 u66 (fz79 : -1 ≤ z79 ∧ z79 ≤ 11) (p66_0 : (h66 238 98) + (h66 238 99) + (h66 238 100) + (h66 238 101) + (h66 238 102) + (h66 238 106) = (h66 238 73)) (p66_1 : (h66 238 73) ≤ (h66 238 2)) (p66_2 : (h66 238 119) ≤ (h66 238 67)) (p66_3 : (h66 238 69) ≤ (h66 238 5)) (p66_4 : (h66 238 2) ≤ 12 * (h66 238 5)) y66_0 y66_1 y66_2 => ?_)
    have b86 := gi_b (lo := 0) (hi := 6) g66 238 98 rfl
    have b87 := gi_b (lo := 0) (hi := 6) g66 238 99 rfl
    have b88 := gi_b (lo := 0) (hi := 6) g66 238 100 rfl
    have b89 := gi_b (lo := 0) (hi := 6) g66 238 101 rfl
    have e90 : h66 238 102 = h 238 102 := ((u66 238 102 rfl).trans ((u64 238 102 rfl).trans (u57 238 102 rfl)))
    have e91 : h66 238 106 = h 238 106 := ((u66 238 106 rfl).trans ((u64 238 106 rfl).trans (u57 238 106 rfl)))
    have b92 := gi_b (lo := 0) (hi := 12) g66 238 73 rfl
    have e93 : h66 238 2 = h 238 2 := ((u66 238 2 rfl).trans ((u64 238 2 rfl).trans (u57 238 2 rfl)))
    have e94 : h66 238 119 = h 238 119 := ((u66 238 119 rfl).trans ((u64 238 119 rfl).trans (u57 238 119 rfl)))
    have e95 : h66 238 67 = h 238 67 := ((u66 238 67 rfl).trans ((u64 238 67 rfl).trans (u57 238 67 rfl)))
    have e96 : h66 238 69 = h 238 69 := ((u66 238 69 rfl).trans ((u64 238 69 rfl).trans (u57 238 69 rfl)))
    have e97 : h66 238 5 = h 238 5 := ((u66 238 5 rfl).trans ((u64 238 5 rfl).trans (u57 238 5 rfl)))
    refine wk_i ?_
    refine wi_istore (i := 6) (e := z79) (lo2 := [(6, vi z79), (5, vi 0), (0, .ref 1000000), (1, .ref 0), (2, .ref 236), (3, .ref 259), (4, vi i)]) (nx := 1014) (r1 := 0) (r2 := 0) (r3 := 0) rfl rfl ?_
    refine wi_goto (nx := 1017) (r1 := 1501) (r2 := 0) (r3 := 0) rfl ?_
    refine wp.lo (lo := [(0, .ref 1000000), (1, .ref 0), (2, .ref 236), (3, .ref 259), (4, vi i)]) ⟨rfl, rfl, rfl, rfl, rfl, trivial⟩ rfl ?_
    have e98 : h66 241 98 = h 241 98 := ((u66 241 98 rfl).trans ((u64 241 98 rfl).trans (u57 241 98 rfl)))
    have e99 : h66 241 99 = h 241 99 := ((u66 241 99 rfl).trans ((u64 241 99 rfl).trans (u57 241 99 rfl)))
    have e100 : h66 241 100 = h 241 100 := ((u66 241 100 rfl).trans ((u64 241 100 rfl).trans (u57 241 100 rfl)))
    have e101 : h66 241 101 = h 241 101 := ((u66 241 101 rfl).trans ((u64 241 101 rfl).trans (u57 241 101 rfl)))
    have e102 : h66 241 102 = h 241 102 := ((u66 241 102 rfl).trans ((u64 241 102 rfl).trans (u57 241 102 rfl)))
    have e103 : h66 241 106 = h 241 106 := ((u66 241 106 rfl).trans ((u64 241 106 rfl).trans (u57 241 106 rfl)))
    have e104 : h66 241 73 = h 241 73 := ((u66 241 73 rfl).trans ((u64 241 73 rfl).trans (u57 241 73 rfl)))
    have e105 : h66 241 2 = h 241 2 := ((u66 241 2 rfl).trans ((u64 241 2 rfl).trans (u57 241 2 rfl)))
    have e106 : h66 241 119 = h 241 119 := ((u66 241 119 rfl).trans ((u64 241 119 rfl).trans (u57 241 119 rfl)))
    have e107 : h66 241 67 = h 241 67 := ((u66 241 67 rfl).trans ((u64 241 67 rfl).trans (u57 241 67 rfl)))
    have e108 : h66 241 69 = h 241 69 := ((u66 241 69 rfl).trans ((u64 241 69 rfl).trans (u57 241 69 rfl)))
    have e109 : h66 241 5 = h 241 5 := ((u66 241 5 rfl).trans ((u64 241 5 rfl).trans (u57 241 5 rfl)))
    have e110 : h66 1 1 = h 1 1 := ((u66 1 1 rfl).trans ((u64 1 1 rfl).trans (u57 1 1 rfl)))
    have e111 : h66 236 2 = h 236 2 := ((u66 236 2 rfl).trans ((u64 236 2 rfl).trans (u57 236 2 rfl)))
    have e112 : h66 1 2 = h 1 2 := ((u66 1 2 rfl).trans ((u64 1 2 rfl).trans (u57 1 2 rfl)))
    have e113 : h66 236 10 = h 236 10 := ((u66 236 10 rfl).trans ((u64 236 10 rfl).trans (u57 236 10 rfl)))
    have e114 : h66 1 3 = h 1 3 := ((u66 1 3 rfl).trans ((u64 1 3 rfl).trans (u57 1 3 rfl)))
    have e115 : h66 236 11 = h 236 11 := ((u66 236 11 rfl).trans ((u64 236 11 rfl).trans (u57 236 11 rfl)))
    have b116 := gi_b (lo := 0) (hi := 5) g 241 0 rfl
    have b117 := gi_b (lo := 0) (hi := 4) g 241 1 rfl
    have e118 : h66 0 12 = h 0 12 := ((u66 0 12 rfl).trans ((u64 0 12 rfl).trans (u57 0 12 rfl)))
    have e119 : h66 236 21 = h 236 21 := ((u66 236 21 rfl).trans ((u64 236 21 rfl).trans (u57 236 21 rfl)))
    have e120 : h66 63 5 = h 63 5 := ((u66 63 5 rfl).trans ((u64 63 5 rfl).trans (u57 63 5 rfl)))
    have e121 : h66 18 16 = h57 18 16 := ((u66 18 16 rfl).trans (u64 18 16 rfl))
    have e122 : h66 18 7 = h57 18 7 := ((u66 18 7 rfl).trans (u64 18 7 rfl))
    have e123 : h66 3 2 = h 3 2 := ((u66 3 2 rfl).trans ((u64 3 2 rfl).trans (u57 3 2 rfl)))
    have e124 : h66 66 1 = h 66 1 := ((u66 66 1 rfl).trans ((u64 66 1 rfl).trans (u57 66 1 rfl)))
    have b125 := gi_b (lo := 0) (hi := 6) g57 73 1 rfl
    have e126 : h66 73 1 = h57 73 1 := ((u66 73 1 rfl).trans (u64 73 1 rfl))
    have b127 := gi_b (lo := 0) (hi := 6) g 73 1 rfl
    have b128 := gi_b (lo := 0) (hi := 6) g57 73 2 rfl
    have e129 : h66 73 2 = h57 73 2 := ((u66 73 2 rfl).trans (u64 73 2 rfl))
    have b130 := gi_b (lo := 0) (hi := 6) g 73 2 rfl
    have b131 := gi_b (lo := 0) (hi := 6) g66 236 22 rfl
    have b132 := gi_b (lo := 0) (hi := 6) g 236 22 rfl
    have b133 := gi_b (lo := 0) (hi := 12) g 210 2 rfl
    have e134 : h66 210 2 = h 210 2 := ((u66 210 2 rfl).trans ((u64 210 2 rfl).trans (u57 210 2 rfl)))
    have q137 : h66 8 = h57 8 := funext (fun i => ((u66 8 i (fo_no_ok (by decide) i)).trans (u64 8 i rfl)))
    have q138 : h66 7 = h57 7 := funext (fun i => ((u66 7 i (fo_no_ok (by decide) i)).trans (u64 7 i rfl)))
    have q139 : h66 19 = h57 19 := funext (fun i => ((u66 19 i (fo_no_ok (by decide) i)).trans (u64 19 i rfl)))
    have q140 : h66 67 = h57 67 := funext (fun i => ((u66 67 i (fo_no_ok (by decide) i)).trans (u64 67 i rfl)))
    have ml136 : MCL h66 := MCL.mv y57_0.1 q137 q138 q139 q140 (by omega) (by omega) (by omega) (by omega)
    have q142 : h66 69 = h57 69 := funext (fun i => ((u66 69 i (fo_no_ok (by decide) i)).trans (u64 69 i rfl)))
    have q143 : h66 70 = h57 70 := funext (fun i => ((u66 70 i (fo_no_ok (by decide) i)).trans (u64 70 i rfl)))
    have nb141 : NBc (h66 69) (h66 70) := by rw [q142, q143]; exact y57_0.2.2
    have q144 : h66 8 = h57 8 := funext (fun i => ((u66 8 i (fo_no_ok (by decide) i)).trans (u64 8 i rfl)))
    have q145 : h66 7 = h57 7 := funext (fun i => ((u66 7 i (fo_no_ok (by decide) i)).trans (u64 7 i rfl)))
    have mi135 : MCI h66 := ⟨ml136, HIv.mv y57_0.2.1 q144 q145 (by omega) (by omega) (sv_seven (P := fun x => ∀ i, h66 (76 + 19 * x) i = h57 (76 + 19 * x) i) (fun i => ((u66 76 i (fo_nk rfl)).trans (u64 76 i (fn_a (by omega) fn_0)))) (fun i => ((u66 95 i (fo_nk rfl)).trans (u64 95 i (fn_a (by omega) fn_0)))) (fun i => ((u66 114 i (fo_nk rfl)).trans (u64 114 i (fn_a (by omega) fn_0)))) (fun i => ((u66 133 i (fo_nk rfl)).trans (u64 133 i (fn_a (by omega) fn_0)))) (fun i => ((u66 152 i (fo_nk rfl)).trans (u64 152 i (fn_a (by omega) fn_0)))) (fun i => ((u66 171 i (fo_nk rfl)).trans (u64 171 i (fn_a (by omega) fn_0)))) (fun i => ((u66 190 i (fo_nk rfl)).trans (u64 190 i (fn_a (by omega) fn_0))))) (by omega) (by omega), nb141⟩
    have q146 : h66 8 = h 8 := funext (fun i => ((u66 8 i (fo_no_ok (by decide) i)).trans ((u64 8 i rfl).trans (u57 8 i (fo_no_ok (by decide) i)))))
    have q147 : h66 7 = h 7 := funext (fun i => ((u66 7 i (fo_no_ok (by decide) i)).trans ((u64 7 i rfl).trans (u57 7 i (fo_no_ok (by decide) i)))))
    have q148 : h66 215 = h 215 := funext (fun i => ((u66 215 i (fo_no_ok (by decide) i)).trans ((u64 215 i rfl).trans (u57 215 i (fo_no_ok (by decide) i)))))
    have q149 : h66 218 = h 218 := funext (fun i => ((u66 218 i (fo_no_ok (by decide) i)).trans ((u64 218 i rfl).trans (u57 218 i (fo_no_ok (by decide) i)))))
    have q150 : h66 214 = h 214 := funext (fun i => ((u66 214 i (fo_no_ok (by decide) i)).trans ((u64 214 i rfl).trans (u57 214 i (fo_no_ok (by decide) i)))))
    have q151 : h66 241 = h 241 := funext (fun i => ((u66 241 i (fo_no_ok (by decide) i)).trans ((u64 241 i rfl).trans (u57 241 i (fo_no_ok (by decide) i)))))
    exact k h66 b c ⟨⟨g66, (show h66 1 1 = h66 236 2 by omega), (RS.i0 (f := h66 238) (by refine ⟨?_, ?_, ?_, ?_, ?_⟩ <;> omega)), (RS.i0 (f := h66 241) (by refine ⟨?_, ?_, ?_, ?_, ?_⟩ <;> omega)), y66_2, (BRh.keep br0 (fun i => ((u66 2 i (fo_nk rfl)).trans ((u64 2 i (fn_a (by omega) fn_0)).trans (u57 2 i (fo_nk rfl))))) (fun i => ((u66 237 i (fo_nk rfl)).trans ((u64 237 i (fn_a (by omega) fn_0)).trans (u57 237 i (fo_nk rfl))))) (by omega)), (show h66 1 2 = h66 236 10 by omega), (show h66 1 3 = h66 236 11 by omega), (SVx.keep sv0 (by omega) (fun i _ => ((u66 3 i (fo_nk rfl)).trans ((u64 3 i (fn_a (by omega) fn_0)).trans (u57 3 i (fo_nk rfl))))) (fun i _ => ((u66 5 i (fo_nk rfl)).trans ((u64 5 i (fn_a (by omega) fn_0)).trans (u57 5 i (fo_nk rfl))))) (fun i _ => ((u66 6 i (fo_nk rfl)).trans ((u64 6 i (fn_a (by omega) fn_0)).trans (u57 6 i (fo_nk rfl))))) (fun i _ => ((u66 8 i (fo_nk rfl)).trans ((u64 8 i (fn_a (by omega) fn_0)).trans (u57 8 i (fo_nk rfl))))) (fun i _ => ((u66 238 i (fo_lk (m := 73) (by omega) rfl)).trans ((u64 238 i (fn_a (by omega) fn_0)).trans (u57 238 i (fo_nk rfl)))))), (show h66 0 12 = h66 236 21 by omega), (fun e => (SVx.keep (ss0 (by omega)) (by omega) (fun i _ => ((u66 210 i (fo_nk rfl)).trans ((u64 210 i (fn_a (by omega) fn_0)).trans (u57 210 i (fo_nk rfl))))) (fun i _ => ((u66 212 i (fo_nk rfl)).trans ((u64 212 i (fn_a (by omega) fn_0)).trans (u57 212 i (fo_nk rfl))))) (fun i _ => ((u66 213 i (fo_nk rfl)).trans ((u64 213 i (fn_a (by omega) fn_0)).trans (u57 213 i (fo_nk rfl))))) (fun i _ => ((u66 215 i (fo_nk rfl)).trans ((u64 215 i (fn_a (by omega) fn_0)).trans (u57 215 i (fo_nk rfl))))) (fun i _ => ((u66 241 i (fo_nk rfl)).trans ((u64 241 i (fn_a (by omega) fn_0)).trans (u57 241 i (fo_nk rfl))))))), y66_0, mi135, (show h66 63 5 ≤ h66 18 16 by omega), (show (h66 63 5) < (h66 18 16) ∨ ((h66 18 7) ≤ (h66 3 2) ∧ (h66 66 1) = (h66 3 2) - (h66 18 7)) ∨ ((h66 3 2) < (h66 18 7) ∧ (h66 66 1) = 0) by omega), y66_1, (MR.mv mr0 (MSN.then (MSN.refl) (fun i _ => ((u66 238 i (fo_lk (m := 73) (by omega) rfl)).trans ((u64 238 i (fn_a (by omega) fn_0)).trans (u57 238 i (fo_nk rfl)))))) (by omega) q146 q147 (by omega)), (fun e => SM.mv (sm0 (by omega)) q148 q149 q150 (by omega) q151)⟩, (by omega)⟩ (by omega) (by omega)
  ·
    have e59 : h57 63 5 = h 63 5 := (u57 63 5 rfl)
    have b60 := gi_b (lo := -2147483648) (hi := 2147483647) g57 18 16 rfl
    have b61 := gi_b (lo := 0) (hi := 12) g57 18 7 rfl
    have e62 : h57 3 2 = h 3 2 := (u57 3 2 rfl)
    have e63 : h57 66 1 = h 66 1 := (u57 66 1 rfl)
    refine wk_h 12 (by decide) rfl ?_
    refine wr_astx (i := 3) (lo2 := [(3, .retAddr 0), (0, .ref 0), (1, vi ((xs i55).toInt)), (2, .ref 259)]) (nx := 13) (r1 := 0) (r2 := 0) (r3 := 0) rfl rfl ?_
    refine wi_iconst (n := 1) (nx := 14) (r1 := 0) (r2 := 0) (r3 := 0) rfl ?_
    refine wi_ireturn (nx := 15) (r1 := 0) (r2 := 0) (r3 := 0) rfl rfl ?_
    refine wk_i ?_
    refine wi_istore (i := 5) (e := 1) (lo2 := [(5, vi 1), (0, .ref 1000000), (1, .ref 0), (2, .ref 236), (3, .ref 259), (4, vi i)]) (nx := 1002) (r1 := 0) (r2 := 0) (r3 := 0) rfl rfl ?_
    refine wi_aload_n (i := 2) (x := 236) (nx := 1003) (r1 := 0) (r2 := 0) (r3 := 0) rfl rfl ?_
    refine wi_aload_n (i := 0) (x := 1000000) (nx := 1004) (r1 := 0) (r2 := 0) (r3 := 0) rfl rfl ?_
    refine wi_iload (i := 4) (e := i) (nx := 1006) (r1 := 0) (r2 := 0) (r3 := 0) rfl rfl ?_
    refine wi_iconst (n := 1) (nx := 1007) (r1 := 0) (r2 := 0) (r3 := 0) rfl ?_
    refine wr_add (nx := 1008) (r1 := 0) (r2 := 0) (r3 := 0) rfl (fun e64 (fe64 : e64 = i + 1) => ?_)
    refine wr_sc (a := e64) (f := i55) (nx := 1009) (r1 := 0) (r2 := 0) (r3 := 0) rfl (by omega) (by omega) hL ?_
    refine wr_V (k0 := 236) (rest := []) (as := [.ref 236, vi ((xs i55).toInt)]) (nx := 1012) (r1 := 274) (r2 := 1) (r3 := 11) rfl rfl rfl (of_decide_eq_true rfl) rfl rfl (by decide) rfl rfl (of_decide_eq_true rfl) (of_decide_eq_true rfl) ?_
    have e66 : h57 238 98 = h 238 98 := (u57 238 98 rfl)
    have e67 : h57 238 99 = h 238 99 := (u57 238 99 rfl)
    have e68 : h57 238 100 = h 238 100 := (u57 238 100 rfl)
    have e69 : h57 238 101 = h 238 101 := (u57 238 101 rfl)
    have e70 : h57 238 102 = h 238 102 := (u57 238 102 rfl)
    have e71 : h57 238 106 = h 238 106 := (u57 238 106 rfl)
    have e72 : h57 238 73 = h 238 73 := (u57 238 73 rfl)
    have e73 : h57 238 2 = h 238 2 := (u57 238 2 rfl)
    have e74 : h57 238 119 = h 238 119 := (u57 238 119 rfl)
    have e75 : h57 238 67 = h 238 67 := (u57 238 67 rfl)
    have e76 : h57 238 69 = h 238 69 := (u57 238 69 rfl)
    have e77 : h57 238 5 = h 238 5 := (u57 238 5 rfl)
    have gs79 := GPS.fr u57 rfl gs0
    have gq80 := GQS.fr u57 rfl gq0
    have gp81 := GPH.fr u57 rfl gp0
    refine ct_274_236 hcr  g57 ((xs i55).toInt) (by omega) (show (h57 238 98) + (h57 238 99) + (h57 238 100) + (h57 238 101) + (h57 238 102) + (h57 238 106) = (h57 238 73) by omega) (show (h57 238 73) ≤ (h57 238 2) by omega) (show (h57 238 119) ≤ (h57 238 67) by omega) (show (h57 238 69) ≤ (h57 238 5) by omega) (show (h57 238 2) ≤ 12 * (h57 238 5) by omega) gs79 gq80 gp81 (fun h65 z78 g65 u65 (fz78 : -1 ≤ z78 ∧ z78 ≤ 11) (p65_0 : (h65 238 98) + (h65 238 99) + (h65 238 100) + (h65 238 101) + (h65 238 102) + (h65 238 106) = (h65 238 73)) (p65_1 : (h65 238 73) ≤ (h65 238 2)) (p65_2 : (h65 238 119) ≤ (h65 238 67)) (p65_3 : (h65 238 69) ≤ (h65 238 5)) (p65_4 : (h65 238 2) ≤ 12 * (h65 238 5)) y65_0 y65_1 y65_2 => ?_)
    have b82 := gi_b (lo := 0) (hi := 6) g65 238 98 rfl
    have b83 := gi_b (lo := 0) (hi := 6) g65 238 99 rfl
    have b84 := gi_b (lo := 0) (hi := 6) g65 238 100 rfl
    have b85 := gi_b (lo := 0) (hi := 6) g65 238 101 rfl
    have e86 : h65 238 102 = h 238 102 := ((u65 238 102 rfl).trans (u57 238 102 rfl))
    have e87 : h65 238 106 = h 238 106 := ((u65 238 106 rfl).trans (u57 238 106 rfl))
    have b88 := gi_b (lo := 0) (hi := 12) g65 238 73 rfl
    have e89 : h65 238 2 = h 238 2 := ((u65 238 2 rfl).trans (u57 238 2 rfl))
    have e90 : h65 238 119 = h 238 119 := ((u65 238 119 rfl).trans (u57 238 119 rfl))
    have e91 : h65 238 67 = h 238 67 := ((u65 238 67 rfl).trans (u57 238 67 rfl))
    have e92 : h65 238 69 = h 238 69 := ((u65 238 69 rfl).trans (u57 238 69 rfl))
    have e93 : h65 238 5 = h 238 5 := ((u65 238 5 rfl).trans (u57 238 5 rfl))
    refine wk_i ?_
    refine wi_istore (i := 6) (e := z78) (lo2 := [(6, vi z78), (5, vi 1), (0, .ref 1000000), (1, .ref 0), (2, .ref 236), (3, .ref 259), (4, vi i)]) (nx := 1014) (r1 := 0) (r2 := 0) (r3 := 0) rfl rfl ?_
    refine wi_goto (nx := 1017) (r1 := 1501) (r2 := 0) (r3 := 0) rfl ?_
    refine wp.lo (lo := [(0, .ref 1000000), (1, .ref 0), (2, .ref 236), (3, .ref 259), (4, vi i)]) ⟨rfl, rfl, rfl, rfl, rfl, trivial⟩ rfl ?_
    have e94 : h65 241 98 = h 241 98 := ((u65 241 98 rfl).trans (u57 241 98 rfl))
    have e95 : h65 241 99 = h 241 99 := ((u65 241 99 rfl).trans (u57 241 99 rfl))
    have e96 : h65 241 100 = h 241 100 := ((u65 241 100 rfl).trans (u57 241 100 rfl))
    have e97 : h65 241 101 = h 241 101 := ((u65 241 101 rfl).trans (u57 241 101 rfl))
    have e98 : h65 241 102 = h 241 102 := ((u65 241 102 rfl).trans (u57 241 102 rfl))
    have e99 : h65 241 106 = h 241 106 := ((u65 241 106 rfl).trans (u57 241 106 rfl))
    have e100 : h65 241 73 = h 241 73 := ((u65 241 73 rfl).trans (u57 241 73 rfl))
    have e101 : h65 241 2 = h 241 2 := ((u65 241 2 rfl).trans (u57 241 2 rfl))
    have e102 : h65 241 119 = h 241 119 := ((u65 241 119 rfl).trans (u57 241 119 rfl))
    have e103 : h65 241 67 = h 241 67 := ((u65 241 67 rfl).trans (u57 241 67 rfl))
    have e104 : h65 241 69 = h 241 69 := ((u65 241 69 rfl).trans (u57 241 69 rfl))
    have e105 : h65 241 5 = h 241 5 := ((u65 241 5 rfl).trans (u57 241 5 rfl))
    have e106 : h65 1 1 = h 1 1 := ((u65 1 1 rfl).trans (u57 1 1 rfl))
    have e107 : h65 236 2 = h 236 2 := ((u65 236 2 rfl).trans (u57 236 2 rfl))
    have e108 : h65 1 2 = h 1 2 := ((u65 1 2 rfl).trans (u57 1 2 rfl))
    have e109 : h65 236 10 = h 236 10 := ((u65 236 10 rfl).trans (u57 236 10 rfl))
    have e110 : h65 1 3 = h 1 3 := ((u65 1 3 rfl).trans (u57 1 3 rfl))
    have e111 : h65 236 11 = h 236 11 := ((u65 236 11 rfl).trans (u57 236 11 rfl))
    have b112 := gi_b (lo := 0) (hi := 5) g 241 0 rfl
    have b113 := gi_b (lo := 0) (hi := 4) g 241 1 rfl
    have e114 : h65 0 12 = h 0 12 := ((u65 0 12 rfl).trans (u57 0 12 rfl))
    have e115 : h65 236 21 = h 236 21 := ((u65 236 21 rfl).trans (u57 236 21 rfl))
    have e116 : h65 63 5 = h 63 5 := ((u65 63 5 rfl).trans (u57 63 5 rfl))
    have e117 : h65 18 16 = h57 18 16 := (u65 18 16 rfl)
    have e118 : h65 18 7 = h57 18 7 := (u65 18 7 rfl)
    have e119 : h65 3 2 = h 3 2 := ((u65 3 2 rfl).trans (u57 3 2 rfl))
    have e120 : h65 66 1 = h 66 1 := ((u65 66 1 rfl).trans (u57 66 1 rfl))
    have b121 := gi_b (lo := 0) (hi := 6) g57 73 1 rfl
    have e122 : h65 73 1 = h57 73 1 := (u65 73 1 rfl)
    have b123 := gi_b (lo := 0) (hi := 6) g 73 1 rfl
    have b124 := gi_b (lo := 0) (hi := 6) g57 73 2 rfl
    have e125 : h65 73 2 = h57 73 2 := (u65 73 2 rfl)
    have b126 := gi_b (lo := 0) (hi := 6) g 73 2 rfl
    have b127 := gi_b (lo := 0) (hi := 6) g65 236 22 rfl
    have b128 := gi_b (lo := 0) (hi := 6) g 236 22 rfl
    have b129 := gi_b (lo := 0) (hi := 12) g 210 2 rfl
    have e130 : h65 210 2 = h 210 2 := ((u65 210 2 rfl).trans (u57 210 2 rfl))
    have q133 : h65 8 = h57 8 := funext (fun i => (u65 8 i (fo_no_ok (by decide) i)))
    have q134 : h65 7 = h57 7 := funext (fun i => (u65 7 i (fo_no_ok (by decide) i)))
    have q135 : h65 19 = h57 19 := funext (fun i => (u65 19 i (fo_no_ok (by decide) i)))
    have q136 : h65 67 = h57 67 := funext (fun i => (u65 67 i (fo_no_ok (by decide) i)))
    have ml132 : MCL h65 := MCL.mv ye57_0.1 q133 q134 q135 q136 (by omega) (by omega) (by omega) (by omega)
    have q138 : h65 69 = h57 69 := funext (fun i => (u65 69 i (fo_no_ok (by decide) i)))
    have q139 : h65 70 = h57 70 := funext (fun i => (u65 70 i (fo_no_ok (by decide) i)))
    have nb137 : NBc (h65 69) (h65 70) := by rw [q138, q139]; exact ye57_0.2.2
    have q140 : h65 8 = h57 8 := funext (fun i => (u65 8 i (fo_no_ok (by decide) i)))
    have q141 : h65 7 = h57 7 := funext (fun i => (u65 7 i (fo_no_ok (by decide) i)))
    have mi131 : MCI h65 := ⟨ml132, HIv.mv ye57_0.2.1 q140 q141 (by omega) (by omega) (sv_seven (P := fun x => ∀ i, h65 (76 + 19 * x) i = h57 (76 + 19 * x) i) (fun i => (u65 76 i (fo_nk rfl))) (fun i => (u65 95 i (fo_nk rfl))) (fun i => (u65 114 i (fo_nk rfl))) (fun i => (u65 133 i (fo_nk rfl))) (fun i => (u65 152 i (fo_nk rfl))) (fun i => (u65 171 i (fo_nk rfl))) (fun i => (u65 190 i (fo_nk rfl)))) (by omega) (by omega), nb137⟩
    have q142 : h65 8 = h 8 := funext (fun i => ((u65 8 i (fo_no_ok (by decide) i)).trans (u57 8 i (fo_no_ok (by decide) i))))
    have q143 : h65 7 = h 7 := funext (fun i => ((u65 7 i (fo_no_ok (by decide) i)).trans (u57 7 i (fo_no_ok (by decide) i))))
    have q144 : h65 215 = h 215 := funext (fun i => ((u65 215 i (fo_no_ok (by decide) i)).trans (u57 215 i (fo_no_ok (by decide) i))))
    have q145 : h65 218 = h 218 := funext (fun i => ((u65 218 i (fo_no_ok (by decide) i)).trans (u57 218 i (fo_no_ok (by decide) i))))
    have q146 : h65 214 = h 214 := funext (fun i => ((u65 214 i (fo_no_ok (by decide) i)).trans (u57 214 i (fo_no_ok (by decide) i))))
    have q147 : h65 241 = h 241 := funext (fun i => ((u65 241 i (fo_no_ok (by decide) i)).trans (u57 241 i (fo_no_ok (by decide) i))))
    exact k h65 (b - 1) (c - 6) ⟨⟨g65, (show h65 1 1 = h65 236 2 by omega), (RS.i0 (f := h65 238) (by refine ⟨?_, ?_, ?_, ?_, ?_⟩ <;> omega)), (RS.i0 (f := h65 241) (by refine ⟨?_, ?_, ?_, ?_, ?_⟩ <;> omega)), y65_2, (BRh.keep br0 (fun i => ((u65 2 i (fo_nk rfl)).trans (u57 2 i (fo_nk rfl)))) (fun i => ((u65 237 i (fo_nk rfl)).trans (u57 237 i (fo_nk rfl)))) (by omega)), (show h65 1 2 = h65 236 10 by omega), (show h65 1 3 = h65 236 11 by omega), (SVx.keep sv0 (by omega) (fun i _ => ((u65 3 i (fo_nk rfl)).trans (u57 3 i (fo_nk rfl)))) (fun i _ => ((u65 5 i (fo_nk rfl)).trans (u57 5 i (fo_nk rfl)))) (fun i _ => ((u65 6 i (fo_nk rfl)).trans (u57 6 i (fo_nk rfl)))) (fun i _ => ((u65 8 i (fo_nk rfl)).trans (u57 8 i (fo_nk rfl)))) (fun i _ => ((u65 238 i (fo_lk (m := 73) (by omega) rfl)).trans (u57 238 i (fo_nk rfl))))), (show h65 0 12 = h65 236 21 by omega), (fun e => (SVx.keep (ss0 (by omega)) (by omega) (fun i _ => ((u65 210 i (fo_nk rfl)).trans (u57 210 i (fo_nk rfl)))) (fun i _ => ((u65 212 i (fo_nk rfl)).trans (u57 212 i (fo_nk rfl)))) (fun i _ => ((u65 213 i (fo_nk rfl)).trans (u57 213 i (fo_nk rfl)))) (fun i _ => ((u65 215 i (fo_nk rfl)).trans (u57 215 i (fo_nk rfl)))) (fun i _ => ((u65 241 i (fo_nk rfl)).trans (u57 241 i (fo_nk rfl)))))), y65_0, mi131, (show h65 63 5 ≤ h65 18 16 by omega), (show (h65 63 5) < (h65 18 16) ∨ ((h65 18 7) ≤ (h65 3 2) ∧ (h65 66 1) = (h65 3 2) - (h65 18 7)) ∨ ((h65 3 2) < (h65 18 7) ∧ (h65 66 1) = 0) by omega), y65_1, (MR.mv mr0 (MSN.then (MSN.refl) (fun i _ => ((u65 238 i (fo_lk (m := 73) (by omega) rfl)).trans (u57 238 i (fo_nk rfl))))) (by omega) q142 q143 (by omega)), (fun e => SM.mv (sm0 (by omega)) q144 q145 q146 (by omega) q147)⟩, (by omega)⟩ (by omega) (by omega)
-- the law, case at 1017
set_option maxRecDepth 100000 in
set_option maxHeartbeats 100000000 in
theorem lc_1017 {L : Nat} {xs : Nat → Int32} {d b c : Nat} {h : hp} {cr : Nat → Nat → Option Nat} {Q : hp_Q} (hcr : CR cr) (hL : L ≤ 3072) (hr : 1 ≤ b ∧ 6 ≤ c) (i : Int) (I : LIm i h) (hi : 0 ≤ i ∧ i + 6 ≤ L) (k : ∀ (h2 : hp) (b2 c2 : Nat), LIm (i + 6) h2 → b ≤ b2 + 1 → c ≤ c2 + 6 → wp (md_xa (L, xs)) (d + 107) 0 (1501, [(0, .ref 1000000), (1, .ref 0), (2, .ref 236), (3, .ref 259), (4, vi i)], [], hp_w h2 cr, b2, c2) Q) : wp (md_xa (L, xs)) (d + 107) 0 (1017, [(0, .ref 1000000), (1, .ref 0), (2, .ref 236), (3, .ref 259), (4, vi i)], [], hp_w h cr, b, c) Q := by
  obtain ⟨⟨g, i11, r238, r241, gp0, br0, er2, er3, sv0, sf0, ss0, gs0, mi0, ml1, ml2, gq0, mr0, sm0⟩, ie0⟩ := I
  have r238e := r238.e0
  have r241e := r241.e0
  obtain ⟨⟨se0, se1, se2, se3, se4, se5, se6, se7, se8, se9⟩, -⟩ := id sv0
  have b1 := gi_b (lo := 0) (hi := 5) g 3 0 rfl
  have b2 := gi_b (lo := 0) (hi := 5) g 238 0 rfl
  have b3 := gi_b (lo := 0) (hi := 4) g 3 1 rfl
  have b4 := gi_b (lo := 0) (hi := 4) g 238 1 rfl
  have b5 := gi_b (lo := 0) (hi := 12) g 3 2 rfl
  have b6 := gi_b (lo := 0) (hi := 12) g 238 2 rfl
  have b7 := gi_b (lo := -2147483648) (hi := 2147483647) g 3 3 rfl
  have b8 := gi_b (lo := 0) (hi := 999) g 238 3 rfl
  have b9 := gi_b (lo := -2147483648) (hi := 2147483647) g 3 4 rfl
  have b10 := gi_b (lo := 0) (hi := 999) g 238 4 rfl
  have b11 := gi_b (lo := -2147483648) (hi := 2147483647) g 3 5 rfl
  have b12 := gi_b (lo := 0) (hi := 9) g 238 5 rfl
  have b13 := gi_b (lo := -2147483648) (hi := 2147483647) g 3 6 rfl
  have b14 := gi_b (lo := 0) (hi := 999) g 238 6 rfl
  have b15 := gi_b (lo := -2147483648) (hi := 2147483647) g 3 7 rfl
  have b16 := gi_b (lo := 0) (hi := 3) g 238 7 rfl
  have b17 := gi_b (lo := -2147483648) (hi := 2147483647) g 3 8 rfl
  have b18 := gi_b (lo := 0) (hi := 999) g 238 8 rfl
  have b19 := gi_b (lo := -2147483648) (hi := 2147483647) g 3 9 rfl
  have b20 := gi_b (lo := 0) (hi := 999) g 238 9 rfl
  have b21 := gi_b (lo := -2147483648) (hi := 2147483647) g 63 5 rfl
  have b22 := gi_b (lo := 0) (hi := 12) g 18 7 rfl
  have b23 := gi_b (lo := 0) (hi := 12) g 66 1 rfl
  have b24 := gi_b (lo := 0) (hi := 1) g 0 12 rfl
  have b25 := gi_b (lo := 0) (hi := 1) g 236 21 rfl
  have bl_ := gi_b (lo := 0) (hi := 800) g 1 1 rfl
  have tb0 : BufC (h 2) (h 1 1) h := ⟨fun _ => rfl, rfl, by omega, by omega⟩
  have b26 := gi_b (lo := 0) (hi := 6) g 238 98 rfl
  have b27 := gi_b (lo := 0) (hi := 6) g 238 99 rfl
  have b28 := gi_b (lo := 0) (hi := 6) g 238 100 rfl
  have b29 := gi_b (lo := 0) (hi := 6) g 238 101 rfl
  have b30 := gi_b (lo := 0) (hi := 3) g 238 102 rfl
  have b31 := gi_b (lo := 0) (hi := 12) g 238 106 rfl
  have b32 := gi_b (lo := 0) (hi := 12) g 238 73 rfl
  have b33 := gi_b (lo := 0) (hi := 9999) g 238 119 rfl
  have b34 := gi_b (lo := 0) (hi := 9999) g 238 67 rfl
  have b35 := gi_b (lo := 0) (hi := 9) g 238 69 rfl
  have b36 := gi_b (lo := 0) (hi := 6) g 241 98 rfl
  have b37 := gi_b (lo := 0) (hi := 6) g 241 99 rfl
  have b38 := gi_b (lo := 0) (hi := 6) g 241 100 rfl
  have b39 := gi_b (lo := 0) (hi := 6) g 241 101 rfl
  have b40 := gi_b (lo := 0) (hi := 3) g 241 102 rfl
  have b41 := gi_b (lo := 0) (hi := 12) g 241 106 rfl
  have b42 := gi_b (lo := 0) (hi := 12) g 241 73 rfl
  have b43 := gi_b (lo := 0) (hi := 12) g 241 2 rfl
  have b44 := gi_b (lo := 0) (hi := 9999) g 241 119 rfl
  have b45 := gi_b (lo := 0) (hi := 9999) g 241 67 rfl
  have b46 := gi_b (lo := 0) (hi := 9) g 241 69 rfl
  have b47 := gi_b (lo := 0) (hi := 9) g 241 5 rfl
  have b48 := gi_b (lo := 0) (hi := 800) g 1 1 rfl
  have b49 := gi_b (lo := 0) (hi := 800) g 236 2 rfl
  have b50 := gi_b (lo := -2147483648) (hi := 2147483647) g 1 2 rfl
  have b51 := gi_b (lo := -2147483648) (hi := 2147483647) g 236 10 rfl
  have b52 := gi_b (lo := -2147483648) (hi := 2147483647) g 1 3 rfl
  have b53 := gi_b (lo := -2147483648) (hi := 2147483647) g 236 11 rfl
  refine wi_aload_n (i := 1) (x := 0) (nx := 1018) (r1 := 0) (r2 := 0) (r3 := 0) rfl rfl ?_
  refine wi_aload_n (i := 0) (x := 1000000) (nx := 1019) (r1 := 0) (r2 := 0) (r3 := 0) rfl rfl ?_
  refine wi_iload (i := 4) (e := i) (nx := 1021) (r1 := 0) (r2 := 0) (r3 := 0) rfl rfl ?_
  refine wi_iconst (n := 1) (nx := 1022) (r1 := 0) (r2 := 0) (r3 := 0) rfl ?_
  refine wr_add (nx := 1023) (r1 := 0) (r2 := 0) (r3 := 0) rfl (fun e54 (fe54 : e54 = i + 1) => ?_)
  obtain ⟨i55, ei55⟩ : ∃ q : Nat, e54 = (q : Int) := ⟨(e54).toNat, by omega⟩
  have s56 := sc_b (xs i55)
  refine wr_sc (a := e54) (f := i55) (nx := 1024) (r1 := 0) (r2 := 0) (r3 := 0) rfl (by omega) (by omega) hL ?_
  refine wi_aload_n (i := 3) (x := 259) (nx := 1025) (r1 := 0) (r2 := 0) (r3 := 0) rfl rfl ?_
  refine wi_S (rest := []) (as := [.ref 0, vi ((xs i55).toInt), .ref 259]) (nx := 1028) (r1 := 17) (r2 := 19) (r3 := 0) rfl rfl rfl (of_decide_eq_true rfl) rfl rfl (of_decide_eq_true rfl) (of_decide_eq_true rfl) ?_
  refine wi_aload_n (i := 2) (x := 259) (nx := 1) (r1 := 0) (r2 := 0) (r3 := 0) rfl rfl ?_
  refine wi_iconst (n := 0) (nx := 2) (r1 := 0) (r2 := 0) (r3 := 0) rfl ?_
  refine wi_aload_n (i := 0) (x := 0) (nx := 3) (r1 := 0) (r2 := 0) (r3 := 0) rfl rfl ?_
  refine wi_iload_n (i := 1) (e := (xs i55).toInt) (nx := 4) (r1 := 0) (r2 := 0) (r3 := 0) rfl rfl ?_
  refine wr_V (k0 := 0) (rest := [vi 0, .ref 259]) (as := [.ref 0, vi ((xs i55).toInt)]) (nx := 7) (r1 := 79) (r2 := 1) (r3 := 0) rfl rfl rfl (of_decide_eq_true rfl) rfl rfl (by decide) rfl rfl (of_decide_eq_true rfl) (of_decide_eq_true rfl) ?_
  refine ct_79_0 hcr hr  g ((xs i55).toInt) (by omega) (show (h 63 5) ≤ (h 18 16) by omega) (show (h 63 5) < (h 18 16) ∨ ((h 18 7) ≤ (h 3 2) ∧ (h 66 1) = (h 3 2) - (h 18 7)) ∨ ((h 3 2) < (h 18 7) ∧ (h 66 1) = 0) by omega) (show 0 ≤ (h 3 9) by omega) (show (h 18 16) ≤ 1900000000 by omega) mi0 (fun h57 z58 g57 u57 (fz58 : -1 ≤ z58 ∧ z58 ≤ 11) (p57_0 : (h57 63 5) ≤ (h57 18 16)) (p57_1 : (h57 63 5) < (h57 18 16) ∨ ((h57 18 7) ≤ (h57 3 2) ∧ (h57 66 1) = (h57 3 2) - (h57 18 7)) ∨ ((h57 3 2) < (h57 18 7) ∧ (h57 66 1) = 0)) (p57_2 : (h 18 16) ≤ (h57 18 16) ∧ (h57 18 16) ≤ (h 18 16) + 4) y57_0 => ?_) (fun h57 g57 u57 (pe57_0 : (h57 63 5) ≤ (h57 18 16)) (pe57_1 : (h57 63 5) < (h57 18 16) ∨ ((h57 18 7) ≤ (h57 3 2) ∧ (h57 66 1) = (h57 3 2) - (h57 18 7)) ∨ ((h57 3 2) < (h57 18 7) ∧ (h57 66 1) = 0)) (pe57_2 : (h57 18 16) = (h 18 16)) ye57_0 => ?_)
  ·
    have e59 : h57 63 5 = h 63 5 := (u57 63 5 rfl)
    have b60 := gi_b (lo := -2147483648) (hi := 2147483647) g57 18 16 rfl
    have e61 : h57 18 7 = h 18 7 := (u57 18 7 rfl)
    have e62 : h57 3 2 = h 3 2 := (u57 3 2 rfl)
    have e63 : h57 66 1 = h 66 1 := (u57 66 1 rfl)
    refine wk_i ?_
    refine wi_i2l (nx := 8) (r1 := 0) (r2 := 0) (r3 := 0) rfl (by omega) ?_
    refine wr_ls (k0 := 259) (a := 0) (f := 0) (x := z58) (bl := -9223372036854775808) (bh := 9223372036854775807) (nx := 9) (r1 := 0) (r2 := 0) (r3 := 0) rfl (by decide) rfl (by omega) (by omega) (by decide) g57 rfl (by omega) (fun h64 g64 w64 u64 => ?_)
    refine wi_goto (nx := 12) (r1 := 15) (r2 := 0) (r3 := 0) rfl ?_
    refine wi_iconst (n := 0) (nx := 16) (r1 := 0) (r2 := 0) (r3 := 0) rfl ?_
    refine wi_ireturn (nx := 17) (r1 := 0) (r2 := 0) (r3 := 0) rfl rfl ?_
    refine wk_i ?_
    refine wi_istore (i := 5) (e := 0) (lo2 := [(5, vi 0), (0, .ref 1000000), (1, .ref 0), (2, .ref 236), (3, .ref 259), (4, vi i)]) (nx := 1030) (r1 := 0) (r2 := 0) (r3 := 0) rfl rfl ?_
    refine wi_aload_n (i := 2) (x := 236) (nx := 1031) (r1 := 0) (r2 := 0) (r3 := 0) rfl rfl ?_
    refine wi_aload_n (i := 0) (x := 1000000) (nx := 1032) (r1 := 0) (r2 := 0) (r3 := 0) rfl rfl ?_
    refine wi_iload (i := 4) (e := i) (nx := 1034) (r1 := 0) (r2 := 0) (r3 := 0) rfl rfl ?_
    refine wi_iconst (n := 1) (nx := 1035) (r1 := 0) (r2 := 0) (r3 := 0) rfl ?_
    refine wr_add (nx := 1036) (r1 := 0) (r2 := 0) (r3 := 0) rfl (fun e65 (fe65 : e65 = i + 1) => ?_)
    refine wr_sc (a := e65) (f := i55) (nx := 1037) (r1 := 0) (r2 := 0) (r3 := 0) rfl (by omega) (by omega) hL ?_
    refine wr_V (k0 := 236) (rest := []) (as := [.ref 236, vi ((xs i55).toInt)]) (nx := 1040) (r1 := 280) (r2 := 1) (r3 := 11) rfl rfl rfl (of_decide_eq_true rfl) rfl rfl (by decide) rfl rfl (of_decide_eq_true rfl) (of_decide_eq_true rfl) ?_
    have e67 : h64 238 98 = h 238 98 := ((u64 238 98 rfl).trans (u57 238 98 rfl))
    have e68 : h64 238 99 = h 238 99 := ((u64 238 99 rfl).trans (u57 238 99 rfl))
    have e69 : h64 238 100 = h 238 100 := ((u64 238 100 rfl).trans (u57 238 100 rfl))
    have e70 : h64 238 101 = h 238 101 := ((u64 238 101 rfl).trans (u57 238 101 rfl))
    have e71 : h64 238 102 = h 238 102 := ((u64 238 102 rfl).trans (u57 238 102 rfl))
    have e72 : h64 238 106 = h 238 106 := ((u64 238 106 rfl).trans (u57 238 106 rfl))
    have e73 : h64 238 73 = h 238 73 := ((u64 238 73 rfl).trans (u57 238 73 rfl))
    have e74 : h64 238 2 = h 238 2 := ((u64 238 2 rfl).trans (u57 238 2 rfl))
    have e75 : h64 238 119 = h 238 119 := ((u64 238 119 rfl).trans (u57 238 119 rfl))
    have e76 : h64 238 67 = h 238 67 := ((u64 238 67 rfl).trans (u57 238 67 rfl))
    have e77 : h64 238 69 = h 238 69 := ((u64 238 69 rfl).trans (u57 238 69 rfl))
    have e78 : h64 238 5 = h 238 5 := ((u64 238 5 rfl).trans (u57 238 5 rfl))
    have gs80 := GPS.fr u57 rfl gs0
    have gs81 := GPS.fr u64 rfl gs80
    have gq82 := GQS.fr u57 rfl gq0
    have gq83 := GQS.fr u64 rfl gq82
    have gp84 := GPH.fr u57 rfl gp0
    have gp85 := GPH.fr u64 rfl gp84
    refine ct_280_236 hcr  g64 ((xs i55).toInt) (by omega) (show (h64 238 98) + (h64 238 99) + (h64 238 100) + (h64 238 101) + (h64 238 102) + (h64 238 106) = (h64 238 73) by omega) (show (h64 238 73) ≤ (h64 238 2) by omega) (show (h64 238 119) ≤ (h64 238 67) by omega) (show (h64 238 69) ≤ (h64 238 5) by omega) (show (h64 238 2) ≤ 12 * (h64 238 5) by omega) gs81 gq83 gp85 (fun h66 z79 g66 u66 (fz79 : -1 ≤ z79 ∧ z79 ≤ 11) (p66_0 : (h66 238 98) + (h66 238 99) + (h66 238 100) + (h66 238 101) + (h66 238 102) + (h66 238 106) = (h66 238 73)) (p66_1 : (h66 238 73) ≤ (h66 238 2)) (p66_2 : (h66 238 119) ≤ (h66 238 67)) (p66_3 : (h66 238 69) ≤ (h66 238 5)) (p66_4 : (h66 238 2) ≤ 12 * (h66 238 5)) y66_0 y66_1 y66_2 => ?_)
    have b86 := gi_b (lo := 0) (hi := 6) g66 238 98 rfl
    have b87 := gi_b (lo := 0) (hi := 6) g66 238 99 rfl
    have b88 := gi_b (lo := 0) (hi := 6) g66 238 100 rfl
    have b89 := gi_b (lo := 0) (hi := 6) g66 238 101 rfl
    have b90 := gi_b (lo := 0) (hi := 3) g66 238 102 rfl
    have b91 := gi_b (lo := 0) (hi := 12) g66 238 106 rfl
    have e92 : h66 238 73 = h 238 73 := ((u66 238 73 rfl).trans ((u64 238 73 rfl).trans (u57 238 73 rfl)))
    have e93 : h66 238 2 = h 238 2 := ((u66 238 2 rfl).trans ((u64 238 2 rfl).trans (u57 238 2 rfl)))
    have b94 := gi_b (lo := 0) (hi := 9999) g66 238 119 rfl
    have b95 := gi_b (lo := 0) (hi := 9999) g66 238 67 rfl
    have b96 := gi_b (lo := 0) (hi := 9) g66 238 69 rfl
    have e97 : h66 238 5 = h 238 5 := ((u66 238 5 rfl).trans ((u64 238 5 rfl).trans (u57 238 5 rfl)))
    refine wk_i ?_
    refine wi_istore (i := 6) (e := z79) (lo2 := [(6, vi z79), (5, vi 0), (0, .ref 1000000), (1, .ref 0), (2, .ref 236), (3, .ref 259), (4, vi i)]) (nx := 1042) (r1 := 0) (r2 := 0) (r3 := 0) rfl rfl ?_
    refine wi_goto (nx := 1045) (r1 := 1501) (r2 := 0) (r3 := 0) rfl ?_
    refine wp.lo (lo := [(0, .ref 1000000), (1, .ref 0), (2, .ref 236), (3, .ref 259), (4, vi i)]) ⟨rfl, rfl, rfl, rfl, rfl, trivial⟩ rfl ?_
    have e98 : h66 241 98 = h 241 98 := ((u66 241 98 rfl).trans ((u64 241 98 rfl).trans (u57 241 98 rfl)))
    have e99 : h66 241 99 = h 241 99 := ((u66 241 99 rfl).trans ((u64 241 99 rfl).trans (u57 241 99 rfl)))
    have e100 : h66 241 100 = h 241 100 := ((u66 241 100 rfl).trans ((u64 241 100 rfl).trans (u57 241 100 rfl)))
    have e101 : h66 241 101 = h 241 101 := ((u66 241 101 rfl).trans ((u64 241 101 rfl).trans (u57 241 101 rfl)))
    have e102 : h66 241 102 = h 241 102 := ((u66 241 102 rfl).trans ((u64 241 102 rfl).trans (u57 241 102 rfl)))
    have e103 : h66 241 106 = h 241 106 := ((u66 241 106 rfl).trans ((u64 241 106 rfl).trans (u57 241 106 rfl)))
    have e104 : h66 241 73 = h 241 73 := ((u66 241 73 rfl).trans ((u64 241 73 rfl).trans (u57 241 73 rfl)))
    have e105 : h66 241 2 = h 241 2 := ((u66 241 2 rfl).trans ((u64 241 2 rfl).trans (u57 241 2 rfl)))
    have e106 : h66 241 119 = h 241 119 := ((u66 241 119 rfl).trans ((u64 241 119 rfl).trans (u57 241 119 rfl)))
    have e107 : h66 241 67 = h 241 67 := ((u66 241 67 rfl).trans ((u64 241 67 rfl).trans (u57 241 67 rfl)))
    have e108 : h66 241 69 = h 241 69 := ((u66 241 69 rfl).trans ((u64 241 69 rfl).trans (u57 241 69 rfl)))
    have e109 : h66 241 5 = h 241 5 := ((u66 241 5 rfl).trans ((u64 241 5 rfl).trans (u57 241 5 rfl)))
    have e110 : h66 1 1 = h 1 1 := ((u66 1 1 rfl).trans ((u64 1 1 rfl).trans (u57 1 1 rfl)))
    have e111 : h66 236 2 = h 236 2 := ((u66 236 2 rfl).trans ((u64 236 2 rfl).trans (u57 236 2 rfl)))
    have e112 : h66 1 2 = h 1 2 := ((u66 1 2 rfl).trans ((u64 1 2 rfl).trans (u57 1 2 rfl)))
    have e113 : h66 236 10 = h 236 10 := ((u66 236 10 rfl).trans ((u64 236 10 rfl).trans (u57 236 10 rfl)))
    have e114 : h66 1 3 = h 1 3 := ((u66 1 3 rfl).trans ((u64 1 3 rfl).trans (u57 1 3 rfl)))
    have e115 : h66 236 11 = h 236 11 := ((u66 236 11 rfl).trans ((u64 236 11 rfl).trans (u57 236 11 rfl)))
    have b116 := gi_b (lo := 0) (hi := 5) g 241 0 rfl
    have b117 := gi_b (lo := 0) (hi := 4) g 241 1 rfl
    have e118 : h66 0 12 = h 0 12 := ((u66 0 12 rfl).trans ((u64 0 12 rfl).trans (u57 0 12 rfl)))
    have e119 : h66 236 21 = h 236 21 := ((u66 236 21 rfl).trans ((u64 236 21 rfl).trans (u57 236 21 rfl)))
    have e120 : h66 63 5 = h 63 5 := ((u66 63 5 rfl).trans ((u64 63 5 rfl).trans (u57 63 5 rfl)))
    have e121 : h66 18 16 = h57 18 16 := ((u66 18 16 rfl).trans (u64 18 16 rfl))
    have e122 : h66 18 7 = h 18 7 := ((u66 18 7 rfl).trans ((u64 18 7 rfl).trans (u57 18 7 rfl)))
    have e123 : h66 3 2 = h 3 2 := ((u66 3 2 rfl).trans ((u64 3 2 rfl).trans (u57 3 2 rfl)))
    have e124 : h66 66 1 = h 66 1 := ((u66 66 1 rfl).trans ((u64 66 1 rfl).trans (u57 66 1 rfl)))
    have b125 := gi_b (lo := 0) (hi := 6) g57 73 1 rfl
    have e126 : h66 73 1 = h57 73 1 := ((u66 73 1 rfl).trans (u64 73 1 rfl))
    have b127 := gi_b (lo := 0) (hi := 6) g 73 1 rfl
    have b128 := gi_b (lo := 0) (hi := 6) g57 73 2 rfl
    have e129 : h66 73 2 = h57 73 2 := ((u66 73 2 rfl).trans (u64 73 2 rfl))
    have b130 := gi_b (lo := 0) (hi := 6) g 73 2 rfl
    have b131 := gi_b (lo := 0) (hi := 6) g66 236 22 rfl
    have b132 := gi_b (lo := 0) (hi := 6) g 236 22 rfl
    have b133 := gi_b (lo := 0) (hi := 12) g 210 2 rfl
    have e134 : h66 210 2 = h 210 2 := ((u66 210 2 rfl).trans ((u64 210 2 rfl).trans (u57 210 2 rfl)))
    have q137 : h66 8 = h57 8 := funext (fun i => ((u66 8 i (fo_no_ok (by decide) i)).trans (u64 8 i rfl)))
    have q138 : h66 7 = h57 7 := funext (fun i => ((u66 7 i (fo_no_ok (by decide) i)).trans (u64 7 i rfl)))
    have q139 : h66 19 = h57 19 := funext (fun i => ((u66 19 i (fo_no_ok (by decide) i)).trans (u64 19 i rfl)))
    have q140 : h66 67 = h57 67 := funext (fun i => ((u66 67 i (fo_no_ok (by decide) i)).trans (u64 67 i rfl)))
    have ml136 : MCL h66 := MCL.mv y57_0.1 q137 q138 q139 q140 (by omega) (by omega) (by omega) (by omega)
    have q142 : h66 69 = h57 69 := funext (fun i => ((u66 69 i (fo_no_ok (by decide) i)).trans (u64 69 i rfl)))
    have q143 : h66 70 = h57 70 := funext (fun i => ((u66 70 i (fo_no_ok (by decide) i)).trans (u64 70 i rfl)))
    have nb141 : NBc (h66 69) (h66 70) := by rw [q142, q143]; exact y57_0.2.2
    have q144 : h66 8 = h57 8 := funext (fun i => ((u66 8 i (fo_no_ok (by decide) i)).trans (u64 8 i rfl)))
    have q145 : h66 7 = h57 7 := funext (fun i => ((u66 7 i (fo_no_ok (by decide) i)).trans (u64 7 i rfl)))
    have mi135 : MCI h66 := ⟨ml136, HIv.mv y57_0.2.1 q144 q145 (by omega) (by omega) (sv_seven (P := fun x => ∀ i, h66 (76 + 19 * x) i = h57 (76 + 19 * x) i) (fun i => ((u66 76 i (fo_nk rfl)).trans (u64 76 i (fn_a (by omega) fn_0)))) (fun i => ((u66 95 i (fo_nk rfl)).trans (u64 95 i (fn_a (by omega) fn_0)))) (fun i => ((u66 114 i (fo_nk rfl)).trans (u64 114 i (fn_a (by omega) fn_0)))) (fun i => ((u66 133 i (fo_nk rfl)).trans (u64 133 i (fn_a (by omega) fn_0)))) (fun i => ((u66 152 i (fo_nk rfl)).trans (u64 152 i (fn_a (by omega) fn_0)))) (fun i => ((u66 171 i (fo_nk rfl)).trans (u64 171 i (fn_a (by omega) fn_0)))) (fun i => ((u66 190 i (fo_nk rfl)).trans (u64 190 i (fn_a (by omega) fn_0))))) (by omega) (by omega), nb141⟩
    have q146 : h66 8 = h 8 := funext (fun i => ((u66 8 i (fo_no_ok (by decide) i)).trans ((u64 8 i rfl).trans (u57 8 i (fo_no_ok (by decide) i)))))
    have q147 : h66 7 = h 7 := funext (fun i => ((u66 7 i (fo_no_ok (by decide) i)).trans ((u64 7 i rfl).trans (u57 7 i (fo_no_ok (by decide) i)))))
    have q148 : h66 215 = h 215 := funext (fun i => ((u66 215 i (fo_no_ok (by decide) i)).trans ((u64 215 i rfl).trans (u57 215 i (fo_no_ok (by decide) i)))))
    have q149 : h66 218 = h 218 := funext (fun i => ((u66 218 i (fo_no_ok (by decide) i)).trans ((u64 218 i rfl).trans (u57 218 i (fo_no_ok (by decide) i)))))
    have q150 : h66 214 = h 214 := funext (fun i => ((u66 214 i (fo_no_ok (by decide) i)).trans ((u64 214 i rfl).trans (u57 214 i (fo_no_ok (by decide) i)))))
    have q151 : h66 241 = h 241 := funext (fun i => ((u66 241 i (fo_no_ok (by decide) i)).trans ((u64 241 i rfl).trans (u57 241 i (fo_no_ok (by decide) i)))))
    exact k h66 b c ⟨⟨g66, (show h66 1 1 = h66 236 2 by omega), (RS.i0 (f := h66 238) (by refine ⟨?_, ?_, ?_, ?_, ?_⟩ <;> omega)), (RS.i0 (f := h66 241) (by refine ⟨?_, ?_, ?_, ?_, ?_⟩ <;> omega)), y66_2, (BRh.keep br0 (fun i => ((u66 2 i (fo_nk rfl)).trans ((u64 2 i (fn_a (by omega) fn_0)).trans (u57 2 i (fo_nk rfl))))) (fun i => ((u66 237 i (fo_nk rfl)).trans ((u64 237 i (fn_a (by omega) fn_0)).trans (u57 237 i (fo_nk rfl))))) (by omega)), (show h66 1 2 = h66 236 10 by omega), (show h66 1 3 = h66 236 11 by omega), (SVx.keep sv0 (by omega) (fun i _ => ((u66 3 i (fo_nk rfl)).trans ((u64 3 i (fn_a (by omega) fn_0)).trans (u57 3 i (fo_nk rfl))))) (fun i _ => ((u66 5 i (fo_nk rfl)).trans ((u64 5 i (fn_a (by omega) fn_0)).trans (u57 5 i (fo_nk rfl))))) (fun i _ => ((u66 6 i (fo_nk rfl)).trans ((u64 6 i (fn_a (by omega) fn_0)).trans (u57 6 i (fo_nk rfl))))) (fun i _ => ((u66 8 i (fo_nk rfl)).trans ((u64 8 i (fn_a (by omega) fn_0)).trans (u57 8 i (fo_nk rfl))))) (fun i _ => ((u66 238 i (fo_lk (m := 43) (by omega) rfl)).trans ((u64 238 i (fn_a (by omega) fn_0)).trans (u57 238 i (fo_nk rfl)))))), (show h66 0 12 = h66 236 21 by omega), (fun e => (SVx.keep (ss0 (by omega)) (by omega) (fun i _ => ((u66 210 i (fo_nk rfl)).trans ((u64 210 i (fn_a (by omega) fn_0)).trans (u57 210 i (fo_nk rfl))))) (fun i _ => ((u66 212 i (fo_nk rfl)).trans ((u64 212 i (fn_a (by omega) fn_0)).trans (u57 212 i (fo_nk rfl))))) (fun i _ => ((u66 213 i (fo_nk rfl)).trans ((u64 213 i (fn_a (by omega) fn_0)).trans (u57 213 i (fo_nk rfl))))) (fun i _ => ((u66 215 i (fo_nk rfl)).trans ((u64 215 i (fn_a (by omega) fn_0)).trans (u57 215 i (fo_nk rfl))))) (fun i _ => ((u66 241 i (fo_nk rfl)).trans ((u64 241 i (fn_a (by omega) fn_0)).trans (u57 241 i (fo_nk rfl))))))), y66_0, mi135, (show h66 63 5 ≤ h66 18 16 by omega), (show (h66 63 5) < (h66 18 16) ∨ ((h66 18 7) ≤ (h66 3 2) ∧ (h66 66 1) = (h66 3 2) - (h66 18 7)) ∨ ((h66 3 2) < (h66 18 7) ∧ (h66 66 1) = 0) by omega), y66_1, (MR.mv mr0 (MSN.then (MSN.refl) (fun i _ => ((u66 238 i (fo_lk (m := 43) (by omega) rfl)).trans ((u64 238 i (fn_a (by omega) fn_0)).trans (u57 238 i (fo_nk rfl)))))) (by omega) q146 q147 (by omega)), (fun e => SM.mv (sm0 (by omega)) q148 q149 q150 (by omega) q151)⟩, (by omega)⟩ (by omega) (by omega)
  ·
    have e59 : h57 63 5 = h 63 5 := (u57 63 5 rfl)
    have b60 := gi_b (lo := -2147483648) (hi := 2147483647) g57 18 16 rfl
    have e61 : h57 18 7 = h 18 7 := (u57 18 7 rfl)
    have e62 : h57 3 2 = h 3 2 := (u57 3 2 rfl)
    have e63 : h57 66 1 = h 66 1 := (u57 66 1 rfl)
    refine wk_h 12 (by decide) rfl ?_
    refine wr_astx (i := 3) (lo2 := [(3, .retAddr 0), (0, .ref 0), (1, vi ((xs i55).toInt)), (2, .ref 259)]) (nx := 13) (r1 := 0) (r2 := 0) (r3 := 0) rfl rfl ?_
    refine wi_iconst (n := 1) (nx := 14) (r1 := 0) (r2 := 0) (r3 := 0) rfl ?_
    refine wi_ireturn (nx := 15) (r1 := 0) (r2 := 0) (r3 := 0) rfl rfl ?_
    refine wk_i ?_
    refine wi_istore (i := 5) (e := 1) (lo2 := [(5, vi 1), (0, .ref 1000000), (1, .ref 0), (2, .ref 236), (3, .ref 259), (4, vi i)]) (nx := 1030) (r1 := 0) (r2 := 0) (r3 := 0) rfl rfl ?_
    refine wi_aload_n (i := 2) (x := 236) (nx := 1031) (r1 := 0) (r2 := 0) (r3 := 0) rfl rfl ?_
    refine wi_aload_n (i := 0) (x := 1000000) (nx := 1032) (r1 := 0) (r2 := 0) (r3 := 0) rfl rfl ?_
    refine wi_iload (i := 4) (e := i) (nx := 1034) (r1 := 0) (r2 := 0) (r3 := 0) rfl rfl ?_
    refine wi_iconst (n := 1) (nx := 1035) (r1 := 0) (r2 := 0) (r3 := 0) rfl ?_
    refine wr_add (nx := 1036) (r1 := 0) (r2 := 0) (r3 := 0) rfl (fun e64 (fe64 : e64 = i + 1) => ?_)
    refine wr_sc (a := e64) (f := i55) (nx := 1037) (r1 := 0) (r2 := 0) (r3 := 0) rfl (by omega) (by omega) hL ?_
    refine wr_V (k0 := 236) (rest := []) (as := [.ref 236, vi ((xs i55).toInt)]) (nx := 1040) (r1 := 280) (r2 := 1) (r3 := 11) rfl rfl rfl (of_decide_eq_true rfl) rfl rfl (by decide) rfl rfl (of_decide_eq_true rfl) (of_decide_eq_true rfl) ?_
    have e66 : h57 238 98 = h 238 98 := (u57 238 98 rfl)
    have e67 : h57 238 99 = h 238 99 := (u57 238 99 rfl)
    have e68 : h57 238 100 = h 238 100 := (u57 238 100 rfl)
    have e69 : h57 238 101 = h 238 101 := (u57 238 101 rfl)
    have e70 : h57 238 102 = h 238 102 := (u57 238 102 rfl)
    have e71 : h57 238 106 = h 238 106 := (u57 238 106 rfl)
    have e72 : h57 238 73 = h 238 73 := (u57 238 73 rfl)
    have e73 : h57 238 2 = h 238 2 := (u57 238 2 rfl)
    have e74 : h57 238 119 = h 238 119 := (u57 238 119 rfl)
    have e75 : h57 238 67 = h 238 67 := (u57 238 67 rfl)
    have e76 : h57 238 69 = h 238 69 := (u57 238 69 rfl)
    have e77 : h57 238 5 = h 238 5 := (u57 238 5 rfl)
    have gs79 := GPS.fr u57 rfl gs0
    have gq80 := GQS.fr u57 rfl gq0
    have gp81 := GPH.fr u57 rfl gp0
    refine ct_280_236 hcr  g57 ((xs i55).toInt) (by omega) (show (h57 238 98) + (h57 238 99) + (h57 238 100) + (h57 238 101) + (h57 238 102) + (h57 238 106) = (h57 238 73) by omega) (show (h57 238 73) ≤ (h57 238 2) by omega) (show (h57 238 119) ≤ (h57 238 67) by omega) (show (h57 238 69) ≤ (h57 238 5) by omega) (show (h57 238 2) ≤ 12 * (h57 238 5) by omega) gs79 gq80 gp81 (fun h65 z78 g65 u65 (fz78 : -1 ≤ z78 ∧ z78 ≤ 11) (p65_0 : (h65 238 98) + (h65 238 99) + (h65 238 100) + (h65 238 101) + (h65 238 102) + (h65 238 106) = (h65 238 73)) (p65_1 : (h65 238 73) ≤ (h65 238 2)) (p65_2 : (h65 238 119) ≤ (h65 238 67)) (p65_3 : (h65 238 69) ≤ (h65 238 5)) (p65_4 : (h65 238 2) ≤ 12 * (h65 238 5)) y65_0 y65_1 y65_2 => ?_)
    have b82 := gi_b (lo := 0) (hi := 6) g65 238 98 rfl
    have b83 := gi_b (lo := 0) (hi := 6) g65 238 99 rfl
    have b84 := gi_b (lo := 0) (hi := 6) g65 238 100 rfl
    have b85 := gi_b (lo := 0) (hi := 6) g65 238 101 rfl
    have b86 := gi_b (lo := 0) (hi := 3) g65 238 102 rfl
    have b87 := gi_b (lo := 0) (hi := 12) g65 238 106 rfl
    have e88 : h65 238 73 = h 238 73 := ((u65 238 73 rfl).trans (u57 238 73 rfl))
    have e89 : h65 238 2 = h 238 2 := ((u65 238 2 rfl).trans (u57 238 2 rfl))
    have b90 := gi_b (lo := 0) (hi := 9999) g65 238 119 rfl
    have b91 := gi_b (lo := 0) (hi := 9999) g65 238 67 rfl
    have b92 := gi_b (lo := 0) (hi := 9) g65 238 69 rfl
    have e93 : h65 238 5 = h 238 5 := ((u65 238 5 rfl).trans (u57 238 5 rfl))
    refine wk_i ?_
    refine wi_istore (i := 6) (e := z78) (lo2 := [(6, vi z78), (5, vi 1), (0, .ref 1000000), (1, .ref 0), (2, .ref 236), (3, .ref 259), (4, vi i)]) (nx := 1042) (r1 := 0) (r2 := 0) (r3 := 0) rfl rfl ?_
    refine wi_goto (nx := 1045) (r1 := 1501) (r2 := 0) (r3 := 0) rfl ?_
    refine wp.lo (lo := [(0, .ref 1000000), (1, .ref 0), (2, .ref 236), (3, .ref 259), (4, vi i)]) ⟨rfl, rfl, rfl, rfl, rfl, trivial⟩ rfl ?_
    have e94 : h65 241 98 = h 241 98 := ((u65 241 98 rfl).trans (u57 241 98 rfl))
    have e95 : h65 241 99 = h 241 99 := ((u65 241 99 rfl).trans (u57 241 99 rfl))
    have e96 : h65 241 100 = h 241 100 := ((u65 241 100 rfl).trans (u57 241 100 rfl))
    have e97 : h65 241 101 = h 241 101 := ((u65 241 101 rfl).trans (u57 241 101 rfl))
    have e98 : h65 241 102 = h 241 102 := ((u65 241 102 rfl).trans (u57 241 102 rfl))
    have e99 : h65 241 106 = h 241 106 := ((u65 241 106 rfl).trans (u57 241 106 rfl))
    have e100 : h65 241 73 = h 241 73 := ((u65 241 73 rfl).trans (u57 241 73 rfl))
    have e101 : h65 241 2 = h 241 2 := ((u65 241 2 rfl).trans (u57 241 2 rfl))
    have e102 : h65 241 119 = h 241 119 := ((u65 241 119 rfl).trans (u57 241 119 rfl))
    have e103 : h65 241 67 = h 241 67 := ((u65 241 67 rfl).trans (u57 241 67 rfl))
    have e104 : h65 241 69 = h 241 69 := ((u65 241 69 rfl).trans (u57 241 69 rfl))
    have e105 : h65 241 5 = h 241 5 := ((u65 241 5 rfl).trans (u57 241 5 rfl))
    have e106 : h65 1 1 = h 1 1 := ((u65 1 1 rfl).trans (u57 1 1 rfl))
    have e107 : h65 236 2 = h 236 2 := ((u65 236 2 rfl).trans (u57 236 2 rfl))
    have e108 : h65 1 2 = h 1 2 := ((u65 1 2 rfl).trans (u57 1 2 rfl))
    have e109 : h65 236 10 = h 236 10 := ((u65 236 10 rfl).trans (u57 236 10 rfl))
    have e110 : h65 1 3 = h 1 3 := ((u65 1 3 rfl).trans (u57 1 3 rfl))
    have e111 : h65 236 11 = h 236 11 := ((u65 236 11 rfl).trans (u57 236 11 rfl))
    have b112 := gi_b (lo := 0) (hi := 5) g 241 0 rfl
    have b113 := gi_b (lo := 0) (hi := 4) g 241 1 rfl
    have e114 : h65 0 12 = h 0 12 := ((u65 0 12 rfl).trans (u57 0 12 rfl))
    have e115 : h65 236 21 = h 236 21 := ((u65 236 21 rfl).trans (u57 236 21 rfl))
    have e116 : h65 63 5 = h 63 5 := ((u65 63 5 rfl).trans (u57 63 5 rfl))
    have e117 : h65 18 16 = h57 18 16 := (u65 18 16 rfl)
    have e118 : h65 18 7 = h 18 7 := ((u65 18 7 rfl).trans (u57 18 7 rfl))
    have e119 : h65 3 2 = h 3 2 := ((u65 3 2 rfl).trans (u57 3 2 rfl))
    have e120 : h65 66 1 = h 66 1 := ((u65 66 1 rfl).trans (u57 66 1 rfl))
    have b121 := gi_b (lo := 0) (hi := 6) g57 73 1 rfl
    have e122 : h65 73 1 = h57 73 1 := (u65 73 1 rfl)
    have b123 := gi_b (lo := 0) (hi := 6) g 73 1 rfl
    have b124 := gi_b (lo := 0) (hi := 6) g57 73 2 rfl
    have e125 : h65 73 2 = h57 73 2 := (u65 73 2 rfl)
    have b126 := gi_b (lo := 0) (hi := 6) g 73 2 rfl
    have b127 := gi_b (lo := 0) (hi := 6) g65 236 22 rfl
    have b128 := gi_b (lo := 0) (hi := 6) g 236 22 rfl
    have b129 := gi_b (lo := 0) (hi := 12) g 210 2 rfl
    have e130 : h65 210 2 = h 210 2 := ((u65 210 2 rfl).trans (u57 210 2 rfl))
    have q133 : h65 8 = h57 8 := funext (fun i => (u65 8 i (fo_no_ok (by decide) i)))
    have q134 : h65 7 = h57 7 := funext (fun i => (u65 7 i (fo_no_ok (by decide) i)))
    have q135 : h65 19 = h57 19 := funext (fun i => (u65 19 i (fo_no_ok (by decide) i)))
    have q136 : h65 67 = h57 67 := funext (fun i => (u65 67 i (fo_no_ok (by decide) i)))
    have ml132 : MCL h65 := MCL.mv ye57_0.1 q133 q134 q135 q136 (by omega) (by omega) (by omega) (by omega)
    have q138 : h65 69 = h57 69 := funext (fun i => (u65 69 i (fo_no_ok (by decide) i)))
    have q139 : h65 70 = h57 70 := funext (fun i => (u65 70 i (fo_no_ok (by decide) i)))
    have nb137 : NBc (h65 69) (h65 70) := by rw [q138, q139]; exact ye57_0.2.2
    have q140 : h65 8 = h57 8 := funext (fun i => (u65 8 i (fo_no_ok (by decide) i)))
    have q141 : h65 7 = h57 7 := funext (fun i => (u65 7 i (fo_no_ok (by decide) i)))
    have mi131 : MCI h65 := ⟨ml132, HIv.mv ye57_0.2.1 q140 q141 (by omega) (by omega) (sv_seven (P := fun x => ∀ i, h65 (76 + 19 * x) i = h57 (76 + 19 * x) i) (fun i => (u65 76 i (fo_nk rfl))) (fun i => (u65 95 i (fo_nk rfl))) (fun i => (u65 114 i (fo_nk rfl))) (fun i => (u65 133 i (fo_nk rfl))) (fun i => (u65 152 i (fo_nk rfl))) (fun i => (u65 171 i (fo_nk rfl))) (fun i => (u65 190 i (fo_nk rfl)))) (by omega) (by omega), nb137⟩
    have q142 : h65 8 = h 8 := funext (fun i => ((u65 8 i (fo_no_ok (by decide) i)).trans (u57 8 i (fo_no_ok (by decide) i))))
    have q143 : h65 7 = h 7 := funext (fun i => ((u65 7 i (fo_no_ok (by decide) i)).trans (u57 7 i (fo_no_ok (by decide) i))))
    have q144 : h65 215 = h 215 := funext (fun i => ((u65 215 i (fo_no_ok (by decide) i)).trans (u57 215 i (fo_no_ok (by decide) i))))
    have q145 : h65 218 = h 218 := funext (fun i => ((u65 218 i (fo_no_ok (by decide) i)).trans (u57 218 i (fo_no_ok (by decide) i))))
    have q146 : h65 214 = h 214 := funext (fun i => ((u65 214 i (fo_no_ok (by decide) i)).trans (u57 214 i (fo_no_ok (by decide) i))))
    have q147 : h65 241 = h 241 := funext (fun i => ((u65 241 i (fo_no_ok (by decide) i)).trans (u57 241 i (fo_no_ok (by decide) i))))
    exact k h65 (b - 1) (c - 6) ⟨⟨g65, (show h65 1 1 = h65 236 2 by omega), (RS.i0 (f := h65 238) (by refine ⟨?_, ?_, ?_, ?_, ?_⟩ <;> omega)), (RS.i0 (f := h65 241) (by refine ⟨?_, ?_, ?_, ?_, ?_⟩ <;> omega)), y65_2, (BRh.keep br0 (fun i => ((u65 2 i (fo_nk rfl)).trans (u57 2 i (fo_nk rfl)))) (fun i => ((u65 237 i (fo_nk rfl)).trans (u57 237 i (fo_nk rfl)))) (by omega)), (show h65 1 2 = h65 236 10 by omega), (show h65 1 3 = h65 236 11 by omega), (SVx.keep sv0 (by omega) (fun i _ => ((u65 3 i (fo_nk rfl)).trans (u57 3 i (fo_nk rfl)))) (fun i _ => ((u65 5 i (fo_nk rfl)).trans (u57 5 i (fo_nk rfl)))) (fun i _ => ((u65 6 i (fo_nk rfl)).trans (u57 6 i (fo_nk rfl)))) (fun i _ => ((u65 8 i (fo_nk rfl)).trans (u57 8 i (fo_nk rfl)))) (fun i _ => ((u65 238 i (fo_lk (m := 43) (by omega) rfl)).trans (u57 238 i (fo_nk rfl))))), (show h65 0 12 = h65 236 21 by omega), (fun e => (SVx.keep (ss0 (by omega)) (by omega) (fun i _ => ((u65 210 i (fo_nk rfl)).trans (u57 210 i (fo_nk rfl)))) (fun i _ => ((u65 212 i (fo_nk rfl)).trans (u57 212 i (fo_nk rfl)))) (fun i _ => ((u65 213 i (fo_nk rfl)).trans (u57 213 i (fo_nk rfl)))) (fun i _ => ((u65 215 i (fo_nk rfl)).trans (u57 215 i (fo_nk rfl)))) (fun i _ => ((u65 241 i (fo_nk rfl)).trans (u57 241 i (fo_nk rfl)))))), y65_0, mi131, (show h65 63 5 ≤ h65 18 16 by omega), (show (h65 63 5) < (h65 18 16) ∨ ((h65 18 7) ≤ (h65 3 2) ∧ (h65 66 1) = (h65 3 2) - (h65 18 7)) ∨ ((h65 3 2) < (h65 18 7) ∧ (h65 66 1) = 0) by omega), y65_1, (MR.mv mr0 (MSN.then (MSN.refl) (fun i _ => ((u65 238 i (fo_lk (m := 43) (by omega) rfl)).trans (u57 238 i (fo_nk rfl))))) (by omega) q142 q143 (by omega)), (fun e => SM.mv (sm0 (by omega)) q144 q145 q146 (by omega) q147)⟩, (by omega)⟩ (by omega) (by omega)
