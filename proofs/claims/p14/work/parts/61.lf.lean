-- the law, case at 1209
set_option maxRecDepth 100000 in
set_option maxHeartbeats 100000000 in
theorem lc_1209 {L : Nat} {xs : Nat → Int32} {d b c : Nat} {h : hp} {cr : Nat → Nat → Option Nat} {Q : hp_Q} (hcr : CR cr) (hL : L ≤ 3072) (hr : 1 ≤ b ∧ 6 ≤ c) (i : Int) (I : LIm i h) (hi : 0 ≤ i ∧ i + 6 ≤ L) (k : ∀ (h2 : hp) (b2 c2 : Nat), LIm (i + 6) h2 → b ≤ b2 + 1 → c ≤ c2 + 6 → wp (md_xa (L, xs)) (d + 107) 0 (1501, [(0, .ref 1000000), (1, .ref 0), (2, .ref 236), (3, .ref 259), (4, vi i)], [], hp_w h2 cr, b2, c2) Q) : wp (md_xa (L, xs)) (d + 107) 0 (1209, [(0, .ref 1000000), (1, .ref 0), (2, .ref 236), (3, .ref 259), (4, vi i)], [], hp_w h cr, b, c) Q := by
  obtain ⟨⟨g, i11, r238, r241, gp0, br0, er2, er3, sv0, sf0, ss0, gs0, mi0, ml1, ml2, gq0, mr0, sm0⟩, ie0⟩ := I
  have r238e := r238.e0
  have r241e := r241.e0
  obtain ⟨⟨se0, se1, se2, se3, se4, se5, se6, se7, se8, se9⟩, -⟩ := id sv0
  have b1 := gi_b (lo := 0) (hi := 5) g 3 0 rfl
  have b2 := gi_b (lo := 0) (hi := 5) g 238 0 rfl
  have b3 := gi_b (lo := 0) (hi := 4) g 3 1 rfl
  have b4 := gi_b (lo := 0) (hi := 4) g 238 1 rfl
  have b5 := gi_b (lo := 0) (hi := 12) g 3 2 rfl
  have b6 := gi_b (lo := 0) (hi := 12) g 238 2 rfl
  have b7 := gi_b (lo := -2147483648) (hi := 2147483647) g 3 3 rfl
  have b8 := gi_b (lo := 0) (hi := 999) g 238 3 rfl
  have b9 := gi_b (lo := -2147483648) (hi := 2147483647) g 3 4 rfl
  have b10 := gi_b (lo := 0) (hi := 999) g 238 4 rfl
  have b11 := gi_b (lo := -2147483648) (hi := 2147483647) g 3 5 rfl
  have b12 := gi_b (lo := 0) (hi := 9) g 238 5 rfl
  have b13 := gi_b (lo := -2147483648) (hi := 2147483647) g 3 6 rfl
  have b14 := gi_b (lo := 0) (hi := 999) g 238 6 rfl
  have b15 := gi_b (lo := -2147483648) (hi := 2147483647) g 3 7 rfl
  have b16 := gi_b (lo := 0) (hi := 3) g 238 7 rfl
  have b17 := gi_b (lo := -2147483648) (hi := 2147483647) g 3 8 rfl
  have b18 := gi_b (lo := 0) (hi := 999) g 238 8 rfl
  have b19 := gi_b (lo := -2147483648) (hi := 2147483647) g 3 9 rfl
  have b20 := gi_b (lo := 0) (hi := 999) g 238 9 rfl
  have b21 := gi_b (lo := -2147483648) (hi := 2147483647) g 63 5 rfl
  have b22 := gi_b (lo := 0) (hi := 12) g 18 7 rfl
  have b23 := gi_b (lo := 0) (hi := 12) g 66 1 rfl
  have b24 := gi_b (lo := 0) (hi := 1) g 0 12 rfl
  have b25 := gi_b (lo := 0) (hi := 1) g 236 21 rfl
  have bl_ := gi_b (lo := 0) (hi := 800) g 1 1 rfl
  have tb0 : BufC (h 2) (h 1 1) h := ⟨fun _ => rfl, rfl, by omega, by omega⟩
  have b26 := gi_b (lo := 0) (hi := 6) g 238 98 rfl
  have b27 := gi_b (lo := 0) (hi := 6) g 238 99 rfl
  have b28 := gi_b (lo := 0) (hi := 6) g 238 100 rfl
  have b29 := gi_b (lo := 0) (hi := 6) g 238 101 rfl
  have b30 := gi_b (lo := 0) (hi := 3) g 238 102 rfl
  have b31 := gi_b (lo := 0) (hi := 12) g 238 106 rfl
  have b32 := gi_b (lo := 0) (hi := 12) g 238 73 rfl
  have b33 := gi_b (lo := 0) (hi := 9999) g 238 119 rfl
  have b34 := gi_b (lo := 0) (hi := 9999) g 238 67 rfl
  have b35 := gi_b (lo := 0) (hi := 9) g 238 69 rfl
  have b36 := gi_b (lo := 0) (hi := 6) g 241 98 rfl
  have b37 := gi_b (lo := 0) (hi := 6) g 241 99 rfl
  have b38 := gi_b (lo := 0) (hi := 6) g 241 100 rfl
  have b39 := gi_b (lo := 0) (hi := 6) g 241 101 rfl
  have b40 := gi_b (lo := 0) (hi := 3) g 241 102 rfl
  have b41 := gi_b (lo := 0) (hi := 12) g 241 106 rfl
  have b42 := gi_b (lo := 0) (hi := 12) g 241 73 rfl
  have b43 := gi_b (lo := 0) (hi := 12) g 241 2 rfl
  have b44 := gi_b (lo := 0) (hi := 9999) g 241 119 rfl
  have b45 := gi_b (lo := 0) (hi := 9999) g 241 67 rfl
  have b46 := gi_b (lo := 0) (hi := 9) g 241 69 rfl
  have b47 := gi_b (lo := 0) (hi := 9) g 241 5 rfl
  have b48 := gi_b (lo := 0) (hi := 800) g 1 1 rfl
  have b49 := gi_b (lo := 0) (hi := 800) g 236 2 rfl
  have b50 := gi_b (lo := -2147483648) (hi := 2147483647) g 1 2 rfl
  have b51 := gi_b (lo := -2147483648) (hi := 2147483647) g 236 10 rfl
  have b52 := gi_b (lo := -2147483648) (hi := 2147483647) g 1 3 rfl
  have b53 := gi_b (lo := -2147483648) (hi := 2147483647) g 236 11 rfl
  refine wi_aload_n (i := 1) (x := 0) (nx := 1210) (r1 := 0) (r2 := 0) (r3 := 0) rfl rfl ?_
  refine wi_aload_n (i := 0) (x := 1000000) (nx := 1211) (r1 := 0) (r2 := 0) (r3 := 0) rfl rfl ?_
  refine wi_iload (i := 4) (e := i) (nx := 1213) (r1 := 0) (r2 := 0) (r3 := 0) rfl rfl ?_
  refine wi_iconst (n := 1) (nx := 1214) (r1 := 0) (r2 := 0) (r3 := 0) rfl ?_
  refine wr_add (nx := 1215) (r1 := 0) (r2 := 0) (r3 := 0) rfl (fun e54 (fe54 : e54 = i + 1) => ?_)
  obtain ⟨i55, ei55⟩ : ∃ q : Nat, e54 = (q : Int) := ⟨(e54).toNat, by omega⟩
  have s56 := sc_b (xs i55)
  refine wr_sc (a := e54) (f := i55) (nx := 1216) (r1 := 0) (r2 := 0) (r3 := 0) rfl (by omega) (by omega) hL ?_
  refine wi_aload_n (i := 3) (x := 259) (nx := 1217) (r1 := 0) (r2 := 0) (r3 := 0) rfl rfl ?_
  refine wi_S (rest := []) (as := [.ref 0, vi ((xs i55).toInt), .ref 259]) (nx := 1220) (r1 := 22) (r2 := 19) (r3 := 0) rfl rfl rfl (of_decide_eq_true rfl) rfl rfl (of_decide_eq_true rfl) (of_decide_eq_true rfl) ?_
  refine wi_aload_n (i := 2) (x := 259) (nx := 1) (r1 := 0) (r2 := 0) (r3 := 0) rfl rfl ?_
  refine wi_iconst (n := 0) (nx := 2) (r1 := 0) (r2 := 0) (r3 := 0) rfl ?_
  refine wi_aload_n (i := 0) (x := 0) (nx := 3) (r1 := 0) (r2 := 0) (r3 := 0) rfl rfl ?_
  refine wi_iload_n (i := 1) (e := (xs i55).toInt) (nx := 4) (r1 := 0) (r2 := 0) (r3 := 0) rfl rfl ?_
  refine wr_V (k0 := 0) (rest := [vi 0, .ref 259]) (as := [.ref 0, vi ((xs i55).toInt)]) (nx := 7) (r1 := 86) (r2 := 1) (r3 := 0) rfl rfl rfl (of_decide_eq_true rfl) rfl rfl (by decide) rfl rfl (of_decide_eq_true rfl) (of_decide_eq_true rfl) ?_
  refine ct_86_0 hcr hr  g ((xs i55).toInt) (by omega)  (fun z58  (fz58 : -1 ≤ z58 ∧ z58 ≤ 3) => ?_) ?_
  ·
    refine wk_i ?_
    refine wi_i2l (nx := 8) (r1 := 0) (r2 := 0) (r3 := 0) rfl (by omega) ?_
    refine wr_ls (k0 := 259) (a := 0) (f := 0) (x := z58) (bl := -9223372036854775808) (bh := 9223372036854775807) (nx := 9) (r1 := 0) (r2 := 0) (r3 := 0) rfl (by decide) rfl (by omega) (by omega) (by decide) g rfl (by omega) (fun h59 g59 w59 u59 => ?_)
    refine wi_goto (nx := 12) (r1 := 15) (r2 := 0) (r3 := 0) rfl ?_
    refine wi_iconst (n := 0) (nx := 16) (r1 := 0) (r2 := 0) (r3 := 0) rfl ?_
    refine wi_ireturn (nx := 17) (r1 := 0) (r2 := 0) (r3 := 0) rfl rfl ?_
    refine wk_i ?_
    refine wi_istore (i := 5) (e := 0) (lo2 := [(5, vi 0), (0, .ref 1000000), (1, .ref 0), (2, .ref 236), (3, .ref 259), (4, vi i)]) (nx := 1222) (r1 := 0) (r2 := 0) (r3 := 0) rfl rfl ?_
    refine wi_aload_n (i := 2) (x := 236) (nx := 1223) (r1 := 0) (r2 := 0) (r3 := 0) rfl rfl ?_
    refine wi_aload_n (i := 0) (x := 1000000) (nx := 1224) (r1 := 0) (r2 := 0) (r3 := 0) rfl rfl ?_
    refine wi_iload (i := 4) (e := i) (nx := 1226) (r1 := 0) (r2 := 0) (r3 := 0) rfl rfl ?_
    refine wi_iconst (n := 1) (nx := 1227) (r1 := 0) (r2 := 0) (r3 := 0) rfl ?_
    refine wr_add (nx := 1228) (r1 := 0) (r2 := 0) (r3 := 0) rfl (fun e60 (fe60 : e60 = i + 1) => ?_)
    refine wr_sc (a := e60) (f := i55) (nx := 1229) (r1 := 0) (r2 := 0) (r3 := 0) rfl (by omega) (by omega) hL ?_
    refine wr_V (k0 := 236) (rest := []) (as := [.ref 236, vi ((xs i55).toInt)]) (nx := 1232) (r1 := 296) (r2 := 1) (r3 := 11) rfl rfl rfl (of_decide_eq_true rfl) rfl rfl (by decide) rfl rfl (of_decide_eq_true rfl) (of_decide_eq_true rfl) ?_
    refine ct_296_236 hcr  g59 ((xs i55).toInt) (by omega)  (fun h61 z62 g61 u61 (fz62 : -1 ≤ z62 ∧ z62 ≤ 3) => ?_)
    refine wk_i ?_
    refine wi_istore (i := 6) (e := z62) (lo2 := [(6, vi z62), (5, vi 0), (0, .ref 1000000), (1, .ref 0), (2, .ref 236), (3, .ref 259), (4, vi i)]) (nx := 1234) (r1 := 0) (r2 := 0) (r3 := 0) rfl rfl ?_
    refine wi_goto (nx := 1237) (r1 := 1501) (r2 := 0) (r3 := 0) rfl ?_
    refine wp.lo (lo := [(0, .ref 1000000), (1, .ref 0), (2, .ref 236), (3, .ref 259), (4, vi i)]) ⟨rfl, rfl, rfl, rfl, rfl, trivial⟩ rfl ?_
    have e63 : h61 238 98 = h 238 98 := ((u61 238 98 rfl).trans (u59 238 98 rfl))
    have e64 : h61 238 99 = h 238 99 := ((u61 238 99 rfl).trans (u59 238 99 rfl))
    have e65 : h61 238 100 = h 238 100 := ((u61 238 100 rfl).trans (u59 238 100 rfl))
    have e66 : h61 238 101 = h 238 101 := ((u61 238 101 rfl).trans (u59 238 101 rfl))
    have e67 : h61 238 102 = h 238 102 := ((u61 238 102 rfl).trans (u59 238 102 rfl))
    have e68 : h61 238 106 = h 238 106 := ((u61 238 106 rfl).trans (u59 238 106 rfl))
    have e69 : h61 238 73 = h 238 73 := ((u61 238 73 rfl).trans (u59 238 73 rfl))
    have e70 : h61 238 2 = h 238 2 := ((u61 238 2 rfl).trans (u59 238 2 rfl))
    have e71 : h61 238 119 = h 238 119 := ((u61 238 119 rfl).trans (u59 238 119 rfl))
    have e72 : h61 238 67 = h 238 67 := ((u61 238 67 rfl).trans (u59 238 67 rfl))
    have e73 : h61 238 69 = h 238 69 := ((u61 238 69 rfl).trans (u59 238 69 rfl))
    have e74 : h61 238 5 = h 238 5 := ((u61 238 5 rfl).trans (u59 238 5 rfl))
    have e75 : h61 241 98 = h 241 98 := ((u61 241 98 rfl).trans (u59 241 98 rfl))
    have e76 : h61 241 99 = h 241 99 := ((u61 241 99 rfl).trans (u59 241 99 rfl))
    have e77 : h61 241 100 = h 241 100 := ((u61 241 100 rfl).trans (u59 241 100 rfl))
    have e78 : h61 241 101 = h 241 101 := ((u61 241 101 rfl).trans (u59 241 101 rfl))
    have e79 : h61 241 102 = h 241 102 := ((u61 241 102 rfl).trans (u59 241 102 rfl))
    have e80 : h61 241 106 = h 241 106 := ((u61 241 106 rfl).trans (u59 241 106 rfl))
    have e81 : h61 241 73 = h 241 73 := ((u61 241 73 rfl).trans (u59 241 73 rfl))
    have e82 : h61 241 2 = h 241 2 := ((u61 241 2 rfl).trans (u59 241 2 rfl))
    have e83 : h61 241 119 = h 241 119 := ((u61 241 119 rfl).trans (u59 241 119 rfl))
    have e84 : h61 241 67 = h 241 67 := ((u61 241 67 rfl).trans (u59 241 67 rfl))
    have e85 : h61 241 69 = h 241 69 := ((u61 241 69 rfl).trans (u59 241 69 rfl))
    have e86 : h61 241 5 = h 241 5 := ((u61 241 5 rfl).trans (u59 241 5 rfl))
    have e87 : h61 1 1 = h 1 1 := ((u61 1 1 rfl).trans (u59 1 1 rfl))
    have e88 : h61 236 2 = h 236 2 := ((u61 236 2 rfl).trans (u59 236 2 rfl))
    have e89 : h61 1 2 = h 1 2 := ((u61 1 2 rfl).trans (u59 1 2 rfl))
    have e90 : h61 236 10 = h 236 10 := ((u61 236 10 rfl).trans (u59 236 10 rfl))
    have e91 : h61 1 3 = h 1 3 := ((u61 1 3 rfl).trans (u59 1 3 rfl))
    have e92 : h61 236 11 = h 236 11 := ((u61 236 11 rfl).trans (u59 236 11 rfl))
    have gp93 := GPH.fr u59 rfl gp0
    have gp94 := GPH.fr u61 rfl gp93
    have b95 := gi_b (lo := 0) (hi := 5) g 241 0 rfl
    have b96 := gi_b (lo := 0) (hi := 4) g 241 1 rfl
    have gs97 := GPS.fr u59 rfl gs0
    have gs98 := GPS.fr u61 rfl gs97
    have e99 : h61 0 12 = h 0 12 := ((u61 0 12 rfl).trans (u59 0 12 rfl))
    have e100 : h61 236 21 = h 236 21 := ((u61 236 21 rfl).trans (u59 236 21 rfl))
    have e101 : h61 63 5 = h 63 5 := ((u61 63 5 rfl).trans (u59 63 5 rfl))
    have e102 : h61 18 16 = h 18 16 := ((u61 18 16 rfl).trans (u59 18 16 rfl))
    have e103 : h61 18 7 = h 18 7 := ((u61 18 7 rfl).trans (u59 18 7 rfl))
    have e104 : h61 3 2 = h 3 2 := ((u61 3 2 rfl).trans (u59 3 2 rfl))
    have e105 : h61 66 1 = h 66 1 := ((u61 66 1 rfl).trans (u59 66 1 rfl))
    have b106 := gi_b (lo := 0) (hi := 6) g 73 1 rfl
    have e107 : h61 73 1 = h 73 1 := ((u61 73 1 rfl).trans (u59 73 1 rfl))
    have b108 := gi_b (lo := 0) (hi := 6) g 73 2 rfl
    have e109 : h61 73 2 = h 73 2 := ((u61 73 2 rfl).trans (u59 73 2 rfl))
    have b110 := gi_b (lo := 0) (hi := 6) g 236 22 rfl
    have e111 : h61 236 22 = h 236 22 := ((u61 236 22 rfl).trans (u59 236 22 rfl))
    have b112 := gi_b (lo := 0) (hi := 12) g 210 2 rfl
    have e113 : h61 210 2 = h 210 2 := ((u61 210 2 rfl).trans (u59 210 2 rfl))
    have q116 : h61 8 = h 8 := funext (fun i => ((u61 8 i (fo_no_ok (by decide) i)).trans (u59 8 i rfl)))
    have q117 : h61 7 = h 7 := funext (fun i => ((u61 7 i (fo_no_ok (by decide) i)).trans (u59 7 i rfl)))
    have q118 : h61 19 = h 19 := funext (fun i => ((u61 19 i (fo_no_ok (by decide) i)).trans (u59 19 i rfl)))
    have q119 : h61 67 = h 67 := funext (fun i => ((u61 67 i (fo_no_ok (by decide) i)).trans (u59 67 i rfl)))
    have ml115 : MCL h61 := MCL.mv mi0.1 q116 q117 q118 q119 (by omega) (by omega) (by omega) (by omega)
    have q121 : h61 69 = h 69 := funext (fun i => ((u61 69 i (fo_no_ok (by decide) i)).trans (u59 69 i rfl)))
    have q122 : h61 70 = h 70 := funext (fun i => ((u61 70 i (fo_no_ok (by decide) i)).trans (u59 70 i rfl)))
    have nb120 : NBc (h61 69) (h61 70) := by rw [q121, q122]; exact mi0.2.2
    have q123 : h61 8 = h 8 := funext (fun i => ((u61 8 i (fo_no_ok (by decide) i)).trans (u59 8 i rfl)))
    have q124 : h61 7 = h 7 := funext (fun i => ((u61 7 i (fo_no_ok (by decide) i)).trans (u59 7 i rfl)))
    have mi114 : MCI h61 := ⟨ml115, HIv.mv mi0.2.1 q123 q124 (by omega) (by omega) (sv_seven (P := fun x => ∀ i, h61 (76 + 19 * x) i = h (76 + 19 * x) i) (fun i => ((u61 76 i (fn_a (by decide) fn_0)).trans (u59 76 i (fn_a (by omega) fn_0)))) (fun i => ((u61 95 i (fn_a (by decide) fn_0)).trans (u59 95 i (fn_a (by omega) fn_0)))) (fun i => ((u61 114 i (fn_a (by decide) fn_0)).trans (u59 114 i (fn_a (by omega) fn_0)))) (fun i => ((u61 133 i (fn_a (by decide) fn_0)).trans (u59 133 i (fn_a (by omega) fn_0)))) (fun i => ((u61 152 i (fn_a (by decide) fn_0)).trans (u59 152 i (fn_a (by omega) fn_0)))) (fun i => ((u61 171 i (fn_a (by decide) fn_0)).trans (u59 171 i (fn_a (by omega) fn_0)))) (fun i => ((u61 190 i (fn_a (by decide) fn_0)).trans (u59 190 i (fn_a (by omega) fn_0))))) (by omega) (by omega), nb120⟩
    have gq125 := GQS.fr u59 rfl gq0
    have gq126 := GQS.fr u61 rfl gq125
    have q127 : h61 8 = h 8 := funext (fun i => ((u61 8 i (fo_no_ok (by decide) i)).trans (u59 8 i rfl)))
    have q128 : h61 7 = h 7 := funext (fun i => ((u61 7 i (fo_no_ok (by decide) i)).trans (u59 7 i rfl)))
    have q129 : h61 215 = h 215 := funext (fun i => ((u61 215 i (fo_no_ok (by decide) i)).trans (u59 215 i rfl)))
    have q130 : h61 218 = h 218 := funext (fun i => ((u61 218 i (fo_no_ok (by decide) i)).trans (u59 218 i rfl)))
    have q131 : h61 214 = h 214 := funext (fun i => ((u61 214 i (fo_no_ok (by decide) i)).trans (u59 214 i rfl)))
    have q132 : h61 241 = h 241 := funext (fun i => ((u61 241 i (fo_no_ok (by decide) i)).trans (u59 241 i rfl)))
    exact k h61 b c ⟨⟨g61, (show h61 1 1 = h61 236 2 by omega), (RS.i0 (f := h61 238) (by refine ⟨?_, ?_, ?_, ?_, ?_⟩ <;> omega)), (RS.i0 (f := h61 241) (by refine ⟨?_, ?_, ?_, ?_, ?_⟩ <;> omega)), gp94, (BRh.keep br0 (fun i => ((u61 2 i (fn_a (by decide) fn_0)).trans (u59 2 i (fn_a (by omega) fn_0)))) (fun i => ((u61 237 i (fn_a (by decide) fn_0)).trans (u59 237 i (fn_a (by omega) fn_0)))) (by omega)), (show h61 1 2 = h61 236 10 by omega), (show h61 1 3 = h61 236 11 by omega), (SVx.keep sv0 (by omega) (fun i _ => ((u61 3 i (fn_a (by decide) fn_0)).trans (u59 3 i (fn_a (by omega) fn_0)))) (fun i _ => ((u61 5 i (fn_a (by decide) fn_0)).trans (u59 5 i (fn_a (by omega) fn_0)))) (fun i _ => ((u61 6 i (fn_a (by decide) fn_0)).trans (u59 6 i (fn_a (by omega) fn_0)))) (fun i _ => ((u61 8 i (fn_a (by decide) fn_0)).trans (u59 8 i (fn_a (by omega) fn_0)))) (fun i _ => ((u61 238 i (fn_a (by decide) fn_0)).trans (u59 238 i (fn_a (by omega) fn_0))))), (show h61 0 12 = h61 236 21 by omega), (fun e => (SVx.keep (ss0 (by omega)) (by omega) (fun i _ => ((u61 210 i (fn_a (by decide) fn_0)).trans (u59 210 i (fn_a (by omega) fn_0)))) (fun i _ => ((u61 212 i (fn_a (by decide) fn_0)).trans (u59 212 i (fn_a (by omega) fn_0)))) (fun i _ => ((u61 213 i (fn_a (by decide) fn_0)).trans (u59 213 i (fn_a (by omega) fn_0)))) (fun i _ => ((u61 215 i (fn_a (by decide) fn_0)).trans (u59 215 i (fn_a (by omega) fn_0)))) (fun i _ => ((u61 241 i (fn_a (by decide) fn_0)).trans (u59 241 i (fn_a (by omega) fn_0)))))), gs98, mi114, (show h61 63 5 ≤ h61 18 16 by omega), (show (h61 63 5) < (h61 18 16) ∨ ((h61 18 7) ≤ (h61 3 2) ∧ (h61 66 1) = (h61 3 2) - (h61 18 7)) ∨ ((h61 3 2) < (h61 18 7) ∧ (h61 66 1) = 0) by omega), gq126, (MR.mv mr0 (MSN.then (MSN.refl) (fun i _ => ((u61 238 i (fn_a (by decide) fn_0)).trans (u59 238 i (fn_a (by omega) fn_0))))) (by omega) q127 q128 (by omega)), (fun e => SM.mv (sm0 (by omega)) q129 q130 q131 (by omega) q132)⟩, (by omega)⟩ (by omega) (by omega)
  ·
    refine wk_h 12 (by decide) rfl ?_
    refine wr_astx (i := 3) (lo2 := [(3, .retAddr 0), (0, .ref 0), (1, vi ((xs i55).toInt)), (2, .ref 259)]) (nx := 13) (r1 := 0) (r2 := 0) (r3 := 0) rfl rfl ?_
    refine wi_iconst (n := 1) (nx := 14) (r1 := 0) (r2 := 0) (r3 := 0) rfl ?_
    refine wi_ireturn (nx := 15) (r1 := 0) (r2 := 0) (r3 := 0) rfl rfl ?_
    refine wk_i ?_
    refine wi_istore (i := 5) (e := 1) (lo2 := [(5, vi 1), (0, .ref 1000000), (1, .ref 0), (2, .ref 236), (3, .ref 259), (4, vi i)]) (nx := 1222) (r1 := 0) (r2 := 0) (r3 := 0) rfl rfl ?_
    refine wi_aload_n (i := 2) (x := 236) (nx := 1223) (r1 := 0) (r2 := 0) (r3 := 0) rfl rfl ?_
    refine wi_aload_n (i := 0) (x := 1000000) (nx := 1224) (r1 := 0) (r2 := 0) (r3 := 0) rfl rfl ?_
    refine wi_iload (i := 4) (e := i) (nx := 1226) (r1 := 0) (r2 := 0) (r3 := 0) rfl rfl ?_
    refine wi_iconst (n := 1) (nx := 1227) (r1 := 0) (r2 := 0) (r3 := 0) rfl ?_
    refine wr_add (nx := 1228) (r1 := 0) (r2 := 0) (r3 := 0) rfl (fun e59 (fe59 : e59 = i + 1) => ?_)
    refine wr_sc (a := e59) (f := i55) (nx := 1229) (r1 := 0) (r2 := 0) (r3 := 0) rfl (by omega) (by omega) hL ?_
    refine wr_V (k0 := 236) (rest := []) (as := [.ref 236, vi ((xs i55).toInt)]) (nx := 1232) (r1 := 296) (r2 := 1) (r3 := 11) rfl rfl rfl (of_decide_eq_true rfl) rfl rfl (by decide) rfl rfl (of_decide_eq_true rfl) (of_decide_eq_true rfl) ?_
    refine ct_296_236 hcr  g ((xs i55).toInt) (by omega)  (fun h60 z61 g60 u60 (fz61 : -1 ≤ z61 ∧ z61 ≤ 3) => ?_)
    refine wk_i ?_
    refine wi_istore (i := 6) (e := z61) (lo2 := [(6, vi z61), (5, vi 1), (0, .ref 1000000), (1, .ref 0), (2, .ref 236), (3, .ref 259), (4, vi i)]) (nx := 1234) (r1 := 0) (r2 := 0) (r3 := 0) rfl rfl ?_
    refine wi_goto (nx := 1237) (r1 := 1501) (r2 := 0) (r3 := 0) rfl ?_
    refine wp.lo (lo := [(0, .ref 1000000), (1, .ref 0), (2, .ref 236), (3, .ref 259), (4, vi i)]) ⟨rfl, rfl, rfl, rfl, rfl, trivial⟩ rfl ?_
    have e62 : h60 238 98 = h 238 98 := (u60 238 98 rfl)
    have e63 : h60 238 99 = h 238 99 := (u60 238 99 rfl)
    have e64 : h60 238 100 = h 238 100 := (u60 238 100 rfl)
    have e65 : h60 238 101 = h 238 101 := (u60 238 101 rfl)
    have e66 : h60 238 102 = h 238 102 := (u60 238 102 rfl)
    have e67 : h60 238 106 = h 238 106 := (u60 238 106 rfl)
    have e68 : h60 238 73 = h 238 73 := (u60 238 73 rfl)
    have e69 : h60 238 2 = h 238 2 := (u60 238 2 rfl)
    have e70 : h60 238 119 = h 238 119 := (u60 238 119 rfl)
    have e71 : h60 238 67 = h 238 67 := (u60 238 67 rfl)
    have e72 : h60 238 69 = h 238 69 := (u60 238 69 rfl)
    have e73 : h60 238 5 = h 238 5 := (u60 238 5 rfl)
    have e74 : h60 241 98 = h 241 98 := (u60 241 98 rfl)
    have e75 : h60 241 99 = h 241 99 := (u60 241 99 rfl)
    have e76 : h60 241 100 = h 241 100 := (u60 241 100 rfl)
    have e77 : h60 241 101 = h 241 101 := (u60 241 101 rfl)
    have e78 : h60 241 102 = h 241 102 := (u60 241 102 rfl)
    have e79 : h60 241 106 = h 241 106 := (u60 241 106 rfl)
    have e80 : h60 241 73 = h 241 73 := (u60 241 73 rfl)
    have e81 : h60 241 2 = h 241 2 := (u60 241 2 rfl)
    have e82 : h60 241 119 = h 241 119 := (u60 241 119 rfl)
    have e83 : h60 241 67 = h 241 67 := (u60 241 67 rfl)
    have e84 : h60 241 69 = h 241 69 := (u60 241 69 rfl)
    have e85 : h60 241 5 = h 241 5 := (u60 241 5 rfl)
    have e86 : h60 1 1 = h 1 1 := (u60 1 1 rfl)
    have e87 : h60 236 2 = h 236 2 := (u60 236 2 rfl)
    have e88 : h60 1 2 = h 1 2 := (u60 1 2 rfl)
    have e89 : h60 236 10 = h 236 10 := (u60 236 10 rfl)
    have e90 : h60 1 3 = h 1 3 := (u60 1 3 rfl)
    have e91 : h60 236 11 = h 236 11 := (u60 236 11 rfl)
    have gp92 := GPH.fr u60 rfl gp0
    have b93 := gi_b (lo := 0) (hi := 5) g 241 0 rfl
    have b94 := gi_b (lo := 0) (hi := 4) g 241 1 rfl
    have gs95 := GPS.fr u60 rfl gs0
    have e96 : h60 0 12 = h 0 12 := (u60 0 12 rfl)
    have e97 : h60 236 21 = h 236 21 := (u60 236 21 rfl)
    have e98 : h60 63 5 = h 63 5 := (u60 63 5 rfl)
    have e99 : h60 18 16 = h 18 16 := (u60 18 16 rfl)
    have e100 : h60 18 7 = h 18 7 := (u60 18 7 rfl)
    have e101 : h60 3 2 = h 3 2 := (u60 3 2 rfl)
    have e102 : h60 66 1 = h 66 1 := (u60 66 1 rfl)
    have b103 := gi_b (lo := 0) (hi := 6) g 73 1 rfl
    have e104 : h60 73 1 = h 73 1 := (u60 73 1 rfl)
    have b105 := gi_b (lo := 0) (hi := 6) g 73 2 rfl
    have e106 : h60 73 2 = h 73 2 := (u60 73 2 rfl)
    have b107 := gi_b (lo := 0) (hi := 6) g 236 22 rfl
    have e108 : h60 236 22 = h 236 22 := (u60 236 22 rfl)
    have b109 := gi_b (lo := 0) (hi := 12) g 210 2 rfl
    have e110 : h60 210 2 = h 210 2 := (u60 210 2 rfl)
    have q113 : h60 8 = h 8 := funext (fun i => (u60 8 i (fo_no_ok (by decide) i)))
    have q114 : h60 7 = h 7 := funext (fun i => (u60 7 i (fo_no_ok (by decide) i)))
    have q115 : h60 19 = h 19 := funext (fun i => (u60 19 i (fo_no_ok (by decide) i)))
    have q116 : h60 67 = h 67 := funext (fun i => (u60 67 i (fo_no_ok (by decide) i)))
    have ml112 : MCL h60 := MCL.mv mi0.1 q113 q114 q115 q116 (by omega) (by omega) (by omega) (by omega)
    have q118 : h60 69 = h 69 := funext (fun i => (u60 69 i (fo_no_ok (by decide) i)))
    have q119 : h60 70 = h 70 := funext (fun i => (u60 70 i (fo_no_ok (by decide) i)))
    have nb117 : NBc (h60 69) (h60 70) := by rw [q118, q119]; exact mi0.2.2
    have q120 : h60 8 = h 8 := funext (fun i => (u60 8 i (fo_no_ok (by decide) i)))
    have q121 : h60 7 = h 7 := funext (fun i => (u60 7 i (fo_no_ok (by decide) i)))
    have mi111 : MCI h60 := ⟨ml112, HIv.mv mi0.2.1 q120 q121 (by omega) (by omega) (sv_seven (P := fun x => ∀ i, h60 (76 + 19 * x) i = h (76 + 19 * x) i) (fun i => (u60 76 i (fn_a (by decide) fn_0))) (fun i => (u60 95 i (fn_a (by decide) fn_0))) (fun i => (u60 114 i (fn_a (by decide) fn_0))) (fun i => (u60 133 i (fn_a (by decide) fn_0))) (fun i => (u60 152 i (fn_a (by decide) fn_0))) (fun i => (u60 171 i (fn_a (by decide) fn_0))) (fun i => (u60 190 i (fn_a (by decide) fn_0)))) (by omega) (by omega), nb117⟩
    have gq122 := GQS.fr u60 rfl gq0
    have q123 : h60 8 = h 8 := funext (fun i => (u60 8 i (fo_no_ok (by decide) i)))
    have q124 : h60 7 = h 7 := funext (fun i => (u60 7 i (fo_no_ok (by decide) i)))
    have q125 : h60 215 = h 215 := funext (fun i => (u60 215 i (fo_no_ok (by decide) i)))
    have q126 : h60 218 = h 218 := funext (fun i => (u60 218 i (fo_no_ok (by decide) i)))
    have q127 : h60 214 = h 214 := funext (fun i => (u60 214 i (fo_no_ok (by decide) i)))
    have q128 : h60 241 = h 241 := funext (fun i => (u60 241 i (fo_no_ok (by decide) i)))
    exact k h60 (b - 1) (c - 6) ⟨⟨g60, (show h60 1 1 = h60 236 2 by omega), (RS.i0 (f := h60 238) (by refine ⟨?_, ?_, ?_, ?_, ?_⟩ <;> omega)), (RS.i0 (f := h60 241) (by refine ⟨?_, ?_, ?_, ?_, ?_⟩ <;> omega)), gp92, (BRh.keep br0 (fun i => (u60 2 i (fn_a (by decide) fn_0))) (fun i => (u60 237 i (fn_a (by decide) fn_0))) (by omega)), (show h60 1 2 = h60 236 10 by omega), (show h60 1 3 = h60 236 11 by omega), (SVx.keep sv0 (by omega) (fun i _ => (u60 3 i (fn_a (by decide) fn_0))) (fun i _ => (u60 5 i (fn_a (by decide) fn_0))) (fun i _ => (u60 6 i (fn_a (by decide) fn_0))) (fun i _ => (u60 8 i (fn_a (by decide) fn_0))) (fun i _ => (u60 238 i (fn_a (by decide) fn_0)))), (show h60 0 12 = h60 236 21 by omega), (fun e => (SVx.keep (ss0 (by omega)) (by omega) (fun i _ => (u60 210 i (fn_a (by decide) fn_0))) (fun i _ => (u60 212 i (fn_a (by decide) fn_0))) (fun i _ => (u60 213 i (fn_a (by decide) fn_0))) (fun i _ => (u60 215 i (fn_a (by decide) fn_0))) (fun i _ => (u60 241 i (fn_a (by decide) fn_0))))), gs95, mi111, (show h60 63 5 ≤ h60 18 16 by omega), (show (h60 63 5) < (h60 18 16) ∨ ((h60 18 7) ≤ (h60 3 2) ∧ (h60 66 1) = (h60 3 2) - (h60 18 7)) ∨ ((h60 3 2) < (h60 18 7) ∧ (h60 66 1) = 0) by omega), gq122, (MR.mv mr0 (MSN.then (MSN.refl) (fun i _ => (u60 238 i (fn_a (by decide) fn_0)))) (by omega) q123 q124 (by omega)), (fun e => SM.mv (sm0 (by omega)) q125 q126 q127 (by omega) q128)⟩, (by omega)⟩ (by omega) (by omega)
-- the law, case at 1237
set_option maxRecDepth 100000 in
set_option maxHeartbeats 100000000 in
theorem lc_1237 {L : Nat} {xs : Nat → Int32} {d b c : Nat} {h : hp} {cr : Nat → Nat → Option Nat} {Q : hp_Q} (hcr : CR cr) (hL : L ≤ 3072) (hr : 1 ≤ b ∧ 6 ≤ c) (i : Int) (I : LIm i h) (hi : 0 ≤ i ∧ i + 6 ≤ L) (k : ∀ (h2 : hp) (b2 c2 : Nat), LIm (i + 6) h2 → b ≤ b2 + 1 → c ≤ c2 + 6 → wp (md_xa (L, xs)) (d + 107) 0 (1501, [(0, .ref 1000000), (1, .ref 0), (2, .ref 236), (3, .ref 259), (4, vi i)], [], hp_w h2 cr, b2, c2) Q) : wp (md_xa (L, xs)) (d + 107) 0 (1237, [(0, .ref 1000000), (1, .ref 0), (2, .ref 236), (3, .ref 259), (4, vi i)], [], hp_w h cr, b, c) Q := by
  obtain ⟨⟨g, i11, r238, r241, gp0, br0, er2, er3, sv0, sf0, ss0, gs0, mi0, ml1, ml2, gq0, mr0, sm0⟩, ie0⟩ := I
  have r238e := r238.e0
  have r241e := r241.e0
  obtain ⟨⟨se0, se1, se2, se3, se4, se5, se6, se7, se8, se9⟩, -⟩ := id sv0
  have b1 := gi_b (lo := 0) (hi := 5) g 3 0 rfl
  have b2 := gi_b (lo := 0) (hi := 5) g 238 0 rfl
  have b3 := gi_b (lo := 0) (hi := 4) g 3 1 rfl
  have b4 := gi_b (lo := 0) (hi := 4) g 238 1 rfl
  have b5 := gi_b (lo := 0) (hi := 12) g 3 2 rfl
  have b6 := gi_b (lo := 0) (hi := 12) g 238 2 rfl
  have b7 := gi_b (lo := -2147483648) (hi := 2147483647) g 3 3 rfl
  have b8 := gi_b (lo := 0) (hi := 999) g 238 3 rfl
  have b9 := gi_b (lo := -2147483648) (hi := 2147483647) g 3 4 rfl
  have b10 := gi_b (lo := 0) (hi := 999) g 238 4 rfl
  have b11 := gi_b (lo := -2147483648) (hi := 2147483647) g 3 5 rfl
  have b12 := gi_b (lo := 0) (hi := 9) g 238 5 rfl
  have b13 := gi_b (lo := -2147483648) (hi := 2147483647) g 3 6 rfl
  have b14 := gi_b (lo := 0) (hi := 999) g 238 6 rfl
  have b15 := gi_b (lo := -2147483648) (hi := 2147483647) g 3 7 rfl
  have b16 := gi_b (lo := 0) (hi := 3) g 238 7 rfl
  have b17 := gi_b (lo := -2147483648) (hi := 2147483647) g 3 8 rfl
  have b18 := gi_b (lo := 0) (hi := 999) g 238 8 rfl
  have b19 := gi_b (lo := -2147483648) (hi := 2147483647) g 3 9 rfl
  have b20 := gi_b (lo := 0) (hi := 999) g 238 9 rfl
  have b21 := gi_b (lo := -2147483648) (hi := 2147483647) g 63 5 rfl
  have b22 := gi_b (lo := 0) (hi := 12) g 18 7 rfl
  have b23 := gi_b (lo := 0) (hi := 12) g 66 1 rfl
  have b24 := gi_b (lo := 0) (hi := 1) g 0 12 rfl
  have b25 := gi_b (lo := 0) (hi := 1) g 236 21 rfl
  have bl_ := gi_b (lo := 0) (hi := 800) g 1 1 rfl
  have tb0 : BufC (h 2) (h 1 1) h := ⟨fun _ => rfl, rfl, by omega, by omega⟩
  have b26 := gi_b (lo := 0) (hi := 6) g 238 98 rfl
  have b27 := gi_b (lo := 0) (hi := 6) g 238 99 rfl
  have b28 := gi_b (lo := 0) (hi := 6) g 238 100 rfl
  have b29 := gi_b (lo := 0) (hi := 6) g 238 101 rfl
  have b30 := gi_b (lo := 0) (hi := 3) g 238 102 rfl
  have b31 := gi_b (lo := 0) (hi := 12) g 238 106 rfl
  have b32 := gi_b (lo := 0) (hi := 12) g 238 73 rfl
  have b33 := gi_b (lo := 0) (hi := 9999) g 238 119 rfl
  have b34 := gi_b (lo := 0) (hi := 9999) g 238 67 rfl
  have b35 := gi_b (lo := 0) (hi := 9) g 238 69 rfl
  have b36 := gi_b (lo := 0) (hi := 6) g 241 98 rfl
  have b37 := gi_b (lo := 0) (hi := 6) g 241 99 rfl
  have b38 := gi_b (lo := 0) (hi := 6) g 241 100 rfl
  have b39 := gi_b (lo := 0) (hi := 6) g 241 101 rfl
  have b40 := gi_b (lo := 0) (hi := 3) g 241 102 rfl
  have b41 := gi_b (lo := 0) (hi := 12) g 241 106 rfl
  have b42 := gi_b (lo := 0) (hi := 12) g 241 73 rfl
  have b43 := gi_b (lo := 0) (hi := 12) g 241 2 rfl
  have b44 := gi_b (lo := 0) (hi := 9999) g 241 119 rfl
  have b45 := gi_b (lo := 0) (hi := 9999) g 241 67 rfl
  have b46 := gi_b (lo := 0) (hi := 9) g 241 69 rfl
  have b47 := gi_b (lo := 0) (hi := 9) g 241 5 rfl
  have b48 := gi_b (lo := 0) (hi := 800) g 1 1 rfl
  have b49 := gi_b (lo := 0) (hi := 800) g 236 2 rfl
  have b50 := gi_b (lo := -2147483648) (hi := 2147483647) g 1 2 rfl
  have b51 := gi_b (lo := -2147483648) (hi := 2147483647) g 236 10 rfl
  have b52 := gi_b (lo := -2147483648) (hi := 2147483647) g 1 3 rfl
  have b53 := gi_b (lo := -2147483648) (hi := 2147483647) g 236 11 rfl
  refine wi_aload_n (i := 1) (x := 0) (nx := 1238) (r1 := 0) (r2 := 0) (r3 := 0) rfl rfl ?_
  refine wr_V (k0 := 0) (rest := []) (as := [.ref 0]) (nx := 1241) (r1 := 49) (r2 := 0) (r3 := 0) rfl rfl rfl (of_decide_eq_true rfl) rfl rfl (by decide) rfl rfl (of_decide_eq_true rfl) (of_decide_eq_true rfl) ?_
  refine ct_49_0 hcr  g    (fun h54 z55 g54 u54 (fz55 : -2147483648 ≤ z55 ∧ z55 ≤ 2147483647) => ?_)
  refine wk_i ?_
  refine wi_pop (nx := 1242) (r1 := 0) (r2 := 0) (r3 := 0) rfl rfl ?_
  refine wi_aload_n (i := 2) (x := 236) (nx := 1243) (r1 := 0) (r2 := 0) (r3 := 0) rfl rfl ?_
  refine wr_V (k0 := 236) (rest := []) (as := [.ref 236]) (nx := 1246) (r1 := 297) (r2 := 0) (r3 := 11) rfl rfl rfl (of_decide_eq_true rfl) rfl rfl (by decide) rfl rfl (of_decide_eq_true rfl) (of_decide_eq_true rfl) ?_
  have e57 : h54 238 98 = h 238 98 := (u54 238 98 rfl)
  have e58 : h54 238 99 = h 238 99 := (u54 238 99 rfl)
  have e59 : h54 238 100 = h 238 100 := (u54 238 100 rfl)
  have e60 : h54 238 101 = h 238 101 := (u54 238 101 rfl)
  have e61 : h54 238 102 = h 238 102 := (u54 238 102 rfl)
  have e62 : h54 238 106 = h 238 106 := (u54 238 106 rfl)
  have e63 : h54 238 73 = h 238 73 := (u54 238 73 rfl)
  have e64 : h54 238 2 = h 238 2 := (u54 238 2 rfl)
  have e65 : h54 238 119 = h 238 119 := (u54 238 119 rfl)
  have e66 : h54 238 67 = h 238 67 := (u54 238 67 rfl)
  have e67 : h54 238 69 = h 238 69 := (u54 238 69 rfl)
  have e68 : h54 238 5 = h 238 5 := (u54 238 5 rfl)
  refine ct_297_236 hcr  g54   (show (h54 238 98) + (h54 238 99) + (h54 238 100) + (h54 238 101) + (h54 238 102) + (h54 238 106) = (h54 238 73) by omega) (show (h54 238 73) ≤ (h54 238 2) by omega) (show (h54 238 119) ≤ (h54 238 67) by omega) (show (h54 238 69) ≤ (h54 238 5) by omega) (show (h54 238 2) ≤ 12 * (h54 238 5) by omega) (fun h56 z69 g56 u56 (fz69 : -1 ≤ z69 ∧ z69 ≤ 9999) => ?_)
  refine wk_i ?_
  refine wi_pop (nx := 1247) (r1 := 0) (r2 := 0) (r3 := 0) rfl rfl ?_
  refine wi_goto (nx := 1250) (r1 := 1501) (r2 := 0) (r3 := 0) rfl ?_
  have e70 : h56 238 98 = h 238 98 := ((u56 238 98 rfl).trans (u54 238 98 rfl))
  have e71 : h56 238 99 = h 238 99 := ((u56 238 99 rfl).trans (u54 238 99 rfl))
  have e72 : h56 238 100 = h 238 100 := ((u56 238 100 rfl).trans (u54 238 100 rfl))
  have e73 : h56 238 101 = h 238 101 := ((u56 238 101 rfl).trans (u54 238 101 rfl))
  have e74 : h56 238 102 = h 238 102 := ((u56 238 102 rfl).trans (u54 238 102 rfl))
  have e75 : h56 238 106 = h 238 106 := ((u56 238 106 rfl).trans (u54 238 106 rfl))
  have e76 : h56 238 73 = h 238 73 := ((u56 238 73 rfl).trans (u54 238 73 rfl))
  have e77 : h56 238 2 = h 238 2 := ((u56 238 2 rfl).trans (u54 238 2 rfl))
  have e78 : h56 238 119 = h 238 119 := ((u56 238 119 rfl).trans (u54 238 119 rfl))
  have e79 : h56 238 67 = h 238 67 := ((u56 238 67 rfl).trans (u54 238 67 rfl))
  have e80 : h56 238 69 = h 238 69 := ((u56 238 69 rfl).trans (u54 238 69 rfl))
  have e81 : h56 238 5 = h 238 5 := ((u56 238 5 rfl).trans (u54 238 5 rfl))
  have e82 : h56 241 98 = h 241 98 := ((u56 241 98 rfl).trans (u54 241 98 rfl))
  have e83 : h56 241 99 = h 241 99 := ((u56 241 99 rfl).trans (u54 241 99 rfl))
  have e84 : h56 241 100 = h 241 100 := ((u56 241 100 rfl).trans (u54 241 100 rfl))
  have e85 : h56 241 101 = h 241 101 := ((u56 241 101 rfl).trans (u54 241 101 rfl))
  have e86 : h56 241 102 = h 241 102 := ((u56 241 102 rfl).trans (u54 241 102 rfl))
  have e87 : h56 241 106 = h 241 106 := ((u56 241 106 rfl).trans (u54 241 106 rfl))
  have e88 : h56 241 73 = h 241 73 := ((u56 241 73 rfl).trans (u54 241 73 rfl))
  have e89 : h56 241 2 = h 241 2 := ((u56 241 2 rfl).trans (u54 241 2 rfl))
  have e90 : h56 241 119 = h 241 119 := ((u56 241 119 rfl).trans (u54 241 119 rfl))
  have e91 : h56 241 67 = h 241 67 := ((u56 241 67 rfl).trans (u54 241 67 rfl))
  have e92 : h56 241 69 = h 241 69 := ((u56 241 69 rfl).trans (u54 241 69 rfl))
  have e93 : h56 241 5 = h 241 5 := ((u56 241 5 rfl).trans (u54 241 5 rfl))
  have e94 : h56 1 1 = h 1 1 := ((u56 1 1 rfl).trans (u54 1 1 rfl))
  have e95 : h56 236 2 = h 236 2 := ((u56 236 2 rfl).trans (u54 236 2 rfl))
  have e96 : h56 1 2 = h 1 2 := ((u56 1 2 rfl).trans (u54 1 2 rfl))
  have e97 : h56 236 10 = h 236 10 := ((u56 236 10 rfl).trans (u54 236 10 rfl))
  have e98 : h56 1 3 = h 1 3 := ((u56 1 3 rfl).trans (u54 1 3 rfl))
  have e99 : h56 236 11 = h 236 11 := ((u56 236 11 rfl).trans (u54 236 11 rfl))
  have gp100 := GPH.fr u54 rfl gp0
  have gp101 := GPH.fr u56 rfl gp100
  have b102 := gi_b (lo := 0) (hi := 5) g 241 0 rfl
  have b103 := gi_b (lo := 0) (hi := 4) g 241 1 rfl
  have gs104 := GPS.fr u54 rfl gs0
  have gs105 := GPS.fr u56 rfl gs104
  have e106 : h56 0 12 = h 0 12 := ((u56 0 12 rfl).trans (u54 0 12 rfl))
  have e107 : h56 236 21 = h 236 21 := ((u56 236 21 rfl).trans (u54 236 21 rfl))
  have e108 : h56 63 5 = h 63 5 := ((u56 63 5 rfl).trans (u54 63 5 rfl))
  have e109 : h56 18 16 = h 18 16 := ((u56 18 16 rfl).trans (u54 18 16 rfl))
  have e110 : h56 18 7 = h 18 7 := ((u56 18 7 rfl).trans (u54 18 7 rfl))
  have e111 : h56 3 2 = h 3 2 := ((u56 3 2 rfl).trans (u54 3 2 rfl))
  have e112 : h56 66 1 = h 66 1 := ((u56 66 1 rfl).trans (u54 66 1 rfl))
  have b113 := gi_b (lo := 0) (hi := 6) g 73 1 rfl
  have e114 : h56 73 1 = h 73 1 := ((u56 73 1 rfl).trans (u54 73 1 rfl))
  have b115 := gi_b (lo := 0) (hi := 6) g 73 2 rfl
  have e116 : h56 73 2 = h 73 2 := ((u56 73 2 rfl).trans (u54 73 2 rfl))
  have b117 := gi_b (lo := 0) (hi := 6) g 236 22 rfl
  have e118 : h56 236 22 = h 236 22 := ((u56 236 22 rfl).trans (u54 236 22 rfl))
  have b119 := gi_b (lo := 0) (hi := 12) g 210 2 rfl
  have e120 : h56 210 2 = h 210 2 := ((u56 210 2 rfl).trans (u54 210 2 rfl))
  have q123 : h56 8 = h 8 := funext (fun i => ((u56 8 i (fo_no_ok (by decide) i)).trans (u54 8 i (fo_no_ok (by decide) i))))
  have q124 : h56 7 = h 7 := funext (fun i => ((u56 7 i (fo_no_ok (by decide) i)).trans (u54 7 i (fo_no_ok (by decide) i))))
  have q125 : h56 19 = h 19 := funext (fun i => ((u56 19 i (fo_no_ok (by decide) i)).trans (u54 19 i (fo_no_ok (by decide) i))))
  have q126 : h56 67 = h 67 := funext (fun i => ((u56 67 i (fo_no_ok (by decide) i)).trans (u54 67 i (fo_no_ok (by decide) i))))
  have ml122 : MCL h56 := MCL.mv mi0.1 q123 q124 q125 q126 (by omega) (by omega) (by omega) (by omega)
  have q128 : h56 69 = h 69 := funext (fun i => ((u56 69 i (fo_no_ok (by decide) i)).trans (u54 69 i (fo_no_ok (by decide) i))))
  have q129 : h56 70 = h 70 := funext (fun i => ((u56 70 i (fo_no_ok (by decide) i)).trans (u54 70 i (fo_no_ok (by decide) i))))
  have nb127 : NBc (h56 69) (h56 70) := by rw [q128, q129]; exact mi0.2.2
  have q130 : h56 8 = h 8 := funext (fun i => ((u56 8 i (fo_no_ok (by decide) i)).trans (u54 8 i (fo_no_ok (by decide) i))))
  have q131 : h56 7 = h 7 := funext (fun i => ((u56 7 i (fo_no_ok (by decide) i)).trans (u54 7 i (fo_no_ok (by decide) i))))
  have mi121 : MCI h56 := ⟨ml122, HIv.mv mi0.2.1 q130 q131 (by omega) (by omega) (sv_seven (P := fun x => ∀ i, h56 (76 + 19 * x) i = h (76 + 19 * x) i) (fun i => ((u56 76 i (fo_nk rfl)).trans (u54 76 i (fo_nk rfl)))) (fun i => ((u56 95 i (fo_nk rfl)).trans (u54 95 i (fo_nk rfl)))) (fun i => ((u56 114 i (fo_nk rfl)).trans (u54 114 i (fo_nk rfl)))) (fun i => ((u56 133 i (fo_nk rfl)).trans (u54 133 i (fo_nk rfl)))) (fun i => ((u56 152 i (fo_nk rfl)).trans (u54 152 i (fo_nk rfl)))) (fun i => ((u56 171 i (fo_nk rfl)).trans (u54 171 i (fo_nk rfl)))) (fun i => ((u56 190 i (fo_nk rfl)).trans (u54 190 i (fo_nk rfl))))) (by omega) (by omega), nb127⟩
  have gq132 := GQS.fr u54 rfl gq0
  have gq133 := GQS.fr u56 rfl gq132
  have q134 : h56 8 = h 8 := funext (fun i => ((u56 8 i (fo_no_ok (by decide) i)).trans (u54 8 i (fo_no_ok (by decide) i))))
  have q135 : h56 7 = h 7 := funext (fun i => ((u56 7 i (fo_no_ok (by decide) i)).trans (u54 7 i (fo_no_ok (by decide) i))))
  have q136 : h56 215 = h 215 := funext (fun i => ((u56 215 i (fo_no_ok (by decide) i)).trans (u54 215 i (fo_no_ok (by decide) i))))
  have q137 : h56 218 = h 218 := funext (fun i => ((u56 218 i (fo_no_ok (by decide) i)).trans (u54 218 i (fo_no_ok (by decide) i))))
  have q138 : h56 214 = h 214 := funext (fun i => ((u56 214 i (fo_no_ok (by decide) i)).trans (u54 214 i (fo_no_ok (by decide) i))))
  have q139 : h56 241 = h 241 := funext (fun i => ((u56 241 i (fo_no_ok (by decide) i)).trans (u54 241 i (fo_no_ok (by decide) i))))
  exact k h56 b c ⟨⟨g56, (show h56 1 1 = h56 236 2 by omega), (RS.i0 (f := h56 238) (by refine ⟨?_, ?_, ?_, ?_, ?_⟩ <;> omega)), (RS.i0 (f := h56 241) (by refine ⟨?_, ?_, ?_, ?_, ?_⟩ <;> omega)), gp101, (BRh.keep br0 (fun i => ((u56 2 i (fo_nk rfl)).trans (u54 2 i (fo_nk rfl)))) (fun i => ((u56 237 i (fo_nk rfl)).trans (u54 237 i (fo_nk rfl)))) (by omega)), (show h56 1 2 = h56 236 10 by omega), (show h56 1 3 = h56 236 11 by omega), (SVx.keep sv0 (by omega) (fun i _ => ((u56 3 i (fo_nk rfl)).trans (u54 3 i (fo_nk rfl)))) (fun i _ => ((u56 5 i (fo_nk rfl)).trans (u54 5 i (fo_nk rfl)))) (fun i _ => ((u56 6 i (fo_nk rfl)).trans (u54 6 i (fo_nk rfl)))) (fun i _ => ((u56 8 i (fo_nk rfl)).trans (u54 8 i (fo_nk rfl)))) (fun i _ => ((u56 238 i (fo_nk rfl)).trans (u54 238 i (fo_nk rfl))))), (show h56 0 12 = h56 236 21 by omega), (fun e => (SVx.keep (ss0 (by omega)) (by omega) (fun i _ => ((u56 210 i (fo_nk rfl)).trans (u54 210 i (fo_nk rfl)))) (fun i _ => ((u56 212 i (fo_nk rfl)).trans (u54 212 i (fo_nk rfl)))) (fun i _ => ((u56 213 i (fo_nk rfl)).trans (u54 213 i (fo_nk rfl)))) (fun i _ => ((u56 215 i (fo_nk rfl)).trans (u54 215 i (fo_nk rfl)))) (fun i _ => ((u56 241 i (fo_nk rfl)).trans (u54 241 i (fo_nk rfl)))))), gs105, mi121, (show h56 63 5 ≤ h56 18 16 by omega), (show (h56 63 5) < (h56 18 16) ∨ ((h56 18 7) ≤ (h56 3 2) ∧ (h56 66 1) = (h56 3 2) - (h56 18 7)) ∨ ((h56 3 2) < (h56 18 7) ∧ (h56 66 1) = 0) by omega), gq133, (MR.mv mr0 (MSN.then (MSN.refl) (fun i _ => ((u56 238 i (fo_nk rfl)).trans (u54 238 i (fo_nk rfl))))) (by omega) q134 q135 (by omega)), (fun e => SM.mv (sm0 (by omega)) q136 q137 q138 (by omega) q139)⟩, (by omega)⟩ (by omega) (by omega)
-- the law, case at 1250
set_option maxRecDepth 100000 in
set_option maxHeartbeats 100000000 in
theorem lc_1250 {L : Nat} {xs : Nat → Int32} {d b c : Nat} {h : hp} {cr : Nat → Nat → Option Nat} {Q : hp_Q} (hcr : CR cr) (hL : L ≤ 3072) (hr : 1 ≤ b ∧ 6 ≤ c) (i : Int) (I : LIm i h) (hi : 0 ≤ i ∧ i + 6 ≤ L) (k : ∀ (h2 : hp) (b2 c2 : Nat), LIm (i + 6) h2 → b ≤ b2 + 1 → c ≤ c2 + 6 → wp (md_xa (L, xs)) (d + 107) 0 (1501, [(0, .ref 1000000), (1, .ref 0), (2, .ref 236), (3, .ref 259), (4, vi i)], [], hp_w h2 cr, b2, c2) Q) : wp (md_xa (L, xs)) (d + 107) 0 (1250, [(0, .ref 1000000), (1, .ref 0), (2, .ref 236), (3, .ref 259), (4, vi i)], [], hp_w h cr, b, c) Q := by
  obtain ⟨⟨g, i11, r238, r241, gp0, br0, er2, er3, sv0, sf0, ss0, gs0, mi0, ml1, ml2, gq0, mr0, sm0⟩, ie0⟩ := I
  have r238e := r238.e0
  have r241e := r241.e0
  obtain ⟨⟨se0, se1, se2, se3, se4, se5, se6, se7, se8, se9⟩, -⟩ := id sv0
  have b1 := gi_b (lo := 0) (hi := 5) g 3 0 rfl
  have b2 := gi_b (lo := 0) (hi := 5) g 238 0 rfl
  have b3 := gi_b (lo := 0) (hi := 4) g 3 1 rfl
  have b4 := gi_b (lo := 0) (hi := 4) g 238 1 rfl
  have b5 := gi_b (lo := 0) (hi := 12) g 3 2 rfl
  have b6 := gi_b (lo := 0) (hi := 12) g 238 2 rfl
  have b7 := gi_b (lo := -2147483648) (hi := 2147483647) g 3 3 rfl
  have b8 := gi_b (lo := 0) (hi := 999) g 238 3 rfl
  have b9 := gi_b (lo := -2147483648) (hi := 2147483647) g 3 4 rfl
  have b10 := gi_b (lo := 0) (hi := 999) g 238 4 rfl
  have b11 := gi_b (lo := -2147483648) (hi := 2147483647) g 3 5 rfl
  have b12 := gi_b (lo := 0) (hi := 9) g 238 5 rfl
  have b13 := gi_b (lo := -2147483648) (hi := 2147483647) g 3 6 rfl
  have b14 := gi_b (lo := 0) (hi := 999) g 238 6 rfl
  have b15 := gi_b (lo := -2147483648) (hi := 2147483647) g 3 7 rfl
  have b16 := gi_b (lo := 0) (hi := 3) g 238 7 rfl
  have b17 := gi_b (lo := -2147483648) (hi := 2147483647) g 3 8 rfl
  have b18 := gi_b (lo := 0) (hi := 999) g 238 8 rfl
  have b19 := gi_b (lo := -2147483648) (hi := 2147483647) g 3 9 rfl
  have b20 := gi_b (lo := 0) (hi := 999) g 238 9 rfl
  have b21 := gi_b (lo := -2147483648) (hi := 2147483647) g 63 5 rfl
  have b22 := gi_b (lo := 0) (hi := 12) g 18 7 rfl
  have b23 := gi_b (lo := 0) (hi := 12) g 66 1 rfl
  have b24 := gi_b (lo := 0) (hi := 1) g 0 12 rfl
  have b25 := gi_b (lo := 0) (hi := 1) g 236 21 rfl
  have bl_ := gi_b (lo := 0) (hi := 800) g 1 1 rfl
  have tb0 : BufC (h 2) (h 1 1) h := ⟨fun _ => rfl, rfl, by omega, by omega⟩
  have b26 := gi_b (lo := 0) (hi := 6) g 238 98 rfl
  have b27 := gi_b (lo := 0) (hi := 6) g 238 99 rfl
  have b28 := gi_b (lo := 0) (hi := 6) g 238 100 rfl
  have b29 := gi_b (lo := 0) (hi := 6) g 238 101 rfl
  have b30 := gi_b (lo := 0) (hi := 3) g 238 102 rfl
  have b31 := gi_b (lo := 0) (hi := 12) g 238 106 rfl
  have b32 := gi_b (lo := 0) (hi := 12) g 238 73 rfl
  have b33 := gi_b (lo := 0) (hi := 9999) g 238 119 rfl
  have b34 := gi_b (lo := 0) (hi := 9999) g 238 67 rfl
  have b35 := gi_b (lo := 0) (hi := 9) g 238 69 rfl
  have b36 := gi_b (lo := 0) (hi := 6) g 241 98 rfl
  have b37 := gi_b (lo := 0) (hi := 6) g 241 99 rfl
  have b38 := gi_b (lo := 0) (hi := 6) g 241 100 rfl
  have b39 := gi_b (lo := 0) (hi := 6) g 241 101 rfl
  have b40 := gi_b (lo := 0) (hi := 3) g 241 102 rfl
  have b41 := gi_b (lo := 0) (hi := 12) g 241 106 rfl
  have b42 := gi_b (lo := 0) (hi := 12) g 241 73 rfl
  have b43 := gi_b (lo := 0) (hi := 12) g 241 2 rfl
  have b44 := gi_b (lo := 0) (hi := 9999) g 241 119 rfl
  have b45 := gi_b (lo := 0) (hi := 9999) g 241 67 rfl
  have b46 := gi_b (lo := 0) (hi := 9) g 241 69 rfl
  have b47 := gi_b (lo := 0) (hi := 9) g 241 5 rfl
  have b48 := gi_b (lo := 0) (hi := 800) g 1 1 rfl
  have b49 := gi_b (lo := 0) (hi := 800) g 236 2 rfl
  have b50 := gi_b (lo := -2147483648) (hi := 2147483647) g 1 2 rfl
  have b51 := gi_b (lo := -2147483648) (hi := 2147483647) g 236 10 rfl
  have b52 := gi_b (lo := -2147483648) (hi := 2147483647) g 1 3 rfl
  have b53 := gi_b (lo := -2147483648) (hi := 2147483647) g 236 11 rfl
  refine wi_aload_n (i := 1) (x := 0) (nx := 1251) (r1 := 0) (r2 := 0) (r3 := 0) rfl rfl ?_
  refine wr_V (k0 := 0) (rest := []) (as := [.ref 0]) (nx := 1254) (r1 := 50) (r2 := 0) (r3 := 0) rfl rfl rfl (of_decide_eq_true rfl) rfl rfl (by decide) rfl rfl (of_decide_eq_true rfl) (of_decide_eq_true rfl) ?_
  refine ct_50_0 hcr  g    (fun h54 z55 g54 u54 (fz55 : -2147483648 ≤ z55 ∧ z55 ≤ 2147483647) => ?_)
  refine wk_i ?_
  refine wi_pop (nx := 1255) (r1 := 0) (r2 := 0) (r3 := 0) rfl rfl ?_
  refine wi_aload_n (i := 2) (x := 236) (nx := 1256) (r1 := 0) (r2 := 0) (r3 := 0) rfl rfl ?_
  refine wr_V (k0 := 236) (rest := []) (as := [.ref 236]) (nx := 1259) (r1 := 310) (r2 := 0) (r3 := 11) rfl rfl rfl (of_decide_eq_true rfl) rfl rfl (by decide) rfl rfl (of_decide_eq_true rfl) (of_decide_eq_true rfl) ?_
  have e57 : h54 238 98 = h 238 98 := (u54 238 98 rfl)
  have e58 : h54 238 99 = h 238 99 := (u54 238 99 rfl)
  have e59 : h54 238 100 = h 238 100 := (u54 238 100 rfl)
  have e60 : h54 238 101 = h 238 101 := (u54 238 101 rfl)
  have e61 : h54 238 102 = h 238 102 := (u54 238 102 rfl)
  have e62 : h54 238 106 = h 238 106 := (u54 238 106 rfl)
  have e63 : h54 238 73 = h 238 73 := (u54 238 73 rfl)
  have e64 : h54 238 2 = h 238 2 := (u54 238 2 rfl)
  have e65 : h54 238 119 = h 238 119 := (u54 238 119 rfl)
  have e66 : h54 238 67 = h 238 67 := (u54 238 67 rfl)
  have e67 : h54 238 69 = h 238 69 := (u54 238 69 rfl)
  have e68 : h54 238 5 = h 238 5 := (u54 238 5 rfl)
  refine ct_310_236 hcr  g54   (show (h54 238 98) + (h54 238 99) + (h54 238 100) + (h54 238 101) + (h54 238 102) + (h54 238 106) = (h54 238 73) by omega) (show (h54 238 73) ≤ (h54 238 2) by omega) (show (h54 238 119) ≤ (h54 238 67) by omega) (show (h54 238 69) ≤ (h54 238 5) by omega) (show (h54 238 2) ≤ 12 * (h54 238 5) by omega) (fun h56 z69 g56 u56 (fz69 : -1 ≤ z69 ∧ z69 ≤ 99) => ?_)
  refine wk_i ?_
  refine wi_pop (nx := 1260) (r1 := 0) (r2 := 0) (r3 := 0) rfl rfl ?_
  refine wi_goto (nx := 1263) (r1 := 1501) (r2 := 0) (r3 := 0) rfl ?_
  have e70 : h56 238 98 = h 238 98 := ((u56 238 98 rfl).trans (u54 238 98 rfl))
  have e71 : h56 238 99 = h 238 99 := ((u56 238 99 rfl).trans (u54 238 99 rfl))
  have e72 : h56 238 100 = h 238 100 := ((u56 238 100 rfl).trans (u54 238 100 rfl))
  have e73 : h56 238 101 = h 238 101 := ((u56 238 101 rfl).trans (u54 238 101 rfl))
  have e74 : h56 238 102 = h 238 102 := ((u56 238 102 rfl).trans (u54 238 102 rfl))
  have e75 : h56 238 106 = h 238 106 := ((u56 238 106 rfl).trans (u54 238 106 rfl))
  have e76 : h56 238 73 = h 238 73 := ((u56 238 73 rfl).trans (u54 238 73 rfl))
  have e77 : h56 238 2 = h 238 2 := ((u56 238 2 rfl).trans (u54 238 2 rfl))
  have e78 : h56 238 119 = h 238 119 := ((u56 238 119 rfl).trans (u54 238 119 rfl))
  have e79 : h56 238 67 = h 238 67 := ((u56 238 67 rfl).trans (u54 238 67 rfl))
  have e80 : h56 238 69 = h 238 69 := ((u56 238 69 rfl).trans (u54 238 69 rfl))
  have e81 : h56 238 5 = h 238 5 := ((u56 238 5 rfl).trans (u54 238 5 rfl))
  have e82 : h56 241 98 = h 241 98 := ((u56 241 98 rfl).trans (u54 241 98 rfl))
  have e83 : h56 241 99 = h 241 99 := ((u56 241 99 rfl).trans (u54 241 99 rfl))
  have e84 : h56 241 100 = h 241 100 := ((u56 241 100 rfl).trans (u54 241 100 rfl))
  have e85 : h56 241 101 = h 241 101 := ((u56 241 101 rfl).trans (u54 241 101 rfl))
  have e86 : h56 241 102 = h 241 102 := ((u56 241 102 rfl).trans (u54 241 102 rfl))
  have e87 : h56 241 106 = h 241 106 := ((u56 241 106 rfl).trans (u54 241 106 rfl))
  have e88 : h56 241 73 = h 241 73 := ((u56 241 73 rfl).trans (u54 241 73 rfl))
  have e89 : h56 241 2 = h 241 2 := ((u56 241 2 rfl).trans (u54 241 2 rfl))
  have e90 : h56 241 119 = h 241 119 := ((u56 241 119 rfl).trans (u54 241 119 rfl))
  have e91 : h56 241 67 = h 241 67 := ((u56 241 67 rfl).trans (u54 241 67 rfl))
  have e92 : h56 241 69 = h 241 69 := ((u56 241 69 rfl).trans (u54 241 69 rfl))
  have e93 : h56 241 5 = h 241 5 := ((u56 241 5 rfl).trans (u54 241 5 rfl))
  have e94 : h56 1 1 = h 1 1 := ((u56 1 1 rfl).trans (u54 1 1 rfl))
  have e95 : h56 236 2 = h 236 2 := ((u56 236 2 rfl).trans (u54 236 2 rfl))
  have e96 : h56 1 2 = h 1 2 := ((u56 1 2 rfl).trans (u54 1 2 rfl))
  have e97 : h56 236 10 = h 236 10 := ((u56 236 10 rfl).trans (u54 236 10 rfl))
  have e98 : h56 1 3 = h 1 3 := ((u56 1 3 rfl).trans (u54 1 3 rfl))
  have e99 : h56 236 11 = h 236 11 := ((u56 236 11 rfl).trans (u54 236 11 rfl))
  have gp100 := GPH.fr u54 rfl gp0
  have gp101 := GPH.fr u56 rfl gp100
  have b102 := gi_b (lo := 0) (hi := 5) g 241 0 rfl
  have b103 := gi_b (lo := 0) (hi := 4) g 241 1 rfl
  have gs104 := GPS.fr u54 rfl gs0
  have gs105 := GPS.fr u56 rfl gs104
  have e106 : h56 0 12 = h 0 12 := ((u56 0 12 rfl).trans (u54 0 12 rfl))
  have e107 : h56 236 21 = h 236 21 := ((u56 236 21 rfl).trans (u54 236 21 rfl))
  have e108 : h56 63 5 = h 63 5 := ((u56 63 5 rfl).trans (u54 63 5 rfl))
  have e109 : h56 18 16 = h 18 16 := ((u56 18 16 rfl).trans (u54 18 16 rfl))
  have e110 : h56 18 7 = h 18 7 := ((u56 18 7 rfl).trans (u54 18 7 rfl))
  have e111 : h56 3 2 = h 3 2 := ((u56 3 2 rfl).trans (u54 3 2 rfl))
  have e112 : h56 66 1 = h 66 1 := ((u56 66 1 rfl).trans (u54 66 1 rfl))
  have b113 := gi_b (lo := 0) (hi := 6) g 73 1 rfl
  have e114 : h56 73 1 = h 73 1 := ((u56 73 1 rfl).trans (u54 73 1 rfl))
  have b115 := gi_b (lo := 0) (hi := 6) g 73 2 rfl
  have e116 : h56 73 2 = h 73 2 := ((u56 73 2 rfl).trans (u54 73 2 rfl))
  have b117 := gi_b (lo := 0) (hi := 6) g 236 22 rfl
  have e118 : h56 236 22 = h 236 22 := ((u56 236 22 rfl).trans (u54 236 22 rfl))
  have b119 := gi_b (lo := 0) (hi := 12) g 210 2 rfl
  have e120 : h56 210 2 = h 210 2 := ((u56 210 2 rfl).trans (u54 210 2 rfl))
  have q123 : h56 8 = h 8 := funext (fun i => ((u56 8 i (fo_no_ok (by decide) i)).trans (u54 8 i (fo_no_ok (by decide) i))))
  have q124 : h56 7 = h 7 := funext (fun i => ((u56 7 i (fo_no_ok (by decide) i)).trans (u54 7 i (fo_no_ok (by decide) i))))
  have q125 : h56 19 = h 19 := funext (fun i => ((u56 19 i (fo_no_ok (by decide) i)).trans (u54 19 i (fo_no_ok (by decide) i))))
  have q126 : h56 67 = h 67 := funext (fun i => ((u56 67 i (fo_no_ok (by decide) i)).trans (u54 67 i (fo_no_ok (by decide) i))))
  have ml122 : MCL h56 := MCL.mv mi0.1 q123 q124 q125 q126 (by omega) (by omega) (by omega) (by omega)
  have q128 : h56 69 = h 69 := funext (fun i => ((u56 69 i (fo_no_ok (by decide) i)).trans (u54 69 i (fo_no_ok (by decide) i))))
  have q129 : h56 70 = h 70 := funext (fun i => ((u56 70 i (fo_no_ok (by decide) i)).trans (u54 70 i (fo_no_ok (by decide) i))))
  have nb127 : NBc (h56 69) (h56 70) := by rw [q128, q129]; exact mi0.2.2
  have q130 : h56 8 = h 8 := funext (fun i => ((u56 8 i (fo_no_ok (by decide) i)).trans (u54 8 i (fo_no_ok (by decide) i))))
  have q131 : h56 7 = h 7 := funext (fun i => ((u56 7 i (fo_no_ok (by decide) i)).trans (u54 7 i (fo_no_ok (by decide) i))))
  have mi121 : MCI h56 := ⟨ml122, HIv.mv mi0.2.1 q130 q131 (by omega) (by omega) (sv_seven (P := fun x => ∀ i, h56 (76 + 19 * x) i = h (76 + 19 * x) i) (fun i => ((u56 76 i (fo_nk rfl)).trans (u54 76 i (fo_nk rfl)))) (fun i => ((u56 95 i (fo_nk rfl)).trans (u54 95 i (fo_nk rfl)))) (fun i => ((u56 114 i (fo_nk rfl)).trans (u54 114 i (fo_nk rfl)))) (fun i => ((u56 133 i (fo_nk rfl)).trans (u54 133 i (fo_nk rfl)))) (fun i => ((u56 152 i (fo_nk rfl)).trans (u54 152 i (fo_nk rfl)))) (fun i => ((u56 171 i (fo_nk rfl)).trans (u54 171 i (fo_nk rfl)))) (fun i => ((u56 190 i (fo_nk rfl)).trans (u54 190 i (fo_nk rfl))))) (by omega) (by omega), nb127⟩
  have gq132 := GQS.fr u54 rfl gq0
  have gq133 := GQS.fr u56 rfl gq132
  have q134 : h56 8 = h 8 := funext (fun i => ((u56 8 i (fo_no_ok (by decide) i)).trans (u54 8 i (fo_no_ok (by decide) i))))
  have q135 : h56 7 = h 7 := funext (fun i => ((u56 7 i (fo_no_ok (by decide) i)).trans (u54 7 i (fo_no_ok (by decide) i))))
  have q136 : h56 215 = h 215 := funext (fun i => ((u56 215 i (fo_no_ok (by decide) i)).trans (u54 215 i (fo_no_ok (by decide) i))))
  have q137 : h56 218 = h 218 := funext (fun i => ((u56 218 i (fo_no_ok (by decide) i)).trans (u54 218 i (fo_no_ok (by decide) i))))
  have q138 : h56 214 = h 214 := funext (fun i => ((u56 214 i (fo_no_ok (by decide) i)).trans (u54 214 i (fo_no_ok (by decide) i))))
  have q139 : h56 241 = h 241 := funext (fun i => ((u56 241 i (fo_no_ok (by decide) i)).trans (u54 241 i (fo_no_ok (by decide) i))))
  exact k h56 b c ⟨⟨g56, (show h56 1 1 = h56 236 2 by omega), (RS.i0 (f := h56 238) (by refine ⟨?_, ?_, ?_, ?_, ?_⟩ <;> omega)), (RS.i0 (f := h56 241) (by refine ⟨?_, ?_, ?_, ?_, ?_⟩ <;> omega)), gp101, (BRh.keep br0 (fun i => ((u56 2 i (fo_nk rfl)).trans (u54 2 i (fo_nk rfl)))) (fun i => ((u56 237 i (fo_nk rfl)).trans (u54 237 i (fo_nk rfl)))) (by omega)), (show h56 1 2 = h56 236 10 by omega), (show h56 1 3 = h56 236 11 by omega), (SVx.keep sv0 (by omega) (fun i _ => ((u56 3 i (fo_nk rfl)).trans (u54 3 i (fo_nk rfl)))) (fun i _ => ((u56 5 i (fo_nk rfl)).trans (u54 5 i (fo_nk rfl)))) (fun i _ => ((u56 6 i (fo_nk rfl)).trans (u54 6 i (fo_nk rfl)))) (fun i _ => ((u56 8 i (fo_nk rfl)).trans (u54 8 i (fo_nk rfl)))) (fun i _ => ((u56 238 i (fo_nk rfl)).trans (u54 238 i (fo_nk rfl))))), (show h56 0 12 = h56 236 21 by omega), (fun e => (SVx.keep (ss0 (by omega)) (by omega) (fun i _ => ((u56 210 i (fo_nk rfl)).trans (u54 210 i (fo_nk rfl)))) (fun i _ => ((u56 212 i (fo_nk rfl)).trans (u54 212 i (fo_nk rfl)))) (fun i _ => ((u56 213 i (fo_nk rfl)).trans (u54 213 i (fo_nk rfl)))) (fun i _ => ((u56 215 i (fo_nk rfl)).trans (u54 215 i (fo_nk rfl)))) (fun i _ => ((u56 241 i (fo_nk rfl)).trans (u54 241 i (fo_nk rfl)))))), gs105, mi121, (show h56 63 5 ≤ h56 18 16 by omega), (show (h56 63 5) < (h56 18 16) ∨ ((h56 18 7) ≤ (h56 3 2) ∧ (h56 66 1) = (h56 3 2) - (h56 18 7)) ∨ ((h56 3 2) < (h56 18 7) ∧ (h56 66 1) = 0) by omega), gq133, (MR.mv mr0 (MSN.then (MSN.refl) (fun i _ => ((u56 238 i (fo_nk rfl)).trans (u54 238 i (fo_nk rfl))))) (by omega) q134 q135 (by omega)), (fun e => SM.mv (sm0 (by omega)) q136 q137 q138 (by omega) q139)⟩, (by omega)⟩ (by omega) (by omega)
-- the law, case at 1263
set_option maxRecDepth 100000 in
set_option maxHeartbeats 100000000 in
theorem lc_1263 {L : Nat} {xs : Nat → Int32} {d b c : Nat} {h : hp} {cr : Nat → Nat → Option Nat} {Q : hp_Q} (hcr : CR cr) (hL : L ≤ 3072) (hr : 1 ≤ b ∧ 6 ≤ c) (i : Int) (I : LIm i h) (hi : 0 ≤ i ∧ i + 6 ≤ L) (k : ∀ (h2 : hp) (b2 c2 : Nat), LIm (i + 6) h2 → b ≤ b2 + 1 → c ≤ c2 + 6 → wp (md_xa (L, xs)) (d + 107) 0 (1501, [(0, .ref 1000000), (1, .ref 0), (2, .ref 236), (3, .ref 259), (4, vi i)], [], hp_w h2 cr, b2, c2) Q) : wp (md_xa (L, xs)) (d + 107) 0 (1263, [(0, .ref 1000000), (1, .ref 0), (2, .ref 236), (3, .ref 259), (4, vi i)], [], hp_w h cr, b, c) Q := by
  obtain ⟨⟨g, i11, r238, r241, gp0, br0, er2, er3, sv0, sf0, ss0, gs0, mi0, ml1, ml2, gq0, mr0, sm0⟩, ie0⟩ := I
  have r238e := r238.e0
  have r241e := r241.e0
  obtain ⟨⟨se0, se1, se2, se3, se4, se5, se6, se7, se8, se9⟩, -⟩ := id sv0
  have b1 := gi_b (lo := 0) (hi := 5) g 3 0 rfl
  have b2 := gi_b (lo := 0) (hi := 5) g 238 0 rfl
  have b3 := gi_b (lo := 0) (hi := 4) g 3 1 rfl
  have b4 := gi_b (lo := 0) (hi := 4) g 238 1 rfl
  have b5 := gi_b (lo := 0) (hi := 12) g 3 2 rfl
  have b6 := gi_b (lo := 0) (hi := 12) g 238 2 rfl
  have b7 := gi_b (lo := -2147483648) (hi := 2147483647) g 3 3 rfl
  have b8 := gi_b (lo := 0) (hi := 999) g 238 3 rfl
  have b9 := gi_b (lo := -2147483648) (hi := 2147483647) g 3 4 rfl
  have b10 := gi_b (lo := 0) (hi := 999) g 238 4 rfl
  have b11 := gi_b (lo := -2147483648) (hi := 2147483647) g 3 5 rfl
  have b12 := gi_b (lo := 0) (hi := 9) g 238 5 rfl
  have b13 := gi_b (lo := -2147483648) (hi := 2147483647) g 3 6 rfl
  have b14 := gi_b (lo := 0) (hi := 999) g 238 6 rfl
  have b15 := gi_b (lo := -2147483648) (hi := 2147483647) g 3 7 rfl
  have b16 := gi_b (lo := 0) (hi := 3) g 238 7 rfl
  have b17 := gi_b (lo := -2147483648) (hi := 2147483647) g 3 8 rfl
  have b18 := gi_b (lo := 0) (hi := 999) g 238 8 rfl
  have b19 := gi_b (lo := -2147483648) (hi := 2147483647) g 3 9 rfl
  have b20 := gi_b (lo := 0) (hi := 999) g 238 9 rfl
  have b21 := gi_b (lo := -2147483648) (hi := 2147483647) g 63 5 rfl
  have b22 := gi_b (lo := 0) (hi := 12) g 18 7 rfl
  have b23 := gi_b (lo := 0) (hi := 12) g 66 1 rfl
  have b24 := gi_b (lo := 0) (hi := 1) g 0 12 rfl
  have b25 := gi_b (lo := 0) (hi := 1) g 236 21 rfl
  have bl_ := gi_b (lo := 0) (hi := 800) g 1 1 rfl
  have tb0 : BufC (h 2) (h 1 1) h := ⟨fun _ => rfl, rfl, by omega, by omega⟩
  have b26 := gi_b (lo := 0) (hi := 6) g 238 98 rfl
  have b27 := gi_b (lo := 0) (hi := 6) g 238 99 rfl
  have b28 := gi_b (lo := 0) (hi := 6) g 238 100 rfl
  have b29 := gi_b (lo := 0) (hi := 6) g 238 101 rfl
  have b30 := gi_b (lo := 0) (hi := 3) g 238 102 rfl
  have b31 := gi_b (lo := 0) (hi := 12) g 238 106 rfl
  have b32 := gi_b (lo := 0) (hi := 12) g 238 73 rfl
  have b33 := gi_b (lo := 0) (hi := 9999) g 238 119 rfl
  have b34 := gi_b (lo := 0) (hi := 9999) g 238 67 rfl
  have b35 := gi_b (lo := 0) (hi := 9) g 238 69 rfl
  have b36 := gi_b (lo := 0) (hi := 6) g 241 98 rfl
  have b37 := gi_b (lo := 0) (hi := 6) g 241 99 rfl
  have b38 := gi_b (lo := 0) (hi := 6) g 241 100 rfl
  have b39 := gi_b (lo := 0) (hi := 6) g 241 101 rfl
  have b40 := gi_b (lo := 0) (hi := 3) g 241 102 rfl
  have b41 := gi_b (lo := 0) (hi := 12) g 241 106 rfl
  have b42 := gi_b (lo := 0) (hi := 12) g 241 73 rfl
  have b43 := gi_b (lo := 0) (hi := 12) g 241 2 rfl
  have b44 := gi_b (lo := 0) (hi := 9999) g 241 119 rfl
  have b45 := gi_b (lo := 0) (hi := 9999) g 241 67 rfl
  have b46 := gi_b (lo := 0) (hi := 9) g 241 69 rfl
  have b47 := gi_b (lo := 0) (hi := 9) g 241 5 rfl
  have b48 := gi_b (lo := 0) (hi := 800) g 1 1 rfl
  have b49 := gi_b (lo := 0) (hi := 800) g 236 2 rfl
  have b50 := gi_b (lo := -2147483648) (hi := 2147483647) g 1 2 rfl
  have b51 := gi_b (lo := -2147483648) (hi := 2147483647) g 236 10 rfl
  have b52 := gi_b (lo := -2147483648) (hi := 2147483647) g 1 3 rfl
  have b53 := gi_b (lo := -2147483648) (hi := 2147483647) g 236 11 rfl
  refine wi_aload_n (i := 1) (x := 0) (nx := 1264) (r1 := 0) (r2 := 0) (r3 := 0) rfl rfl ?_
  refine wi_aload_n (i := 0) (x := 1000000) (nx := 1265) (r1 := 0) (r2 := 0) (r3 := 0) rfl rfl ?_
  refine wi_iload (i := 4) (e := i) (nx := 1267) (r1 := 0) (r2 := 0) (r3 := 0) rfl rfl ?_
  refine wi_iconst (n := 1) (nx := 1268) (r1 := 0) (r2 := 0) (r3 := 0) rfl ?_
  refine wr_add (nx := 1269) (r1 := 0) (r2 := 0) (r3 := 0) rfl (fun e54 (fe54 : e54 = i + 1) => ?_)
  obtain ⟨i55, ei55⟩ : ∃ q : Nat, e54 = (q : Int) := ⟨(e54).toNat, by omega⟩
  have s56 := sc_b (xs i55)
  refine wr_sc (a := e54) (f := i55) (nx := 1270) (r1 := 0) (r2 := 0) (r3 := 0) rfl (by omega) (by omega) hL ?_
  refine wr_V (k0 := 0) (rest := []) (as := [.ref 0, vi ((xs i55).toInt)]) (nx := 1273) (r1 := 51) (r2 := 1) (r3 := 0) rfl rfl rfl (of_decide_eq_true rfl) rfl rfl (by decide) rfl rfl (of_decide_eq_true rfl) (of_decide_eq_true rfl) ?_
  refine ct_51_0 hcr  g ((xs i55).toInt) (by omega)  (fun h57 z58 g57 u57 (fz58 : -2147483648 ≤ z58 ∧ z58 ≤ 2147483647) => ?_)
  refine wk_i ?_
  refine wi_pop (nx := 1274) (r1 := 0) (r2 := 0) (r3 := 0) rfl rfl ?_
  refine wi_aload_n (i := 2) (x := 236) (nx := 1275) (r1 := 0) (r2 := 0) (r3 := 0) rfl rfl ?_
  refine wi_aload_n (i := 0) (x := 1000000) (nx := 1276) (r1 := 0) (r2 := 0) (r3 := 0) rfl rfl ?_
  refine wi_iload (i := 4) (e := i) (nx := 1278) (r1 := 0) (r2 := 0) (r3 := 0) rfl rfl ?_
  refine wi_iconst (n := 1) (nx := 1279) (r1 := 0) (r2 := 0) (r3 := 0) rfl ?_
  refine wr_add (nx := 1280) (r1 := 0) (r2 := 0) (r3 := 0) rfl (fun e59 (fe59 : e59 = i + 1) => ?_)
  refine wr_sc (a := e59) (f := i55) (nx := 1281) (r1 := 0) (r2 := 0) (r3 := 0) rfl (by omega) (by omega) hL ?_
  refine wr_V (k0 := 236) (rest := []) (as := [.ref 236, vi ((xs i55).toInt)]) (nx := 1284) (r1 := 311) (r2 := 1) (r3 := 11) rfl rfl rfl (of_decide_eq_true rfl) rfl rfl (by decide) rfl rfl (of_decide_eq_true rfl) (of_decide_eq_true rfl) ?_
  have e61 : h57 238 98 = h 238 98 := (u57 238 98 rfl)
  have e62 : h57 238 99 = h 238 99 := (u57 238 99 rfl)
  have e63 : h57 238 100 = h 238 100 := (u57 238 100 rfl)
  have e64 : h57 238 101 = h 238 101 := (u57 238 101 rfl)
  have e65 : h57 238 102 = h 238 102 := (u57 238 102 rfl)
  have e66 : h57 238 106 = h 238 106 := (u57 238 106 rfl)
  have e67 : h57 238 73 = h 238 73 := (u57 238 73 rfl)
  have e68 : h57 238 2 = h 238 2 := (u57 238 2 rfl)
  have e69 : h57 238 119 = h 238 119 := (u57 238 119 rfl)
  have e70 : h57 238 67 = h 238 67 := (u57 238 67 rfl)
  have e71 : h57 238 69 = h 238 69 := (u57 238 69 rfl)
  have e72 : h57 238 5 = h 238 5 := (u57 238 5 rfl)
  refine ct_311_236 hcr  g57 ((xs i55).toInt) (by omega) (show (h57 238 98) + (h57 238 99) + (h57 238 100) + (h57 238 101) + (h57 238 102) + (h57 238 106) = (h57 238 73) by omega) (show (h57 238 73) ≤ (h57 238 2) by omega) (show (h57 238 119) ≤ (h57 238 67) by omega) (show (h57 238 69) ≤ (h57 238 5) by omega) (show (h57 238 2) ≤ 12 * (h57 238 5) by omega) (fun h60 z73 g60 u60 (fz73 : -1 ≤ z73 ∧ z73 ≤ 3) => ?_)
  refine wk_i ?_
  refine wi_pop (nx := 1285) (r1 := 0) (r2 := 0) (r3 := 0) rfl rfl ?_
  refine wi_goto (nx := 1288) (r1 := 1501) (r2 := 0) (r3 := 0) rfl ?_
  have e74 : h60 238 98 = h 238 98 := ((u60 238 98 rfl).trans (u57 238 98 rfl))
  have e75 : h60 238 99 = h 238 99 := ((u60 238 99 rfl).trans (u57 238 99 rfl))
  have e76 : h60 238 100 = h 238 100 := ((u60 238 100 rfl).trans (u57 238 100 rfl))
  have e77 : h60 238 101 = h 238 101 := ((u60 238 101 rfl).trans (u57 238 101 rfl))
  have e78 : h60 238 102 = h 238 102 := ((u60 238 102 rfl).trans (u57 238 102 rfl))
  have e79 : h60 238 106 = h 238 106 := ((u60 238 106 rfl).trans (u57 238 106 rfl))
  have e80 : h60 238 73 = h 238 73 := ((u60 238 73 rfl).trans (u57 238 73 rfl))
  have e81 : h60 238 2 = h 238 2 := ((u60 238 2 rfl).trans (u57 238 2 rfl))
  have e82 : h60 238 119 = h 238 119 := ((u60 238 119 rfl).trans (u57 238 119 rfl))
  have e83 : h60 238 67 = h 238 67 := ((u60 238 67 rfl).trans (u57 238 67 rfl))
  have e84 : h60 238 69 = h 238 69 := ((u60 238 69 rfl).trans (u57 238 69 rfl))
  have e85 : h60 238 5 = h 238 5 := ((u60 238 5 rfl).trans (u57 238 5 rfl))
  have e86 : h60 241 98 = h 241 98 := ((u60 241 98 rfl).trans (u57 241 98 rfl))
  have e87 : h60 241 99 = h 241 99 := ((u60 241 99 rfl).trans (u57 241 99 rfl))
  have e88 : h60 241 100 = h 241 100 := ((u60 241 100 rfl).trans (u57 241 100 rfl))
  have e89 : h60 241 101 = h 241 101 := ((u60 241 101 rfl).trans (u57 241 101 rfl))
  have e90 : h60 241 102 = h 241 102 := ((u60 241 102 rfl).trans (u57 241 102 rfl))
  have e91 : h60 241 106 = h 241 106 := ((u60 241 106 rfl).trans (u57 241 106 rfl))
  have e92 : h60 241 73 = h 241 73 := ((u60 241 73 rfl).trans (u57 241 73 rfl))
  have e93 : h60 241 2 = h 241 2 := ((u60 241 2 rfl).trans (u57 241 2 rfl))
  have e94 : h60 241 119 = h 241 119 := ((u60 241 119 rfl).trans (u57 241 119 rfl))
  have e95 : h60 241 67 = h 241 67 := ((u60 241 67 rfl).trans (u57 241 67 rfl))
  have e96 : h60 241 69 = h 241 69 := ((u60 241 69 rfl).trans (u57 241 69 rfl))
  have e97 : h60 241 5 = h 241 5 := ((u60 241 5 rfl).trans (u57 241 5 rfl))
  have e98 : h60 1 1 = h 1 1 := ((u60 1 1 rfl).trans (u57 1 1 rfl))
  have e99 : h60 236 2 = h 236 2 := ((u60 236 2 rfl).trans (u57 236 2 rfl))
  have e100 : h60 1 2 = h 1 2 := ((u60 1 2 rfl).trans (u57 1 2 rfl))
  have e101 : h60 236 10 = h 236 10 := ((u60 236 10 rfl).trans (u57 236 10 rfl))
  have e102 : h60 1 3 = h 1 3 := ((u60 1 3 rfl).trans (u57 1 3 rfl))
  have e103 : h60 236 11 = h 236 11 := ((u60 236 11 rfl).trans (u57 236 11 rfl))
  have gp104 := GPH.fr u57 rfl gp0
  have gp105 := GPH.fr u60 rfl gp104
  have b106 := gi_b (lo := 0) (hi := 5) g 241 0 rfl
  have b107 := gi_b (lo := 0) (hi := 4) g 241 1 rfl
  have gs108 := GPS.fr u57 rfl gs0
  have gs109 := GPS.fr u60 rfl gs108
  have e110 : h60 0 12 = h 0 12 := ((u60 0 12 rfl).trans (u57 0 12 rfl))
  have e111 : h60 236 21 = h 236 21 := ((u60 236 21 rfl).trans (u57 236 21 rfl))
  have e112 : h60 63 5 = h 63 5 := ((u60 63 5 rfl).trans (u57 63 5 rfl))
  have e113 : h60 18 16 = h 18 16 := ((u60 18 16 rfl).trans (u57 18 16 rfl))
  have e114 : h60 18 7 = h 18 7 := ((u60 18 7 rfl).trans (u57 18 7 rfl))
  have e115 : h60 3 2 = h 3 2 := ((u60 3 2 rfl).trans (u57 3 2 rfl))
  have e116 : h60 66 1 = h 66 1 := ((u60 66 1 rfl).trans (u57 66 1 rfl))
  have b117 := gi_b (lo := 0) (hi := 6) g 73 1 rfl
  have e118 : h60 73 1 = h 73 1 := ((u60 73 1 rfl).trans (u57 73 1 rfl))
  have b119 := gi_b (lo := 0) (hi := 6) g 73 2 rfl
  have e120 : h60 73 2 = h 73 2 := ((u60 73 2 rfl).trans (u57 73 2 rfl))
  have b121 := gi_b (lo := 0) (hi := 6) g 236 22 rfl
  have e122 : h60 236 22 = h 236 22 := ((u60 236 22 rfl).trans (u57 236 22 rfl))
  have b123 := gi_b (lo := 0) (hi := 12) g 210 2 rfl
  have e124 : h60 210 2 = h 210 2 := ((u60 210 2 rfl).trans (u57 210 2 rfl))
  have q127 : h60 8 = h 8 := funext (fun i => ((u60 8 i (fo_no_ok (by decide) i)).trans (u57 8 i (fo_no_ok (by decide) i))))
  have q128 : h60 7 = h 7 := funext (fun i => ((u60 7 i (fo_no_ok (by decide) i)).trans (u57 7 i (fo_no_ok (by decide) i))))
  have q129 : h60 19 = h 19 := funext (fun i => ((u60 19 i (fo_no_ok (by decide) i)).trans (u57 19 i (fo_no_ok (by decide) i))))
  have q130 : h60 67 = h 67 := funext (fun i => ((u60 67 i (fo_no_ok (by decide) i)).trans (u57 67 i (fo_no_ok (by decide) i))))
  have ml126 : MCL h60 := MCL.mv mi0.1 q127 q128 q129 q130 (by omega) (by omega) (by omega) (by omega)
  have q132 : h60 69 = h 69 := funext (fun i => ((u60 69 i (fo_no_ok (by decide) i)).trans (u57 69 i (fo_no_ok (by decide) i))))
  have q133 : h60 70 = h 70 := funext (fun i => ((u60 70 i (fo_no_ok (by decide) i)).trans (u57 70 i (fo_no_ok (by decide) i))))
  have nb131 : NBc (h60 69) (h60 70) := by rw [q132, q133]; exact mi0.2.2
  have q134 : h60 8 = h 8 := funext (fun i => ((u60 8 i (fo_no_ok (by decide) i)).trans (u57 8 i (fo_no_ok (by decide) i))))
  have q135 : h60 7 = h 7 := funext (fun i => ((u60 7 i (fo_no_ok (by decide) i)).trans (u57 7 i (fo_no_ok (by decide) i))))
  have mi125 : MCI h60 := ⟨ml126, HIv.mv mi0.2.1 q134 q135 (by omega) (by omega) (sv_seven (P := fun x => ∀ i, h60 (76 + 19 * x) i = h (76 + 19 * x) i) (fun i => ((u60 76 i (fo_nk rfl)).trans (u57 76 i (fo_nk rfl)))) (fun i => ((u60 95 i (fo_nk rfl)).trans (u57 95 i (fo_nk rfl)))) (fun i => ((u60 114 i (fo_nk rfl)).trans (u57 114 i (fo_nk rfl)))) (fun i => ((u60 133 i (fo_nk rfl)).trans (u57 133 i (fo_nk rfl)))) (fun i => ((u60 152 i (fo_nk rfl)).trans (u57 152 i (fo_nk rfl)))) (fun i => ((u60 171 i (fo_nk rfl)).trans (u57 171 i (fo_nk rfl)))) (fun i => ((u60 190 i (fo_nk rfl)).trans (u57 190 i (fo_nk rfl))))) (by omega) (by omega), nb131⟩
  have gq136 := GQS.fr u57 rfl gq0
  have gq137 := GQS.fr u60 rfl gq136
  have q138 : h60 8 = h 8 := funext (fun i => ((u60 8 i (fo_no_ok (by decide) i)).trans (u57 8 i (fo_no_ok (by decide) i))))
  have q139 : h60 7 = h 7 := funext (fun i => ((u60 7 i (fo_no_ok (by decide) i)).trans (u57 7 i (fo_no_ok (by decide) i))))
  have q140 : h60 215 = h 215 := funext (fun i => ((u60 215 i (fo_no_ok (by decide) i)).trans (u57 215 i (fo_no_ok (by decide) i))))
  have q141 : h60 218 = h 218 := funext (fun i => ((u60 218 i (fo_no_ok (by decide) i)).trans (u57 218 i (fo_no_ok (by decide) i))))
  have q142 : h60 214 = h 214 := funext (fun i => ((u60 214 i (fo_no_ok (by decide) i)).trans (u57 214 i (fo_no_ok (by decide) i))))
  have q143 : h60 241 = h 241 := funext (fun i => ((u60 241 i (fo_no_ok (by decide) i)).trans (u57 241 i (fo_no_ok (by decide) i))))
  exact k h60 b c ⟨⟨g60, (show h60 1 1 = h60 236 2 by omega), (RS.i0 (f := h60 238) (by refine ⟨?_, ?_, ?_, ?_, ?_⟩ <;> omega)), (RS.i0 (f := h60 241) (by refine ⟨?_, ?_, ?_, ?_, ?_⟩ <;> omega)), gp105, (BRh.keep br0 (fun i => ((u60 2 i (fo_nk rfl)).trans (u57 2 i (fo_nk rfl)))) (fun i => ((u60 237 i (fo_nk rfl)).trans (u57 237 i (fo_nk rfl)))) (by omega)), (show h60 1 2 = h60 236 10 by omega), (show h60 1 3 = h60 236 11 by omega), (SVx.keep sv0 (by omega) (fun i _ => ((u60 3 i (fo_nk rfl)).trans (u57 3 i (fo_nk rfl)))) (fun i _ => ((u60 5 i (fo_nk rfl)).trans (u57 5 i (fo_nk rfl)))) (fun i _ => ((u60 6 i (fo_nk rfl)).trans (u57 6 i (fo_nk rfl)))) (fun i _ => ((u60 8 i (fo_nk rfl)).trans (u57 8 i (fo_nk rfl)))) (fun i _ => ((u60 238 i (fo_nk rfl)).trans (u57 238 i (fo_nk rfl))))), (show h60 0 12 = h60 236 21 by omega), (fun e => (SVx.keep (ss0 (by omega)) (by omega) (fun i _ => ((u60 210 i (fo_nk rfl)).trans (u57 210 i (fo_nk rfl)))) (fun i _ => ((u60 212 i (fo_nk rfl)).trans (u57 212 i (fo_nk rfl)))) (fun i _ => ((u60 213 i (fo_nk rfl)).trans (u57 213 i (fo_nk rfl)))) (fun i _ => ((u60 215 i (fo_nk rfl)).trans (u57 215 i (fo_nk rfl)))) (fun i _ => ((u60 241 i (fo_nk rfl)).trans (u57 241 i (fo_nk rfl)))))), gs109, mi125, (show h60 63 5 ≤ h60 18 16 by omega), (show (h60 63 5) < (h60 18 16) ∨ ((h60 18 7) ≤ (h60 3 2) ∧ (h60 66 1) = (h60 3 2) - (h60 18 7)) ∨ ((h60 3 2) < (h60 18 7) ∧ (h60 66 1) = 0) by omega), gq137, (MR.mv mr0 (MSN.then (MSN.refl) (fun i _ => ((u60 238 i (fo_nk rfl)).trans (u57 238 i (fo_nk rfl))))) (by omega) q138 q139 (by omega)), (fun e => SM.mv (sm0 (by omega)) q140 q141 q142 (by omega) q143)⟩, (by omega)⟩ (by omega) (by omega)
-- the law, case at 1288
set_option maxRecDepth 100000 in
set_option maxHeartbeats 100000000 in
theorem lc_1288 {L : Nat} {xs : Nat → Int32} {d b c : Nat} {h : hp} {cr : Nat → Nat → Option Nat} {Q : hp_Q} (hcr : CR cr) (hL : L ≤ 3072) (hr : 1 ≤ b ∧ 6 ≤ c) (i : Int) (I : LIm i h) (hi : 0 ≤ i ∧ i + 6 ≤ L) (k : ∀ (h2 : hp) (b2 c2 : Nat), LIm (i + 6) h2 → b ≤ b2 + 1 → c ≤ c2 + 6 → wp (md_xa (L, xs)) (d + 107) 0 (1501, [(0, .ref 1000000), (1, .ref 0), (2, .ref 236), (3, .ref 259), (4, vi i)], [], hp_w h2 cr, b2, c2) Q) : wp (md_xa (L, xs)) (d + 107) 0 (1288, [(0, .ref 1000000), (1, .ref 0), (2, .ref 236), (3, .ref 259), (4, vi i)], [], hp_w h cr, b, c) Q := by
  obtain ⟨⟨g, i11, r238, r241, gp0, br0, er2, er3, sv0, sf0, ss0, gs0, mi0, ml1, ml2, gq0, mr0, sm0⟩, ie0⟩ := I
  have r238e := r238.e0
  have r241e := r241.e0
  obtain ⟨⟨se0, se1, se2, se3, se4, se5, se6, se7, se8, se9⟩, -⟩ := id sv0
  have b1 := gi_b (lo := 0) (hi := 5) g 3 0 rfl
  have b2 := gi_b (lo := 0) (hi := 5) g 238 0 rfl
  have b3 := gi_b (lo := 0) (hi := 4) g 3 1 rfl
  have b4 := gi_b (lo := 0) (hi := 4) g 238 1 rfl
  have b5 := gi_b (lo := 0) (hi := 12) g 3 2 rfl
  have b6 := gi_b (lo := 0) (hi := 12) g 238 2 rfl
  have b7 := gi_b (lo := -2147483648) (hi := 2147483647) g 3 3 rfl
  have b8 := gi_b (lo := 0) (hi := 999) g 238 3 rfl
  have b9 := gi_b (lo := -2147483648) (hi := 2147483647) g 3 4 rfl
  have b10 := gi_b (lo := 0) (hi := 999) g 238 4 rfl
  have b11 := gi_b (lo := -2147483648) (hi := 2147483647) g 3 5 rfl
  have b12 := gi_b (lo := 0) (hi := 9) g 238 5 rfl
  have b13 := gi_b (lo := -2147483648) (hi := 2147483647) g 3 6 rfl
  have b14 := gi_b (lo := 0) (hi := 999) g 238 6 rfl
  have b15 := gi_b (lo := -2147483648) (hi := 2147483647) g 3 7 rfl
  have b16 := gi_b (lo := 0) (hi := 3) g 238 7 rfl
  have b17 := gi_b (lo := -2147483648) (hi := 2147483647) g 3 8 rfl
  have b18 := gi_b (lo := 0) (hi := 999) g 238 8 rfl
  have b19 := gi_b (lo := -2147483648) (hi := 2147483647) g 3 9 rfl
  have b20 := gi_b (lo := 0) (hi := 999) g 238 9 rfl
  have b21 := gi_b (lo := -2147483648) (hi := 2147483647) g 63 5 rfl
  have b22 := gi_b (lo := 0) (hi := 12) g 18 7 rfl
  have b23 := gi_b (lo := 0) (hi := 12) g 66 1 rfl
  have b24 := gi_b (lo := 0) (hi := 1) g 0 12 rfl
  have b25 := gi_b (lo := 0) (hi := 1) g 236 21 rfl
  have bl_ := gi_b (lo := 0) (hi := 800) g 1 1 rfl
  have tb0 : BufC (h 2) (h 1 1) h := ⟨fun _ => rfl, rfl, by omega, by omega⟩
  have b26 := gi_b (lo := 0) (hi := 6) g 238 98 rfl
  have b27 := gi_b (lo := 0) (hi := 6) g 238 99 rfl
  have b28 := gi_b (lo := 0) (hi := 6) g 238 100 rfl
  have b29 := gi_b (lo := 0) (hi := 6) g 238 101 rfl
  have b30 := gi_b (lo := 0) (hi := 3) g 238 102 rfl
  have b31 := gi_b (lo := 0) (hi := 12) g 238 106 rfl
  have b32 := gi_b (lo := 0) (hi := 12) g 238 73 rfl
  have b33 := gi_b (lo := 0) (hi := 9999) g 238 119 rfl
  have b34 := gi_b (lo := 0) (hi := 9999) g 238 67 rfl
  have b35 := gi_b (lo := 0) (hi := 9) g 238 69 rfl
  have b36 := gi_b (lo := 0) (hi := 6) g 241 98 rfl
  have b37 := gi_b (lo := 0) (hi := 6) g 241 99 rfl
  have b38 := gi_b (lo := 0) (hi := 6) g 241 100 rfl
  have b39 := gi_b (lo := 0) (hi := 6) g 241 101 rfl
  have b40 := gi_b (lo := 0) (hi := 3) g 241 102 rfl
  have b41 := gi_b (lo := 0) (hi := 12) g 241 106 rfl
  have b42 := gi_b (lo := 0) (hi := 12) g 241 73 rfl
  have b43 := gi_b (lo := 0) (hi := 12) g 241 2 rfl
  have b44 := gi_b (lo := 0) (hi := 9999) g 241 119 rfl
  have b45 := gi_b (lo := 0) (hi := 9999) g 241 67 rfl
  have b46 := gi_b (lo := 0) (hi := 9) g 241 69 rfl
  have b47 := gi_b (lo := 0) (hi := 9) g 241 5 rfl
  have b48 := gi_b (lo := 0) (hi := 800) g 1 1 rfl
  have b49 := gi_b (lo := 0) (hi := 800) g 236 2 rfl
  have b50 := gi_b (lo := -2147483648) (hi := 2147483647) g 1 2 rfl
  have b51 := gi_b (lo := -2147483648) (hi := 2147483647) g 236 10 rfl
  have b52 := gi_b (lo := -2147483648) (hi := 2147483647) g 1 3 rfl
  have b53 := gi_b (lo := -2147483648) (hi := 2147483647) g 236 11 rfl
  refine wi_aload_n (i := 1) (x := 0) (nx := 1289) (r1 := 0) (r2 := 0) (r3 := 0) rfl rfl ?_
  refine wr_V (k0 := 0) (rest := []) (as := [.ref 0]) (nx := 1292) (r1 := 52) (r2 := 0) (r3 := 0) rfl rfl rfl (of_decide_eq_true rfl) rfl rfl (by decide) rfl rfl (of_decide_eq_true rfl) (of_decide_eq_true rfl) ?_
  refine ct_52_0 hcr  g    (fun z55  (fz55 : -2147483648 ≤ z55 ∧ z55 ≤ 2147483647) => ?_)
  refine wk_i ?_
  refine wi_pop (nx := 1293) (r1 := 0) (r2 := 0) (r3 := 0) rfl rfl ?_
  refine wi_aload_n (i := 2) (x := 236) (nx := 1294) (r1 := 0) (r2 := 0) (r3 := 0) rfl rfl ?_
  refine wr_V (k0 := 236) (rest := []) (as := [.ref 236]) (nx := 1297) (r1 := 315) (r2 := 0) (r3 := 11) rfl rfl rfl (of_decide_eq_true rfl) rfl rfl (by decide) rfl rfl (of_decide_eq_true rfl) (of_decide_eq_true rfl) ?_
  refine ct_315_236 hcr  g    (fun h56 z57 g56 u56 (fz57 : -2147483648 ≤ z57 ∧ z57 ≤ 2147483647) => ?_)
  refine wk_i ?_
  refine wi_pop (nx := 1298) (r1 := 0) (r2 := 0) (r3 := 0) rfl rfl ?_
  refine wi_goto (nx := 1301) (r1 := 1501) (r2 := 0) (r3 := 0) rfl ?_
  have e58 : h56 238 98 = h 238 98 := (u56 238 98 rfl)
  have e59 : h56 238 99 = h 238 99 := (u56 238 99 rfl)
  have e60 : h56 238 100 = h 238 100 := (u56 238 100 rfl)
  have e61 : h56 238 101 = h 238 101 := (u56 238 101 rfl)
  have e62 : h56 238 102 = h 238 102 := (u56 238 102 rfl)
  have e63 : h56 238 106 = h 238 106 := (u56 238 106 rfl)
  have e64 : h56 238 73 = h 238 73 := (u56 238 73 rfl)
  have e65 : h56 238 2 = h 238 2 := (u56 238 2 rfl)
  have e66 : h56 238 119 = h 238 119 := (u56 238 119 rfl)
  have e67 : h56 238 67 = h 238 67 := (u56 238 67 rfl)
  have e68 : h56 238 69 = h 238 69 := (u56 238 69 rfl)
  have e69 : h56 238 5 = h 238 5 := (u56 238 5 rfl)
  have e70 : h56 241 98 = h 241 98 := (u56 241 98 rfl)
  have e71 : h56 241 99 = h 241 99 := (u56 241 99 rfl)
  have e72 : h56 241 100 = h 241 100 := (u56 241 100 rfl)
  have e73 : h56 241 101 = h 241 101 := (u56 241 101 rfl)
  have e74 : h56 241 102 = h 241 102 := (u56 241 102 rfl)
  have e75 : h56 241 106 = h 241 106 := (u56 241 106 rfl)
  have e76 : h56 241 73 = h 241 73 := (u56 241 73 rfl)
  have e77 : h56 241 2 = h 241 2 := (u56 241 2 rfl)
  have e78 : h56 241 119 = h 241 119 := (u56 241 119 rfl)
  have e79 : h56 241 67 = h 241 67 := (u56 241 67 rfl)
  have e80 : h56 241 69 = h 241 69 := (u56 241 69 rfl)
  have e81 : h56 241 5 = h 241 5 := (u56 241 5 rfl)
  have e82 : h56 1 1 = h 1 1 := (u56 1 1 rfl)
  have e83 : h56 236 2 = h 236 2 := (u56 236 2 rfl)
  have e84 : h56 1 2 = h 1 2 := (u56 1 2 rfl)
  have e85 : h56 236 10 = h 236 10 := (u56 236 10 rfl)
  have e86 : h56 1 3 = h 1 3 := (u56 1 3 rfl)
  have e87 : h56 236 11 = h 236 11 := (u56 236 11 rfl)
  have gp88 := GPH.fr u56 rfl gp0
  have b89 := gi_b (lo := 0) (hi := 5) g 241 0 rfl
  have b90 := gi_b (lo := 0) (hi := 4) g 241 1 rfl
  have gs91 := GPS.fr u56 rfl gs0
  have e92 : h56 0 12 = h 0 12 := (u56 0 12 rfl)
  have e93 : h56 236 21 = h 236 21 := (u56 236 21 rfl)
  have e94 : h56 63 5 = h 63 5 := (u56 63 5 rfl)
  have e95 : h56 18 16 = h 18 16 := (u56 18 16 rfl)
  have e96 : h56 18 7 = h 18 7 := (u56 18 7 rfl)
  have e97 : h56 3 2 = h 3 2 := (u56 3 2 rfl)
  have e98 : h56 66 1 = h 66 1 := (u56 66 1 rfl)
  have b99 := gi_b (lo := 0) (hi := 6) g 73 1 rfl
  have e100 : h56 73 1 = h 73 1 := (u56 73 1 rfl)
  have b101 := gi_b (lo := 0) (hi := 6) g 73 2 rfl
  have e102 : h56 73 2 = h 73 2 := (u56 73 2 rfl)
  have b103 := gi_b (lo := 0) (hi := 6) g 236 22 rfl
  have e104 : h56 236 22 = h 236 22 := (u56 236 22 rfl)
  have b105 := gi_b (lo := 0) (hi := 12) g 210 2 rfl
  have e106 : h56 210 2 = h 210 2 := (u56 210 2 rfl)
  have q109 : h56 8 = h 8 := funext (fun i => (u56 8 i (fo_no_ok (by decide) i)))
  have q110 : h56 7 = h 7 := funext (fun i => (u56 7 i (fo_no_ok (by decide) i)))
  have q111 : h56 19 = h 19 := funext (fun i => (u56 19 i (fo_no_ok (by decide) i)))
  have q112 : h56 67 = h 67 := funext (fun i => (u56 67 i (fo_no_ok (by decide) i)))
  have ml108 : MCL h56 := MCL.mv mi0.1 q109 q110 q111 q112 (by omega) (by omega) (by omega) (by omega)
  have q114 : h56 69 = h 69 := funext (fun i => (u56 69 i (fo_no_ok (by decide) i)))
  have q115 : h56 70 = h 70 := funext (fun i => (u56 70 i (fo_no_ok (by decide) i)))
  have nb113 : NBc (h56 69) (h56 70) := by rw [q114, q115]; exact mi0.2.2
  have q116 : h56 8 = h 8 := funext (fun i => (u56 8 i (fo_no_ok (by decide) i)))
  have q117 : h56 7 = h 7 := funext (fun i => (u56 7 i (fo_no_ok (by decide) i)))
  have mi107 : MCI h56 := ⟨ml108, HIv.mv mi0.2.1 q116 q117 (by omega) (by omega) (sv_seven (P := fun x => ∀ i, h56 (76 + 19 * x) i = h (76 + 19 * x) i) (fun i => (u56 76 i (fn_a (by decide) fn_0))) (fun i => (u56 95 i (fn_a (by decide) fn_0))) (fun i => (u56 114 i (fn_a (by decide) fn_0))) (fun i => (u56 133 i (fn_a (by decide) fn_0))) (fun i => (u56 152 i (fn_a (by decide) fn_0))) (fun i => (u56 171 i (fn_a (by decide) fn_0))) (fun i => (u56 190 i (fn_a (by decide) fn_0)))) (by omega) (by omega), nb113⟩
  have gq118 := GQS.fr u56 rfl gq0
  have q119 : h56 8 = h 8 := funext (fun i => (u56 8 i (fo_no_ok (by decide) i)))
  have q120 : h56 7 = h 7 := funext (fun i => (u56 7 i (fo_no_ok (by decide) i)))
  have q121 : h56 215 = h 215 := funext (fun i => (u56 215 i (fo_no_ok (by decide) i)))
  have q122 : h56 218 = h 218 := funext (fun i => (u56 218 i (fo_no_ok (by decide) i)))
  have q123 : h56 214 = h 214 := funext (fun i => (u56 214 i (fo_no_ok (by decide) i)))
  have q124 : h56 241 = h 241 := funext (fun i => (u56 241 i (fo_no_ok (by decide) i)))
  exact k h56 b c ⟨⟨g56, (show h56 1 1 = h56 236 2 by omega), (RS.i0 (f := h56 238) (by refine ⟨?_, ?_, ?_, ?_, ?_⟩ <;> omega)), (RS.i0 (f := h56 241) (by refine ⟨?_, ?_, ?_, ?_, ?_⟩ <;> omega)), gp88, (BRh.keep br0 (fun i => (u56 2 i (fn_a (by decide) fn_0))) (fun i => (u56 237 i (fn_a (by decide) fn_0))) (by omega)), (show h56 1 2 = h56 236 10 by omega), (show h56 1 3 = h56 236 11 by omega), (SVx.keep sv0 (by omega) (fun i _ => (u56 3 i (fn_a (by decide) fn_0))) (fun i _ => (u56 5 i (fn_a (by decide) fn_0))) (fun i _ => (u56 6 i (fn_a (by decide) fn_0))) (fun i _ => (u56 8 i (fn_a (by decide) fn_0))) (fun i _ => (u56 238 i (fn_a (by decide) fn_0)))), (show h56 0 12 = h56 236 21 by omega), (fun e => (SVx.keep (ss0 (by omega)) (by omega) (fun i _ => (u56 210 i (fn_a (by decide) fn_0))) (fun i _ => (u56 212 i (fn_a (by decide) fn_0))) (fun i _ => (u56 213 i (fn_a (by decide) fn_0))) (fun i _ => (u56 215 i (fn_a (by decide) fn_0))) (fun i _ => (u56 241 i (fn_a (by decide) fn_0))))), gs91, mi107, (show h56 63 5 ≤ h56 18 16 by omega), (show (h56 63 5) < (h56 18 16) ∨ ((h56 18 7) ≤ (h56 3 2) ∧ (h56 66 1) = (h56 3 2) - (h56 18 7)) ∨ ((h56 3 2) < (h56 18 7) ∧ (h56 66 1) = 0) by omega), gq118, (MR.mv mr0 (MSN.then (MSN.refl) (fun i _ => (u56 238 i (fn_a (by decide) fn_0)))) (by omega) q119 q120 (by omega)), (fun e => SM.mv (sm0 (by omega)) q121 q122 q123 (by omega) q124)⟩, (by omega)⟩ (by omega) (by omega)
-- the law, case at 1301
set_option maxRecDepth 100000 in
set_option maxHeartbeats 100000000 in
theorem lc_1301 {L : Nat} {xs : Nat → Int32} {d b c : Nat} {h : hp} {cr : Nat → Nat → Option Nat} {Q : hp_Q} (hcr : CR cr) (hL : L ≤ 3072) (hr : 1 ≤ b ∧ 6 ≤ c) (i : Int) (I : LIm i h) (hi : 0 ≤ i ∧ i + 6 ≤ L) (k : ∀ (h2 : hp) (b2 c2 : Nat), LIm (i + 6) h2 → b ≤ b2 + 1 → c ≤ c2 + 6 → wp (md_xa (L, xs)) (d + 107) 0 (1501, [(0, .ref 1000000), (1, .ref 0), (2, .ref 236), (3, .ref 259), (4, vi i)], [], hp_w h2 cr, b2, c2) Q) : wp (md_xa (L, xs)) (d + 107) 0 (1301, [(0, .ref 1000000), (1, .ref 0), (2, .ref 236), (3, .ref 259), (4, vi i)], [], hp_w h cr, b, c) Q := by
  obtain ⟨⟨g, i11, r238, r241, gp0, br0, er2, er3, sv0, sf0, ss0, gs0, mi0, ml1, ml2, gq0, mr0, sm0⟩, ie0⟩ := I
  have r238e := r238.e0
  have r241e := r241.e0
  obtain ⟨⟨se0, se1, se2, se3, se4, se5, se6, se7, se8, se9⟩, -⟩ := id sv0
  have b1 := gi_b (lo := 0) (hi := 5) g 3 0 rfl
  have b2 := gi_b (lo := 0) (hi := 5) g 238 0 rfl
  have b3 := gi_b (lo := 0) (hi := 4) g 3 1 rfl
  have b4 := gi_b (lo := 0) (hi := 4) g 238 1 rfl
  have b5 := gi_b (lo := 0) (hi := 12) g 3 2 rfl
  have b6 := gi_b (lo := 0) (hi := 12) g 238 2 rfl
  have b7 := gi_b (lo := -2147483648) (hi := 2147483647) g 3 3 rfl
  have b8 := gi_b (lo := 0) (hi := 999) g 238 3 rfl
  have b9 := gi_b (lo := -2147483648) (hi := 2147483647) g 3 4 rfl
  have b10 := gi_b (lo := 0) (hi := 999) g 238 4 rfl
  have b11 := gi_b (lo := -2147483648) (hi := 2147483647) g 3 5 rfl
  have b12 := gi_b (lo := 0) (hi := 9) g 238 5 rfl
  have b13 := gi_b (lo := -2147483648) (hi := 2147483647) g 3 6 rfl
  have b14 := gi_b (lo := 0) (hi := 999) g 238 6 rfl
  have b15 := gi_b (lo := -2147483648) (hi := 2147483647) g 3 7 rfl
  have b16 := gi_b (lo := 0) (hi := 3) g 238 7 rfl
  have b17 := gi_b (lo := -2147483648) (hi := 2147483647) g 3 8 rfl
  have b18 := gi_b (lo := 0) (hi := 999) g 238 8 rfl
  have b19 := gi_b (lo := -2147483648) (hi := 2147483647) g 3 9 rfl
  have b20 := gi_b (lo := 0) (hi := 999) g 238 9 rfl
  have b21 := gi_b (lo := -2147483648) (hi := 2147483647) g 63 5 rfl
  have b22 := gi_b (lo := 0) (hi := 12) g 18 7 rfl
  have b23 := gi_b (lo := 0) (hi := 12) g 66 1 rfl
  have b24 := gi_b (lo := 0) (hi := 1) g 0 12 rfl
  have b25 := gi_b (lo := 0) (hi := 1) g 236 21 rfl
  have bl_ := gi_b (lo := 0) (hi := 800) g 1 1 rfl
  have tb0 : BufC (h 2) (h 1 1) h := ⟨fun _ => rfl, rfl, by omega, by omega⟩
  have b26 := gi_b (lo := 0) (hi := 6) g 238 98 rfl
  have b27 := gi_b (lo := 0) (hi := 6) g 238 99 rfl
  have b28 := gi_b (lo := 0) (hi := 6) g 238 100 rfl
  have b29 := gi_b (lo := 0) (hi := 6) g 238 101 rfl
  have b30 := gi_b (lo := 0) (hi := 3) g 238 102 rfl
  have b31 := gi_b (lo := 0) (hi := 12) g 238 106 rfl
  have b32 := gi_b (lo := 0) (hi := 12) g 238 73 rfl
  have b33 := gi_b (lo := 0) (hi := 9999) g 238 119 rfl
  have b34 := gi_b (lo := 0) (hi := 9999) g 238 67 rfl
  have b35 := gi_b (lo := 0) (hi := 9) g 238 69 rfl
  have b36 := gi_b (lo := 0) (hi := 6) g 241 98 rfl
  have b37 := gi_b (lo := 0) (hi := 6) g 241 99 rfl
  have b38 := gi_b (lo := 0) (hi := 6) g 241 100 rfl
  have b39 := gi_b (lo := 0) (hi := 6) g 241 101 rfl
  have b40 := gi_b (lo := 0) (hi := 3) g 241 102 rfl
  have b41 := gi_b (lo := 0) (hi := 12) g 241 106 rfl
  have b42 := gi_b (lo := 0) (hi := 12) g 241 73 rfl
  have b43 := gi_b (lo := 0) (hi := 12) g 241 2 rfl
  have b44 := gi_b (lo := 0) (hi := 9999) g 241 119 rfl
  have b45 := gi_b (lo := 0) (hi := 9999) g 241 67 rfl
  have b46 := gi_b (lo := 0) (hi := 9) g 241 69 rfl
  have b47 := gi_b (lo := 0) (hi := 9) g 241 5 rfl
  have b48 := gi_b (lo := 0) (hi := 800) g 1 1 rfl
  have b49 := gi_b (lo := 0) (hi := 800) g 236 2 rfl
  have b50 := gi_b (lo := -2147483648) (hi := 2147483647) g 1 2 rfl
  have b51 := gi_b (lo := -2147483648) (hi := 2147483647) g 236 10 rfl
  have b52 := gi_b (lo := -2147483648) (hi := 2147483647) g 1 3 rfl
  have b53 := gi_b (lo := -2147483648) (hi := 2147483647) g 236 11 rfl
  refine wi_aload_n (i := 1) (x := 0) (nx := 1302) (r1 := 0) (r2 := 0) (r3 := 0) rfl rfl ?_
  refine wr_V (k0 := 0) (rest := []) (as := [.ref 0]) (nx := 1305) (r1 := 53) (r2 := 0) (r3 := 0) rfl rfl rfl (of_decide_eq_true rfl) rfl rfl (by decide) rfl rfl (of_decide_eq_true rfl) (of_decide_eq_true rfl) ?_
  refine ct_53_0 hcr  g    (fun z55  (fz55 : -2147483648 ≤ z55 ∧ z55 ≤ 2147483647) => ?_)
  refine wk_i ?_
  refine wi_pop (nx := 1306) (r1 := 0) (r2 := 0) (r3 := 0) rfl rfl ?_
  refine wi_aload_n (i := 2) (x := 236) (nx := 1307) (r1 := 0) (r2 := 0) (r3 := 0) rfl rfl ?_
  refine wr_V (k0 := 236) (rest := []) (as := [.ref 236]) (nx := 1310) (r1 := 318) (r2 := 0) (r3 := 11) rfl rfl rfl (of_decide_eq_true rfl) rfl rfl (by decide) rfl rfl (of_decide_eq_true rfl) (of_decide_eq_true rfl) ?_
  refine ct_318_236 hcr  g    (fun h56 z57 g56 u56 (fz57 : -2147483648 ≤ z57 ∧ z57 ≤ 2147483647) => ?_)
  refine wk_i ?_
  refine wi_pop (nx := 1311) (r1 := 0) (r2 := 0) (r3 := 0) rfl rfl ?_
  refine wi_goto (nx := 1314) (r1 := 1501) (r2 := 0) (r3 := 0) rfl ?_
  have e58 : h56 238 98 = h 238 98 := (u56 238 98 rfl)
  have e59 : h56 238 99 = h 238 99 := (u56 238 99 rfl)
  have e60 : h56 238 100 = h 238 100 := (u56 238 100 rfl)
  have e61 : h56 238 101 = h 238 101 := (u56 238 101 rfl)
  have e62 : h56 238 102 = h 238 102 := (u56 238 102 rfl)
  have e63 : h56 238 106 = h 238 106 := (u56 238 106 rfl)
  have e64 : h56 238 73 = h 238 73 := (u56 238 73 rfl)
  have e65 : h56 238 2 = h 238 2 := (u56 238 2 rfl)
  have e66 : h56 238 119 = h 238 119 := (u56 238 119 rfl)
  have e67 : h56 238 67 = h 238 67 := (u56 238 67 rfl)
  have e68 : h56 238 69 = h 238 69 := (u56 238 69 rfl)
  have e69 : h56 238 5 = h 238 5 := (u56 238 5 rfl)
  have e70 : h56 241 98 = h 241 98 := (u56 241 98 rfl)
  have e71 : h56 241 99 = h 241 99 := (u56 241 99 rfl)
  have e72 : h56 241 100 = h 241 100 := (u56 241 100 rfl)
  have e73 : h56 241 101 = h 241 101 := (u56 241 101 rfl)
  have e74 : h56 241 102 = h 241 102 := (u56 241 102 rfl)
  have e75 : h56 241 106 = h 241 106 := (u56 241 106 rfl)
  have e76 : h56 241 73 = h 241 73 := (u56 241 73 rfl)
  have e77 : h56 241 2 = h 241 2 := (u56 241 2 rfl)
  have e78 : h56 241 119 = h 241 119 := (u56 241 119 rfl)
  have e79 : h56 241 67 = h 241 67 := (u56 241 67 rfl)
  have e80 : h56 241 69 = h 241 69 := (u56 241 69 rfl)
  have e81 : h56 241 5 = h 241 5 := (u56 241 5 rfl)
  have e82 : h56 1 1 = h 1 1 := (u56 1 1 rfl)
  have e83 : h56 236 2 = h 236 2 := (u56 236 2 rfl)
  have e84 : h56 1 2 = h 1 2 := (u56 1 2 rfl)
  have e85 : h56 236 10 = h 236 10 := (u56 236 10 rfl)
  have e86 : h56 1 3 = h 1 3 := (u56 1 3 rfl)
  have e87 : h56 236 11 = h 236 11 := (u56 236 11 rfl)
  have gp88 := GPH.fr u56 rfl gp0
  have b89 := gi_b (lo := 0) (hi := 5) g 241 0 rfl
  have b90 := gi_b (lo := 0) (hi := 4) g 241 1 rfl
  have gs91 := GPS.fr u56 rfl gs0
  have e92 : h56 0 12 = h 0 12 := (u56 0 12 rfl)
  have e93 : h56 236 21 = h 236 21 := (u56 236 21 rfl)
  have e94 : h56 63 5 = h 63 5 := (u56 63 5 rfl)
  have e95 : h56 18 16 = h 18 16 := (u56 18 16 rfl)
  have e96 : h56 18 7 = h 18 7 := (u56 18 7 rfl)
  have e97 : h56 3 2 = h 3 2 := (u56 3 2 rfl)
  have e98 : h56 66 1 = h 66 1 := (u56 66 1 rfl)
  have b99 := gi_b (lo := 0) (hi := 6) g 73 1 rfl
  have e100 : h56 73 1 = h 73 1 := (u56 73 1 rfl)
  have b101 := gi_b (lo := 0) (hi := 6) g 73 2 rfl
  have e102 : h56 73 2 = h 73 2 := (u56 73 2 rfl)
  have b103 := gi_b (lo := 0) (hi := 6) g 236 22 rfl
  have e104 : h56 236 22 = h 236 22 := (u56 236 22 rfl)
  have b105 := gi_b (lo := 0) (hi := 12) g 210 2 rfl
  have e106 : h56 210 2 = h 210 2 := (u56 210 2 rfl)
  have q109 : h56 8 = h 8 := funext (fun i => (u56 8 i (fo_no_ok (by decide) i)))
  have q110 : h56 7 = h 7 := funext (fun i => (u56 7 i (fo_no_ok (by decide) i)))
  have q111 : h56 19 = h 19 := funext (fun i => (u56 19 i (fo_no_ok (by decide) i)))
  have q112 : h56 67 = h 67 := funext (fun i => (u56 67 i (fo_no_ok (by decide) i)))
  have ml108 : MCL h56 := MCL.mv mi0.1 q109 q110 q111 q112 (by omega) (by omega) (by omega) (by omega)
  have q114 : h56 69 = h 69 := funext (fun i => (u56 69 i (fo_no_ok (by decide) i)))
  have q115 : h56 70 = h 70 := funext (fun i => (u56 70 i (fo_no_ok (by decide) i)))
  have nb113 : NBc (h56 69) (h56 70) := by rw [q114, q115]; exact mi0.2.2
  have q116 : h56 8 = h 8 := funext (fun i => (u56 8 i (fo_no_ok (by decide) i)))
  have q117 : h56 7 = h 7 := funext (fun i => (u56 7 i (fo_no_ok (by decide) i)))
  have mi107 : MCI h56 := ⟨ml108, HIv.mv mi0.2.1 q116 q117 (by omega) (by omega) (sv_seven (P := fun x => ∀ i, h56 (76 + 19 * x) i = h (76 + 19 * x) i) (fun i => (u56 76 i (fn_a (by decide) fn_0))) (fun i => (u56 95 i (fn_a (by decide) fn_0))) (fun i => (u56 114 i (fn_a (by decide) fn_0))) (fun i => (u56 133 i (fn_a (by decide) fn_0))) (fun i => (u56 152 i (fn_a (by decide) fn_0))) (fun i => (u56 171 i (fn_a (by decide) fn_0))) (fun i => (u56 190 i (fn_a (by decide) fn_0)))) (by omega) (by omega), nb113⟩
  have gq118 := GQS.fr u56 rfl gq0
  have q119 : h56 8 = h 8 := funext (fun i => (u56 8 i (fo_no_ok (by decide) i)))
  have q120 : h56 7 = h 7 := funext (fun i => (u56 7 i (fo_no_ok (by decide) i)))
  have q121 : h56 215 = h 215 := funext (fun i => (u56 215 i (fo_no_ok (by decide) i)))
  have q122 : h56 218 = h 218 := funext (fun i => (u56 218 i (fo_no_ok (by decide) i)))
  have q123 : h56 214 = h 214 := funext (fun i => (u56 214 i (fo_no_ok (by decide) i)))
  have q124 : h56 241 = h 241 := funext (fun i => (u56 241 i (fo_no_ok (by decide) i)))
  exact k h56 b c ⟨⟨g56, (show h56 1 1 = h56 236 2 by omega), (RS.i0 (f := h56 238) (by refine ⟨?_, ?_, ?_, ?_, ?_⟩ <;> omega)), (RS.i0 (f := h56 241) (by refine ⟨?_, ?_, ?_, ?_, ?_⟩ <;> omega)), gp88, (BRh.keep br0 (fun i => (u56 2 i (fn_a (by decide) fn_0))) (fun i => (u56 237 i (fn_a (by decide) fn_0))) (by omega)), (show h56 1 2 = h56 236 10 by omega), (show h56 1 3 = h56 236 11 by omega), (SVx.keep sv0 (by omega) (fun i _ => (u56 3 i (fn_a (by decide) fn_0))) (fun i _ => (u56 5 i (fn_a (by decide) fn_0))) (fun i _ => (u56 6 i (fn_a (by decide) fn_0))) (fun i _ => (u56 8 i (fn_a (by decide) fn_0))) (fun i _ => (u56 238 i (fn_a (by decide) fn_0)))), (show h56 0 12 = h56 236 21 by omega), (fun e => (SVx.keep (ss0 (by omega)) (by omega) (fun i _ => (u56 210 i (fn_a (by decide) fn_0))) (fun i _ => (u56 212 i (fn_a (by decide) fn_0))) (fun i _ => (u56 213 i (fn_a (by decide) fn_0))) (fun i _ => (u56 215 i (fn_a (by decide) fn_0))) (fun i _ => (u56 241 i (fn_a (by decide) fn_0))))), gs91, mi107, (show h56 63 5 ≤ h56 18 16 by omega), (show (h56 63 5) < (h56 18 16) ∨ ((h56 18 7) ≤ (h56 3 2) ∧ (h56 66 1) = (h56 3 2) - (h56 18 7)) ∨ ((h56 3 2) < (h56 18 7) ∧ (h56 66 1) = 0) by omega), gq118, (MR.mv mr0 (MSN.then (MSN.refl) (fun i _ => (u56 238 i (fn_a (by decide) fn_0)))) (by omega) q119 q120 (by omega)), (fun e => SM.mv (sm0 (by omega)) q121 q122 q123 (by omega) q124)⟩, (by omega)⟩ (by omega) (by omega)
-- the law, case at 1314
set_option maxRecDepth 100000 in
set_option maxHeartbeats 100000000 in
theorem lc_1314 {L : Nat} {xs : Nat → Int32} {d b c : Nat} {h : hp} {cr : Nat → Nat → Option Nat} {Q : hp_Q} (hcr : CR cr) (hL : L ≤ 3072) (hr : 1 ≤ b ∧ 6 ≤ c) (i : Int) (I : LIm i h) (hi : 0 ≤ i ∧ i + 6 ≤ L) (k : ∀ (h2 : hp) (b2 c2 : Nat), LIm (i + 6) h2 → b ≤ b2 + 1 → c ≤ c2 + 6 → wp (md_xa (L, xs)) (d + 107) 0 (1501, [(0, .ref 1000000), (1, .ref 0), (2, .ref 236), (3, .ref 259), (4, vi i)], [], hp_w h2 cr, b2, c2) Q) : wp (md_xa (L, xs)) (d + 107) 0 (1314, [(0, .ref 1000000), (1, .ref 0), (2, .ref 236), (3, .ref 259), (4, vi i)], [], hp_w h cr, b, c) Q := by
  obtain ⟨⟨g, i11, r238, r241, gp0, br0, er2, er3, sv0, sf0, ss0, gs0, mi0, ml1, ml2, gq0, mr0, sm0⟩, ie0⟩ := I
  have r238e := r238.e0
  have r241e := r241.e0
  obtain ⟨⟨se0, se1, se2, se3, se4, se5, se6, se7, se8, se9⟩, -⟩ := id sv0
  have b1 := gi_b (lo := 0) (hi := 5) g 3 0 rfl
  have b2 := gi_b (lo := 0) (hi := 5) g 238 0 rfl
  have b3 := gi_b (lo := 0) (hi := 4) g 3 1 rfl
  have b4 := gi_b (lo := 0) (hi := 4) g 238 1 rfl
  have b5 := gi_b (lo := 0) (hi := 12) g 3 2 rfl
  have b6 := gi_b (lo := 0) (hi := 12) g 238 2 rfl
  have b7 := gi_b (lo := -2147483648) (hi := 2147483647) g 3 3 rfl
  have b8 := gi_b (lo := 0) (hi := 999) g 238 3 rfl
  have b9 := gi_b (lo := -2147483648) (hi := 2147483647) g 3 4 rfl
  have b10 := gi_b (lo := 0) (hi := 999) g 238 4 rfl
  have b11 := gi_b (lo := -2147483648) (hi := 2147483647) g 3 5 rfl
  have b12 := gi_b (lo := 0) (hi := 9) g 238 5 rfl
  have b13 := gi_b (lo := -2147483648) (hi := 2147483647) g 3 6 rfl
  have b14 := gi_b (lo := 0) (hi := 999) g 238 6 rfl
  have b15 := gi_b (lo := -2147483648) (hi := 2147483647) g 3 7 rfl
  have b16 := gi_b (lo := 0) (hi := 3) g 238 7 rfl
  have b17 := gi_b (lo := -2147483648) (hi := 2147483647) g 3 8 rfl
  have b18 := gi_b (lo := 0) (hi := 999) g 238 8 rfl
  have b19 := gi_b (lo := -2147483648) (hi := 2147483647) g 3 9 rfl
  have b20 := gi_b (lo := 0) (hi := 999) g 238 9 rfl
  have b21 := gi_b (lo := -2147483648) (hi := 2147483647) g 63 5 rfl
  have b22 := gi_b (lo := 0) (hi := 12) g 18 7 rfl
  have b23 := gi_b (lo := 0) (hi := 12) g 66 1 rfl
  have b24 := gi_b (lo := 0) (hi := 1) g 0 12 rfl
  have b25 := gi_b (lo := 0) (hi := 1) g 236 21 rfl
  have bl_ := gi_b (lo := 0) (hi := 800) g 1 1 rfl
  have tb0 : BufC (h 2) (h 1 1) h := ⟨fun _ => rfl, rfl, by omega, by omega⟩
  have b26 := gi_b (lo := 0) (hi := 6) g 238 98 rfl
  have b27 := gi_b (lo := 0) (hi := 6) g 238 99 rfl
  have b28 := gi_b (lo := 0) (hi := 6) g 238 100 rfl
  have b29 := gi_b (lo := 0) (hi := 6) g 238 101 rfl
  have b30 := gi_b (lo := 0) (hi := 3) g 238 102 rfl
  have b31 := gi_b (lo := 0) (hi := 12) g 238 106 rfl
  have b32 := gi_b (lo := 0) (hi := 12) g 238 73 rfl
  have b33 := gi_b (lo := 0) (hi := 9999) g 238 119 rfl
  have b34 := gi_b (lo := 0) (hi := 9999) g 238 67 rfl
  have b35 := gi_b (lo := 0) (hi := 9) g 238 69 rfl
  have b36 := gi_b (lo := 0) (hi := 6) g 241 98 rfl
  have b37 := gi_b (lo := 0) (hi := 6) g 241 99 rfl
  have b38 := gi_b (lo := 0) (hi := 6) g 241 100 rfl
  have b39 := gi_b (lo := 0) (hi := 6) g 241 101 rfl
  have b40 := gi_b (lo := 0) (hi := 3) g 241 102 rfl
  have b41 := gi_b (lo := 0) (hi := 12) g 241 106 rfl
  have b42 := gi_b (lo := 0) (hi := 12) g 241 73 rfl
  have b43 := gi_b (lo := 0) (hi := 12) g 241 2 rfl
  have b44 := gi_b (lo := 0) (hi := 9999) g 241 119 rfl
  have b45 := gi_b (lo := 0) (hi := 9999) g 241 67 rfl
  have b46 := gi_b (lo := 0) (hi := 9) g 241 69 rfl
  have b47 := gi_b (lo := 0) (hi := 9) g 241 5 rfl
  have b48 := gi_b (lo := 0) (hi := 800) g 1 1 rfl
  have b49 := gi_b (lo := 0) (hi := 800) g 236 2 rfl
  have b50 := gi_b (lo := -2147483648) (hi := 2147483647) g 1 2 rfl
  have b51 := gi_b (lo := -2147483648) (hi := 2147483647) g 236 10 rfl
  have b52 := gi_b (lo := -2147483648) (hi := 2147483647) g 1 3 rfl
  have b53 := gi_b (lo := -2147483648) (hi := 2147483647) g 236 11 rfl
  refine wi_aload_n (i := 1) (x := 0) (nx := 1315) (r1 := 0) (r2 := 0) (r3 := 0) rfl rfl ?_
  refine wr_V (k0 := 0) (rest := []) (as := [.ref 0]) (nx := 1318) (r1 := 54) (r2 := 0) (r3 := 0) rfl rfl rfl (of_decide_eq_true rfl) rfl rfl (by decide) rfl rfl (of_decide_eq_true rfl) (of_decide_eq_true rfl) ?_
  refine ct_54_0 hcr  g    (fun z55  (fz55 : -2147483648 ≤ z55 ∧ z55 ≤ 2147483647) => ?_)
  refine wk_i ?_
  refine wi_pop (nx := 1319) (r1 := 0) (r2 := 0) (r3 := 0) rfl rfl ?_
  refine wi_aload_n (i := 2) (x := 236) (nx := 1320) (r1 := 0) (r2 := 0) (r3 := 0) rfl rfl ?_
  refine wr_V (k0 := 236) (rest := []) (as := [.ref 236]) (nx := 1323) (r1 := 319) (r2 := 0) (r3 := 11) rfl rfl rfl (of_decide_eq_true rfl) rfl rfl (by decide) rfl rfl (of_decide_eq_true rfl) (of_decide_eq_true rfl) ?_
  refine ct_319_236 hcr  g    (fun h56 z57 g56 u56 (fz57 : -2147483648 ≤ z57 ∧ z57 ≤ 2147483647) => ?_)
  refine wk_i ?_
  refine wi_pop (nx := 1324) (r1 := 0) (r2 := 0) (r3 := 0) rfl rfl ?_
  refine wi_goto (nx := 1327) (r1 := 1501) (r2 := 0) (r3 := 0) rfl ?_
  have e58 : h56 238 98 = h 238 98 := (u56 238 98 rfl)
  have e59 : h56 238 99 = h 238 99 := (u56 238 99 rfl)
  have e60 : h56 238 100 = h 238 100 := (u56 238 100 rfl)
  have e61 : h56 238 101 = h 238 101 := (u56 238 101 rfl)
  have e62 : h56 238 102 = h 238 102 := (u56 238 102 rfl)
  have e63 : h56 238 106 = h 238 106 := (u56 238 106 rfl)
  have e64 : h56 238 73 = h 238 73 := (u56 238 73 rfl)
  have e65 : h56 238 2 = h 238 2 := (u56 238 2 rfl)
  have e66 : h56 238 119 = h 238 119 := (u56 238 119 rfl)
  have e67 : h56 238 67 = h 238 67 := (u56 238 67 rfl)
  have e68 : h56 238 69 = h 238 69 := (u56 238 69 rfl)
  have e69 : h56 238 5 = h 238 5 := (u56 238 5 rfl)
  have e70 : h56 241 98 = h 241 98 := (u56 241 98 rfl)
  have e71 : h56 241 99 = h 241 99 := (u56 241 99 rfl)
  have e72 : h56 241 100 = h 241 100 := (u56 241 100 rfl)
  have e73 : h56 241 101 = h 241 101 := (u56 241 101 rfl)
  have e74 : h56 241 102 = h 241 102 := (u56 241 102 rfl)
  have e75 : h56 241 106 = h 241 106 := (u56 241 106 rfl)
  have e76 : h56 241 73 = h 241 73 := (u56 241 73 rfl)
  have e77 : h56 241 2 = h 241 2 := (u56 241 2 rfl)
  have e78 : h56 241 119 = h 241 119 := (u56 241 119 rfl)
  have e79 : h56 241 67 = h 241 67 := (u56 241 67 rfl)
  have e80 : h56 241 69 = h 241 69 := (u56 241 69 rfl)
  have e81 : h56 241 5 = h 241 5 := (u56 241 5 rfl)
  have e82 : h56 1 1 = h 1 1 := (u56 1 1 rfl)
  have e83 : h56 236 2 = h 236 2 := (u56 236 2 rfl)
  have e84 : h56 1 2 = h 1 2 := (u56 1 2 rfl)
  have e85 : h56 236 10 = h 236 10 := (u56 236 10 rfl)
  have e86 : h56 1 3 = h 1 3 := (u56 1 3 rfl)
  have e87 : h56 236 11 = h 236 11 := (u56 236 11 rfl)
  have gp88 := GPH.fr u56 rfl gp0
  have b89 := gi_b (lo := 0) (hi := 5) g 241 0 rfl
  have b90 := gi_b (lo := 0) (hi := 4) g 241 1 rfl
  have gs91 := GPS.fr u56 rfl gs0
  have e92 : h56 0 12 = h 0 12 := (u56 0 12 rfl)
  have e93 : h56 236 21 = h 236 21 := (u56 236 21 rfl)
  have e94 : h56 63 5 = h 63 5 := (u56 63 5 rfl)
  have e95 : h56 18 16 = h 18 16 := (u56 18 16 rfl)
  have e96 : h56 18 7 = h 18 7 := (u56 18 7 rfl)
  have e97 : h56 3 2 = h 3 2 := (u56 3 2 rfl)
  have e98 : h56 66 1 = h 66 1 := (u56 66 1 rfl)
  have b99 := gi_b (lo := 0) (hi := 6) g 73 1 rfl
  have e100 : h56 73 1 = h 73 1 := (u56 73 1 rfl)
  have b101 := gi_b (lo := 0) (hi := 6) g 73 2 rfl
  have e102 : h56 73 2 = h 73 2 := (u56 73 2 rfl)
  have b103 := gi_b (lo := 0) (hi := 6) g 236 22 rfl
  have e104 : h56 236 22 = h 236 22 := (u56 236 22 rfl)
  have b105 := gi_b (lo := 0) (hi := 12) g 210 2 rfl
  have e106 : h56 210 2 = h 210 2 := (u56 210 2 rfl)
  have q109 : h56 8 = h 8 := funext (fun i => (u56 8 i (fo_no_ok (by decide) i)))
  have q110 : h56 7 = h 7 := funext (fun i => (u56 7 i (fo_no_ok (by decide) i)))
  have q111 : h56 19 = h 19 := funext (fun i => (u56 19 i (fo_no_ok (by decide) i)))
  have q112 : h56 67 = h 67 := funext (fun i => (u56 67 i (fo_no_ok (by decide) i)))
  have ml108 : MCL h56 := MCL.mv mi0.1 q109 q110 q111 q112 (by omega) (by omega) (by omega) (by omega)
  have q114 : h56 69 = h 69 := funext (fun i => (u56 69 i (fo_no_ok (by decide) i)))
  have q115 : h56 70 = h 70 := funext (fun i => (u56 70 i (fo_no_ok (by decide) i)))
  have nb113 : NBc (h56 69) (h56 70) := by rw [q114, q115]; exact mi0.2.2
  have q116 : h56 8 = h 8 := funext (fun i => (u56 8 i (fo_no_ok (by decide) i)))
  have q117 : h56 7 = h 7 := funext (fun i => (u56 7 i (fo_no_ok (by decide) i)))
  have mi107 : MCI h56 := ⟨ml108, HIv.mv mi0.2.1 q116 q117 (by omega) (by omega) (sv_seven (P := fun x => ∀ i, h56 (76 + 19 * x) i = h (76 + 19 * x) i) (fun i => (u56 76 i (fn_a (by decide) fn_0))) (fun i => (u56 95 i (fn_a (by decide) fn_0))) (fun i => (u56 114 i (fn_a (by decide) fn_0))) (fun i => (u56 133 i (fn_a (by decide) fn_0))) (fun i => (u56 152 i (fn_a (by decide) fn_0))) (fun i => (u56 171 i (fn_a (by decide) fn_0))) (fun i => (u56 190 i (fn_a (by decide) fn_0)))) (by omega) (by omega), nb113⟩
  have gq118 := GQS.fr u56 rfl gq0
  have q119 : h56 8 = h 8 := funext (fun i => (u56 8 i (fo_no_ok (by decide) i)))
  have q120 : h56 7 = h 7 := funext (fun i => (u56 7 i (fo_no_ok (by decide) i)))
  have q121 : h56 215 = h 215 := funext (fun i => (u56 215 i (fo_no_ok (by decide) i)))
  have q122 : h56 218 = h 218 := funext (fun i => (u56 218 i (fo_no_ok (by decide) i)))
  have q123 : h56 214 = h 214 := funext (fun i => (u56 214 i (fo_no_ok (by decide) i)))
  have q124 : h56 241 = h 241 := funext (fun i => (u56 241 i (fo_no_ok (by decide) i)))
  exact k h56 b c ⟨⟨g56, (show h56 1 1 = h56 236 2 by omega), (RS.i0 (f := h56 238) (by refine ⟨?_, ?_, ?_, ?_, ?_⟩ <;> omega)), (RS.i0 (f := h56 241) (by refine ⟨?_, ?_, ?_, ?_, ?_⟩ <;> omega)), gp88, (BRh.keep br0 (fun i => (u56 2 i (fn_a (by decide) fn_0))) (fun i => (u56 237 i (fn_a (by decide) fn_0))) (by omega)), (show h56 1 2 = h56 236 10 by omega), (show h56 1 3 = h56 236 11 by omega), (SVx.keep sv0 (by omega) (fun i _ => (u56 3 i (fn_a (by decide) fn_0))) (fun i _ => (u56 5 i (fn_a (by decide) fn_0))) (fun i _ => (u56 6 i (fn_a (by decide) fn_0))) (fun i _ => (u56 8 i (fn_a (by decide) fn_0))) (fun i _ => (u56 238 i (fn_a (by decide) fn_0)))), (show h56 0 12 = h56 236 21 by omega), (fun e => (SVx.keep (ss0 (by omega)) (by omega) (fun i _ => (u56 210 i (fn_a (by decide) fn_0))) (fun i _ => (u56 212 i (fn_a (by decide) fn_0))) (fun i _ => (u56 213 i (fn_a (by decide) fn_0))) (fun i _ => (u56 215 i (fn_a (by decide) fn_0))) (fun i _ => (u56 241 i (fn_a (by decide) fn_0))))), gs91, mi107, (show h56 63 5 ≤ h56 18 16 by omega), (show (h56 63 5) < (h56 18 16) ∨ ((h56 18 7) ≤ (h56 3 2) ∧ (h56 66 1) = (h56 3 2) - (h56 18 7)) ∨ ((h56 3 2) < (h56 18 7) ∧ (h56 66 1) = 0) by omega), gq118, (MR.mv mr0 (MSN.then (MSN.refl) (fun i _ => (u56 238 i (fn_a (by decide) fn_0)))) (by omega) q119 q120 (by omega)), (fun e => SM.mv (sm0 (by omega)) q121 q122 q123 (by omega) q124)⟩, (by omega)⟩ (by omega) (by omega)
-- the law, case at 1327
set_option maxRecDepth 100000 in
set_option maxHeartbeats 100000000 in
theorem lc_1327 {L : Nat} {xs : Nat → Int32} {d b c : Nat} {h : hp} {cr : Nat → Nat → Option Nat} {Q : hp_Q} (hcr : CR cr) (hL : L ≤ 3072) (hr : 1 ≤ b ∧ 6 ≤ c) (i : Int) (I : LIm i h) (hi : 0 ≤ i ∧ i + 6 ≤ L) (k : ∀ (h2 : hp) (b2 c2 : Nat), LIm (i + 6) h2 → b ≤ b2 + 1 → c ≤ c2 + 6 → wp (md_xa (L, xs)) (d + 107) 0 (1501, [(0, .ref 1000000), (1, .ref 0), (2, .ref 236), (3, .ref 259), (4, vi i)], [], hp_w h2 cr, b2, c2) Q) : wp (md_xa (L, xs)) (d + 107) 0 (1327, [(0, .ref 1000000), (1, .ref 0), (2, .ref 236), (3, .ref 259), (4, vi i)], [], hp_w h cr, b, c) Q := by
  obtain ⟨⟨g, i11, r238, r241, gp0, br0, er2, er3, sv0, sf0, ss0, gs0, mi0, ml1, ml2, gq0, mr0, sm0⟩, ie0⟩ := I
  have r238e := r238.e0
  have r241e := r241.e0
  obtain ⟨⟨se0, se1, se2, se3, se4, se5, se6, se7, se8, se9⟩, -⟩ := id sv0
  have b1 := gi_b (lo := 0) (hi := 5) g 3 0 rfl
  have b2 := gi_b (lo := 0) (hi := 5) g 238 0 rfl
  have b3 := gi_b (lo := 0) (hi := 4) g 3 1 rfl
  have b4 := gi_b (lo := 0) (hi := 4) g 238 1 rfl
  have b5 := gi_b (lo := 0) (hi := 12) g 3 2 rfl
  have b6 := gi_b (lo := 0) (hi := 12) g 238 2 rfl
  have b7 := gi_b (lo := -2147483648) (hi := 2147483647) g 3 3 rfl
  have b8 := gi_b (lo := 0) (hi := 999) g 238 3 rfl
  have b9 := gi_b (lo := -2147483648) (hi := 2147483647) g 3 4 rfl
  have b10 := gi_b (lo := 0) (hi := 999) g 238 4 rfl
  have b11 := gi_b (lo := -2147483648) (hi := 2147483647) g 3 5 rfl
  have b12 := gi_b (lo := 0) (hi := 9) g 238 5 rfl
  have b13 := gi_b (lo := -2147483648) (hi := 2147483647) g 3 6 rfl
  have b14 := gi_b (lo := 0) (hi := 999) g 238 6 rfl
  have b15 := gi_b (lo := -2147483648) (hi := 2147483647) g 3 7 rfl
  have b16 := gi_b (lo := 0) (hi := 3) g 238 7 rfl
  have b17 := gi_b (lo := -2147483648) (hi := 2147483647) g 3 8 rfl
  have b18 := gi_b (lo := 0) (hi := 999) g 238 8 rfl
  have b19 := gi_b (lo := -2147483648) (hi := 2147483647) g 3 9 rfl
  have b20 := gi_b (lo := 0) (hi := 999) g 238 9 rfl
  have b21 := gi_b (lo := -2147483648) (hi := 2147483647) g 63 5 rfl
  have b22 := gi_b (lo := 0) (hi := 12) g 18 7 rfl
  have b23 := gi_b (lo := 0) (hi := 12) g 66 1 rfl
  have b24 := gi_b (lo := 0) (hi := 1) g 0 12 rfl
  have b25 := gi_b (lo := 0) (hi := 1) g 236 21 rfl
  have bl_ := gi_b (lo := 0) (hi := 800) g 1 1 rfl
  have tb0 : BufC (h 2) (h 1 1) h := ⟨fun _ => rfl, rfl, by omega, by omega⟩
  have b26 := gi_b (lo := 0) (hi := 6) g 238 98 rfl
  have b27 := gi_b (lo := 0) (hi := 6) g 238 99 rfl
  have b28 := gi_b (lo := 0) (hi := 6) g 238 100 rfl
  have b29 := gi_b (lo := 0) (hi := 6) g 238 101 rfl
  have b30 := gi_b (lo := 0) (hi := 3) g 238 102 rfl
  have b31 := gi_b (lo := 0) (hi := 12) g 238 106 rfl
  have b32 := gi_b (lo := 0) (hi := 12) g 238 73 rfl
  have b33 := gi_b (lo := 0) (hi := 9999) g 238 119 rfl
  have b34 := gi_b (lo := 0) (hi := 9999) g 238 67 rfl
  have b35 := gi_b (lo := 0) (hi := 9) g 238 69 rfl
  have b36 := gi_b (lo := 0) (hi := 6) g 241 98 rfl
  have b37 := gi_b (lo := 0) (hi := 6) g 241 99 rfl
  have b38 := gi_b (lo := 0) (hi := 6) g 241 100 rfl
  have b39 := gi_b (lo := 0) (hi := 6) g 241 101 rfl
  have b40 := gi_b (lo := 0) (hi := 3) g 241 102 rfl
  have b41 := gi_b (lo := 0) (hi := 12) g 241 106 rfl
  have b42 := gi_b (lo := 0) (hi := 12) g 241 73 rfl
  have b43 := gi_b (lo := 0) (hi := 12) g 241 2 rfl
  have b44 := gi_b (lo := 0) (hi := 9999) g 241 119 rfl
  have b45 := gi_b (lo := 0) (hi := 9999) g 241 67 rfl
  have b46 := gi_b (lo := 0) (hi := 9) g 241 69 rfl
  have b47 := gi_b (lo := 0) (hi := 9) g 241 5 rfl
  have b48 := gi_b (lo := 0) (hi := 800) g 1 1 rfl
  have b49 := gi_b (lo := 0) (hi := 800) g 236 2 rfl
  have b50 := gi_b (lo := -2147483648) (hi := 2147483647) g 1 2 rfl
  have b51 := gi_b (lo := -2147483648) (hi := 2147483647) g 236 10 rfl
  have b52 := gi_b (lo := -2147483648) (hi := 2147483647) g 1 3 rfl
  have b53 := gi_b (lo := -2147483648) (hi := 2147483647) g 236 11 rfl
  refine wi_aload_n (i := 1) (x := 0) (nx := 1328) (r1 := 0) (r2 := 0) (r3 := 0) rfl rfl ?_
  refine wr_V (k0 := 0) (rest := []) (as := [.ref 0]) (nx := 1331) (r1 := 55) (r2 := 0) (r3 := 0) rfl rfl rfl (of_decide_eq_true rfl) rfl rfl (by decide) rfl rfl (of_decide_eq_true rfl) (of_decide_eq_true rfl) ?_
  refine ct_55_0 hcr  g   (show (h 63 5) ≤ (h 18 16) by omega) (show (h 63 5) < (h 18 16) ∨ ((h 18 7) ≤ (h 3 2) ∧ (h 66 1) = (h 3 2) - (h 18 7)) ∨ ((h 3 2) < (h 18 7) ∧ (h 66 1) = 0) by omega) (show 0 ≤ (h 3 9) by omega) (show (h 18 16) ≤ 1900000000 by omega) mi0 (fun h54 z55 g54 u54 (fz55 : -2147483648 ≤ z55 ∧ z55 ≤ 2147483647) (p54_0 : (h54 63 5) ≤ (h54 18 16)) (p54_1 : (h54 63 5) < (h54 18 16) ∨ ((h54 18 7) ≤ (h54 3 2) ∧ (h54 66 1) = (h54 3 2) - (h54 18 7)) ∨ ((h54 3 2) < (h54 18 7) ∧ (h54 66 1) = 0)) (p54_2 : (h 18 16) ≤ (h54 18 16) ∧ (h54 18 16) ≤ (h 18 16) + 0) y54_0 => ?_)
  have b56 := gi_b (lo := -2147483648) (hi := 2147483647) g54 63 5 rfl
  have e57 : h54 18 16 = h 18 16 := (u54 18 16 rfl)
  have e58 : h54 18 7 = h 18 7 := (u54 18 7 rfl)
  have e59 : h54 3 2 = h 3 2 := (u54 3 2 rfl)
  have b60 := gi_b (lo := 0) (hi := 12) g54 66 1 rfl
  refine wk_i ?_
  refine wi_pop (nx := 1332) (r1 := 0) (r2 := 0) (r3 := 0) rfl rfl ?_
  refine wi_aload_n (i := 2) (x := 236) (nx := 1333) (r1 := 0) (r2 := 0) (r3 := 0) rfl rfl ?_
  refine wr_V (k0 := 236) (rest := []) (as := [.ref 236]) (nx := 1336) (r1 := 322) (r2 := 0) (r3 := 11) rfl rfl rfl (of_decide_eq_true rfl) rfl rfl (by decide) rfl rfl (of_decide_eq_true rfl) (of_decide_eq_true rfl) ?_
  have e62 : h54 238 98 = h 238 98 := (u54 238 98 rfl)
  have e63 : h54 238 99 = h 238 99 := (u54 238 99 rfl)
  have e64 : h54 238 100 = h 238 100 := (u54 238 100 rfl)
  have e65 : h54 238 101 = h 238 101 := (u54 238 101 rfl)
  have e66 : h54 238 102 = h 238 102 := (u54 238 102 rfl)
  have e67 : h54 238 106 = h 238 106 := (u54 238 106 rfl)
  have e68 : h54 238 73 = h 238 73 := (u54 238 73 rfl)
  have e69 : h54 238 2 = h 238 2 := (u54 238 2 rfl)
  have e70 : h54 238 119 = h 238 119 := (u54 238 119 rfl)
  have e71 : h54 238 67 = h 238 67 := (u54 238 67 rfl)
  have e72 : h54 238 69 = h 238 69 := (u54 238 69 rfl)
  have e73 : h54 238 5 = h 238 5 := (u54 238 5 rfl)
  refine ct_322_236 hcr  g54   (show (h54 238 98) + (h54 238 99) + (h54 238 100) + (h54 238 101) + (h54 238 102) + (h54 238 106) = (h54 238 73) by omega) (show (h54 238 73) ≤ (h54 238 2) by omega) (show (h54 238 119) ≤ (h54 238 67) by omega) (show (h54 238 69) ≤ (h54 238 5) by omega) (show (h54 238 2) ≤ 12 * (h54 238 5) by omega) (fun h61 z74 g61 u61 (fz74 : 0 ≤ z74 ∧ z74 ≤ 1000000) => ?_)
  refine wk_i ?_
  refine wi_pop (nx := 1337) (r1 := 0) (r2 := 0) (r3 := 0) rfl rfl ?_
  refine wi_goto (nx := 1340) (r1 := 1501) (r2 := 0) (r3 := 0) rfl ?_
  have e75 : h61 238 98 = h 238 98 := ((u61 238 98 rfl).trans (u54 238 98 rfl))
  have e76 : h61 238 99 = h 238 99 := ((u61 238 99 rfl).trans (u54 238 99 rfl))
  have e77 : h61 238 100 = h 238 100 := ((u61 238 100 rfl).trans (u54 238 100 rfl))
  have e78 : h61 238 101 = h 238 101 := ((u61 238 101 rfl).trans (u54 238 101 rfl))
  have e79 : h61 238 102 = h 238 102 := ((u61 238 102 rfl).trans (u54 238 102 rfl))
  have e80 : h61 238 106 = h 238 106 := ((u61 238 106 rfl).trans (u54 238 106 rfl))
  have e81 : h61 238 73 = h 238 73 := ((u61 238 73 rfl).trans (u54 238 73 rfl))
  have e82 : h61 238 2 = h 238 2 := ((u61 238 2 rfl).trans (u54 238 2 rfl))
  have e83 : h61 238 119 = h 238 119 := ((u61 238 119 rfl).trans (u54 238 119 rfl))
  have e84 : h61 238 67 = h 238 67 := ((u61 238 67 rfl).trans (u54 238 67 rfl))
  have e85 : h61 238 69 = h 238 69 := ((u61 238 69 rfl).trans (u54 238 69 rfl))
  have e86 : h61 238 5 = h 238 5 := ((u61 238 5 rfl).trans (u54 238 5 rfl))
  have e87 : h61 241 98 = h 241 98 := ((u61 241 98 rfl).trans (u54 241 98 rfl))
  have e88 : h61 241 99 = h 241 99 := ((u61 241 99 rfl).trans (u54 241 99 rfl))
  have e89 : h61 241 100 = h 241 100 := ((u61 241 100 rfl).trans (u54 241 100 rfl))
  have e90 : h61 241 101 = h 241 101 := ((u61 241 101 rfl).trans (u54 241 101 rfl))
  have e91 : h61 241 102 = h 241 102 := ((u61 241 102 rfl).trans (u54 241 102 rfl))
  have e92 : h61 241 106 = h 241 106 := ((u61 241 106 rfl).trans (u54 241 106 rfl))
  have e93 : h61 241 73 = h 241 73 := ((u61 241 73 rfl).trans (u54 241 73 rfl))
  have e94 : h61 241 2 = h 241 2 := ((u61 241 2 rfl).trans (u54 241 2 rfl))
  have e95 : h61 241 119 = h 241 119 := ((u61 241 119 rfl).trans (u54 241 119 rfl))
  have e96 : h61 241 67 = h 241 67 := ((u61 241 67 rfl).trans (u54 241 67 rfl))
  have e97 : h61 241 69 = h 241 69 := ((u61 241 69 rfl).trans (u54 241 69 rfl))
  have e98 : h61 241 5 = h 241 5 := ((u61 241 5 rfl).trans (u54 241 5 rfl))
  have e99 : h61 1 1 = h 1 1 := ((u61 1 1 rfl).trans (u54 1 1 rfl))
  have e100 : h61 236 2 = h 236 2 := ((u61 236 2 rfl).trans (u54 236 2 rfl))
  have e101 : h61 1 2 = h 1 2 := ((u61 1 2 rfl).trans (u54 1 2 rfl))
  have e102 : h61 236 10 = h 236 10 := ((u61 236 10 rfl).trans (u54 236 10 rfl))
  have e103 : h61 1 3 = h 1 3 := ((u61 1 3 rfl).trans (u54 1 3 rfl))
  have e104 : h61 236 11 = h 236 11 := ((u61 236 11 rfl).trans (u54 236 11 rfl))
  have gp105 := GPH.fr u54 rfl gp0
  have gp106 := GPH.fr u61 rfl gp105
  have b107 := gi_b (lo := 0) (hi := 5) g 241 0 rfl
  have b108 := gi_b (lo := 0) (hi := 4) g 241 1 rfl
  have gs109 := GPS.fr u54 rfl gs0
  have gs110 := GPS.fr u61 rfl gs109
  have e111 : h61 0 12 = h 0 12 := ((u61 0 12 rfl).trans (u54 0 12 rfl))
  have e112 : h61 236 21 = h 236 21 := ((u61 236 21 rfl).trans (u54 236 21 rfl))
  have e113 : h61 63 5 = h54 63 5 := (u61 63 5 rfl)
  have e114 : h61 18 16 = h 18 16 := ((u61 18 16 rfl).trans (u54 18 16 rfl))
  have e115 : h61 18 7 = h 18 7 := ((u61 18 7 rfl).trans (u54 18 7 rfl))
  have e116 : h61 3 2 = h 3 2 := ((u61 3 2 rfl).trans (u54 3 2 rfl))
  have e117 : h61 66 1 = h54 66 1 := (u61 66 1 rfl)
  have b118 := gi_b (lo := 0) (hi := 6) g 73 1 rfl
  have e119 : h61 73 1 = h 73 1 := ((u61 73 1 rfl).trans (u54 73 1 rfl))
  have b120 := gi_b (lo := 0) (hi := 6) g 73 2 rfl
  have e121 : h61 73 2 = h 73 2 := ((u61 73 2 rfl).trans (u54 73 2 rfl))
  have b122 := gi_b (lo := 0) (hi := 6) g 236 22 rfl
  have e123 : h61 236 22 = h 236 22 := ((u61 236 22 rfl).trans (u54 236 22 rfl))
  have b124 := gi_b (lo := 0) (hi := 12) g 210 2 rfl
  have e125 : h61 210 2 = h 210 2 := ((u61 210 2 rfl).trans (u54 210 2 rfl))
  have q128 : h61 8 = h54 8 := funext (fun i => (u61 8 i (fo_no_ok (by decide) i)))
  have q129 : h61 7 = h54 7 := funext (fun i => (u61 7 i (fo_no_ok (by decide) i)))
  have q130 : h61 19 = h54 19 := funext (fun i => (u61 19 i (fo_no_ok (by decide) i)))
  have q131 : h61 67 = h54 67 := funext (fun i => (u61 67 i (fo_no_ok (by decide) i)))
  have ml127 : MCL h61 := MCL.mv y54_0.1 q128 q129 q130 q131 (by omega) (by omega) (by omega) (by omega)
  have q133 : h61 69 = h54 69 := funext (fun i => (u61 69 i (fo_no_ok (by decide) i)))
  have q134 : h61 70 = h54 70 := funext (fun i => (u61 70 i (fo_no_ok (by decide) i)))
  have nb132 : NBc (h61 69) (h61 70) := by rw [q133, q134]; exact y54_0.2.2
  have q135 : h61 8 = h54 8 := funext (fun i => (u61 8 i (fo_no_ok (by decide) i)))
  have q136 : h61 7 = h54 7 := funext (fun i => (u61 7 i (fo_no_ok (by decide) i)))
  have e137 : h54 73 1 = h 73 1 := (u54 73 1 rfl)
  have e138 : h54 73 2 = h 73 2 := (u54 73 2 rfl)
  have mi126 : MCI h61 := ⟨ml127, HIv.mv y54_0.2.1 q135 q136 (by omega) (by omega) (sv_seven (P := fun x => ∀ i, h61 (76 + 19 * x) i = h54 (76 + 19 * x) i) (fun i => (u61 76 i (fo_nk rfl))) (fun i => (u61 95 i (fo_nk rfl))) (fun i => (u61 114 i (fo_nk rfl))) (fun i => (u61 133 i (fo_nk rfl))) (fun i => (u61 152 i (fo_nk rfl))) (fun i => (u61 171 i (fo_nk rfl))) (fun i => (u61 190 i (fo_nk rfl)))) (by omega) (by omega), nb132⟩
  have gq139 := GQS.fr u54 rfl gq0
  have gq140 := GQS.fr u61 rfl gq139
  have q141 : h61 8 = h 8 := funext (fun i => ((u61 8 i (fo_no_ok (by decide) i)).trans (u54 8 i (fo_no_ok (by decide) i))))
  have q142 : h61 7 = h 7 := funext (fun i => ((u61 7 i (fo_no_ok (by decide) i)).trans (u54 7 i (fo_no_ok (by decide) i))))
  have q143 : h61 215 = h 215 := funext (fun i => ((u61 215 i (fo_no_ok (by decide) i)).trans (u54 215 i (fo_no_ok (by decide) i))))
  have q144 : h61 218 = h 218 := funext (fun i => ((u61 218 i (fo_no_ok (by decide) i)).trans (u54 218 i (fo_no_ok (by decide) i))))
  have q145 : h61 214 = h 214 := funext (fun i => ((u61 214 i (fo_no_ok (by decide) i)).trans (u54 214 i (fo_no_ok (by decide) i))))
  have q146 : h61 241 = h 241 := funext (fun i => ((u61 241 i (fo_no_ok (by decide) i)).trans (u54 241 i (fo_no_ok (by decide) i))))
  exact k h61 b c ⟨⟨g61, (show h61 1 1 = h61 236 2 by omega), (RS.i0 (f := h61 238) (by refine ⟨?_, ?_, ?_, ?_, ?_⟩ <;> omega)), (RS.i0 (f := h61 241) (by refine ⟨?_, ?_, ?_, ?_, ?_⟩ <;> omega)), gp106, (BRh.keep br0 (fun i => ((u61 2 i (fo_nk rfl)).trans (u54 2 i (fo_nk rfl)))) (fun i => ((u61 237 i (fo_nk rfl)).trans (u54 237 i (fo_nk rfl)))) (by omega)), (show h61 1 2 = h61 236 10 by omega), (show h61 1 3 = h61 236 11 by omega), (SVx.keep sv0 (by omega) (fun i _ => ((u61 3 i (fo_nk rfl)).trans (u54 3 i (fo_nk rfl)))) (fun i _ => ((u61 5 i (fo_nk rfl)).trans (u54 5 i (fo_nk rfl)))) (fun i _ => ((u61 6 i (fo_nk rfl)).trans (u54 6 i (fo_nk rfl)))) (fun i _ => ((u61 8 i (fo_nk rfl)).trans (u54 8 i (fo_nk rfl)))) (fun i _ => ((u61 238 i (fo_nk rfl)).trans (u54 238 i (fo_nk rfl))))), (show h61 0 12 = h61 236 21 by omega), (fun e => (SVx.keep (ss0 (by omega)) (by omega) (fun i _ => ((u61 210 i (fo_nk rfl)).trans (u54 210 i (fo_nk rfl)))) (fun i _ => ((u61 212 i (fo_nk rfl)).trans (u54 212 i (fo_nk rfl)))) (fun i _ => ((u61 213 i (fo_nk rfl)).trans (u54 213 i (fo_nk rfl)))) (fun i _ => ((u61 215 i (fo_nk rfl)).trans (u54 215 i (fo_nk rfl)))) (fun i _ => ((u61 241 i (fo_nk rfl)).trans (u54 241 i (fo_nk rfl)))))), gs110, mi126, (show h61 63 5 ≤ h61 18 16 by omega), (show (h61 63 5) < (h61 18 16) ∨ ((h61 18 7) ≤ (h61 3 2) ∧ (h61 66 1) = (h61 3 2) - (h61 18 7)) ∨ ((h61 3 2) < (h61 18 7) ∧ (h61 66 1) = 0) by omega), gq140, (MR.mv mr0 (MSN.then (MSN.refl) (fun i _ => ((u61 238 i (fo_nk rfl)).trans (u54 238 i (fo_nk rfl))))) (by omega) q141 q142 (by omega)), (fun e => SM.mv (sm0 (by omega)) q143 q144 q145 (by omega) q146)⟩, (by omega)⟩ (by omega) (by omega)
-- the law, case at 1340
set_option maxRecDepth 100000 in
set_option maxHeartbeats 100000000 in
theorem lc_1340 {L : Nat} {xs : Nat → Int32} {d b c : Nat} {h : hp} {cr : Nat → Nat → Option Nat} {Q : hp_Q} (hcr : CR cr) (hL : L ≤ 3072) (hr : 1 ≤ b ∧ 6 ≤ c) (i : Int) (I : LIm i h) (hi : 0 ≤ i ∧ i + 6 ≤ L) (k : ∀ (h2 : hp) (b2 c2 : Nat), LIm (i + 6) h2 → b ≤ b2 + 1 → c ≤ c2 + 6 → wp (md_xa (L, xs)) (d + 107) 0 (1501, [(0, .ref 1000000), (1, .ref 0), (2, .ref 236), (3, .ref 259), (4, vi i)], [], hp_w h2 cr, b2, c2) Q) : wp (md_xa (L, xs)) (d + 107) 0 (1340, [(0, .ref 1000000), (1, .ref 0), (2, .ref 236), (3, .ref 259), (4, vi i)], [], hp_w h cr, b, c) Q := by
  obtain ⟨⟨g, i11, r238, r241, gp0, br0, er2, er3, sv0, sf0, ss0, gs0, mi0, ml1, ml2, gq0, mr0, sm0⟩, ie0⟩ := I
  have r238e := r238.e0
  have r241e := r241.e0
  obtain ⟨⟨se0, se1, se2, se3, se4, se5, se6, se7, se8, se9⟩, -⟩ := id sv0
  have b1 := gi_b (lo := 0) (hi := 5) g 3 0 rfl
  have b2 := gi_b (lo := 0) (hi := 5) g 238 0 rfl
  have b3 := gi_b (lo := 0) (hi := 4) g 3 1 rfl
  have b4 := gi_b (lo := 0) (hi := 4) g 238 1 rfl
  have b5 := gi_b (lo := 0) (hi := 12) g 3 2 rfl
  have b6 := gi_b (lo := 0) (hi := 12) g 238 2 rfl
  have b7 := gi_b (lo := -2147483648) (hi := 2147483647) g 3 3 rfl
  have b8 := gi_b (lo := 0) (hi := 999) g 238 3 rfl
  have b9 := gi_b (lo := -2147483648) (hi := 2147483647) g 3 4 rfl
  have b10 := gi_b (lo := 0) (hi := 999) g 238 4 rfl
  have b11 := gi_b (lo := -2147483648) (hi := 2147483647) g 3 5 rfl
  have b12 := gi_b (lo := 0) (hi := 9) g 238 5 rfl
  have b13 := gi_b (lo := -2147483648) (hi := 2147483647) g 3 6 rfl
  have b14 := gi_b (lo := 0) (hi := 999) g 238 6 rfl
  have b15 := gi_b (lo := -2147483648) (hi := 2147483647) g 3 7 rfl
  have b16 := gi_b (lo := 0) (hi := 3) g 238 7 rfl
  have b17 := gi_b (lo := -2147483648) (hi := 2147483647) g 3 8 rfl
  have b18 := gi_b (lo := 0) (hi := 999) g 238 8 rfl
  have b19 := gi_b (lo := -2147483648) (hi := 2147483647) g 3 9 rfl
  have b20 := gi_b (lo := 0) (hi := 999) g 238 9 rfl
  have b21 := gi_b (lo := -2147483648) (hi := 2147483647) g 63 5 rfl
  have b22 := gi_b (lo := 0) (hi := 12) g 18 7 rfl
  have b23 := gi_b (lo := 0) (hi := 12) g 66 1 rfl
  have b24 := gi_b (lo := 0) (hi := 1) g 0 12 rfl
  have b25 := gi_b (lo := 0) (hi := 1) g 236 21 rfl
  have bl_ := gi_b (lo := 0) (hi := 800) g 1 1 rfl
  have tb0 : BufC (h 2) (h 1 1) h := ⟨fun _ => rfl, rfl, by omega, by omega⟩
  have b26 := gi_b (lo := 0) (hi := 6) g 238 98 rfl
  have b27 := gi_b (lo := 0) (hi := 6) g 238 99 rfl
  have b28 := gi_b (lo := 0) (hi := 6) g 238 100 rfl
  have b29 := gi_b (lo := 0) (hi := 6) g 238 101 rfl
  have b30 := gi_b (lo := 0) (hi := 3) g 238 102 rfl
  have b31 := gi_b (lo := 0) (hi := 12) g 238 106 rfl
  have b32 := gi_b (lo := 0) (hi := 12) g 238 73 rfl
  have b33 := gi_b (lo := 0) (hi := 9999) g 238 119 rfl
  have b34 := gi_b (lo := 0) (hi := 9999) g 238 67 rfl
  have b35 := gi_b (lo := 0) (hi := 9) g 238 69 rfl
  have b36 := gi_b (lo := 0) (hi := 6) g 241 98 rfl
  have b37 := gi_b (lo := 0) (hi := 6) g 241 99 rfl
  have b38 := gi_b (lo := 0) (hi := 6) g 241 100 rfl
  have b39 := gi_b (lo := 0) (hi := 6) g 241 101 rfl
  have b40 := gi_b (lo := 0) (hi := 3) g 241 102 rfl
  have b41 := gi_b (lo := 0) (hi := 12) g 241 106 rfl
  have b42 := gi_b (lo := 0) (hi := 12) g 241 73 rfl
  have b43 := gi_b (lo := 0) (hi := 12) g 241 2 rfl
  have b44 := gi_b (lo := 0) (hi := 9999) g 241 119 rfl
  have b45 := gi_b (lo := 0) (hi := 9999) g 241 67 rfl
  have b46 := gi_b (lo := 0) (hi := 9) g 241 69 rfl
  have b47 := gi_b (lo := 0) (hi := 9) g 241 5 rfl
  have b48 := gi_b (lo := 0) (hi := 800) g 1 1 rfl
  have b49 := gi_b (lo := 0) (hi := 800) g 236 2 rfl
  have b50 := gi_b (lo := -2147483648) (hi := 2147483647) g 1 2 rfl
  have b51 := gi_b (lo := -2147483648) (hi := 2147483647) g 236 10 rfl
  have b52 := gi_b (lo := -2147483648) (hi := 2147483647) g 1 3 rfl
  have b53 := gi_b (lo := -2147483648) (hi := 2147483647) g 236 11 rfl
  refine wi_aload_n (i := 1) (x := 0) (nx := 1341) (r1 := 0) (r2 := 0) (r3 := 0) rfl rfl ?_
  refine wi_aload_n (i := 0) (x := 1000000) (nx := 1342) (r1 := 0) (r2 := 0) (r3 := 0) rfl rfl ?_
  refine wi_iload (i := 4) (e := i) (nx := 1344) (r1 := 0) (r2 := 0) (r3 := 0) rfl rfl ?_
  refine wi_iconst (n := 1) (nx := 1345) (r1 := 0) (r2 := 0) (r3 := 0) rfl ?_
  refine wr_add (nx := 1346) (r1 := 0) (r2 := 0) (r3 := 0) rfl (fun e54 (fe54 : e54 = i + 1) => ?_)
  obtain ⟨i55, ei55⟩ : ∃ q : Nat, e54 = (q : Int) := ⟨(e54).toNat, by omega⟩
  have s56 := sc_b (xs i55)
  refine wr_sc (a := e54) (f := i55) (nx := 1347) (r1 := 0) (r2 := 0) (r3 := 0) rfl (by omega) (by omega) hL ?_
  refine wr_V (k0 := 0) (rest := []) (as := [.ref 0, vi ((xs i55).toInt)]) (nx := 1350) (r1 := 56) (r2 := 1) (r3 := 0) rfl rfl rfl (of_decide_eq_true rfl) rfl rfl (by decide) rfl rfl (of_decide_eq_true rfl) (of_decide_eq_true rfl) ?_
  refine ct_56_0 hcr  g ((xs i55).toInt) (by omega) (show (h 63 5) ≤ (h 18 16) by omega) (show (h 63 5) < (h 18 16) ∨ ((h 18 7) ≤ (h 3 2) ∧ (h 66 1) = (h 3 2) - (h 18 7)) ∨ ((h 3 2) < (h 18 7) ∧ (h 66 1) = 0) by omega) (show 0 ≤ (h 3 9) by omega) (show (h 18 16) ≤ 1900000000 by omega) mi0 (fun h57 z58 g57 u57 (fz58 : -2147483648 ≤ z58 ∧ z58 ≤ 2147483647) (p57_0 : (h57 63 5) ≤ (h57 18 16)) (p57_1 : (h57 63 5) < (h57 18 16) ∨ ((h57 18 7) ≤ (h57 3 2) ∧ (h57 66 1) = (h57 3 2) - (h57 18 7)) ∨ ((h57 3 2) < (h57 18 7) ∧ (h57 66 1) = 0)) (p57_2 : (h 18 16) ≤ (h57 18 16) ∧ (h57 18 16) ≤ (h 18 16) + 0) y57_0 => ?_)
  have b59 := gi_b (lo := -2147483648) (hi := 2147483647) g57 63 5 rfl
  have e60 : h57 18 16 = h 18 16 := (u57 18 16 rfl)
  have e61 : h57 18 7 = h 18 7 := (u57 18 7 rfl)
  have e62 : h57 3 2 = h 3 2 := (u57 3 2 rfl)
  have b63 := gi_b (lo := 0) (hi := 12) g57 66 1 rfl
  refine wk_i ?_
  refine wi_pop (nx := 1351) (r1 := 0) (r2 := 0) (r3 := 0) rfl rfl ?_
  refine wi_aload_n (i := 2) (x := 236) (nx := 1352) (r1 := 0) (r2 := 0) (r3 := 0) rfl rfl ?_
  refine wi_aload_n (i := 0) (x := 1000000) (nx := 1353) (r1 := 0) (r2 := 0) (r3 := 0) rfl rfl ?_
  refine wi_iload (i := 4) (e := i) (nx := 1355) (r1 := 0) (r2 := 0) (r3 := 0) rfl rfl ?_
  refine wi_iconst (n := 1) (nx := 1356) (r1 := 0) (r2 := 0) (r3 := 0) rfl ?_
  refine wr_add (nx := 1357) (r1 := 0) (r2 := 0) (r3 := 0) rfl (fun e64 (fe64 : e64 = i + 1) => ?_)
  refine wr_sc (a := e64) (f := i55) (nx := 1358) (r1 := 0) (r2 := 0) (r3 := 0) rfl (by omega) (by omega) hL ?_
  refine wr_V (k0 := 236) (rest := []) (as := [.ref 236, vi ((xs i55).toInt)]) (nx := 1361) (r1 := 330) (r2 := 1) (r3 := 11) rfl rfl rfl (of_decide_eq_true rfl) rfl rfl (by decide) rfl rfl (of_decide_eq_true rfl) (of_decide_eq_true rfl) ?_
  have e66 : h57 238 98 = h 238 98 := (u57 238 98 rfl)
  have e67 : h57 238 99 = h 238 99 := (u57 238 99 rfl)
  have e68 : h57 238 100 = h 238 100 := (u57 238 100 rfl)
  have e69 : h57 238 101 = h 238 101 := (u57 238 101 rfl)
  have e70 : h57 238 102 = h 238 102 := (u57 238 102 rfl)
  have e71 : h57 238 106 = h 238 106 := (u57 238 106 rfl)
  have e72 : h57 238 73 = h 238 73 := (u57 238 73 rfl)
  have e73 : h57 238 2 = h 238 2 := (u57 238 2 rfl)
  have e74 : h57 238 119 = h 238 119 := (u57 238 119 rfl)
  have e75 : h57 238 67 = h 238 67 := (u57 238 67 rfl)
  have e76 : h57 238 69 = h 238 69 := (u57 238 69 rfl)
  have e77 : h57 238 5 = h 238 5 := (u57 238 5 rfl)
  refine ct_330_236 hcr  g57 ((xs i55).toInt) (by omega) (show (h57 238 98) + (h57 238 99) + (h57 238 100) + (h57 238 101) + (h57 238 102) + (h57 238 106) = (h57 238 73) by omega) (show (h57 238 73) ≤ (h57 238 2) by omega) (show (h57 238 119) ≤ (h57 238 67) by omega) (show (h57 238 69) ≤ (h57 238 5) by omega) (show (h57 238 2) ≤ 12 * (h57 238 5) by omega) (fun h65 z78 g65 u65 (fz78 : -1 ≤ z78 ∧ z78 ≤ 4) => ?_)
  refine wk_i ?_
  refine wi_pop (nx := 1362) (r1 := 0) (r2 := 0) (r3 := 0) rfl rfl ?_
  refine wi_goto (nx := 1365) (r1 := 1501) (r2 := 0) (r3 := 0) rfl ?_
  have e79 : h65 238 98 = h 238 98 := ((u65 238 98 rfl).trans (u57 238 98 rfl))
  have e80 : h65 238 99 = h 238 99 := ((u65 238 99 rfl).trans (u57 238 99 rfl))
  have e81 : h65 238 100 = h 238 100 := ((u65 238 100 rfl).trans (u57 238 100 rfl))
  have e82 : h65 238 101 = h 238 101 := ((u65 238 101 rfl).trans (u57 238 101 rfl))
  have e83 : h65 238 102 = h 238 102 := ((u65 238 102 rfl).trans (u57 238 102 rfl))
  have e84 : h65 238 106 = h 238 106 := ((u65 238 106 rfl).trans (u57 238 106 rfl))
  have e85 : h65 238 73 = h 238 73 := ((u65 238 73 rfl).trans (u57 238 73 rfl))
  have e86 : h65 238 2 = h 238 2 := ((u65 238 2 rfl).trans (u57 238 2 rfl))
  have e87 : h65 238 119 = h 238 119 := ((u65 238 119 rfl).trans (u57 238 119 rfl))
  have e88 : h65 238 67 = h 238 67 := ((u65 238 67 rfl).trans (u57 238 67 rfl))
  have e89 : h65 238 69 = h 238 69 := ((u65 238 69 rfl).trans (u57 238 69 rfl))
  have e90 : h65 238 5 = h 238 5 := ((u65 238 5 rfl).trans (u57 238 5 rfl))
  have e91 : h65 241 98 = h 241 98 := ((u65 241 98 rfl).trans (u57 241 98 rfl))
  have e92 : h65 241 99 = h 241 99 := ((u65 241 99 rfl).trans (u57 241 99 rfl))
  have e93 : h65 241 100 = h 241 100 := ((u65 241 100 rfl).trans (u57 241 100 rfl))
  have e94 : h65 241 101 = h 241 101 := ((u65 241 101 rfl).trans (u57 241 101 rfl))
  have e95 : h65 241 102 = h 241 102 := ((u65 241 102 rfl).trans (u57 241 102 rfl))
  have e96 : h65 241 106 = h 241 106 := ((u65 241 106 rfl).trans (u57 241 106 rfl))
  have e97 : h65 241 73 = h 241 73 := ((u65 241 73 rfl).trans (u57 241 73 rfl))
  have e98 : h65 241 2 = h 241 2 := ((u65 241 2 rfl).trans (u57 241 2 rfl))
  have e99 : h65 241 119 = h 241 119 := ((u65 241 119 rfl).trans (u57 241 119 rfl))
  have e100 : h65 241 67 = h 241 67 := ((u65 241 67 rfl).trans (u57 241 67 rfl))
  have e101 : h65 241 69 = h 241 69 := ((u65 241 69 rfl).trans (u57 241 69 rfl))
  have e102 : h65 241 5 = h 241 5 := ((u65 241 5 rfl).trans (u57 241 5 rfl))
  have e103 : h65 1 1 = h 1 1 := ((u65 1 1 rfl).trans (u57 1 1 rfl))
  have e104 : h65 236 2 = h 236 2 := ((u65 236 2 rfl).trans (u57 236 2 rfl))
  have e105 : h65 1 2 = h 1 2 := ((u65 1 2 rfl).trans (u57 1 2 rfl))
  have e106 : h65 236 10 = h 236 10 := ((u65 236 10 rfl).trans (u57 236 10 rfl))
  have e107 : h65 1 3 = h 1 3 := ((u65 1 3 rfl).trans (u57 1 3 rfl))
  have e108 : h65 236 11 = h 236 11 := ((u65 236 11 rfl).trans (u57 236 11 rfl))
  have gp109 := GPH.fr u57 rfl gp0
  have gp110 := GPH.fr u65 rfl gp109
  have b111 := gi_b (lo := 0) (hi := 5) g 241 0 rfl
  have b112 := gi_b (lo := 0) (hi := 4) g 241 1 rfl
  have gs113 := GPS.fr u57 rfl gs0
  have gs114 := GPS.fr u65 rfl gs113
  have e115 : h65 0 12 = h 0 12 := ((u65 0 12 rfl).trans (u57 0 12 rfl))
  have e116 : h65 236 21 = h 236 21 := ((u65 236 21 rfl).trans (u57 236 21 rfl))
  have e117 : h65 63 5 = h57 63 5 := (u65 63 5 rfl)
  have e118 : h65 18 16 = h 18 16 := ((u65 18 16 rfl).trans (u57 18 16 rfl))
  have e119 : h65 18 7 = h 18 7 := ((u65 18 7 rfl).trans (u57 18 7 rfl))
  have e120 : h65 3 2 = h 3 2 := ((u65 3 2 rfl).trans (u57 3 2 rfl))
  have e121 : h65 66 1 = h57 66 1 := (u65 66 1 rfl)
  have b122 := gi_b (lo := 0) (hi := 6) g 73 1 rfl
  have e123 : h65 73 1 = h 73 1 := ((u65 73 1 rfl).trans (u57 73 1 rfl))
  have b124 := gi_b (lo := 0) (hi := 6) g 73 2 rfl
  have e125 : h65 73 2 = h 73 2 := ((u65 73 2 rfl).trans (u57 73 2 rfl))
  have b126 := gi_b (lo := 0) (hi := 6) g 236 22 rfl
  have e127 : h65 236 22 = h 236 22 := ((u65 236 22 rfl).trans (u57 236 22 rfl))
  have b128 := gi_b (lo := 0) (hi := 12) g 210 2 rfl
  have e129 : h65 210 2 = h 210 2 := ((u65 210 2 rfl).trans (u57 210 2 rfl))
  have q132 : h65 8 = h57 8 := funext (fun i => (u65 8 i (fo_no_ok (by decide) i)))
  have q133 : h65 7 = h57 7 := funext (fun i => (u65 7 i (fo_no_ok (by decide) i)))
  have q134 : h65 19 = h57 19 := funext (fun i => (u65 19 i (fo_no_ok (by decide) i)))
  have q135 : h65 67 = h57 67 := funext (fun i => (u65 67 i (fo_no_ok (by decide) i)))
  have ml131 : MCL h65 := MCL.mv y57_0.1 q132 q133 q134 q135 (by omega) (by omega) (by omega) (by omega)
  have q137 : h65 69 = h57 69 := funext (fun i => (u65 69 i (fo_no_ok (by decide) i)))
  have q138 : h65 70 = h57 70 := funext (fun i => (u65 70 i (fo_no_ok (by decide) i)))
  have nb136 : NBc (h65 69) (h65 70) := by rw [q137, q138]; exact y57_0.2.2
  have q139 : h65 8 = h57 8 := funext (fun i => (u65 8 i (fo_no_ok (by decide) i)))
  have q140 : h65 7 = h57 7 := funext (fun i => (u65 7 i (fo_no_ok (by decide) i)))
  have e141 : h57 73 1 = h 73 1 := (u57 73 1 rfl)
  have e142 : h57 73 2 = h 73 2 := (u57 73 2 rfl)
  have mi130 : MCI h65 := ⟨ml131, HIv.mv y57_0.2.1 q139 q140 (by omega) (by omega) (sv_seven (P := fun x => ∀ i, h65 (76 + 19 * x) i = h57 (76 + 19 * x) i) (fun i => (u65 76 i (fo_nk rfl))) (fun i => (u65 95 i (fo_nk rfl))) (fun i => (u65 114 i (fo_nk rfl))) (fun i => (u65 133 i (fo_nk rfl))) (fun i => (u65 152 i (fo_nk rfl))) (fun i => (u65 171 i (fo_nk rfl))) (fun i => (u65 190 i (fo_nk rfl)))) (by omega) (by omega), nb136⟩
  have gq143 := GQS.fr u57 rfl gq0
  have gq144 := GQS.fr u65 rfl gq143
  have q145 : h65 8 = h 8 := funext (fun i => ((u65 8 i (fo_no_ok (by decide) i)).trans (u57 8 i (fo_no_ok (by decide) i))))
  have q146 : h65 7 = h 7 := funext (fun i => ((u65 7 i (fo_no_ok (by decide) i)).trans (u57 7 i (fo_no_ok (by decide) i))))
  have q147 : h65 215 = h 215 := funext (fun i => ((u65 215 i (fo_no_ok (by decide) i)).trans (u57 215 i (fo_no_ok (by decide) i))))
  have q148 : h65 218 = h 218 := funext (fun i => ((u65 218 i (fo_no_ok (by decide) i)).trans (u57 218 i (fo_no_ok (by decide) i))))
  have q149 : h65 214 = h 214 := funext (fun i => ((u65 214 i (fo_no_ok (by decide) i)).trans (u57 214 i (fo_no_ok (by decide) i))))
  have q150 : h65 241 = h 241 := funext (fun i => ((u65 241 i (fo_no_ok (by decide) i)).trans (u57 241 i (fo_no_ok (by decide) i))))
  exact k h65 b c ⟨⟨g65, (show h65 1 1 = h65 236 2 by omega), (RS.i0 (f := h65 238) (by refine ⟨?_, ?_, ?_, ?_, ?_⟩ <;> omega)), (RS.i0 (f := h65 241) (by refine ⟨?_, ?_, ?_, ?_, ?_⟩ <;> omega)), gp110, (BRh.keep br0 (fun i => ((u65 2 i (fo_nk rfl)).trans (u57 2 i (fo_nk rfl)))) (fun i => ((u65 237 i (fo_nk rfl)).trans (u57 237 i (fo_nk rfl)))) (by omega)), (show h65 1 2 = h65 236 10 by omega), (show h65 1 3 = h65 236 11 by omega), (SVx.keep sv0 (by omega) (fun i _ => ((u65 3 i (fo_nk rfl)).trans (u57 3 i (fo_nk rfl)))) (fun i _ => ((u65 5 i (fo_nk rfl)).trans (u57 5 i (fo_nk rfl)))) (fun i _ => ((u65 6 i (fo_nk rfl)).trans (u57 6 i (fo_nk rfl)))) (fun i _ => ((u65 8 i (fo_nk rfl)).trans (u57 8 i (fo_nk rfl)))) (fun i _ => ((u65 238 i (fo_nk rfl)).trans (u57 238 i (fo_nk rfl))))), (show h65 0 12 = h65 236 21 by omega), (fun e => (SVx.keep (ss0 (by omega)) (by omega) (fun i _ => ((u65 210 i (fo_nk rfl)).trans (u57 210 i (fo_nk rfl)))) (fun i _ => ((u65 212 i (fo_nk rfl)).trans (u57 212 i (fo_nk rfl)))) (fun i _ => ((u65 213 i (fo_nk rfl)).trans (u57 213 i (fo_nk rfl)))) (fun i _ => ((u65 215 i (fo_nk rfl)).trans (u57 215 i (fo_nk rfl)))) (fun i _ => ((u65 241 i (fo_nk rfl)).trans (u57 241 i (fo_nk rfl)))))), gs114, mi130, (show h65 63 5 ≤ h65 18 16 by omega), (show (h65 63 5) < (h65 18 16) ∨ ((h65 18 7) ≤ (h65 3 2) ∧ (h65 66 1) = (h65 3 2) - (h65 18 7)) ∨ ((h65 3 2) < (h65 18 7) ∧ (h65 66 1) = 0) by omega), gq144, (MR.mv mr0 (MSN.then (MSN.refl) (fun i _ => ((u65 238 i (fo_nk rfl)).trans (u57 238 i (fo_nk rfl))))) (by omega) q145 q146 (by omega)), (fun e => SM.mv (sm0 (by omega)) q147 q148 q149 (by omega) q150)⟩, (by omega)⟩ (by omega) (by omega)
-- the law, case at 1365
set_option maxRecDepth 100000 in
set_option maxHeartbeats 100000000 in
theorem lc_1365 {L : Nat} {xs : Nat → Int32} {d b c : Nat} {h : hp} {cr : Nat → Nat → Option Nat} {Q : hp_Q} (hcr : CR cr) (hL : L ≤ 3072) (hr : 1 ≤ b ∧ 6 ≤ c) (i : Int) (I : LIm i h) (hi : 0 ≤ i ∧ i + 6 ≤ L) (k : ∀ (h2 : hp) (b2 c2 : Nat), LIm (i + 6) h2 → b ≤ b2 + 1 → c ≤ c2 + 6 → wp (md_xa (L, xs)) (d + 107) 0 (1501, [(0, .ref 1000000), (1, .ref 0), (2, .ref 236), (3, .ref 259), (4, vi i)], [], hp_w h2 cr, b2, c2) Q) : wp (md_xa (L, xs)) (d + 107) 0 (1365, [(0, .ref 1000000), (1, .ref 0), (2, .ref 236), (3, .ref 259), (4, vi i)], [], hp_w h cr, b, c) Q := by
  obtain ⟨⟨g, i11, r238, r241, gp0, br0, er2, er3, sv0, sf0, ss0, gs0, mi0, ml1, ml2, gq0, mr0, sm0⟩, ie0⟩ := I
  have r238e := r238.e0
  have r241e := r241.e0
  obtain ⟨⟨se0, se1, se2, se3, se4, se5, se6, se7, se8, se9⟩, -⟩ := id sv0
  have b1 := gi_b (lo := 0) (hi := 5) g 3 0 rfl
  have b2 := gi_b (lo := 0) (hi := 5) g 238 0 rfl
  have b3 := gi_b (lo := 0) (hi := 4) g 3 1 rfl
  have b4 := gi_b (lo := 0) (hi := 4) g 238 1 rfl
  have b5 := gi_b (lo := 0) (hi := 12) g 3 2 rfl
  have b6 := gi_b (lo := 0) (hi := 12) g 238 2 rfl
  have b7 := gi_b (lo := -2147483648) (hi := 2147483647) g 3 3 rfl
  have b8 := gi_b (lo := 0) (hi := 999) g 238 3 rfl
  have b9 := gi_b (lo := -2147483648) (hi := 2147483647) g 3 4 rfl
  have b10 := gi_b (lo := 0) (hi := 999) g 238 4 rfl
  have b11 := gi_b (lo := -2147483648) (hi := 2147483647) g 3 5 rfl
  have b12 := gi_b (lo := 0) (hi := 9) g 238 5 rfl
  have b13 := gi_b (lo := -2147483648) (hi := 2147483647) g 3 6 rfl
  have b14 := gi_b (lo := 0) (hi := 999) g 238 6 rfl
  have b15 := gi_b (lo := -2147483648) (hi := 2147483647) g 3 7 rfl
  have b16 := gi_b (lo := 0) (hi := 3) g 238 7 rfl
  have b17 := gi_b (lo := -2147483648) (hi := 2147483647) g 3 8 rfl
  have b18 := gi_b (lo := 0) (hi := 999) g 238 8 rfl
  have b19 := gi_b (lo := -2147483648) (hi := 2147483647) g 3 9 rfl
  have b20 := gi_b (lo := 0) (hi := 999) g 238 9 rfl
  have b21 := gi_b (lo := -2147483648) (hi := 2147483647) g 63 5 rfl
  have b22 := gi_b (lo := 0) (hi := 12) g 18 7 rfl
  have b23 := gi_b (lo := 0) (hi := 12) g 66 1 rfl
  have b24 := gi_b (lo := 0) (hi := 1) g 0 12 rfl
  have b25 := gi_b (lo := 0) (hi := 1) g 236 21 rfl
  have bl_ := gi_b (lo := 0) (hi := 800) g 1 1 rfl
  have tb0 : BufC (h 2) (h 1 1) h := ⟨fun _ => rfl, rfl, by omega, by omega⟩
  have b26 := gi_b (lo := 0) (hi := 6) g 238 98 rfl
  have b27 := gi_b (lo := 0) (hi := 6) g 238 99 rfl
  have b28 := gi_b (lo := 0) (hi := 6) g 238 100 rfl
  have b29 := gi_b (lo := 0) (hi := 6) g 238 101 rfl
  have b30 := gi_b (lo := 0) (hi := 3) g 238 102 rfl
  have b31 := gi_b (lo := 0) (hi := 12) g 238 106 rfl
  have b32 := gi_b (lo := 0) (hi := 12) g 238 73 rfl
  have b33 := gi_b (lo := 0) (hi := 9999) g 238 119 rfl
  have b34 := gi_b (lo := 0) (hi := 9999) g 238 67 rfl
  have b35 := gi_b (lo := 0) (hi := 9) g 238 69 rfl
  have b36 := gi_b (lo := 0) (hi := 6) g 241 98 rfl
  have b37 := gi_b (lo := 0) (hi := 6) g 241 99 rfl
  have b38 := gi_b (lo := 0) (hi := 6) g 241 100 rfl
  have b39 := gi_b (lo := 0) (hi := 6) g 241 101 rfl
  have b40 := gi_b (lo := 0) (hi := 3) g 241 102 rfl
  have b41 := gi_b (lo := 0) (hi := 12) g 241 106 rfl
  have b42 := gi_b (lo := 0) (hi := 12) g 241 73 rfl
  have b43 := gi_b (lo := 0) (hi := 12) g 241 2 rfl
  have b44 := gi_b (lo := 0) (hi := 9999) g 241 119 rfl
  have b45 := gi_b (lo := 0) (hi := 9999) g 241 67 rfl
  have b46 := gi_b (lo := 0) (hi := 9) g 241 69 rfl
  have b47 := gi_b (lo := 0) (hi := 9) g 241 5 rfl
  have b48 := gi_b (lo := 0) (hi := 800) g 1 1 rfl
  have b49 := gi_b (lo := 0) (hi := 800) g 236 2 rfl
  have b50 := gi_b (lo := -2147483648) (hi := 2147483647) g 1 2 rfl
  have b51 := gi_b (lo := -2147483648) (hi := 2147483647) g 236 10 rfl
  have b52 := gi_b (lo := -2147483648) (hi := 2147483647) g 1 3 rfl
  have b53 := gi_b (lo := -2147483648) (hi := 2147483647) g 236 11 rfl
  refine wi_aload_n (i := 1) (x := 0) (nx := 1366) (r1 := 0) (r2 := 0) (r3 := 0) rfl rfl ?_
  refine wr_V (k0 := 0) (rest := []) (as := [.ref 0]) (nx := 1369) (r1 := 57) (r2 := 0) (r3 := 0) rfl rfl rfl (of_decide_eq_true rfl) rfl rfl (by decide) rfl rfl (of_decide_eq_true rfl) (of_decide_eq_true rfl) ?_
  refine ct_57_0 hcr  g    (fun z55  (fz55 : 0 ≤ z55 ∧ z55 ≤ 20) => ?_)
  refine wk_i ?_
  refine wi_pop (nx := 1370) (r1 := 0) (r2 := 0) (r3 := 0) rfl rfl ?_
  refine wi_aload_n (i := 2) (x := 236) (nx := 1371) (r1 := 0) (r2 := 0) (r3 := 0) rfl rfl ?_
  refine wr_V (k0 := 236) (rest := []) (as := [.ref 236]) (nx := 1374) (r1 := 343) (r2 := 0) (r3 := 11) rfl rfl rfl (of_decide_eq_true rfl) rfl rfl (by decide) rfl rfl (of_decide_eq_true rfl) (of_decide_eq_true rfl) ?_
  refine ct_343_236 hcr  g    (fun h56 z57 g56 u56 (fz57 : 0 ≤ z57 ∧ z57 ≤ 20) => ?_)
  refine wk_i ?_
  refine wi_pop (nx := 1375) (r1 := 0) (r2 := 0) (r3 := 0) rfl rfl ?_
  refine wi_goto (nx := 1378) (r1 := 1501) (r2 := 0) (r3 := 0) rfl ?_
  have e58 : h56 238 98 = h 238 98 := (u56 238 98 rfl)
  have e59 : h56 238 99 = h 238 99 := (u56 238 99 rfl)
  have e60 : h56 238 100 = h 238 100 := (u56 238 100 rfl)
  have e61 : h56 238 101 = h 238 101 := (u56 238 101 rfl)
  have e62 : h56 238 102 = h 238 102 := (u56 238 102 rfl)
  have e63 : h56 238 106 = h 238 106 := (u56 238 106 rfl)
  have e64 : h56 238 73 = h 238 73 := (u56 238 73 rfl)
  have e65 : h56 238 2 = h 238 2 := (u56 238 2 rfl)
  have e66 : h56 238 119 = h 238 119 := (u56 238 119 rfl)
  have e67 : h56 238 67 = h 238 67 := (u56 238 67 rfl)
  have e68 : h56 238 69 = h 238 69 := (u56 238 69 rfl)
  have e69 : h56 238 5 = h 238 5 := (u56 238 5 rfl)
  have e70 : h56 241 98 = h 241 98 := (u56 241 98 rfl)
  have e71 : h56 241 99 = h 241 99 := (u56 241 99 rfl)
  have e72 : h56 241 100 = h 241 100 := (u56 241 100 rfl)
  have e73 : h56 241 101 = h 241 101 := (u56 241 101 rfl)
  have e74 : h56 241 102 = h 241 102 := (u56 241 102 rfl)
  have e75 : h56 241 106 = h 241 106 := (u56 241 106 rfl)
  have e76 : h56 241 73 = h 241 73 := (u56 241 73 rfl)
  have e77 : h56 241 2 = h 241 2 := (u56 241 2 rfl)
  have e78 : h56 241 119 = h 241 119 := (u56 241 119 rfl)
  have e79 : h56 241 67 = h 241 67 := (u56 241 67 rfl)
  have e80 : h56 241 69 = h 241 69 := (u56 241 69 rfl)
  have e81 : h56 241 5 = h 241 5 := (u56 241 5 rfl)
  have e82 : h56 1 1 = h 1 1 := (u56 1 1 rfl)
  have e83 : h56 236 2 = h 236 2 := (u56 236 2 rfl)
  have e84 : h56 1 2 = h 1 2 := (u56 1 2 rfl)
  have e85 : h56 236 10 = h 236 10 := (u56 236 10 rfl)
  have e86 : h56 1 3 = h 1 3 := (u56 1 3 rfl)
  have e87 : h56 236 11 = h 236 11 := (u56 236 11 rfl)
  have gp88 := GPH.fr u56 rfl gp0
  have b89 := gi_b (lo := 0) (hi := 5) g 241 0 rfl
  have b90 := gi_b (lo := 0) (hi := 4) g 241 1 rfl
  have gs91 := GPS.fr u56 rfl gs0
  have e92 : h56 0 12 = h 0 12 := (u56 0 12 rfl)
  have e93 : h56 236 21 = h 236 21 := (u56 236 21 rfl)
  have e94 : h56 63 5 = h 63 5 := (u56 63 5 rfl)
  have e95 : h56 18 16 = h 18 16 := (u56 18 16 rfl)
  have e96 : h56 18 7 = h 18 7 := (u56 18 7 rfl)
  have e97 : h56 3 2 = h 3 2 := (u56 3 2 rfl)
  have e98 : h56 66 1 = h 66 1 := (u56 66 1 rfl)
  have b99 := gi_b (lo := 0) (hi := 6) g 73 1 rfl
  have e100 : h56 73 1 = h 73 1 := (u56 73 1 rfl)
  have b101 := gi_b (lo := 0) (hi := 6) g 73 2 rfl
  have e102 : h56 73 2 = h 73 2 := (u56 73 2 rfl)
  have b103 := gi_b (lo := 0) (hi := 6) g 236 22 rfl
  have e104 : h56 236 22 = h 236 22 := (u56 236 22 rfl)
  have b105 := gi_b (lo := 0) (hi := 12) g 210 2 rfl
  have e106 : h56 210 2 = h 210 2 := (u56 210 2 rfl)
  have q109 : h56 8 = h 8 := funext (fun i => (u56 8 i (fo_no_ok (by decide) i)))
  have q110 : h56 7 = h 7 := funext (fun i => (u56 7 i (fo_no_ok (by decide) i)))
  have q111 : h56 19 = h 19 := funext (fun i => (u56 19 i (fo_no_ok (by decide) i)))
  have q112 : h56 67 = h 67 := funext (fun i => (u56 67 i (fo_no_ok (by decide) i)))
  have ml108 : MCL h56 := MCL.mv mi0.1 q109 q110 q111 q112 (by omega) (by omega) (by omega) (by omega)
  have q114 : h56 69 = h 69 := funext (fun i => (u56 69 i (fo_no_ok (by decide) i)))
  have q115 : h56 70 = h 70 := funext (fun i => (u56 70 i (fo_no_ok (by decide) i)))
  have nb113 : NBc (h56 69) (h56 70) := by rw [q114, q115]; exact mi0.2.2
  have q116 : h56 8 = h 8 := funext (fun i => (u56 8 i (fo_no_ok (by decide) i)))
  have q117 : h56 7 = h 7 := funext (fun i => (u56 7 i (fo_no_ok (by decide) i)))
  have mi107 : MCI h56 := ⟨ml108, HIv.mv mi0.2.1 q116 q117 (by omega) (by omega) (sv_seven (P := fun x => ∀ i, h56 (76 + 19 * x) i = h (76 + 19 * x) i) (fun i => (u56 76 i (fn_a (by decide) fn_0))) (fun i => (u56 95 i (fn_a (by decide) fn_0))) (fun i => (u56 114 i (fn_a (by decide) fn_0))) (fun i => (u56 133 i (fn_a (by decide) fn_0))) (fun i => (u56 152 i (fn_a (by decide) fn_0))) (fun i => (u56 171 i (fn_a (by decide) fn_0))) (fun i => (u56 190 i (fn_a (by decide) fn_0)))) (by omega) (by omega), nb113⟩
  have gq118 := GQS.fr u56 rfl gq0
  have q119 : h56 8 = h 8 := funext (fun i => (u56 8 i (fo_no_ok (by decide) i)))
  have q120 : h56 7 = h 7 := funext (fun i => (u56 7 i (fo_no_ok (by decide) i)))
  have q121 : h56 215 = h 215 := funext (fun i => (u56 215 i (fo_no_ok (by decide) i)))
  have q122 : h56 218 = h 218 := funext (fun i => (u56 218 i (fo_no_ok (by decide) i)))
  have q123 : h56 214 = h 214 := funext (fun i => (u56 214 i (fo_no_ok (by decide) i)))
  have q124 : h56 241 = h 241 := funext (fun i => (u56 241 i (fo_no_ok (by decide) i)))
  exact k h56 b c ⟨⟨g56, (show h56 1 1 = h56 236 2 by omega), (RS.i0 (f := h56 238) (by refine ⟨?_, ?_, ?_, ?_, ?_⟩ <;> omega)), (RS.i0 (f := h56 241) (by refine ⟨?_, ?_, ?_, ?_, ?_⟩ <;> omega)), gp88, (BRh.keep br0 (fun i => (u56 2 i (fn_a (by decide) fn_0))) (fun i => (u56 237 i (fn_a (by decide) fn_0))) (by omega)), (show h56 1 2 = h56 236 10 by omega), (show h56 1 3 = h56 236 11 by omega), (SVx.keep sv0 (by omega) (fun i _ => (u56 3 i (fn_a (by decide) fn_0))) (fun i _ => (u56 5 i (fn_a (by decide) fn_0))) (fun i _ => (u56 6 i (fn_a (by decide) fn_0))) (fun i _ => (u56 8 i (fn_a (by decide) fn_0))) (fun i _ => (u56 238 i (fn_a (by decide) fn_0)))), (show h56 0 12 = h56 236 21 by omega), (fun e => (SVx.keep (ss0 (by omega)) (by omega) (fun i _ => (u56 210 i (fn_a (by decide) fn_0))) (fun i _ => (u56 212 i (fn_a (by decide) fn_0))) (fun i _ => (u56 213 i (fn_a (by decide) fn_0))) (fun i _ => (u56 215 i (fn_a (by decide) fn_0))) (fun i _ => (u56 241 i (fn_a (by decide) fn_0))))), gs91, mi107, (show h56 63 5 ≤ h56 18 16 by omega), (show (h56 63 5) < (h56 18 16) ∨ ((h56 18 7) ≤ (h56 3 2) ∧ (h56 66 1) = (h56 3 2) - (h56 18 7)) ∨ ((h56 3 2) < (h56 18 7) ∧ (h56 66 1) = 0) by omega), gq118, (MR.mv mr0 (MSN.then (MSN.refl) (fun i _ => (u56 238 i (fn_a (by decide) fn_0)))) (by omega) q119 q120 (by omega)), (fun e => SM.mv (sm0 (by omega)) q121 q122 q123 (by omega) q124)⟩, (by omega)⟩ (by omega) (by omega)
