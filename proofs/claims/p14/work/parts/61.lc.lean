-- the law, case at 672
set_option maxRecDepth 100000 in
set_option maxHeartbeats 100000000 in
theorem lc_672 {L : Nat} {xs : Nat → Int32} {d b c : Nat} {h : hp} {cr : Nat → Nat → Option Nat} {Q : hp_Q} (hcr : CR cr) (hL : L ≤ 3072) (hr : 1 ≤ b ∧ 6 ≤ c) (i : Int) (I : LIm i h) (hi : 0 ≤ i ∧ i + 6 ≤ L) (k : ∀ (h2 : hp) (b2 c2 : Nat), LIm (i + 6) h2 → b ≤ b2 + 1 → c ≤ c2 + 6 → wp (md_xa (L, xs)) (d + 107) 0 (1501, [(0, .ref 1000000), (1, .ref 0), (2, .ref 236), (3, .ref 259), (4, vi i)], [], hp_w h2 cr, b2, c2) Q) : wp (md_xa (L, xs)) (d + 107) 0 (672, [(0, .ref 1000000), (1, .ref 0), (2, .ref 236), (3, .ref 259), (4, vi i)], [], hp_w h cr, b, c) Q := by
  obtain ⟨⟨g, i11, r238, r241, gp0, br0, er2, er3, sv0, sf0, ss0, gs0, mi0, ml1, ml2, gq0, mr0, sm0⟩, ie0⟩ := I
  have r238e := r238.e0
  have r241e := r241.e0
  obtain ⟨⟨se0, se1, se2, se3, se4, se5, se6, se7, se8, se9⟩, -⟩ := id sv0
  have b1 := gi_b (lo := 0) (hi := 5) g 3 0 rfl
  have b2 := gi_b (lo := 0) (hi := 5) g 238 0 rfl
  have b3 := gi_b (lo := 0) (hi := 4) g 3 1 rfl
  have b4 := gi_b (lo := 0) (hi := 4) g 238 1 rfl
  have b5 := gi_b (lo := 0) (hi := 12) g 3 2 rfl
  have b6 := gi_b (lo := 0) (hi := 12) g 238 2 rfl
  have b7 := gi_b (lo := -2147483648) (hi := 2147483647) g 3 3 rfl
  have b8 := gi_b (lo := 0) (hi := 999) g 238 3 rfl
  have b9 := gi_b (lo := -2147483648) (hi := 2147483647) g 3 4 rfl
  have b10 := gi_b (lo := 0) (hi := 999) g 238 4 rfl
  have b11 := gi_b (lo := -2147483648) (hi := 2147483647) g 3 5 rfl
  have b12 := gi_b (lo := 0) (hi := 9) g 238 5 rfl
  have b13 := gi_b (lo := -2147483648) (hi := 2147483647) g 3 6 rfl
  have b14 := gi_b (lo := 0) (hi := 999) g 238 6 rfl
  have b15 := gi_b (lo := -2147483648) (hi := 2147483647) g 3 7 rfl
  have b16 := gi_b (lo := 0) (hi := 3) g 238 7 rfl
  have b17 := gi_b (lo := -2147483648) (hi := 2147483647) g 3 8 rfl
  have b18 := gi_b (lo := 0) (hi := 999) g 238 8 rfl
  have b19 := gi_b (lo := -2147483648) (hi := 2147483647) g 3 9 rfl
  have b20 := gi_b (lo := 0) (hi := 999) g 238 9 rfl
  have b21 := gi_b (lo := -2147483648) (hi := 2147483647) g 63 5 rfl
  have b22 := gi_b (lo := 0) (hi := 12) g 18 7 rfl
  have b23 := gi_b (lo := 0) (hi := 12) g 66 1 rfl
  have b24 := gi_b (lo := 0) (hi := 1) g 0 12 rfl
  have b25 := gi_b (lo := 0) (hi := 1) g 236 21 rfl
  have bl_ := gi_b (lo := 0) (hi := 800) g 1 1 rfl
  have tb0 : BufC (h 2) (h 1 1) h := ⟨fun _ => rfl, rfl, by omega, by omega⟩
  have b26 := gi_b (lo := 0) (hi := 6) g 238 98 rfl
  have b27 := gi_b (lo := 0) (hi := 6) g 238 99 rfl
  have b28 := gi_b (lo := 0) (hi := 6) g 238 100 rfl
  have b29 := gi_b (lo := 0) (hi := 6) g 238 101 rfl
  have b30 := gi_b (lo := 0) (hi := 3) g 238 102 rfl
  have b31 := gi_b (lo := 0) (hi := 12) g 238 106 rfl
  have b32 := gi_b (lo := 0) (hi := 12) g 238 73 rfl
  have b33 := gi_b (lo := 0) (hi := 9999) g 238 119 rfl
  have b34 := gi_b (lo := 0) (hi := 9999) g 238 67 rfl
  have b35 := gi_b (lo := 0) (hi := 9) g 238 69 rfl
  have b36 := gi_b (lo := 0) (hi := 6) g 241 98 rfl
  have b37 := gi_b (lo := 0) (hi := 6) g 241 99 rfl
  have b38 := gi_b (lo := 0) (hi := 6) g 241 100 rfl
  have b39 := gi_b (lo := 0) (hi := 6) g 241 101 rfl
  have b40 := gi_b (lo := 0) (hi := 3) g 241 102 rfl
  have b41 := gi_b (lo := 0) (hi := 12) g 241 106 rfl
  have b42 := gi_b (lo := 0) (hi := 12) g 241 73 rfl
  have b43 := gi_b (lo := 0) (hi := 12) g 241 2 rfl
  have b44 := gi_b (lo := 0) (hi := 9999) g 241 119 rfl
  have b45 := gi_b (lo := 0) (hi := 9999) g 241 67 rfl
  have b46 := gi_b (lo := 0) (hi := 9) g 241 69 rfl
  have b47 := gi_b (lo := 0) (hi := 9) g 241 5 rfl
  have b48 := gi_b (lo := 0) (hi := 800) g 1 1 rfl
  have b49 := gi_b (lo := 0) (hi := 800) g 236 2 rfl
  have b50 := gi_b (lo := -2147483648) (hi := 2147483647) g 1 2 rfl
  have b51 := gi_b (lo := -2147483648) (hi := 2147483647) g 236 10 rfl
  have b52 := gi_b (lo := -2147483648) (hi := 2147483647) g 1 3 rfl
  have b53 := gi_b (lo := -2147483648) (hi := 2147483647) g 236 11 rfl
  refine wi_aload_n (i := 1) (x := 0) (nx := 673) (r1 := 0) (r2 := 0) (r3 := 0) rfl rfl ?_
  refine wr_V (k0 := 0) (rest := []) (as := [.ref 0]) (nx := 676) (r1 := 31) (r2 := 0) (r3 := 0) rfl rfl rfl (of_decide_eq_true rfl) rfl rfl (by decide) rfl rfl (of_decide_eq_true rfl) (of_decide_eq_true rfl) ?_
  refine ct_31_0 hcr  g    (fun z55  (fz55 : -12 ≤ z55 ∧ z55 ≤ 12) => ?_)
  refine wk_i ?_
  refine wi_pop (nx := 677) (r1 := 0) (r2 := 0) (r3 := 0) rfl rfl ?_
  refine wi_aload_n (i := 2) (x := 236) (nx := 678) (r1 := 0) (r2 := 0) (r3 := 0) rfl rfl ?_
  refine wr_V (k0 := 236) (rest := []) (as := [.ref 236]) (nx := 681) (r1 := 254) (r2 := 0) (r3 := 11) rfl rfl rfl (of_decide_eq_true rfl) rfl rfl (by decide) rfl rfl (of_decide_eq_true rfl) (of_decide_eq_true rfl) ?_
  refine ct_254_236 hcr  g    (fun h56 z57 g56 u56 (fz57 : -12 ≤ z57 ∧ z57 ≤ 12) => ?_)
  refine wk_i ?_
  refine wi_pop (nx := 682) (r1 := 0) (r2 := 0) (r3 := 0) rfl rfl ?_
  refine wi_goto (nx := 685) (r1 := 1501) (r2 := 0) (r3 := 0) rfl ?_
  have e58 : h56 238 98 = h 238 98 := (u56 238 98 rfl)
  have e59 : h56 238 99 = h 238 99 := (u56 238 99 rfl)
  have e60 : h56 238 100 = h 238 100 := (u56 238 100 rfl)
  have e61 : h56 238 101 = h 238 101 := (u56 238 101 rfl)
  have e62 : h56 238 102 = h 238 102 := (u56 238 102 rfl)
  have e63 : h56 238 106 = h 238 106 := (u56 238 106 rfl)
  have e64 : h56 238 73 = h 238 73 := (u56 238 73 rfl)
  have e65 : h56 238 2 = h 238 2 := (u56 238 2 rfl)
  have e66 : h56 238 119 = h 238 119 := (u56 238 119 rfl)
  have e67 : h56 238 67 = h 238 67 := (u56 238 67 rfl)
  have e68 : h56 238 69 = h 238 69 := (u56 238 69 rfl)
  have e69 : h56 238 5 = h 238 5 := (u56 238 5 rfl)
  have e70 : h56 241 98 = h 241 98 := (u56 241 98 rfl)
  have e71 : h56 241 99 = h 241 99 := (u56 241 99 rfl)
  have e72 : h56 241 100 = h 241 100 := (u56 241 100 rfl)
  have e73 : h56 241 101 = h 241 101 := (u56 241 101 rfl)
  have e74 : h56 241 102 = h 241 102 := (u56 241 102 rfl)
  have e75 : h56 241 106 = h 241 106 := (u56 241 106 rfl)
  have e76 : h56 241 73 = h 241 73 := (u56 241 73 rfl)
  have e77 : h56 241 2 = h 241 2 := (u56 241 2 rfl)
  have e78 : h56 241 119 = h 241 119 := (u56 241 119 rfl)
  have e79 : h56 241 67 = h 241 67 := (u56 241 67 rfl)
  have e80 : h56 241 69 = h 241 69 := (u56 241 69 rfl)
  have e81 : h56 241 5 = h 241 5 := (u56 241 5 rfl)
  have e82 : h56 1 1 = h 1 1 := (u56 1 1 rfl)
  have e83 : h56 236 2 = h 236 2 := (u56 236 2 rfl)
  have e84 : h56 1 2 = h 1 2 := (u56 1 2 rfl)
  have e85 : h56 236 10 = h 236 10 := (u56 236 10 rfl)
  have e86 : h56 1 3 = h 1 3 := (u56 1 3 rfl)
  have e87 : h56 236 11 = h 236 11 := (u56 236 11 rfl)
  have gp88 := GPH.fr u56 rfl gp0
  have b89 := gi_b (lo := 0) (hi := 5) g 241 0 rfl
  have b90 := gi_b (lo := 0) (hi := 4) g 241 1 rfl
  have gs91 := GPS.fr u56 rfl gs0
  have e92 : h56 0 12 = h 0 12 := (u56 0 12 rfl)
  have e93 : h56 236 21 = h 236 21 := (u56 236 21 rfl)
  have e94 : h56 63 5 = h 63 5 := (u56 63 5 rfl)
  have e95 : h56 18 16 = h 18 16 := (u56 18 16 rfl)
  have e96 : h56 18 7 = h 18 7 := (u56 18 7 rfl)
  have e97 : h56 3 2 = h 3 2 := (u56 3 2 rfl)
  have e98 : h56 66 1 = h 66 1 := (u56 66 1 rfl)
  have b99 := gi_b (lo := 0) (hi := 6) g 73 1 rfl
  have e100 : h56 73 1 = h 73 1 := (u56 73 1 rfl)
  have b101 := gi_b (lo := 0) (hi := 6) g 73 2 rfl
  have e102 : h56 73 2 = h 73 2 := (u56 73 2 rfl)
  have b103 := gi_b (lo := 0) (hi := 6) g 236 22 rfl
  have e104 : h56 236 22 = h 236 22 := (u56 236 22 rfl)
  have b105 := gi_b (lo := 0) (hi := 12) g 210 2 rfl
  have e106 : h56 210 2 = h 210 2 := (u56 210 2 rfl)
  have q109 : h56 8 = h 8 := funext (fun i => (u56 8 i (fo_no_ok (by decide) i)))
  have q110 : h56 7 = h 7 := funext (fun i => (u56 7 i (fo_no_ok (by decide) i)))
  have q111 : h56 19 = h 19 := funext (fun i => (u56 19 i (fo_no_ok (by decide) i)))
  have q112 : h56 67 = h 67 := funext (fun i => (u56 67 i (fo_no_ok (by decide) i)))
  have ml108 : MCL h56 := MCL.mv mi0.1 q109 q110 q111 q112 (by omega) (by omega) (by omega) (by omega)
  have q114 : h56 69 = h 69 := funext (fun i => (u56 69 i (fo_no_ok (by decide) i)))
  have q115 : h56 70 = h 70 := funext (fun i => (u56 70 i (fo_no_ok (by decide) i)))
  have nb113 : NBc (h56 69) (h56 70) := by rw [q114, q115]; exact mi0.2.2
  have q116 : h56 8 = h 8 := funext (fun i => (u56 8 i (fo_no_ok (by decide) i)))
  have q117 : h56 7 = h 7 := funext (fun i => (u56 7 i (fo_no_ok (by decide) i)))
  have mi107 : MCI h56 := ⟨ml108, HIv.mv mi0.2.1 q116 q117 (by omega) (by omega) (sv_seven (P := fun x => ∀ i, h56 (76 + 19 * x) i = h (76 + 19 * x) i) (fun i => (u56 76 i (fn_a (by decide) fn_0))) (fun i => (u56 95 i (fn_a (by decide) fn_0))) (fun i => (u56 114 i (fn_a (by decide) fn_0))) (fun i => (u56 133 i (fn_a (by decide) fn_0))) (fun i => (u56 152 i (fn_a (by decide) fn_0))) (fun i => (u56 171 i (fn_a (by decide) fn_0))) (fun i => (u56 190 i (fn_a (by decide) fn_0)))) (by omega) (by omega), nb113⟩
  have gq118 := GQS.fr u56 rfl gq0
  have q119 : h56 8 = h 8 := funext (fun i => (u56 8 i (fo_no_ok (by decide) i)))
  have q120 : h56 7 = h 7 := funext (fun i => (u56 7 i (fo_no_ok (by decide) i)))
  have q121 : h56 215 = h 215 := funext (fun i => (u56 215 i (fo_no_ok (by decide) i)))
  have q122 : h56 218 = h 218 := funext (fun i => (u56 218 i (fo_no_ok (by decide) i)))
  have q123 : h56 214 = h 214 := funext (fun i => (u56 214 i (fo_no_ok (by decide) i)))
  have q124 : h56 241 = h 241 := funext (fun i => (u56 241 i (fo_no_ok (by decide) i)))
  exact k h56 b c ⟨⟨g56, (show h56 1 1 = h56 236 2 by omega), (RS.i0 (f := h56 238) (by refine ⟨?_, ?_, ?_, ?_, ?_⟩ <;> omega)), (RS.i0 (f := h56 241) (by refine ⟨?_, ?_, ?_, ?_, ?_⟩ <;> omega)), gp88, (BRh.keep br0 (fun i => (u56 2 i (fn_a (by decide) fn_0))) (fun i => (u56 237 i (fn_a (by decide) fn_0))) (by omega)), (show h56 1 2 = h56 236 10 by omega), (show h56 1 3 = h56 236 11 by omega), (SVx.keep sv0 (by omega) (fun i _ => (u56 3 i (fn_a (by decide) fn_0))) (fun i _ => (u56 5 i (fn_a (by decide) fn_0))) (fun i _ => (u56 6 i (fn_a (by decide) fn_0))) (fun i _ => (u56 8 i (fn_a (by decide) fn_0))) (fun i _ => (u56 238 i (fn_a (by decide) fn_0)))), (show h56 0 12 = h56 236 21 by omega), (fun e => (SVx.keep (ss0 (by omega)) (by omega) (fun i _ => (u56 210 i (fn_a (by decide) fn_0))) (fun i _ => (u56 212 i (fn_a (by decide) fn_0))) (fun i _ => (u56 213 i (fn_a (by decide) fn_0))) (fun i _ => (u56 215 i (fn_a (by decide) fn_0))) (fun i _ => (u56 241 i (fn_a (by decide) fn_0))))), gs91, mi107, (show h56 63 5 ≤ h56 18 16 by omega), (show (h56 63 5) < (h56 18 16) ∨ ((h56 18 7) ≤ (h56 3 2) ∧ (h56 66 1) = (h56 3 2) - (h56 18 7)) ∨ ((h56 3 2) < (h56 18 7) ∧ (h56 66 1) = 0) by omega), gq118, (MR.mv mr0 (MSN.then (MSN.refl) (fun i _ => (u56 238 i (fn_a (by decide) fn_0)))) (by omega) q119 q120 (by omega)), (fun e => SM.mv (sm0 (by omega)) q121 q122 q123 (by omega) q124)⟩, (by omega)⟩ (by omega) (by omega)
-- the law, case at 685
set_option maxRecDepth 100000 in
set_option maxHeartbeats 100000000 in
theorem lc_685 {L : Nat} {xs : Nat → Int32} {d b c : Nat} {h : hp} {cr : Nat → Nat → Option Nat} {Q : hp_Q} (hcr : CR cr) (hL : L ≤ 3072) (hr : 1 ≤ b ∧ 6 ≤ c) (i : Int) (I : LIm i h) (hi : 0 ≤ i ∧ i + 6 ≤ L) (k : ∀ (h2 : hp) (b2 c2 : Nat), LIm (i + 6) h2 → b ≤ b2 + 1 → c ≤ c2 + 6 → wp (md_xa (L, xs)) (d + 107) 0 (1501, [(0, .ref 1000000), (1, .ref 0), (2, .ref 236), (3, .ref 259), (4, vi i)], [], hp_w h2 cr, b2, c2) Q) : wp (md_xa (L, xs)) (d + 107) 0 (685, [(0, .ref 1000000), (1, .ref 0), (2, .ref 236), (3, .ref 259), (4, vi i)], [], hp_w h cr, b, c) Q := by
  obtain ⟨⟨g, i11, r238, r241, gp0, br0, er2, er3, sv0, sf0, ss0, gs0, mi0, ml1, ml2, gq0, mr0, sm0⟩, ie0⟩ := I
  have r238e := r238.e0
  have r241e := r241.e0
  obtain ⟨⟨se0, se1, se2, se3, se4, se5, se6, se7, se8, se9⟩, -⟩ := id sv0
  have b1 := gi_b (lo := 0) (hi := 5) g 3 0 rfl
  have b2 := gi_b (lo := 0) (hi := 5) g 238 0 rfl
  have b3 := gi_b (lo := 0) (hi := 4) g 3 1 rfl
  have b4 := gi_b (lo := 0) (hi := 4) g 238 1 rfl
  have b5 := gi_b (lo := 0) (hi := 12) g 3 2 rfl
  have b6 := gi_b (lo := 0) (hi := 12) g 238 2 rfl
  have b7 := gi_b (lo := -2147483648) (hi := 2147483647) g 3 3 rfl
  have b8 := gi_b (lo := 0) (hi := 999) g 238 3 rfl
  have b9 := gi_b (lo := -2147483648) (hi := 2147483647) g 3 4 rfl
  have b10 := gi_b (lo := 0) (hi := 999) g 238 4 rfl
  have b11 := gi_b (lo := -2147483648) (hi := 2147483647) g 3 5 rfl
  have b12 := gi_b (lo := 0) (hi := 9) g 238 5 rfl
  have b13 := gi_b (lo := -2147483648) (hi := 2147483647) g 3 6 rfl
  have b14 := gi_b (lo := 0) (hi := 999) g 238 6 rfl
  have b15 := gi_b (lo := -2147483648) (hi := 2147483647) g 3 7 rfl
  have b16 := gi_b (lo := 0) (hi := 3) g 238 7 rfl
  have b17 := gi_b (lo := -2147483648) (hi := 2147483647) g 3 8 rfl
  have b18 := gi_b (lo := 0) (hi := 999) g 238 8 rfl
  have b19 := gi_b (lo := -2147483648) (hi := 2147483647) g 3 9 rfl
  have b20 := gi_b (lo := 0) (hi := 999) g 238 9 rfl
  have b21 := gi_b (lo := -2147483648) (hi := 2147483647) g 63 5 rfl
  have b22 := gi_b (lo := 0) (hi := 12) g 18 7 rfl
  have b23 := gi_b (lo := 0) (hi := 12) g 66 1 rfl
  have b24 := gi_b (lo := 0) (hi := 1) g 0 12 rfl
  have b25 := gi_b (lo := 0) (hi := 1) g 236 21 rfl
  have bl_ := gi_b (lo := 0) (hi := 800) g 1 1 rfl
  have tb0 : BufC (h 2) (h 1 1) h := ⟨fun _ => rfl, rfl, by omega, by omega⟩
  have b26 := gi_b (lo := 0) (hi := 6) g 238 98 rfl
  have b27 := gi_b (lo := 0) (hi := 6) g 238 99 rfl
  have b28 := gi_b (lo := 0) (hi := 6) g 238 100 rfl
  have b29 := gi_b (lo := 0) (hi := 6) g 238 101 rfl
  have b30 := gi_b (lo := 0) (hi := 3) g 238 102 rfl
  have b31 := gi_b (lo := 0) (hi := 12) g 238 106 rfl
  have b32 := gi_b (lo := 0) (hi := 12) g 238 73 rfl
  have b33 := gi_b (lo := 0) (hi := 9999) g 238 119 rfl
  have b34 := gi_b (lo := 0) (hi := 9999) g 238 67 rfl
  have b35 := gi_b (lo := 0) (hi := 9) g 238 69 rfl
  have b36 := gi_b (lo := 0) (hi := 6) g 241 98 rfl
  have b37 := gi_b (lo := 0) (hi := 6) g 241 99 rfl
  have b38 := gi_b (lo := 0) (hi := 6) g 241 100 rfl
  have b39 := gi_b (lo := 0) (hi := 6) g 241 101 rfl
  have b40 := gi_b (lo := 0) (hi := 3) g 241 102 rfl
  have b41 := gi_b (lo := 0) (hi := 12) g 241 106 rfl
  have b42 := gi_b (lo := 0) (hi := 12) g 241 73 rfl
  have b43 := gi_b (lo := 0) (hi := 12) g 241 2 rfl
  have b44 := gi_b (lo := 0) (hi := 9999) g 241 119 rfl
  have b45 := gi_b (lo := 0) (hi := 9999) g 241 67 rfl
  have b46 := gi_b (lo := 0) (hi := 9) g 241 69 rfl
  have b47 := gi_b (lo := 0) (hi := 9) g 241 5 rfl
  have b48 := gi_b (lo := 0) (hi := 800) g 1 1 rfl
  have b49 := gi_b (lo := 0) (hi := 800) g 236 2 rfl
  have b50 := gi_b (lo := -2147483648) (hi := 2147483647) g 1 2 rfl
  have b51 := gi_b (lo := -2147483648) (hi := 2147483647) g 236 10 rfl
  have b52 := gi_b (lo := -2147483648) (hi := 2147483647) g 1 3 rfl
  have b53 := gi_b (lo := -2147483648) (hi := 2147483647) g 236 11 rfl
  refine wi_aload_n (i := 1) (x := 0) (nx := 686) (r1 := 0) (r2 := 0) (r3 := 0) rfl rfl ?_
  refine wi_aload_n (i := 0) (x := 1000000) (nx := 687) (r1 := 0) (r2 := 0) (r3 := 0) rfl rfl ?_
  refine wi_iload (i := 4) (e := i) (nx := 689) (r1 := 0) (r2 := 0) (r3 := 0) rfl rfl ?_
  refine wi_iconst (n := 1) (nx := 690) (r1 := 0) (r2 := 0) (r3 := 0) rfl ?_
  refine wr_add (nx := 691) (r1 := 0) (r2 := 0) (r3 := 0) rfl (fun e54 (fe54 : e54 = i + 1) => ?_)
  obtain ⟨i55, ei55⟩ : ∃ q : Nat, e54 = (q : Int) := ⟨(e54).toNat, by omega⟩
  have s56 := sc_b (xs i55)
  refine wr_sc (a := e54) (f := i55) (nx := 692) (r1 := 0) (r2 := 0) (r3 := 0) rfl (by omega) (by omega) hL ?_
  refine wi_aload_n (i := 3) (x := 259) (nx := 693) (r1 := 0) (r2 := 0) (r3 := 0) rfl rfl ?_
  refine wi_S (rest := []) (as := [.ref 0, vi ((xs i55).toInt), .ref 259]) (nx := 696) (r1 := 12) (r2 := 19) (r3 := 0) rfl rfl rfl (of_decide_eq_true rfl) rfl rfl (of_decide_eq_true rfl) (of_decide_eq_true rfl) ?_
  refine wi_aload_n (i := 2) (x := 259) (nx := 1) (r1 := 0) (r2 := 0) (r3 := 0) rfl rfl ?_
  refine wi_iconst (n := 0) (nx := 2) (r1 := 0) (r2 := 0) (r3 := 0) rfl ?_
  refine wi_aload_n (i := 0) (x := 0) (nx := 3) (r1 := 0) (r2 := 0) (r3 := 0) rfl rfl ?_
  refine wi_iload_n (i := 1) (e := (xs i55).toInt) (nx := 4) (r1 := 0) (r2 := 0) (r3 := 0) rfl rfl ?_
  refine wr_V (k0 := 0) (rest := [vi 0, .ref 259]) (as := [.ref 0, vi ((xs i55).toInt)]) (nx := 7) (r1 := 74) (r2 := 1) (r3 := 0) rfl rfl rfl (of_decide_eq_true rfl) rfl rfl (by decide) rfl rfl (of_decide_eq_true rfl) (of_decide_eq_true rfl) ?_
  refine ct_74_0 hcr hr  g ((xs i55).toInt) (by omega)  (fun z58  (fz58 : 0 ≤ z58 ∧ z58 ≤ 12) => ?_) ?_
  ·
    refine wk_i ?_
    refine wi_i2l (nx := 8) (r1 := 0) (r2 := 0) (r3 := 0) rfl (by omega) ?_
    refine wr_ls (k0 := 259) (a := 0) (f := 0) (x := z58) (bl := -9223372036854775808) (bh := 9223372036854775807) (nx := 9) (r1 := 0) (r2 := 0) (r3 := 0) rfl (by decide) rfl (by omega) (by omega) (by decide) g rfl (by omega) (fun h59 g59 w59 u59 => ?_)
    refine wi_goto (nx := 12) (r1 := 15) (r2 := 0) (r3 := 0) rfl ?_
    refine wi_iconst (n := 0) (nx := 16) (r1 := 0) (r2 := 0) (r3 := 0) rfl ?_
    refine wi_ireturn (nx := 17) (r1 := 0) (r2 := 0) (r3 := 0) rfl rfl ?_
    refine wk_i ?_
    refine wi_istore (i := 5) (e := 0) (lo2 := [(5, vi 0), (0, .ref 1000000), (1, .ref 0), (2, .ref 236), (3, .ref 259), (4, vi i)]) (nx := 698) (r1 := 0) (r2 := 0) (r3 := 0) rfl rfl ?_
    refine wi_aload_n (i := 2) (x := 236) (nx := 699) (r1 := 0) (r2 := 0) (r3 := 0) rfl rfl ?_
    refine wi_aload_n (i := 0) (x := 1000000) (nx := 700) (r1 := 0) (r2 := 0) (r3 := 0) rfl rfl ?_
    refine wi_iload (i := 4) (e := i) (nx := 702) (r1 := 0) (r2 := 0) (r3 := 0) rfl rfl ?_
    refine wi_iconst (n := 1) (nx := 703) (r1 := 0) (r2 := 0) (r3 := 0) rfl ?_
    refine wr_add (nx := 704) (r1 := 0) (r2 := 0) (r3 := 0) rfl (fun e60 (fe60 : e60 = i + 1) => ?_)
    refine wr_sc (a := e60) (f := i55) (nx := 705) (r1 := 0) (r2 := 0) (r3 := 0) rfl (by omega) (by omega) hL ?_
    refine wr_V (k0 := 236) (rest := []) (as := [.ref 236, vi ((xs i55).toInt)]) (nx := 708) (r1 := 255) (r2 := 1) (r3 := 11) rfl rfl rfl (of_decide_eq_true rfl) rfl rfl (by decide) rfl rfl (of_decide_eq_true rfl) (of_decide_eq_true rfl) ?_
    refine ct_255_236 hcr  g59 ((xs i55).toInt) (by omega)  (fun h61 z62 g61 u61 (fz62 : 0 ≤ z62 ∧ z62 ≤ 6) => ?_)
    refine wk_i ?_
    refine wi_istore (i := 6) (e := z62) (lo2 := [(6, vi z62), (5, vi 0), (0, .ref 1000000), (1, .ref 0), (2, .ref 236), (3, .ref 259), (4, vi i)]) (nx := 710) (r1 := 0) (r2 := 0) (r3 := 0) rfl rfl ?_
    refine wi_goto (nx := 713) (r1 := 1501) (r2 := 0) (r3 := 0) rfl ?_
    refine wp.lo (lo := [(0, .ref 1000000), (1, .ref 0), (2, .ref 236), (3, .ref 259), (4, vi i)]) ⟨rfl, rfl, rfl, rfl, rfl, trivial⟩ rfl ?_
    have e63 : h61 238 98 = h 238 98 := ((u61 238 98 rfl).trans (u59 238 98 rfl))
    have e64 : h61 238 99 = h 238 99 := ((u61 238 99 rfl).trans (u59 238 99 rfl))
    have e65 : h61 238 100 = h 238 100 := ((u61 238 100 rfl).trans (u59 238 100 rfl))
    have e66 : h61 238 101 = h 238 101 := ((u61 238 101 rfl).trans (u59 238 101 rfl))
    have e67 : h61 238 102 = h 238 102 := ((u61 238 102 rfl).trans (u59 238 102 rfl))
    have e68 : h61 238 106 = h 238 106 := ((u61 238 106 rfl).trans (u59 238 106 rfl))
    have e69 : h61 238 73 = h 238 73 := ((u61 238 73 rfl).trans (u59 238 73 rfl))
    have e70 : h61 238 2 = h 238 2 := ((u61 238 2 rfl).trans (u59 238 2 rfl))
    have e71 : h61 238 119 = h 238 119 := ((u61 238 119 rfl).trans (u59 238 119 rfl))
    have e72 : h61 238 67 = h 238 67 := ((u61 238 67 rfl).trans (u59 238 67 rfl))
    have e73 : h61 238 69 = h 238 69 := ((u61 238 69 rfl).trans (u59 238 69 rfl))
    have e74 : h61 238 5 = h 238 5 := ((u61 238 5 rfl).trans (u59 238 5 rfl))
    have e75 : h61 241 98 = h 241 98 := ((u61 241 98 rfl).trans (u59 241 98 rfl))
    have e76 : h61 241 99 = h 241 99 := ((u61 241 99 rfl).trans (u59 241 99 rfl))
    have e77 : h61 241 100 = h 241 100 := ((u61 241 100 rfl).trans (u59 241 100 rfl))
    have e78 : h61 241 101 = h 241 101 := ((u61 241 101 rfl).trans (u59 241 101 rfl))
    have e79 : h61 241 102 = h 241 102 := ((u61 241 102 rfl).trans (u59 241 102 rfl))
    have e80 : h61 241 106 = h 241 106 := ((u61 241 106 rfl).trans (u59 241 106 rfl))
    have e81 : h61 241 73 = h 241 73 := ((u61 241 73 rfl).trans (u59 241 73 rfl))
    have e82 : h61 241 2 = h 241 2 := ((u61 241 2 rfl).trans (u59 241 2 rfl))
    have e83 : h61 241 119 = h 241 119 := ((u61 241 119 rfl).trans (u59 241 119 rfl))
    have e84 : h61 241 67 = h 241 67 := ((u61 241 67 rfl).trans (u59 241 67 rfl))
    have e85 : h61 241 69 = h 241 69 := ((u61 241 69 rfl).trans (u59 241 69 rfl))
    have e86 : h61 241 5 = h 241 5 := ((u61 241 5 rfl).trans (u59 241 5 rfl))
    have e87 : h61 1 1 = h 1 1 := ((u61 1 1 rfl).trans (u59 1 1 rfl))
    have e88 : h61 236 2 = h 236 2 := ((u61 236 2 rfl).trans (u59 236 2 rfl))
    have e89 : h61 1 2 = h 1 2 := ((u61 1 2 rfl).trans (u59 1 2 rfl))
    have e90 : h61 236 10 = h 236 10 := ((u61 236 10 rfl).trans (u59 236 10 rfl))
    have e91 : h61 1 3 = h 1 3 := ((u61 1 3 rfl).trans (u59 1 3 rfl))
    have e92 : h61 236 11 = h 236 11 := ((u61 236 11 rfl).trans (u59 236 11 rfl))
    have gp93 := GPH.fr u59 rfl gp0
    have gp94 := GPH.fr u61 rfl gp93
    have b95 := gi_b (lo := 0) (hi := 5) g 241 0 rfl
    have b96 := gi_b (lo := 0) (hi := 4) g 241 1 rfl
    have gs97 := GPS.fr u59 rfl gs0
    have gs98 := GPS.fr u61 rfl gs97
    have e99 : h61 0 12 = h 0 12 := ((u61 0 12 rfl).trans (u59 0 12 rfl))
    have e100 : h61 236 21 = h 236 21 := ((u61 236 21 rfl).trans (u59 236 21 rfl))
    have e101 : h61 63 5 = h 63 5 := ((u61 63 5 rfl).trans (u59 63 5 rfl))
    have e102 : h61 18 16 = h 18 16 := ((u61 18 16 rfl).trans (u59 18 16 rfl))
    have e103 : h61 18 7 = h 18 7 := ((u61 18 7 rfl).trans (u59 18 7 rfl))
    have e104 : h61 3 2 = h 3 2 := ((u61 3 2 rfl).trans (u59 3 2 rfl))
    have e105 : h61 66 1 = h 66 1 := ((u61 66 1 rfl).trans (u59 66 1 rfl))
    have b106 := gi_b (lo := 0) (hi := 6) g 73 1 rfl
    have e107 : h61 73 1 = h 73 1 := ((u61 73 1 rfl).trans (u59 73 1 rfl))
    have b108 := gi_b (lo := 0) (hi := 6) g 73 2 rfl
    have e109 : h61 73 2 = h 73 2 := ((u61 73 2 rfl).trans (u59 73 2 rfl))
    have b110 := gi_b (lo := 0) (hi := 6) g 236 22 rfl
    have e111 : h61 236 22 = h 236 22 := ((u61 236 22 rfl).trans (u59 236 22 rfl))
    have b112 := gi_b (lo := 0) (hi := 12) g 210 2 rfl
    have e113 : h61 210 2 = h 210 2 := ((u61 210 2 rfl).trans (u59 210 2 rfl))
    have q116 : h61 8 = h 8 := funext (fun i => ((u61 8 i (fo_no_ok (by decide) i)).trans (u59 8 i rfl)))
    have q117 : h61 7 = h 7 := funext (fun i => ((u61 7 i (fo_no_ok (by decide) i)).trans (u59 7 i rfl)))
    have q118 : h61 19 = h 19 := funext (fun i => ((u61 19 i (fo_no_ok (by decide) i)).trans (u59 19 i rfl)))
    have q119 : h61 67 = h 67 := funext (fun i => ((u61 67 i (fo_no_ok (by decide) i)).trans (u59 67 i rfl)))
    have ml115 : MCL h61 := MCL.mv mi0.1 q116 q117 q118 q119 (by omega) (by omega) (by omega) (by omega)
    have q121 : h61 69 = h 69 := funext (fun i => ((u61 69 i (fo_no_ok (by decide) i)).trans (u59 69 i rfl)))
    have q122 : h61 70 = h 70 := funext (fun i => ((u61 70 i (fo_no_ok (by decide) i)).trans (u59 70 i rfl)))
    have nb120 : NBc (h61 69) (h61 70) := by rw [q121, q122]; exact mi0.2.2
    have q123 : h61 8 = h 8 := funext (fun i => ((u61 8 i (fo_no_ok (by decide) i)).trans (u59 8 i rfl)))
    have q124 : h61 7 = h 7 := funext (fun i => ((u61 7 i (fo_no_ok (by decide) i)).trans (u59 7 i rfl)))
    have mi114 : MCI h61 := ⟨ml115, HIv.mv mi0.2.1 q123 q124 (by omega) (by omega) (sv_seven (P := fun x => ∀ i, h61 (76 + 19 * x) i = h (76 + 19 * x) i) (fun i => ((u61 76 i (fn_a (by decide) fn_0)).trans (u59 76 i (fn_a (by omega) fn_0)))) (fun i => ((u61 95 i (fn_a (by decide) fn_0)).trans (u59 95 i (fn_a (by omega) fn_0)))) (fun i => ((u61 114 i (fn_a (by decide) fn_0)).trans (u59 114 i (fn_a (by omega) fn_0)))) (fun i => ((u61 133 i (fn_a (by decide) fn_0)).trans (u59 133 i (fn_a (by omega) fn_0)))) (fun i => ((u61 152 i (fn_a (by decide) fn_0)).trans (u59 152 i (fn_a (by omega) fn_0)))) (fun i => ((u61 171 i (fn_a (by decide) fn_0)).trans (u59 171 i (fn_a (by omega) fn_0)))) (fun i => ((u61 190 i (fn_a (by decide) fn_0)).trans (u59 190 i (fn_a (by omega) fn_0))))) (by omega) (by omega), nb120⟩
    have gq125 := GQS.fr u59 rfl gq0
    have gq126 := GQS.fr u61 rfl gq125
    have q127 : h61 8 = h 8 := funext (fun i => ((u61 8 i (fo_no_ok (by decide) i)).trans (u59 8 i rfl)))
    have q128 : h61 7 = h 7 := funext (fun i => ((u61 7 i (fo_no_ok (by decide) i)).trans (u59 7 i rfl)))
    have q129 : h61 215 = h 215 := funext (fun i => ((u61 215 i (fo_no_ok (by decide) i)).trans (u59 215 i rfl)))
    have q130 : h61 218 = h 218 := funext (fun i => ((u61 218 i (fo_no_ok (by decide) i)).trans (u59 218 i rfl)))
    have q131 : h61 214 = h 214 := funext (fun i => ((u61 214 i (fo_no_ok (by decide) i)).trans (u59 214 i rfl)))
    have q132 : h61 241 = h 241 := funext (fun i => ((u61 241 i (fo_no_ok (by decide) i)).trans (u59 241 i rfl)))
    exact k h61 b c ⟨⟨g61, (show h61 1 1 = h61 236 2 by omega), (RS.i0 (f := h61 238) (by refine ⟨?_, ?_, ?_, ?_, ?_⟩ <;> omega)), (RS.i0 (f := h61 241) (by refine ⟨?_, ?_, ?_, ?_, ?_⟩ <;> omega)), gp94, (BRh.keep br0 (fun i => ((u61 2 i (fn_a (by decide) fn_0)).trans (u59 2 i (fn_a (by omega) fn_0)))) (fun i => ((u61 237 i (fn_a (by decide) fn_0)).trans (u59 237 i (fn_a (by omega) fn_0)))) (by omega)), (show h61 1 2 = h61 236 10 by omega), (show h61 1 3 = h61 236 11 by omega), (SVx.keep sv0 (by omega) (fun i _ => ((u61 3 i (fn_a (by decide) fn_0)).trans (u59 3 i (fn_a (by omega) fn_0)))) (fun i _ => ((u61 5 i (fn_a (by decide) fn_0)).trans (u59 5 i (fn_a (by omega) fn_0)))) (fun i _ => ((u61 6 i (fn_a (by decide) fn_0)).trans (u59 6 i (fn_a (by omega) fn_0)))) (fun i _ => ((u61 8 i (fn_a (by decide) fn_0)).trans (u59 8 i (fn_a (by omega) fn_0)))) (fun i _ => ((u61 238 i (fn_a (by decide) fn_0)).trans (u59 238 i (fn_a (by omega) fn_0))))), (show h61 0 12 = h61 236 21 by omega), (fun e => (SVx.keep (ss0 (by omega)) (by omega) (fun i _ => ((u61 210 i (fn_a (by decide) fn_0)).trans (u59 210 i (fn_a (by omega) fn_0)))) (fun i _ => ((u61 212 i (fn_a (by decide) fn_0)).trans (u59 212 i (fn_a (by omega) fn_0)))) (fun i _ => ((u61 213 i (fn_a (by decide) fn_0)).trans (u59 213 i (fn_a (by omega) fn_0)))) (fun i _ => ((u61 215 i (fn_a (by decide) fn_0)).trans (u59 215 i (fn_a (by omega) fn_0)))) (fun i _ => ((u61 241 i (fn_a (by decide) fn_0)).trans (u59 241 i (fn_a (by omega) fn_0)))))), gs98, mi114, (show h61 63 5 ≤ h61 18 16 by omega), (show (h61 63 5) < (h61 18 16) ∨ ((h61 18 7) ≤ (h61 3 2) ∧ (h61 66 1) = (h61 3 2) - (h61 18 7)) ∨ ((h61 3 2) < (h61 18 7) ∧ (h61 66 1) = 0) by omega), gq126, (MR.mv mr0 (MSN.then (MSN.refl) (fun i _ => ((u61 238 i (fn_a (by decide) fn_0)).trans (u59 238 i (fn_a (by omega) fn_0))))) (by omega) q127 q128 (by omega)), (fun e => SM.mv (sm0 (by omega)) q129 q130 q131 (by omega) q132)⟩, (by omega)⟩ (by omega) (by omega)
  ·
    refine wk_h 12 (by decide) rfl ?_
    refine wr_astx (i := 3) (lo2 := [(3, .retAddr 0), (0, .ref 0), (1, vi ((xs i55).toInt)), (2, .ref 259)]) (nx := 13) (r1 := 0) (r2 := 0) (r3 := 0) rfl rfl ?_
    refine wi_iconst (n := 1) (nx := 14) (r1 := 0) (r2 := 0) (r3 := 0) rfl ?_
    refine wi_ireturn (nx := 15) (r1 := 0) (r2 := 0) (r3 := 0) rfl rfl ?_
    refine wk_i ?_
    refine wi_istore (i := 5) (e := 1) (lo2 := [(5, vi 1), (0, .ref 1000000), (1, .ref 0), (2, .ref 236), (3, .ref 259), (4, vi i)]) (nx := 698) (r1 := 0) (r2 := 0) (r3 := 0) rfl rfl ?_
    refine wi_aload_n (i := 2) (x := 236) (nx := 699) (r1 := 0) (r2 := 0) (r3 := 0) rfl rfl ?_
    refine wi_aload_n (i := 0) (x := 1000000) (nx := 700) (r1 := 0) (r2 := 0) (r3 := 0) rfl rfl ?_
    refine wi_iload (i := 4) (e := i) (nx := 702) (r1 := 0) (r2 := 0) (r3 := 0) rfl rfl ?_
    refine wi_iconst (n := 1) (nx := 703) (r1 := 0) (r2 := 0) (r3 := 0) rfl ?_
    refine wr_add (nx := 704) (r1 := 0) (r2 := 0) (r3 := 0) rfl (fun e59 (fe59 : e59 = i + 1) => ?_)
    refine wr_sc (a := e59) (f := i55) (nx := 705) (r1 := 0) (r2 := 0) (r3 := 0) rfl (by omega) (by omega) hL ?_
    refine wr_V (k0 := 236) (rest := []) (as := [.ref 236, vi ((xs i55).toInt)]) (nx := 708) (r1 := 255) (r2 := 1) (r3 := 11) rfl rfl rfl (of_decide_eq_true rfl) rfl rfl (by decide) rfl rfl (of_decide_eq_true rfl) (of_decide_eq_true rfl) ?_
    refine ct_255_236 hcr  g ((xs i55).toInt) (by omega)  (fun h60 z61 g60 u60 (fz61 : 0 ≤ z61 ∧ z61 ≤ 6) => ?_)
    refine wk_i ?_
    refine wi_istore (i := 6) (e := z61) (lo2 := [(6, vi z61), (5, vi 1), (0, .ref 1000000), (1, .ref 0), (2, .ref 236), (3, .ref 259), (4, vi i)]) (nx := 710) (r1 := 0) (r2 := 0) (r3 := 0) rfl rfl ?_
    refine wi_goto (nx := 713) (r1 := 1501) (r2 := 0) (r3 := 0) rfl ?_
    refine wp.lo (lo := [(0, .ref 1000000), (1, .ref 0), (2, .ref 236), (3, .ref 259), (4, vi i)]) ⟨rfl, rfl, rfl, rfl, rfl, trivial⟩ rfl ?_
    have e62 : h60 238 98 = h 238 98 := (u60 238 98 rfl)
    have e63 : h60 238 99 = h 238 99 := (u60 238 99 rfl)
    have e64 : h60 238 100 = h 238 100 := (u60 238 100 rfl)
    have e65 : h60 238 101 = h 238 101 := (u60 238 101 rfl)
    have e66 : h60 238 102 = h 238 102 := (u60 238 102 rfl)
    have e67 : h60 238 106 = h 238 106 := (u60 238 106 rfl)
    have e68 : h60 238 73 = h 238 73 := (u60 238 73 rfl)
    have e69 : h60 238 2 = h 238 2 := (u60 238 2 rfl)
    have e70 : h60 238 119 = h 238 119 := (u60 238 119 rfl)
    have e71 : h60 238 67 = h 238 67 := (u60 238 67 rfl)
    have e72 : h60 238 69 = h 238 69 := (u60 238 69 rfl)
    have e73 : h60 238 5 = h 238 5 := (u60 238 5 rfl)
    have e74 : h60 241 98 = h 241 98 := (u60 241 98 rfl)
    have e75 : h60 241 99 = h 241 99 := (u60 241 99 rfl)
    have e76 : h60 241 100 = h 241 100 := (u60 241 100 rfl)
    have e77 : h60 241 101 = h 241 101 := (u60 241 101 rfl)
    have e78 : h60 241 102 = h 241 102 := (u60 241 102 rfl)
    have e79 : h60 241 106 = h 241 106 := (u60 241 106 rfl)
    have e80 : h60 241 73 = h 241 73 := (u60 241 73 rfl)
    have e81 : h60 241 2 = h 241 2 := (u60 241 2 rfl)
    have e82 : h60 241 119 = h 241 119 := (u60 241 119 rfl)
    have e83 : h60 241 67 = h 241 67 := (u60 241 67 rfl)
    have e84 : h60 241 69 = h 241 69 := (u60 241 69 rfl)
    have e85 : h60 241 5 = h 241 5 := (u60 241 5 rfl)
    have e86 : h60 1 1 = h 1 1 := (u60 1 1 rfl)
    have e87 : h60 236 2 = h 236 2 := (u60 236 2 rfl)
    have e88 : h60 1 2 = h 1 2 := (u60 1 2 rfl)
    have e89 : h60 236 10 = h 236 10 := (u60 236 10 rfl)
    have e90 : h60 1 3 = h 1 3 := (u60 1 3 rfl)
    have e91 : h60 236 11 = h 236 11 := (u60 236 11 rfl)
    have gp92 := GPH.fr u60 rfl gp0
    have b93 := gi_b (lo := 0) (hi := 5) g 241 0 rfl
    have b94 := gi_b (lo := 0) (hi := 4) g 241 1 rfl
    have gs95 := GPS.fr u60 rfl gs0
    have e96 : h60 0 12 = h 0 12 := (u60 0 12 rfl)
    have e97 : h60 236 21 = h 236 21 := (u60 236 21 rfl)
    have e98 : h60 63 5 = h 63 5 := (u60 63 5 rfl)
    have e99 : h60 18 16 = h 18 16 := (u60 18 16 rfl)
    have e100 : h60 18 7 = h 18 7 := (u60 18 7 rfl)
    have e101 : h60 3 2 = h 3 2 := (u60 3 2 rfl)
    have e102 : h60 66 1 = h 66 1 := (u60 66 1 rfl)
    have b103 := gi_b (lo := 0) (hi := 6) g 73 1 rfl
    have e104 : h60 73 1 = h 73 1 := (u60 73 1 rfl)
    have b105 := gi_b (lo := 0) (hi := 6) g 73 2 rfl
    have e106 : h60 73 2 = h 73 2 := (u60 73 2 rfl)
    have b107 := gi_b (lo := 0) (hi := 6) g 236 22 rfl
    have e108 : h60 236 22 = h 236 22 := (u60 236 22 rfl)
    have b109 := gi_b (lo := 0) (hi := 12) g 210 2 rfl
    have e110 : h60 210 2 = h 210 2 := (u60 210 2 rfl)
    have q113 : h60 8 = h 8 := funext (fun i => (u60 8 i (fo_no_ok (by decide) i)))
    have q114 : h60 7 = h 7 := funext (fun i => (u60 7 i (fo_no_ok (by decide) i)))
    have q115 : h60 19 = h 19 := funext (fun i => (u60 19 i (fo_no_ok (by decide) i)))
    have q116 : h60 67 = h 67 := funext (fun i => (u60 67 i (fo_no_ok (by decide) i)))
    have ml112 : MCL h60 := MCL.mv mi0.1 q113 q114 q115 q116 (by omega) (by omega) (by omega) (by omega)
    have q118 : h60 69 = h 69 := funext (fun i => (u60 69 i (fo_no_ok (by decide) i)))
    have q119 : h60 70 = h 70 := funext (fun i => (u60 70 i (fo_no_ok (by decide) i)))
    have nb117 : NBc (h60 69) (h60 70) := by rw [q118, q119]; exact mi0.2.2
    have q120 : h60 8 = h 8 := funext (fun i => (u60 8 i (fo_no_ok (by decide) i)))
    have q121 : h60 7 = h 7 := funext (fun i => (u60 7 i (fo_no_ok (by decide) i)))
    have mi111 : MCI h60 := ⟨ml112, HIv.mv mi0.2.1 q120 q121 (by omega) (by omega) (sv_seven (P := fun x => ∀ i, h60 (76 + 19 * x) i = h (76 + 19 * x) i) (fun i => (u60 76 i (fn_a (by decide) fn_0))) (fun i => (u60 95 i (fn_a (by decide) fn_0))) (fun i => (u60 114 i (fn_a (by decide) fn_0))) (fun i => (u60 133 i (fn_a (by decide) fn_0))) (fun i => (u60 152 i (fn_a (by decide) fn_0))) (fun i => (u60 171 i (fn_a (by decide) fn_0))) (fun i => (u60 190 i (fn_a (by decide) fn_0)))) (by omega) (by omega), nb117⟩
    have gq122 := GQS.fr u60 rfl gq0
    have q123 : h60 8 = h 8 := funext (fun i => (u60 8 i (fo_no_ok (by decide) i)))
    have q124 : h60 7 = h 7 := funext (fun i => (u60 7 i (fo_no_ok (by decide) i)))
    have q125 : h60 215 = h 215 := funext (fun i => (u60 215 i (fo_no_ok (by decide) i)))
    have q126 : h60 218 = h 218 := funext (fun i => (u60 218 i (fo_no_ok (by decide) i)))
    have q127 : h60 214 = h 214 := funext (fun i => (u60 214 i (fo_no_ok (by decide) i)))
    have q128 : h60 241 = h 241 := funext (fun i => (u60 241 i (fo_no_ok (by decide) i)))
    exact k h60 (b - 1) (c - 6) ⟨⟨g60, (show h60 1 1 = h60 236 2 by omega), (RS.i0 (f := h60 238) (by refine ⟨?_, ?_, ?_, ?_, ?_⟩ <;> omega)), (RS.i0 (f := h60 241) (by refine ⟨?_, ?_, ?_, ?_, ?_⟩ <;> omega)), gp92, (BRh.keep br0 (fun i => (u60 2 i (fn_a (by decide) fn_0))) (fun i => (u60 237 i (fn_a (by decide) fn_0))) (by omega)), (show h60 1 2 = h60 236 10 by omega), (show h60 1 3 = h60 236 11 by omega), (SVx.keep sv0 (by omega) (fun i _ => (u60 3 i (fn_a (by decide) fn_0))) (fun i _ => (u60 5 i (fn_a (by decide) fn_0))) (fun i _ => (u60 6 i (fn_a (by decide) fn_0))) (fun i _ => (u60 8 i (fn_a (by decide) fn_0))) (fun i _ => (u60 238 i (fn_a (by decide) fn_0)))), (show h60 0 12 = h60 236 21 by omega), (fun e => (SVx.keep (ss0 (by omega)) (by omega) (fun i _ => (u60 210 i (fn_a (by decide) fn_0))) (fun i _ => (u60 212 i (fn_a (by decide) fn_0))) (fun i _ => (u60 213 i (fn_a (by decide) fn_0))) (fun i _ => (u60 215 i (fn_a (by decide) fn_0))) (fun i _ => (u60 241 i (fn_a (by decide) fn_0))))), gs95, mi111, (show h60 63 5 ≤ h60 18 16 by omega), (show (h60 63 5) < (h60 18 16) ∨ ((h60 18 7) ≤ (h60 3 2) ∧ (h60 66 1) = (h60 3 2) - (h60 18 7)) ∨ ((h60 3 2) < (h60 18 7) ∧ (h60 66 1) = 0) by omega), gq122, (MR.mv mr0 (MSN.then (MSN.refl) (fun i _ => (u60 238 i (fn_a (by decide) fn_0)))) (by omega) q123 q124 (by omega)), (fun e => SM.mv (sm0 (by omega)) q125 q126 q127 (by omega) q128)⟩, (by omega)⟩ (by omega) (by omega)
-- the law, case at 713
set_option maxRecDepth 100000 in
set_option maxHeartbeats 100000000 in
theorem lc_713 {L : Nat} {xs : Nat → Int32} {d b c : Nat} {h : hp} {cr : Nat → Nat → Option Nat} {Q : hp_Q} (hcr : CR cr) (hL : L ≤ 3072) (hr : 1 ≤ b ∧ 6 ≤ c) (i : Int) (I : LIm i h) (hi : 0 ≤ i ∧ i + 6 ≤ L) (k : ∀ (h2 : hp) (b2 c2 : Nat), LIm (i + 6) h2 → b ≤ b2 + 1 → c ≤ c2 + 6 → wp (md_xa (L, xs)) (d + 107) 0 (1501, [(0, .ref 1000000), (1, .ref 0), (2, .ref 236), (3, .ref 259), (4, vi i)], [], hp_w h2 cr, b2, c2) Q) : wp (md_xa (L, xs)) (d + 107) 0 (713, [(0, .ref 1000000), (1, .ref 0), (2, .ref 236), (3, .ref 259), (4, vi i)], [], hp_w h cr, b, c) Q := by
  obtain ⟨⟨g, i11, r238, r241, gp0, br0, er2, er3, sv0, sf0, ss0, gs0, mi0, ml1, ml2, gq0, mr0, sm0⟩, ie0⟩ := I
  have r238e := r238.e0
  have r241e := r241.e0
  obtain ⟨⟨se0, se1, se2, se3, se4, se5, se6, se7, se8, se9⟩, -⟩ := id sv0
  have b1 := gi_b (lo := 0) (hi := 5) g 3 0 rfl
  have b2 := gi_b (lo := 0) (hi := 5) g 238 0 rfl
  have b3 := gi_b (lo := 0) (hi := 4) g 3 1 rfl
  have b4 := gi_b (lo := 0) (hi := 4) g 238 1 rfl
  have b5 := gi_b (lo := 0) (hi := 12) g 3 2 rfl
  have b6 := gi_b (lo := 0) (hi := 12) g 238 2 rfl
  have b7 := gi_b (lo := -2147483648) (hi := 2147483647) g 3 3 rfl
  have b8 := gi_b (lo := 0) (hi := 999) g 238 3 rfl
  have b9 := gi_b (lo := -2147483648) (hi := 2147483647) g 3 4 rfl
  have b10 := gi_b (lo := 0) (hi := 999) g 238 4 rfl
  have b11 := gi_b (lo := -2147483648) (hi := 2147483647) g 3 5 rfl
  have b12 := gi_b (lo := 0) (hi := 9) g 238 5 rfl
  have b13 := gi_b (lo := -2147483648) (hi := 2147483647) g 3 6 rfl
  have b14 := gi_b (lo := 0) (hi := 999) g 238 6 rfl
  have b15 := gi_b (lo := -2147483648) (hi := 2147483647) g 3 7 rfl
  have b16 := gi_b (lo := 0) (hi := 3) g 238 7 rfl
  have b17 := gi_b (lo := -2147483648) (hi := 2147483647) g 3 8 rfl
  have b18 := gi_b (lo := 0) (hi := 999) g 238 8 rfl
  have b19 := gi_b (lo := -2147483648) (hi := 2147483647) g 3 9 rfl
  have b20 := gi_b (lo := 0) (hi := 999) g 238 9 rfl
  have b21 := gi_b (lo := -2147483648) (hi := 2147483647) g 63 5 rfl
  have b22 := gi_b (lo := 0) (hi := 12) g 18 7 rfl
  have b23 := gi_b (lo := 0) (hi := 12) g 66 1 rfl
  have b24 := gi_b (lo := 0) (hi := 1) g 0 12 rfl
  have b25 := gi_b (lo := 0) (hi := 1) g 236 21 rfl
  have bl_ := gi_b (lo := 0) (hi := 800) g 1 1 rfl
  have tb0 : BufC (h 2) (h 1 1) h := ⟨fun _ => rfl, rfl, by omega, by omega⟩
  have b26 := gi_b (lo := 0) (hi := 6) g 238 98 rfl
  have b27 := gi_b (lo := 0) (hi := 6) g 238 99 rfl
  have b28 := gi_b (lo := 0) (hi := 6) g 238 100 rfl
  have b29 := gi_b (lo := 0) (hi := 6) g 238 101 rfl
  have b30 := gi_b (lo := 0) (hi := 3) g 238 102 rfl
  have b31 := gi_b (lo := 0) (hi := 12) g 238 106 rfl
  have b32 := gi_b (lo := 0) (hi := 12) g 238 73 rfl
  have b33 := gi_b (lo := 0) (hi := 9999) g 238 119 rfl
  have b34 := gi_b (lo := 0) (hi := 9999) g 238 67 rfl
  have b35 := gi_b (lo := 0) (hi := 9) g 238 69 rfl
  have b36 := gi_b (lo := 0) (hi := 6) g 241 98 rfl
  have b37 := gi_b (lo := 0) (hi := 6) g 241 99 rfl
  have b38 := gi_b (lo := 0) (hi := 6) g 241 100 rfl
  have b39 := gi_b (lo := 0) (hi := 6) g 241 101 rfl
  have b40 := gi_b (lo := 0) (hi := 3) g 241 102 rfl
  have b41 := gi_b (lo := 0) (hi := 12) g 241 106 rfl
  have b42 := gi_b (lo := 0) (hi := 12) g 241 73 rfl
  have b43 := gi_b (lo := 0) (hi := 12) g 241 2 rfl
  have b44 := gi_b (lo := 0) (hi := 9999) g 241 119 rfl
  have b45 := gi_b (lo := 0) (hi := 9999) g 241 67 rfl
  have b46 := gi_b (lo := 0) (hi := 9) g 241 69 rfl
  have b47 := gi_b (lo := 0) (hi := 9) g 241 5 rfl
  have b48 := gi_b (lo := 0) (hi := 800) g 1 1 rfl
  have b49 := gi_b (lo := 0) (hi := 800) g 236 2 rfl
  have b50 := gi_b (lo := -2147483648) (hi := 2147483647) g 1 2 rfl
  have b51 := gi_b (lo := -2147483648) (hi := 2147483647) g 236 10 rfl
  have b52 := gi_b (lo := -2147483648) (hi := 2147483647) g 1 3 rfl
  have b53 := gi_b (lo := -2147483648) (hi := 2147483647) g 236 11 rfl
  refine wi_aload_n (i := 1) (x := 0) (nx := 714) (r1 := 0) (r2 := 0) (r3 := 0) rfl rfl ?_
  refine wi_aload_n (i := 0) (x := 1000000) (nx := 715) (r1 := 0) (r2 := 0) (r3 := 0) rfl rfl ?_
  refine wi_iload (i := 4) (e := i) (nx := 717) (r1 := 0) (r2 := 0) (r3 := 0) rfl rfl ?_
  refine wi_iconst (n := 1) (nx := 718) (r1 := 0) (r2 := 0) (r3 := 0) rfl ?_
  refine wr_add (nx := 719) (r1 := 0) (r2 := 0) (r3 := 0) rfl (fun e54 (fe54 : e54 = i + 1) => ?_)
  obtain ⟨i55, ei55⟩ : ∃ q : Nat, e54 = (q : Int) := ⟨(e54).toNat, by omega⟩
  have s56 := sc_b (xs i55)
  refine wr_sc (a := e54) (f := i55) (nx := 720) (r1 := 0) (r2 := 0) (r3 := 0) rfl (by omega) (by omega) hL ?_
  refine wi_aload_n (i := 0) (x := 1000000) (nx := 721) (r1 := 0) (r2 := 0) (r3 := 0) rfl rfl ?_
  refine wi_iload (i := 4) (e := i) (nx := 723) (r1 := 0) (r2 := 0) (r3 := 0) rfl rfl ?_
  refine wi_iconst (n := 2) (nx := 724) (r1 := 0) (r2 := 0) (r3 := 0) rfl ?_
  refine wr_add (nx := 725) (r1 := 0) (r2 := 0) (r3 := 0) rfl (fun e57 (fe57 : e57 = i + 2) => ?_)
  obtain ⟨i58, ei58⟩ : ∃ q : Nat, e57 = (q : Int) := ⟨(e57).toNat, by omega⟩
  have s59 := sc_b (xs i58)
  refine wr_sc (a := e57) (f := i58) (nx := 726) (r1 := 0) (r2 := 0) (r3 := 0) rfl (by omega) (by omega) hL ?_
  refine wi_aload_n (i := 3) (x := 259) (nx := 727) (r1 := 0) (r2 := 0) (r3 := 0) rfl rfl ?_
  refine wi_S (rest := []) (as := [.ref 0, vi ((xs i55).toInt), vi ((xs i58).toInt), .ref 259]) (nx := 730) (r1 := 13) (r2 := 20) (r3 := 0) rfl rfl rfl (of_decide_eq_true rfl) rfl rfl (of_decide_eq_true rfl) (of_decide_eq_true rfl) ?_
  refine wi_aload_n (i := 3) (x := 259) (nx := 1) (r1 := 0) (r2 := 0) (r3 := 0) rfl rfl ?_
  refine wi_iconst (n := 0) (nx := 2) (r1 := 0) (r2 := 0) (r3 := 0) rfl ?_
  refine wi_aload_n (i := 0) (x := 0) (nx := 3) (r1 := 0) (r2 := 0) (r3 := 0) rfl rfl ?_
  refine wi_iload_n (i := 1) (e := (xs i55).toInt) (nx := 4) (r1 := 0) (r2 := 0) (r3 := 0) rfl rfl ?_
  refine wi_iload_n (i := 2) (e := (xs i58).toInt) (nx := 5) (r1 := 0) (r2 := 0) (r3 := 0) rfl rfl ?_
  refine wr_V (k0 := 0) (rest := [vi 0, .ref 259]) (as := [.ref 0, vi ((xs i55).toInt), vi ((xs i58).toInt)]) (nx := 8) (r1 := 75) (r2 := 2) (r3 := 0) rfl rfl rfl (of_decide_eq_true rfl) rfl rfl (by decide) rfl rfl (of_decide_eq_true rfl) (of_decide_eq_true rfl) ?_
  refine ct_75_0 hcr hr  g ((xs i55).toInt) ((xs i58).toInt) (by omega) (by omega)  (fun z61  (fz61 : -2147483648 ≤ z61 ∧ z61 ≤ 2147483647) => ?_) ?_
  ·
    refine wk_i ?_
    refine wi_i2l (nx := 9) (r1 := 0) (r2 := 0) (r3 := 0) rfl (by omega) ?_
    refine wr_ls (k0 := 259) (a := 0) (f := 0) (x := z61) (bl := -9223372036854775808) (bh := 9223372036854775807) (nx := 10) (r1 := 0) (r2 := 0) (r3 := 0) rfl (by decide) rfl (by omega) (by omega) (by decide) g rfl (by omega) (fun h62 g62 w62 u62 => ?_)
    refine wi_goto (nx := 13) (r1 := 17) (r2 := 0) (r3 := 0) rfl ?_
    refine wi_iconst (n := 0) (nx := 18) (r1 := 0) (r2 := 0) (r3 := 0) rfl ?_
    refine wi_ireturn (nx := 19) (r1 := 0) (r2 := 0) (r3 := 0) rfl rfl ?_
    refine wk_i ?_
    refine wi_istore (i := 5) (e := 0) (lo2 := [(5, vi 0), (0, .ref 1000000), (1, .ref 0), (2, .ref 236), (3, .ref 259), (4, vi i)]) (nx := 732) (r1 := 0) (r2 := 0) (r3 := 0) rfl rfl ?_
    refine wi_aload_n (i := 2) (x := 236) (nx := 733) (r1 := 0) (r2 := 0) (r3 := 0) rfl rfl ?_
    refine wi_aload_n (i := 0) (x := 1000000) (nx := 734) (r1 := 0) (r2 := 0) (r3 := 0) rfl rfl ?_
    refine wi_iload (i := 4) (e := i) (nx := 736) (r1 := 0) (r2 := 0) (r3 := 0) rfl rfl ?_
    refine wi_iconst (n := 1) (nx := 737) (r1 := 0) (r2 := 0) (r3 := 0) rfl ?_
    refine wr_add (nx := 738) (r1 := 0) (r2 := 0) (r3 := 0) rfl (fun e63 (fe63 : e63 = i + 1) => ?_)
    refine wr_sc (a := e63) (f := i55) (nx := 739) (r1 := 0) (r2 := 0) (r3 := 0) rfl (by omega) (by omega) hL ?_
    refine wi_aload_n (i := 0) (x := 1000000) (nx := 740) (r1 := 0) (r2 := 0) (r3 := 0) rfl rfl ?_
    refine wi_iload (i := 4) (e := i) (nx := 742) (r1 := 0) (r2 := 0) (r3 := 0) rfl rfl ?_
    refine wi_iconst (n := 2) (nx := 743) (r1 := 0) (r2 := 0) (r3 := 0) rfl ?_
    refine wr_add (nx := 744) (r1 := 0) (r2 := 0) (r3 := 0) rfl (fun e64 (fe64 : e64 = i + 2) => ?_)
    refine wr_sc (a := e64) (f := i58) (nx := 745) (r1 := 0) (r2 := 0) (r3 := 0) rfl (by omega) (by omega) hL ?_
    refine wr_V (k0 := 236) (rest := []) (as := [.ref 236, vi ((xs i55).toInt), vi ((xs i58).toInt)]) (nx := 748) (r1 := 256) (r2 := 2) (r3 := 11) rfl rfl rfl (of_decide_eq_true rfl) rfl rfl (by decide) rfl rfl (of_decide_eq_true rfl) (of_decide_eq_true rfl) ?_
    refine ct_256_236 hcr  g62 ((xs i55).toInt) ((xs i58).toInt) (by omega) (by omega)  (fun h65 z66 g65 u65 (fz66 : -1 ≤ z66 ∧ z66 ≤ 11) => ?_)
    refine wk_i ?_
    refine wi_istore (i := 6) (e := z66) (lo2 := [(6, vi z66), (5, vi 0), (0, .ref 1000000), (1, .ref 0), (2, .ref 236), (3, .ref 259), (4, vi i)]) (nx := 750) (r1 := 0) (r2 := 0) (r3 := 0) rfl rfl ?_
    refine wi_goto (nx := 753) (r1 := 1501) (r2 := 0) (r3 := 0) rfl ?_
    refine wp.lo (lo := [(0, .ref 1000000), (1, .ref 0), (2, .ref 236), (3, .ref 259), (4, vi i)]) ⟨rfl, rfl, rfl, rfl, rfl, trivial⟩ rfl ?_
    have e67 : h65 238 98 = h 238 98 := ((u65 238 98 rfl).trans (u62 238 98 rfl))
    have e68 : h65 238 99 = h 238 99 := ((u65 238 99 rfl).trans (u62 238 99 rfl))
    have e69 : h65 238 100 = h 238 100 := ((u65 238 100 rfl).trans (u62 238 100 rfl))
    have e70 : h65 238 101 = h 238 101 := ((u65 238 101 rfl).trans (u62 238 101 rfl))
    have e71 : h65 238 102 = h 238 102 := ((u65 238 102 rfl).trans (u62 238 102 rfl))
    have e72 : h65 238 106 = h 238 106 := ((u65 238 106 rfl).trans (u62 238 106 rfl))
    have e73 : h65 238 73 = h 238 73 := ((u65 238 73 rfl).trans (u62 238 73 rfl))
    have e74 : h65 238 2 = h 238 2 := ((u65 238 2 rfl).trans (u62 238 2 rfl))
    have e75 : h65 238 119 = h 238 119 := ((u65 238 119 rfl).trans (u62 238 119 rfl))
    have e76 : h65 238 67 = h 238 67 := ((u65 238 67 rfl).trans (u62 238 67 rfl))
    have e77 : h65 238 69 = h 238 69 := ((u65 238 69 rfl).trans (u62 238 69 rfl))
    have e78 : h65 238 5 = h 238 5 := ((u65 238 5 rfl).trans (u62 238 5 rfl))
    have e79 : h65 241 98 = h 241 98 := ((u65 241 98 rfl).trans (u62 241 98 rfl))
    have e80 : h65 241 99 = h 241 99 := ((u65 241 99 rfl).trans (u62 241 99 rfl))
    have e81 : h65 241 100 = h 241 100 := ((u65 241 100 rfl).trans (u62 241 100 rfl))
    have e82 : h65 241 101 = h 241 101 := ((u65 241 101 rfl).trans (u62 241 101 rfl))
    have e83 : h65 241 102 = h 241 102 := ((u65 241 102 rfl).trans (u62 241 102 rfl))
    have e84 : h65 241 106 = h 241 106 := ((u65 241 106 rfl).trans (u62 241 106 rfl))
    have e85 : h65 241 73 = h 241 73 := ((u65 241 73 rfl).trans (u62 241 73 rfl))
    have e86 : h65 241 2 = h 241 2 := ((u65 241 2 rfl).trans (u62 241 2 rfl))
    have e87 : h65 241 119 = h 241 119 := ((u65 241 119 rfl).trans (u62 241 119 rfl))
    have e88 : h65 241 67 = h 241 67 := ((u65 241 67 rfl).trans (u62 241 67 rfl))
    have e89 : h65 241 69 = h 241 69 := ((u65 241 69 rfl).trans (u62 241 69 rfl))
    have e90 : h65 241 5 = h 241 5 := ((u65 241 5 rfl).trans (u62 241 5 rfl))
    have e91 : h65 1 1 = h 1 1 := ((u65 1 1 rfl).trans (u62 1 1 rfl))
    have e92 : h65 236 2 = h 236 2 := ((u65 236 2 rfl).trans (u62 236 2 rfl))
    have e93 : h65 1 2 = h 1 2 := ((u65 1 2 rfl).trans (u62 1 2 rfl))
    have e94 : h65 236 10 = h 236 10 := ((u65 236 10 rfl).trans (u62 236 10 rfl))
    have e95 : h65 1 3 = h 1 3 := ((u65 1 3 rfl).trans (u62 1 3 rfl))
    have e96 : h65 236 11 = h 236 11 := ((u65 236 11 rfl).trans (u62 236 11 rfl))
    have gp97 := GPH.fr u62 rfl gp0
    have gp98 := GPH.fr u65 rfl gp97
    have b99 := gi_b (lo := 0) (hi := 5) g 241 0 rfl
    have b100 := gi_b (lo := 0) (hi := 4) g 241 1 rfl
    have gs101 := GPS.fr u62 rfl gs0
    have gs102 := GPS.fr u65 rfl gs101
    have e103 : h65 0 12 = h 0 12 := ((u65 0 12 rfl).trans (u62 0 12 rfl))
    have e104 : h65 236 21 = h 236 21 := ((u65 236 21 rfl).trans (u62 236 21 rfl))
    have e105 : h65 63 5 = h 63 5 := ((u65 63 5 rfl).trans (u62 63 5 rfl))
    have e106 : h65 18 16 = h 18 16 := ((u65 18 16 rfl).trans (u62 18 16 rfl))
    have e107 : h65 18 7 = h 18 7 := ((u65 18 7 rfl).trans (u62 18 7 rfl))
    have e108 : h65 3 2 = h 3 2 := ((u65 3 2 rfl).trans (u62 3 2 rfl))
    have e109 : h65 66 1 = h 66 1 := ((u65 66 1 rfl).trans (u62 66 1 rfl))
    have b110 := gi_b (lo := 0) (hi := 6) g 73 1 rfl
    have e111 : h65 73 1 = h 73 1 := ((u65 73 1 rfl).trans (u62 73 1 rfl))
    have b112 := gi_b (lo := 0) (hi := 6) g 73 2 rfl
    have e113 : h65 73 2 = h 73 2 := ((u65 73 2 rfl).trans (u62 73 2 rfl))
    have b114 := gi_b (lo := 0) (hi := 6) g 236 22 rfl
    have e115 : h65 236 22 = h 236 22 := ((u65 236 22 rfl).trans (u62 236 22 rfl))
    have b116 := gi_b (lo := 0) (hi := 12) g 210 2 rfl
    have e117 : h65 210 2 = h 210 2 := ((u65 210 2 rfl).trans (u62 210 2 rfl))
    have q120 : h65 8 = h 8 := funext (fun i => ((u65 8 i (fo_no_ok (by decide) i)).trans (u62 8 i rfl)))
    have q121 : h65 7 = h 7 := funext (fun i => ((u65 7 i (fo_no_ok (by decide) i)).trans (u62 7 i rfl)))
    have q122 : h65 19 = h 19 := funext (fun i => ((u65 19 i (fo_no_ok (by decide) i)).trans (u62 19 i rfl)))
    have q123 : h65 67 = h 67 := funext (fun i => ((u65 67 i (fo_no_ok (by decide) i)).trans (u62 67 i rfl)))
    have ml119 : MCL h65 := MCL.mv mi0.1 q120 q121 q122 q123 (by omega) (by omega) (by omega) (by omega)
    have q125 : h65 69 = h 69 := funext (fun i => ((u65 69 i (fo_no_ok (by decide) i)).trans (u62 69 i rfl)))
    have q126 : h65 70 = h 70 := funext (fun i => ((u65 70 i (fo_no_ok (by decide) i)).trans (u62 70 i rfl)))
    have nb124 : NBc (h65 69) (h65 70) := by rw [q125, q126]; exact mi0.2.2
    have q127 : h65 8 = h 8 := funext (fun i => ((u65 8 i (fo_no_ok (by decide) i)).trans (u62 8 i rfl)))
    have q128 : h65 7 = h 7 := funext (fun i => ((u65 7 i (fo_no_ok (by decide) i)).trans (u62 7 i rfl)))
    have mi118 : MCI h65 := ⟨ml119, HIv.mv mi0.2.1 q127 q128 (by omega) (by omega) (sv_seven (P := fun x => ∀ i, h65 (76 + 19 * x) i = h (76 + 19 * x) i) (fun i => ((u65 76 i (fn_a (by decide) fn_0)).trans (u62 76 i (fn_a (by omega) fn_0)))) (fun i => ((u65 95 i (fn_a (by decide) fn_0)).trans (u62 95 i (fn_a (by omega) fn_0)))) (fun i => ((u65 114 i (fn_a (by decide) fn_0)).trans (u62 114 i (fn_a (by omega) fn_0)))) (fun i => ((u65 133 i (fn_a (by decide) fn_0)).trans (u62 133 i (fn_a (by omega) fn_0)))) (fun i => ((u65 152 i (fn_a (by decide) fn_0)).trans (u62 152 i (fn_a (by omega) fn_0)))) (fun i => ((u65 171 i (fn_a (by decide) fn_0)).trans (u62 171 i (fn_a (by omega) fn_0)))) (fun i => ((u65 190 i (fn_a (by decide) fn_0)).trans (u62 190 i (fn_a (by omega) fn_0))))) (by omega) (by omega), nb124⟩
    have gq129 := GQS.fr u62 rfl gq0
    have gq130 := GQS.fr u65 rfl gq129
    have q131 : h65 8 = h 8 := funext (fun i => ((u65 8 i (fo_no_ok (by decide) i)).trans (u62 8 i rfl)))
    have q132 : h65 7 = h 7 := funext (fun i => ((u65 7 i (fo_no_ok (by decide) i)).trans (u62 7 i rfl)))
    have q133 : h65 215 = h 215 := funext (fun i => ((u65 215 i (fo_no_ok (by decide) i)).trans (u62 215 i rfl)))
    have q134 : h65 218 = h 218 := funext (fun i => ((u65 218 i (fo_no_ok (by decide) i)).trans (u62 218 i rfl)))
    have q135 : h65 214 = h 214 := funext (fun i => ((u65 214 i (fo_no_ok (by decide) i)).trans (u62 214 i rfl)))
    have q136 : h65 241 = h 241 := funext (fun i => ((u65 241 i (fo_no_ok (by decide) i)).trans (u62 241 i rfl)))
    exact k h65 b c ⟨⟨g65, (show h65 1 1 = h65 236 2 by omega), (RS.i0 (f := h65 238) (by refine ⟨?_, ?_, ?_, ?_, ?_⟩ <;> omega)), (RS.i0 (f := h65 241) (by refine ⟨?_, ?_, ?_, ?_, ?_⟩ <;> omega)), gp98, (BRh.keep br0 (fun i => ((u65 2 i (fn_a (by decide) fn_0)).trans (u62 2 i (fn_a (by omega) fn_0)))) (fun i => ((u65 237 i (fn_a (by decide) fn_0)).trans (u62 237 i (fn_a (by omega) fn_0)))) (by omega)), (show h65 1 2 = h65 236 10 by omega), (show h65 1 3 = h65 236 11 by omega), (SVx.keep sv0 (by omega) (fun i _ => ((u65 3 i (fn_a (by decide) fn_0)).trans (u62 3 i (fn_a (by omega) fn_0)))) (fun i _ => ((u65 5 i (fn_a (by decide) fn_0)).trans (u62 5 i (fn_a (by omega) fn_0)))) (fun i _ => ((u65 6 i (fn_a (by decide) fn_0)).trans (u62 6 i (fn_a (by omega) fn_0)))) (fun i _ => ((u65 8 i (fn_a (by decide) fn_0)).trans (u62 8 i (fn_a (by omega) fn_0)))) (fun i _ => ((u65 238 i (fn_a (by decide) fn_0)).trans (u62 238 i (fn_a (by omega) fn_0))))), (show h65 0 12 = h65 236 21 by omega), (fun e => (SVx.keep (ss0 (by omega)) (by omega) (fun i _ => ((u65 210 i (fn_a (by decide) fn_0)).trans (u62 210 i (fn_a (by omega) fn_0)))) (fun i _ => ((u65 212 i (fn_a (by decide) fn_0)).trans (u62 212 i (fn_a (by omega) fn_0)))) (fun i _ => ((u65 213 i (fn_a (by decide) fn_0)).trans (u62 213 i (fn_a (by omega) fn_0)))) (fun i _ => ((u65 215 i (fn_a (by decide) fn_0)).trans (u62 215 i (fn_a (by omega) fn_0)))) (fun i _ => ((u65 241 i (fn_a (by decide) fn_0)).trans (u62 241 i (fn_a (by omega) fn_0)))))), gs102, mi118, (show h65 63 5 ≤ h65 18 16 by omega), (show (h65 63 5) < (h65 18 16) ∨ ((h65 18 7) ≤ (h65 3 2) ∧ (h65 66 1) = (h65 3 2) - (h65 18 7)) ∨ ((h65 3 2) < (h65 18 7) ∧ (h65 66 1) = 0) by omega), gq130, (MR.mv mr0 (MSN.then (MSN.refl) (fun i _ => ((u65 238 i (fn_a (by decide) fn_0)).trans (u62 238 i (fn_a (by omega) fn_0))))) (by omega) q131 q132 (by omega)), (fun e => SM.mv (sm0 (by omega)) q133 q134 q135 (by omega) q136)⟩, (by omega)⟩ (by omega) (by omega)
  ·
    refine wk_h 13 (by decide) rfl ?_
    refine wr_asty (i := 4) (lo2 := [(4, .retAddr 0), (0, .ref 0), (1, vi ((xs i55).toInt)), (2, vi ((xs i58).toInt)), (3, .ref 259)]) (nx := 15) (r1 := 0) (r2 := 0) (r3 := 0) rfl rfl ?_
    refine wi_iconst (n := 1) (nx := 16) (r1 := 0) (r2 := 0) (r3 := 0) rfl ?_
    refine wi_ireturn (nx := 17) (r1 := 0) (r2 := 0) (r3 := 0) rfl rfl ?_
    refine wk_i ?_
    refine wi_istore (i := 5) (e := 1) (lo2 := [(5, vi 1), (0, .ref 1000000), (1, .ref 0), (2, .ref 236), (3, .ref 259), (4, vi i)]) (nx := 732) (r1 := 0) (r2 := 0) (r3 := 0) rfl rfl ?_
    refine wi_aload_n (i := 2) (x := 236) (nx := 733) (r1 := 0) (r2 := 0) (r3 := 0) rfl rfl ?_
    refine wi_aload_n (i := 0) (x := 1000000) (nx := 734) (r1 := 0) (r2 := 0) (r3 := 0) rfl rfl ?_
    refine wi_iload (i := 4) (e := i) (nx := 736) (r1 := 0) (r2 := 0) (r3 := 0) rfl rfl ?_
    refine wi_iconst (n := 1) (nx := 737) (r1 := 0) (r2 := 0) (r3 := 0) rfl ?_
    refine wr_add (nx := 738) (r1 := 0) (r2 := 0) (r3 := 0) rfl (fun e62 (fe62 : e62 = i + 1) => ?_)
    refine wr_sc (a := e62) (f := i55) (nx := 739) (r1 := 0) (r2 := 0) (r3 := 0) rfl (by omega) (by omega) hL ?_
    refine wi_aload_n (i := 0) (x := 1000000) (nx := 740) (r1 := 0) (r2 := 0) (r3 := 0) rfl rfl ?_
    refine wi_iload (i := 4) (e := i) (nx := 742) (r1 := 0) (r2 := 0) (r3 := 0) rfl rfl ?_
    refine wi_iconst (n := 2) (nx := 743) (r1 := 0) (r2 := 0) (r3 := 0) rfl ?_
    refine wr_add (nx := 744) (r1 := 0) (r2 := 0) (r3 := 0) rfl (fun e63 (fe63 : e63 = i + 2) => ?_)
    refine wr_sc (a := e63) (f := i58) (nx := 745) (r1 := 0) (r2 := 0) (r3 := 0) rfl (by omega) (by omega) hL ?_
    refine wr_V (k0 := 236) (rest := []) (as := [.ref 236, vi ((xs i55).toInt), vi ((xs i58).toInt)]) (nx := 748) (r1 := 256) (r2 := 2) (r3 := 11) rfl rfl rfl (of_decide_eq_true rfl) rfl rfl (by decide) rfl rfl (of_decide_eq_true rfl) (of_decide_eq_true rfl) ?_
    refine ct_256_236 hcr  g ((xs i55).toInt) ((xs i58).toInt) (by omega) (by omega)  (fun h64 z65 g64 u64 (fz65 : -1 ≤ z65 ∧ z65 ≤ 11) => ?_)
    refine wk_i ?_
    refine wi_istore (i := 6) (e := z65) (lo2 := [(6, vi z65), (5, vi 1), (0, .ref 1000000), (1, .ref 0), (2, .ref 236), (3, .ref 259), (4, vi i)]) (nx := 750) (r1 := 0) (r2 := 0) (r3 := 0) rfl rfl ?_
    refine wi_goto (nx := 753) (r1 := 1501) (r2 := 0) (r3 := 0) rfl ?_
    refine wp.lo (lo := [(0, .ref 1000000), (1, .ref 0), (2, .ref 236), (3, .ref 259), (4, vi i)]) ⟨rfl, rfl, rfl, rfl, rfl, trivial⟩ rfl ?_
    have e66 : h64 238 98 = h 238 98 := (u64 238 98 rfl)
    have e67 : h64 238 99 = h 238 99 := (u64 238 99 rfl)
    have e68 : h64 238 100 = h 238 100 := (u64 238 100 rfl)
    have e69 : h64 238 101 = h 238 101 := (u64 238 101 rfl)
    have e70 : h64 238 102 = h 238 102 := (u64 238 102 rfl)
    have e71 : h64 238 106 = h 238 106 := (u64 238 106 rfl)
    have e72 : h64 238 73 = h 238 73 := (u64 238 73 rfl)
    have e73 : h64 238 2 = h 238 2 := (u64 238 2 rfl)
    have e74 : h64 238 119 = h 238 119 := (u64 238 119 rfl)
    have e75 : h64 238 67 = h 238 67 := (u64 238 67 rfl)
    have e76 : h64 238 69 = h 238 69 := (u64 238 69 rfl)
    have e77 : h64 238 5 = h 238 5 := (u64 238 5 rfl)
    have e78 : h64 241 98 = h 241 98 := (u64 241 98 rfl)
    have e79 : h64 241 99 = h 241 99 := (u64 241 99 rfl)
    have e80 : h64 241 100 = h 241 100 := (u64 241 100 rfl)
    have e81 : h64 241 101 = h 241 101 := (u64 241 101 rfl)
    have e82 : h64 241 102 = h 241 102 := (u64 241 102 rfl)
    have e83 : h64 241 106 = h 241 106 := (u64 241 106 rfl)
    have e84 : h64 241 73 = h 241 73 := (u64 241 73 rfl)
    have e85 : h64 241 2 = h 241 2 := (u64 241 2 rfl)
    have e86 : h64 241 119 = h 241 119 := (u64 241 119 rfl)
    have e87 : h64 241 67 = h 241 67 := (u64 241 67 rfl)
    have e88 : h64 241 69 = h 241 69 := (u64 241 69 rfl)
    have e89 : h64 241 5 = h 241 5 := (u64 241 5 rfl)
    have e90 : h64 1 1 = h 1 1 := (u64 1 1 rfl)
    have e91 : h64 236 2 = h 236 2 := (u64 236 2 rfl)
    have e92 : h64 1 2 = h 1 2 := (u64 1 2 rfl)
    have e93 : h64 236 10 = h 236 10 := (u64 236 10 rfl)
    have e94 : h64 1 3 = h 1 3 := (u64 1 3 rfl)
    have e95 : h64 236 11 = h 236 11 := (u64 236 11 rfl)
    have gp96 := GPH.fr u64 rfl gp0
    have b97 := gi_b (lo := 0) (hi := 5) g 241 0 rfl
    have b98 := gi_b (lo := 0) (hi := 4) g 241 1 rfl
    have gs99 := GPS.fr u64 rfl gs0
    have e100 : h64 0 12 = h 0 12 := (u64 0 12 rfl)
    have e101 : h64 236 21 = h 236 21 := (u64 236 21 rfl)
    have e102 : h64 63 5 = h 63 5 := (u64 63 5 rfl)
    have e103 : h64 18 16 = h 18 16 := (u64 18 16 rfl)
    have e104 : h64 18 7 = h 18 7 := (u64 18 7 rfl)
    have e105 : h64 3 2 = h 3 2 := (u64 3 2 rfl)
    have e106 : h64 66 1 = h 66 1 := (u64 66 1 rfl)
    have b107 := gi_b (lo := 0) (hi := 6) g 73 1 rfl
    have e108 : h64 73 1 = h 73 1 := (u64 73 1 rfl)
    have b109 := gi_b (lo := 0) (hi := 6) g 73 2 rfl
    have e110 : h64 73 2 = h 73 2 := (u64 73 2 rfl)
    have b111 := gi_b (lo := 0) (hi := 6) g 236 22 rfl
    have e112 : h64 236 22 = h 236 22 := (u64 236 22 rfl)
    have b113 := gi_b (lo := 0) (hi := 12) g 210 2 rfl
    have e114 : h64 210 2 = h 210 2 := (u64 210 2 rfl)
    have q117 : h64 8 = h 8 := funext (fun i => (u64 8 i (fo_no_ok (by decide) i)))
    have q118 : h64 7 = h 7 := funext (fun i => (u64 7 i (fo_no_ok (by decide) i)))
    have q119 : h64 19 = h 19 := funext (fun i => (u64 19 i (fo_no_ok (by decide) i)))
    have q120 : h64 67 = h 67 := funext (fun i => (u64 67 i (fo_no_ok (by decide) i)))
    have ml116 : MCL h64 := MCL.mv mi0.1 q117 q118 q119 q120 (by omega) (by omega) (by omega) (by omega)
    have q122 : h64 69 = h 69 := funext (fun i => (u64 69 i (fo_no_ok (by decide) i)))
    have q123 : h64 70 = h 70 := funext (fun i => (u64 70 i (fo_no_ok (by decide) i)))
    have nb121 : NBc (h64 69) (h64 70) := by rw [q122, q123]; exact mi0.2.2
    have q124 : h64 8 = h 8 := funext (fun i => (u64 8 i (fo_no_ok (by decide) i)))
    have q125 : h64 7 = h 7 := funext (fun i => (u64 7 i (fo_no_ok (by decide) i)))
    have mi115 : MCI h64 := ⟨ml116, HIv.mv mi0.2.1 q124 q125 (by omega) (by omega) (sv_seven (P := fun x => ∀ i, h64 (76 + 19 * x) i = h (76 + 19 * x) i) (fun i => (u64 76 i (fn_a (by decide) fn_0))) (fun i => (u64 95 i (fn_a (by decide) fn_0))) (fun i => (u64 114 i (fn_a (by decide) fn_0))) (fun i => (u64 133 i (fn_a (by decide) fn_0))) (fun i => (u64 152 i (fn_a (by decide) fn_0))) (fun i => (u64 171 i (fn_a (by decide) fn_0))) (fun i => (u64 190 i (fn_a (by decide) fn_0)))) (by omega) (by omega), nb121⟩
    have gq126 := GQS.fr u64 rfl gq0
    have q127 : h64 8 = h 8 := funext (fun i => (u64 8 i (fo_no_ok (by decide) i)))
    have q128 : h64 7 = h 7 := funext (fun i => (u64 7 i (fo_no_ok (by decide) i)))
    have q129 : h64 215 = h 215 := funext (fun i => (u64 215 i (fo_no_ok (by decide) i)))
    have q130 : h64 218 = h 218 := funext (fun i => (u64 218 i (fo_no_ok (by decide) i)))
    have q131 : h64 214 = h 214 := funext (fun i => (u64 214 i (fo_no_ok (by decide) i)))
    have q132 : h64 241 = h 241 := funext (fun i => (u64 241 i (fo_no_ok (by decide) i)))
    exact k h64 (b - 1) (c - 6) ⟨⟨g64, (show h64 1 1 = h64 236 2 by omega), (RS.i0 (f := h64 238) (by refine ⟨?_, ?_, ?_, ?_, ?_⟩ <;> omega)), (RS.i0 (f := h64 241) (by refine ⟨?_, ?_, ?_, ?_, ?_⟩ <;> omega)), gp96, (BRh.keep br0 (fun i => (u64 2 i (fn_a (by decide) fn_0))) (fun i => (u64 237 i (fn_a (by decide) fn_0))) (by omega)), (show h64 1 2 = h64 236 10 by omega), (show h64 1 3 = h64 236 11 by omega), (SVx.keep sv0 (by omega) (fun i _ => (u64 3 i (fn_a (by decide) fn_0))) (fun i _ => (u64 5 i (fn_a (by decide) fn_0))) (fun i _ => (u64 6 i (fn_a (by decide) fn_0))) (fun i _ => (u64 8 i (fn_a (by decide) fn_0))) (fun i _ => (u64 238 i (fn_a (by decide) fn_0)))), (show h64 0 12 = h64 236 21 by omega), (fun e => (SVx.keep (ss0 (by omega)) (by omega) (fun i _ => (u64 210 i (fn_a (by decide) fn_0))) (fun i _ => (u64 212 i (fn_a (by decide) fn_0))) (fun i _ => (u64 213 i (fn_a (by decide) fn_0))) (fun i _ => (u64 215 i (fn_a (by decide) fn_0))) (fun i _ => (u64 241 i (fn_a (by decide) fn_0))))), gs99, mi115, (show h64 63 5 ≤ h64 18 16 by omega), (show (h64 63 5) < (h64 18 16) ∨ ((h64 18 7) ≤ (h64 3 2) ∧ (h64 66 1) = (h64 3 2) - (h64 18 7)) ∨ ((h64 3 2) < (h64 18 7) ∧ (h64 66 1) = 0) by omega), gq126, (MR.mv mr0 (MSN.then (MSN.refl) (fun i _ => (u64 238 i (fn_a (by decide) fn_0)))) (by omega) q127 q128 (by omega)), (fun e => SM.mv (sm0 (by omega)) q129 q130 q131 (by omega) q132)⟩, (by omega)⟩ (by omega) (by omega)
-- the law, case at 753
set_option maxRecDepth 100000 in
set_option maxHeartbeats 100000000 in
theorem lc_753 {L : Nat} {xs : Nat → Int32} {d b c : Nat} {h : hp} {cr : Nat → Nat → Option Nat} {Q : hp_Q} (hcr : CR cr) (hL : L ≤ 3072) (hr : 1 ≤ b ∧ 6 ≤ c) (i : Int) (I : LIm i h) (hi : 0 ≤ i ∧ i + 6 ≤ L) (k : ∀ (h2 : hp) (b2 c2 : Nat), LIm (i + 6) h2 → b ≤ b2 + 1 → c ≤ c2 + 6 → wp (md_xa (L, xs)) (d + 107) 0 (1501, [(0, .ref 1000000), (1, .ref 0), (2, .ref 236), (3, .ref 259), (4, vi i)], [], hp_w h2 cr, b2, c2) Q) : wp (md_xa (L, xs)) (d + 107) 0 (753, [(0, .ref 1000000), (1, .ref 0), (2, .ref 236), (3, .ref 259), (4, vi i)], [], hp_w h cr, b, c) Q := by
  obtain ⟨⟨g, i11, r238, r241, gp0, br0, er2, er3, sv0, sf0, ss0, gs0, mi0, ml1, ml2, gq0, mr0, sm0⟩, ie0⟩ := I
  have r238e := r238.e0
  have r241e := r241.e0
  obtain ⟨⟨se0, se1, se2, se3, se4, se5, se6, se7, se8, se9⟩, -⟩ := id sv0
  have b1 := gi_b (lo := 0) (hi := 5) g 3 0 rfl
  have b2 := gi_b (lo := 0) (hi := 5) g 238 0 rfl
  have b3 := gi_b (lo := 0) (hi := 4) g 3 1 rfl
  have b4 := gi_b (lo := 0) (hi := 4) g 238 1 rfl
  have b5 := gi_b (lo := 0) (hi := 12) g 3 2 rfl
  have b6 := gi_b (lo := 0) (hi := 12) g 238 2 rfl
  have b7 := gi_b (lo := -2147483648) (hi := 2147483647) g 3 3 rfl
  have b8 := gi_b (lo := 0) (hi := 999) g 238 3 rfl
  have b9 := gi_b (lo := -2147483648) (hi := 2147483647) g 3 4 rfl
  have b10 := gi_b (lo := 0) (hi := 999) g 238 4 rfl
  have b11 := gi_b (lo := -2147483648) (hi := 2147483647) g 3 5 rfl
  have b12 := gi_b (lo := 0) (hi := 9) g 238 5 rfl
  have b13 := gi_b (lo := -2147483648) (hi := 2147483647) g 3 6 rfl
  have b14 := gi_b (lo := 0) (hi := 999) g 238 6 rfl
  have b15 := gi_b (lo := -2147483648) (hi := 2147483647) g 3 7 rfl
  have b16 := gi_b (lo := 0) (hi := 3) g 238 7 rfl
  have b17 := gi_b (lo := -2147483648) (hi := 2147483647) g 3 8 rfl
  have b18 := gi_b (lo := 0) (hi := 999) g 238 8 rfl
  have b19 := gi_b (lo := -2147483648) (hi := 2147483647) g 3 9 rfl
  have b20 := gi_b (lo := 0) (hi := 999) g 238 9 rfl
  have b21 := gi_b (lo := -2147483648) (hi := 2147483647) g 63 5 rfl
  have b22 := gi_b (lo := 0) (hi := 12) g 18 7 rfl
  have b23 := gi_b (lo := 0) (hi := 12) g 66 1 rfl
  have b24 := gi_b (lo := 0) (hi := 1) g 0 12 rfl
  have b25 := gi_b (lo := 0) (hi := 1) g 236 21 rfl
  have bl_ := gi_b (lo := 0) (hi := 800) g 1 1 rfl
  have tb0 : BufC (h 2) (h 1 1) h := ⟨fun _ => rfl, rfl, by omega, by omega⟩
  have b26 := gi_b (lo := 0) (hi := 6) g 238 98 rfl
  have b27 := gi_b (lo := 0) (hi := 6) g 238 99 rfl
  have b28 := gi_b (lo := 0) (hi := 6) g 238 100 rfl
  have b29 := gi_b (lo := 0) (hi := 6) g 238 101 rfl
  have b30 := gi_b (lo := 0) (hi := 3) g 238 102 rfl
  have b31 := gi_b (lo := 0) (hi := 12) g 238 106 rfl
  have b32 := gi_b (lo := 0) (hi := 12) g 238 73 rfl
  have b33 := gi_b (lo := 0) (hi := 9999) g 238 119 rfl
  have b34 := gi_b (lo := 0) (hi := 9999) g 238 67 rfl
  have b35 := gi_b (lo := 0) (hi := 9) g 238 69 rfl
  have b36 := gi_b (lo := 0) (hi := 6) g 241 98 rfl
  have b37 := gi_b (lo := 0) (hi := 6) g 241 99 rfl
  have b38 := gi_b (lo := 0) (hi := 6) g 241 100 rfl
  have b39 := gi_b (lo := 0) (hi := 6) g 241 101 rfl
  have b40 := gi_b (lo := 0) (hi := 3) g 241 102 rfl
  have b41 := gi_b (lo := 0) (hi := 12) g 241 106 rfl
  have b42 := gi_b (lo := 0) (hi := 12) g 241 73 rfl
  have b43 := gi_b (lo := 0) (hi := 12) g 241 2 rfl
  have b44 := gi_b (lo := 0) (hi := 9999) g 241 119 rfl
  have b45 := gi_b (lo := 0) (hi := 9999) g 241 67 rfl
  have b46 := gi_b (lo := 0) (hi := 9) g 241 69 rfl
  have b47 := gi_b (lo := 0) (hi := 9) g 241 5 rfl
  have b48 := gi_b (lo := 0) (hi := 800) g 1 1 rfl
  have b49 := gi_b (lo := 0) (hi := 800) g 236 2 rfl
  have b50 := gi_b (lo := -2147483648) (hi := 2147483647) g 1 2 rfl
  have b51 := gi_b (lo := -2147483648) (hi := 2147483647) g 236 10 rfl
  have b52 := gi_b (lo := -2147483648) (hi := 2147483647) g 1 3 rfl
  have b53 := gi_b (lo := -2147483648) (hi := 2147483647) g 236 11 rfl
  refine wi_aload_n (i := 1) (x := 0) (nx := 754) (r1 := 0) (r2 := 0) (r3 := 0) rfl rfl ?_
  refine wi_aload_n (i := 0) (x := 1000000) (nx := 755) (r1 := 0) (r2 := 0) (r3 := 0) rfl rfl ?_
  refine wi_iload (i := 4) (e := i) (nx := 757) (r1 := 0) (r2 := 0) (r3 := 0) rfl rfl ?_
  refine wi_iconst (n := 1) (nx := 758) (r1 := 0) (r2 := 0) (r3 := 0) rfl ?_
  refine wr_add (nx := 759) (r1 := 0) (r2 := 0) (r3 := 0) rfl (fun e54 (fe54 : e54 = i + 1) => ?_)
  obtain ⟨i55, ei55⟩ : ∃ q : Nat, e54 = (q : Int) := ⟨(e54).toNat, by omega⟩
  have s56 := sc_b (xs i55)
  refine wr_sc (a := e54) (f := i55) (nx := 760) (r1 := 0) (r2 := 0) (r3 := 0) rfl (by omega) (by omega) hL ?_
  refine wr_V (k0 := 0) (rest := []) (as := [.ref 0, vi ((xs i55).toInt)]) (nx := 763) (r1 := 32) (r2 := 1) (r3 := 0) rfl rfl rfl (of_decide_eq_true rfl) rfl rfl (by decide) rfl rfl (of_decide_eq_true rfl) (of_decide_eq_true rfl) ?_
  refine ct_32_0 hcr  g ((xs i55).toInt) (by omega)  (fun z58  (fz58 : -2147483648 ≤ z58 ∧ z58 ≤ 2147483647) => ?_)
  refine wk_i ?_
  refine wi_pop (nx := 764) (r1 := 0) (r2 := 0) (r3 := 0) rfl rfl ?_
  refine wi_aload_n (i := 2) (x := 236) (nx := 765) (r1 := 0) (r2 := 0) (r3 := 0) rfl rfl ?_
  refine wi_aload_n (i := 0) (x := 1000000) (nx := 766) (r1 := 0) (r2 := 0) (r3 := 0) rfl rfl ?_
  refine wi_iload (i := 4) (e := i) (nx := 768) (r1 := 0) (r2 := 0) (r3 := 0) rfl rfl ?_
  refine wi_iconst (n := 1) (nx := 769) (r1 := 0) (r2 := 0) (r3 := 0) rfl ?_
  refine wr_add (nx := 770) (r1 := 0) (r2 := 0) (r3 := 0) rfl (fun e59 (fe59 : e59 = i + 1) => ?_)
  refine wr_sc (a := e59) (f := i55) (nx := 771) (r1 := 0) (r2 := 0) (r3 := 0) rfl (by omega) (by omega) hL ?_
  refine wr_V (k0 := 236) (rest := []) (as := [.ref 236, vi ((xs i55).toInt)]) (nx := 774) (r1 := 258) (r2 := 1) (r3 := 11) rfl rfl rfl (of_decide_eq_true rfl) rfl rfl (by decide) rfl rfl (of_decide_eq_true rfl) (of_decide_eq_true rfl) ?_
  refine ct_258_236 hcr  g ((xs i55).toInt) (by omega)  (fun h60 z61 g60 u60 (fz61 : -1 ≤ z61 ∧ z61 ≤ 11) => ?_)
  refine wk_i ?_
  refine wi_pop (nx := 775) (r1 := 0) (r2 := 0) (r3 := 0) rfl rfl ?_
  refine wi_goto (nx := 778) (r1 := 1501) (r2 := 0) (r3 := 0) rfl ?_
  have e62 : h60 238 98 = h 238 98 := (u60 238 98 rfl)
  have e63 : h60 238 99 = h 238 99 := (u60 238 99 rfl)
  have e64 : h60 238 100 = h 238 100 := (u60 238 100 rfl)
  have e65 : h60 238 101 = h 238 101 := (u60 238 101 rfl)
  have e66 : h60 238 102 = h 238 102 := (u60 238 102 rfl)
  have e67 : h60 238 106 = h 238 106 := (u60 238 106 rfl)
  have e68 : h60 238 73 = h 238 73 := (u60 238 73 rfl)
  have e69 : h60 238 2 = h 238 2 := (u60 238 2 rfl)
  have e70 : h60 238 119 = h 238 119 := (u60 238 119 rfl)
  have e71 : h60 238 67 = h 238 67 := (u60 238 67 rfl)
  have e72 : h60 238 69 = h 238 69 := (u60 238 69 rfl)
  have e73 : h60 238 5 = h 238 5 := (u60 238 5 rfl)
  have e74 : h60 241 98 = h 241 98 := (u60 241 98 rfl)
  have e75 : h60 241 99 = h 241 99 := (u60 241 99 rfl)
  have e76 : h60 241 100 = h 241 100 := (u60 241 100 rfl)
  have e77 : h60 241 101 = h 241 101 := (u60 241 101 rfl)
  have e78 : h60 241 102 = h 241 102 := (u60 241 102 rfl)
  have e79 : h60 241 106 = h 241 106 := (u60 241 106 rfl)
  have e80 : h60 241 73 = h 241 73 := (u60 241 73 rfl)
  have e81 : h60 241 2 = h 241 2 := (u60 241 2 rfl)
  have e82 : h60 241 119 = h 241 119 := (u60 241 119 rfl)
  have e83 : h60 241 67 = h 241 67 := (u60 241 67 rfl)
  have e84 : h60 241 69 = h 241 69 := (u60 241 69 rfl)
  have e85 : h60 241 5 = h 241 5 := (u60 241 5 rfl)
  have e86 : h60 1 1 = h 1 1 := (u60 1 1 rfl)
  have e87 : h60 236 2 = h 236 2 := (u60 236 2 rfl)
  have e88 : h60 1 2 = h 1 2 := (u60 1 2 rfl)
  have e89 : h60 236 10 = h 236 10 := (u60 236 10 rfl)
  have e90 : h60 1 3 = h 1 3 := (u60 1 3 rfl)
  have e91 : h60 236 11 = h 236 11 := (u60 236 11 rfl)
  have gp92 := GPH.fr u60 rfl gp0
  have b93 := gi_b (lo := 0) (hi := 5) g 241 0 rfl
  have b94 := gi_b (lo := 0) (hi := 4) g 241 1 rfl
  have gs95 := GPS.fr u60 rfl gs0
  have e96 : h60 0 12 = h 0 12 := (u60 0 12 rfl)
  have e97 : h60 236 21 = h 236 21 := (u60 236 21 rfl)
  have e98 : h60 63 5 = h 63 5 := (u60 63 5 rfl)
  have e99 : h60 18 16 = h 18 16 := (u60 18 16 rfl)
  have e100 : h60 18 7 = h 18 7 := (u60 18 7 rfl)
  have e101 : h60 3 2 = h 3 2 := (u60 3 2 rfl)
  have e102 : h60 66 1 = h 66 1 := (u60 66 1 rfl)
  have b103 := gi_b (lo := 0) (hi := 6) g 73 1 rfl
  have e104 : h60 73 1 = h 73 1 := (u60 73 1 rfl)
  have b105 := gi_b (lo := 0) (hi := 6) g 73 2 rfl
  have e106 : h60 73 2 = h 73 2 := (u60 73 2 rfl)
  have b107 := gi_b (lo := 0) (hi := 6) g 236 22 rfl
  have e108 : h60 236 22 = h 236 22 := (u60 236 22 rfl)
  have b109 := gi_b (lo := 0) (hi := 12) g 210 2 rfl
  have e110 : h60 210 2 = h 210 2 := (u60 210 2 rfl)
  have q113 : h60 8 = h 8 := funext (fun i => (u60 8 i (fo_no_ok (by decide) i)))
  have q114 : h60 7 = h 7 := funext (fun i => (u60 7 i (fo_no_ok (by decide) i)))
  have q115 : h60 19 = h 19 := funext (fun i => (u60 19 i (fo_no_ok (by decide) i)))
  have q116 : h60 67 = h 67 := funext (fun i => (u60 67 i (fo_no_ok (by decide) i)))
  have ml112 : MCL h60 := MCL.mv mi0.1 q113 q114 q115 q116 (by omega) (by omega) (by omega) (by omega)
  have q118 : h60 69 = h 69 := funext (fun i => (u60 69 i (fo_no_ok (by decide) i)))
  have q119 : h60 70 = h 70 := funext (fun i => (u60 70 i (fo_no_ok (by decide) i)))
  have nb117 : NBc (h60 69) (h60 70) := by rw [q118, q119]; exact mi0.2.2
  have q120 : h60 8 = h 8 := funext (fun i => (u60 8 i (fo_no_ok (by decide) i)))
  have q121 : h60 7 = h 7 := funext (fun i => (u60 7 i (fo_no_ok (by decide) i)))
  have mi111 : MCI h60 := ⟨ml112, HIv.mv mi0.2.1 q120 q121 (by omega) (by omega) (sv_seven (P := fun x => ∀ i, h60 (76 + 19 * x) i = h (76 + 19 * x) i) (fun i => (u60 76 i (fn_a (by decide) fn_0))) (fun i => (u60 95 i (fn_a (by decide) fn_0))) (fun i => (u60 114 i (fn_a (by decide) fn_0))) (fun i => (u60 133 i (fn_a (by decide) fn_0))) (fun i => (u60 152 i (fn_a (by decide) fn_0))) (fun i => (u60 171 i (fn_a (by decide) fn_0))) (fun i => (u60 190 i (fn_a (by decide) fn_0)))) (by omega) (by omega), nb117⟩
  have gq122 := GQS.fr u60 rfl gq0
  have q123 : h60 8 = h 8 := funext (fun i => (u60 8 i (fo_no_ok (by decide) i)))
  have q124 : h60 7 = h 7 := funext (fun i => (u60 7 i (fo_no_ok (by decide) i)))
  have q125 : h60 215 = h 215 := funext (fun i => (u60 215 i (fo_no_ok (by decide) i)))
  have q126 : h60 218 = h 218 := funext (fun i => (u60 218 i (fo_no_ok (by decide) i)))
  have q127 : h60 214 = h 214 := funext (fun i => (u60 214 i (fo_no_ok (by decide) i)))
  have q128 : h60 241 = h 241 := funext (fun i => (u60 241 i (fo_no_ok (by decide) i)))
  exact k h60 b c ⟨⟨g60, (show h60 1 1 = h60 236 2 by omega), (RS.i0 (f := h60 238) (by refine ⟨?_, ?_, ?_, ?_, ?_⟩ <;> omega)), (RS.i0 (f := h60 241) (by refine ⟨?_, ?_, ?_, ?_, ?_⟩ <;> omega)), gp92, (BRh.keep br0 (fun i => (u60 2 i (fn_a (by decide) fn_0))) (fun i => (u60 237 i (fn_a (by decide) fn_0))) (by omega)), (show h60 1 2 = h60 236 10 by omega), (show h60 1 3 = h60 236 11 by omega), (SVx.keep sv0 (by omega) (fun i _ => (u60 3 i (fn_a (by decide) fn_0))) (fun i _ => (u60 5 i (fn_a (by decide) fn_0))) (fun i _ => (u60 6 i (fn_a (by decide) fn_0))) (fun i _ => (u60 8 i (fn_a (by decide) fn_0))) (fun i _ => (u60 238 i (fn_a (by decide) fn_0)))), (show h60 0 12 = h60 236 21 by omega), (fun e => (SVx.keep (ss0 (by omega)) (by omega) (fun i _ => (u60 210 i (fn_a (by decide) fn_0))) (fun i _ => (u60 212 i (fn_a (by decide) fn_0))) (fun i _ => (u60 213 i (fn_a (by decide) fn_0))) (fun i _ => (u60 215 i (fn_a (by decide) fn_0))) (fun i _ => (u60 241 i (fn_a (by decide) fn_0))))), gs95, mi111, (show h60 63 5 ≤ h60 18 16 by omega), (show (h60 63 5) < (h60 18 16) ∨ ((h60 18 7) ≤ (h60 3 2) ∧ (h60 66 1) = (h60 3 2) - (h60 18 7)) ∨ ((h60 3 2) < (h60 18 7) ∧ (h60 66 1) = 0) by omega), gq122, (MR.mv mr0 (MSN.then (MSN.refl) (fun i _ => (u60 238 i (fn_a (by decide) fn_0)))) (by omega) q123 q124 (by omega)), (fun e => SM.mv (sm0 (by omega)) q125 q126 q127 (by omega) q128)⟩, (by omega)⟩ (by omega) (by omega)
-- the law, case at 778
set_option maxRecDepth 100000 in
set_option maxHeartbeats 100000000 in
theorem lc_778 {L : Nat} {xs : Nat → Int32} {d b c : Nat} {h : hp} {cr : Nat → Nat → Option Nat} {Q : hp_Q} (hcr : CR cr) (hL : L ≤ 3072) (hr : 1 ≤ b ∧ 6 ≤ c) (i : Int) (I : LIm i h) (hi : 0 ≤ i ∧ i + 6 ≤ L) (k : ∀ (h2 : hp) (b2 c2 : Nat), LIm (i + 6) h2 → b ≤ b2 + 1 → c ≤ c2 + 6 → wp (md_xa (L, xs)) (d + 107) 0 (1501, [(0, .ref 1000000), (1, .ref 0), (2, .ref 236), (3, .ref 259), (4, vi i)], [], hp_w h2 cr, b2, c2) Q) : wp (md_xa (L, xs)) (d + 107) 0 (778, [(0, .ref 1000000), (1, .ref 0), (2, .ref 236), (3, .ref 259), (4, vi i)], [], hp_w h cr, b, c) Q := by
  obtain ⟨⟨g, i11, r238, r241, gp0, br0, er2, er3, sv0, sf0, ss0, gs0, mi0, ml1, ml2, gq0, mr0, sm0⟩, ie0⟩ := I
  have r238e := r238.e0
  have r241e := r241.e0
  obtain ⟨⟨se0, se1, se2, se3, se4, se5, se6, se7, se8, se9⟩, -⟩ := id sv0
  have b1 := gi_b (lo := 0) (hi := 5) g 3 0 rfl
  have b2 := gi_b (lo := 0) (hi := 5) g 238 0 rfl
  have b3 := gi_b (lo := 0) (hi := 4) g 3 1 rfl
  have b4 := gi_b (lo := 0) (hi := 4) g 238 1 rfl
  have b5 := gi_b (lo := 0) (hi := 12) g 3 2 rfl
  have b6 := gi_b (lo := 0) (hi := 12) g 238 2 rfl
  have b7 := gi_b (lo := -2147483648) (hi := 2147483647) g 3 3 rfl
  have b8 := gi_b (lo := 0) (hi := 999) g 238 3 rfl
  have b9 := gi_b (lo := -2147483648) (hi := 2147483647) g 3 4 rfl
  have b10 := gi_b (lo := 0) (hi := 999) g 238 4 rfl
  have b11 := gi_b (lo := -2147483648) (hi := 2147483647) g 3 5 rfl
  have b12 := gi_b (lo := 0) (hi := 9) g 238 5 rfl
  have b13 := gi_b (lo := -2147483648) (hi := 2147483647) g 3 6 rfl
  have b14 := gi_b (lo := 0) (hi := 999) g 238 6 rfl
  have b15 := gi_b (lo := -2147483648) (hi := 2147483647) g 3 7 rfl
  have b16 := gi_b (lo := 0) (hi := 3) g 238 7 rfl
  have b17 := gi_b (lo := -2147483648) (hi := 2147483647) g 3 8 rfl
  have b18 := gi_b (lo := 0) (hi := 999) g 238 8 rfl
  have b19 := gi_b (lo := -2147483648) (hi := 2147483647) g 3 9 rfl
  have b20 := gi_b (lo := 0) (hi := 999) g 238 9 rfl
  have b21 := gi_b (lo := -2147483648) (hi := 2147483647) g 63 5 rfl
  have b22 := gi_b (lo := 0) (hi := 12) g 18 7 rfl
  have b23 := gi_b (lo := 0) (hi := 12) g 66 1 rfl
  have b24 := gi_b (lo := 0) (hi := 1) g 0 12 rfl
  have b25 := gi_b (lo := 0) (hi := 1) g 236 21 rfl
  have bl_ := gi_b (lo := 0) (hi := 800) g 1 1 rfl
  have tb0 : BufC (h 2) (h 1 1) h := ⟨fun _ => rfl, rfl, by omega, by omega⟩
  have b26 := gi_b (lo := 0) (hi := 6) g 238 98 rfl
  have b27 := gi_b (lo := 0) (hi := 6) g 238 99 rfl
  have b28 := gi_b (lo := 0) (hi := 6) g 238 100 rfl
  have b29 := gi_b (lo := 0) (hi := 6) g 238 101 rfl
  have b30 := gi_b (lo := 0) (hi := 3) g 238 102 rfl
  have b31 := gi_b (lo := 0) (hi := 12) g 238 106 rfl
  have b32 := gi_b (lo := 0) (hi := 12) g 238 73 rfl
  have b33 := gi_b (lo := 0) (hi := 9999) g 238 119 rfl
  have b34 := gi_b (lo := 0) (hi := 9999) g 238 67 rfl
  have b35 := gi_b (lo := 0) (hi := 9) g 238 69 rfl
  have b36 := gi_b (lo := 0) (hi := 6) g 241 98 rfl
  have b37 := gi_b (lo := 0) (hi := 6) g 241 99 rfl
  have b38 := gi_b (lo := 0) (hi := 6) g 241 100 rfl
  have b39 := gi_b (lo := 0) (hi := 6) g 241 101 rfl
  have b40 := gi_b (lo := 0) (hi := 3) g 241 102 rfl
  have b41 := gi_b (lo := 0) (hi := 12) g 241 106 rfl
  have b42 := gi_b (lo := 0) (hi := 12) g 241 73 rfl
  have b43 := gi_b (lo := 0) (hi := 12) g 241 2 rfl
  have b44 := gi_b (lo := 0) (hi := 9999) g 241 119 rfl
  have b45 := gi_b (lo := 0) (hi := 9999) g 241 67 rfl
  have b46 := gi_b (lo := 0) (hi := 9) g 241 69 rfl
  have b47 := gi_b (lo := 0) (hi := 9) g 241 5 rfl
  have b48 := gi_b (lo := 0) (hi := 800) g 1 1 rfl
  have b49 := gi_b (lo := 0) (hi := 800) g 236 2 rfl
  have b50 := gi_b (lo := -2147483648) (hi := 2147483647) g 1 2 rfl
  have b51 := gi_b (lo := -2147483648) (hi := 2147483647) g 236 10 rfl
  have b52 := gi_b (lo := -2147483648) (hi := 2147483647) g 1 3 rfl
  have b53 := gi_b (lo := -2147483648) (hi := 2147483647) g 236 11 rfl
  refine wi_aload_n (i := 1) (x := 0) (nx := 779) (r1 := 0) (r2 := 0) (r3 := 0) rfl rfl ?_
  refine wr_V (k0 := 0) (rest := []) (as := [.ref 0]) (nx := 782) (r1 := 33) (r2 := 0) (r3 := 0) rfl rfl rfl (of_decide_eq_true rfl) rfl rfl (by decide) rfl rfl (of_decide_eq_true rfl) (of_decide_eq_true rfl) ?_
  refine ct_33_0 hcr  g    (fun z55  (fz55 : -1 ≤ z55 ∧ z55 ≤ 2147483647) => ?_)
  refine wk_i ?_
  refine wi_pop (nx := 783) (r1 := 0) (r2 := 0) (r3 := 0) rfl rfl ?_
  refine wi_aload_n (i := 2) (x := 236) (nx := 784) (r1 := 0) (r2 := 0) (r3 := 0) rfl rfl ?_
  refine wr_V (k0 := 236) (rest := []) (as := [.ref 236]) (nx := 787) (r1 := 259) (r2 := 0) (r3 := 11) rfl rfl rfl (of_decide_eq_true rfl) rfl rfl (by decide) rfl rfl (of_decide_eq_true rfl) (of_decide_eq_true rfl) ?_
  refine ct_259_236 hcr  g    (fun h56 z57 g56 u56 (fz57 : -9999 ≤ z57 ∧ z57 ≤ 20000) => ?_)
  refine wk_i ?_
  refine wi_pop (nx := 788) (r1 := 0) (r2 := 0) (r3 := 0) rfl rfl ?_
  refine wi_goto (nx := 791) (r1 := 1501) (r2 := 0) (r3 := 0) rfl ?_
  have e58 : h56 238 98 = h 238 98 := (u56 238 98 rfl)
  have e59 : h56 238 99 = h 238 99 := (u56 238 99 rfl)
  have e60 : h56 238 100 = h 238 100 := (u56 238 100 rfl)
  have e61 : h56 238 101 = h 238 101 := (u56 238 101 rfl)
  have e62 : h56 238 102 = h 238 102 := (u56 238 102 rfl)
  have e63 : h56 238 106 = h 238 106 := (u56 238 106 rfl)
  have e64 : h56 238 73 = h 238 73 := (u56 238 73 rfl)
  have e65 : h56 238 2 = h 238 2 := (u56 238 2 rfl)
  have e66 : h56 238 119 = h 238 119 := (u56 238 119 rfl)
  have e67 : h56 238 67 = h 238 67 := (u56 238 67 rfl)
  have e68 : h56 238 69 = h 238 69 := (u56 238 69 rfl)
  have e69 : h56 238 5 = h 238 5 := (u56 238 5 rfl)
  have e70 : h56 241 98 = h 241 98 := (u56 241 98 rfl)
  have e71 : h56 241 99 = h 241 99 := (u56 241 99 rfl)
  have e72 : h56 241 100 = h 241 100 := (u56 241 100 rfl)
  have e73 : h56 241 101 = h 241 101 := (u56 241 101 rfl)
  have e74 : h56 241 102 = h 241 102 := (u56 241 102 rfl)
  have e75 : h56 241 106 = h 241 106 := (u56 241 106 rfl)
  have e76 : h56 241 73 = h 241 73 := (u56 241 73 rfl)
  have e77 : h56 241 2 = h 241 2 := (u56 241 2 rfl)
  have e78 : h56 241 119 = h 241 119 := (u56 241 119 rfl)
  have e79 : h56 241 67 = h 241 67 := (u56 241 67 rfl)
  have e80 : h56 241 69 = h 241 69 := (u56 241 69 rfl)
  have e81 : h56 241 5 = h 241 5 := (u56 241 5 rfl)
  have e82 : h56 1 1 = h 1 1 := (u56 1 1 rfl)
  have e83 : h56 236 2 = h 236 2 := (u56 236 2 rfl)
  have e84 : h56 1 2 = h 1 2 := (u56 1 2 rfl)
  have e85 : h56 236 10 = h 236 10 := (u56 236 10 rfl)
  have e86 : h56 1 3 = h 1 3 := (u56 1 3 rfl)
  have e87 : h56 236 11 = h 236 11 := (u56 236 11 rfl)
  have gp88 := GPH.fr u56 rfl gp0
  have b89 := gi_b (lo := 0) (hi := 5) g 241 0 rfl
  have b90 := gi_b (lo := 0) (hi := 4) g 241 1 rfl
  have gs91 := GPS.fr u56 rfl gs0
  have e92 : h56 0 12 = h 0 12 := (u56 0 12 rfl)
  have e93 : h56 236 21 = h 236 21 := (u56 236 21 rfl)
  have e94 : h56 63 5 = h 63 5 := (u56 63 5 rfl)
  have e95 : h56 18 16 = h 18 16 := (u56 18 16 rfl)
  have e96 : h56 18 7 = h 18 7 := (u56 18 7 rfl)
  have e97 : h56 3 2 = h 3 2 := (u56 3 2 rfl)
  have e98 : h56 66 1 = h 66 1 := (u56 66 1 rfl)
  have b99 := gi_b (lo := 0) (hi := 6) g 73 1 rfl
  have e100 : h56 73 1 = h 73 1 := (u56 73 1 rfl)
  have b101 := gi_b (lo := 0) (hi := 6) g 73 2 rfl
  have e102 : h56 73 2 = h 73 2 := (u56 73 2 rfl)
  have b103 := gi_b (lo := 0) (hi := 6) g 236 22 rfl
  have e104 : h56 236 22 = h 236 22 := (u56 236 22 rfl)
  have b105 := gi_b (lo := 0) (hi := 12) g 210 2 rfl
  have e106 : h56 210 2 = h 210 2 := (u56 210 2 rfl)
  have q109 : h56 8 = h 8 := funext (fun i => (u56 8 i (fo_no_ok (by decide) i)))
  have q110 : h56 7 = h 7 := funext (fun i => (u56 7 i (fo_no_ok (by decide) i)))
  have q111 : h56 19 = h 19 := funext (fun i => (u56 19 i (fo_no_ok (by decide) i)))
  have q112 : h56 67 = h 67 := funext (fun i => (u56 67 i (fo_no_ok (by decide) i)))
  have ml108 : MCL h56 := MCL.mv mi0.1 q109 q110 q111 q112 (by omega) (by omega) (by omega) (by omega)
  have q114 : h56 69 = h 69 := funext (fun i => (u56 69 i (fo_no_ok (by decide) i)))
  have q115 : h56 70 = h 70 := funext (fun i => (u56 70 i (fo_no_ok (by decide) i)))
  have nb113 : NBc (h56 69) (h56 70) := by rw [q114, q115]; exact mi0.2.2
  have q116 : h56 8 = h 8 := funext (fun i => (u56 8 i (fo_no_ok (by decide) i)))
  have q117 : h56 7 = h 7 := funext (fun i => (u56 7 i (fo_no_ok (by decide) i)))
  have mi107 : MCI h56 := ⟨ml108, HIv.mv mi0.2.1 q116 q117 (by omega) (by omega) (sv_seven (P := fun x => ∀ i, h56 (76 + 19 * x) i = h (76 + 19 * x) i) (fun i => (u56 76 i (fn_a (by decide) fn_0))) (fun i => (u56 95 i (fn_a (by decide) fn_0))) (fun i => (u56 114 i (fn_a (by decide) fn_0))) (fun i => (u56 133 i (fn_a (by decide) fn_0))) (fun i => (u56 152 i (fn_a (by decide) fn_0))) (fun i => (u56 171 i (fn_a (by decide) fn_0))) (fun i => (u56 190 i (fn_a (by decide) fn_0)))) (by omega) (by omega), nb113⟩
  have gq118 := GQS.fr u56 rfl gq0
  have q119 : h56 8 = h 8 := funext (fun i => (u56 8 i (fo_no_ok (by decide) i)))
  have q120 : h56 7 = h 7 := funext (fun i => (u56 7 i (fo_no_ok (by decide) i)))
  have q121 : h56 215 = h 215 := funext (fun i => (u56 215 i (fo_no_ok (by decide) i)))
  have q122 : h56 218 = h 218 := funext (fun i => (u56 218 i (fo_no_ok (by decide) i)))
  have q123 : h56 214 = h 214 := funext (fun i => (u56 214 i (fo_no_ok (by decide) i)))
  have q124 : h56 241 = h 241 := funext (fun i => (u56 241 i (fo_no_ok (by decide) i)))
  exact k h56 b c ⟨⟨g56, (show h56 1 1 = h56 236 2 by omega), (RS.i0 (f := h56 238) (by refine ⟨?_, ?_, ?_, ?_, ?_⟩ <;> omega)), (RS.i0 (f := h56 241) (by refine ⟨?_, ?_, ?_, ?_, ?_⟩ <;> omega)), gp88, (BRh.keep br0 (fun i => (u56 2 i (fn_a (by decide) fn_0))) (fun i => (u56 237 i (fn_a (by decide) fn_0))) (by omega)), (show h56 1 2 = h56 236 10 by omega), (show h56 1 3 = h56 236 11 by omega), (SVx.keep sv0 (by omega) (fun i _ => (u56 3 i (fn_a (by decide) fn_0))) (fun i _ => (u56 5 i (fn_a (by decide) fn_0))) (fun i _ => (u56 6 i (fn_a (by decide) fn_0))) (fun i _ => (u56 8 i (fn_a (by decide) fn_0))) (fun i _ => (u56 238 i (fn_a (by decide) fn_0)))), (show h56 0 12 = h56 236 21 by omega), (fun e => (SVx.keep (ss0 (by omega)) (by omega) (fun i _ => (u56 210 i (fn_a (by decide) fn_0))) (fun i _ => (u56 212 i (fn_a (by decide) fn_0))) (fun i _ => (u56 213 i (fn_a (by decide) fn_0))) (fun i _ => (u56 215 i (fn_a (by decide) fn_0))) (fun i _ => (u56 241 i (fn_a (by decide) fn_0))))), gs91, mi107, (show h56 63 5 ≤ h56 18 16 by omega), (show (h56 63 5) < (h56 18 16) ∨ ((h56 18 7) ≤ (h56 3 2) ∧ (h56 66 1) = (h56 3 2) - (h56 18 7)) ∨ ((h56 3 2) < (h56 18 7) ∧ (h56 66 1) = 0) by omega), gq118, (MR.mv mr0 (MSN.then (MSN.refl) (fun i _ => (u56 238 i (fn_a (by decide) fn_0)))) (by omega) q119 q120 (by omega)), (fun e => SM.mv (sm0 (by omega)) q121 q122 q123 (by omega) q124)⟩, (by omega)⟩ (by omega) (by omega)
-- the law, case at 791
set_option maxRecDepth 100000 in
set_option maxHeartbeats 100000000 in
theorem lc_791 {L : Nat} {xs : Nat → Int32} {d b c : Nat} {h : hp} {cr : Nat → Nat → Option Nat} {Q : hp_Q} (hcr : CR cr) (hL : L ≤ 3072) (hr : 1 ≤ b ∧ 6 ≤ c) (i : Int) (I : LIm i h) (hi : 0 ≤ i ∧ i + 6 ≤ L) (k : ∀ (h2 : hp) (b2 c2 : Nat), LIm (i + 6) h2 → b ≤ b2 + 1 → c ≤ c2 + 6 → wp (md_xa (L, xs)) (d + 107) 0 (1501, [(0, .ref 1000000), (1, .ref 0), (2, .ref 236), (3, .ref 259), (4, vi i)], [], hp_w h2 cr, b2, c2) Q) : wp (md_xa (L, xs)) (d + 107) 0 (791, [(0, .ref 1000000), (1, .ref 0), (2, .ref 236), (3, .ref 259), (4, vi i)], [], hp_w h cr, b, c) Q := by
  obtain ⟨⟨g, i11, r238, r241, gp0, br0, er2, er3, sv0, sf0, ss0, gs0, mi0, ml1, ml2, gq0, mr0, sm0⟩, ie0⟩ := I
  have r238e := r238.e0
  have r241e := r241.e0
  obtain ⟨⟨se0, se1, se2, se3, se4, se5, se6, se7, se8, se9⟩, -⟩ := id sv0
  have b1 := gi_b (lo := 0) (hi := 5) g 3 0 rfl
  have b2 := gi_b (lo := 0) (hi := 5) g 238 0 rfl
  have b3 := gi_b (lo := 0) (hi := 4) g 3 1 rfl
  have b4 := gi_b (lo := 0) (hi := 4) g 238 1 rfl
  have b5 := gi_b (lo := 0) (hi := 12) g 3 2 rfl
  have b6 := gi_b (lo := 0) (hi := 12) g 238 2 rfl
  have b7 := gi_b (lo := -2147483648) (hi := 2147483647) g 3 3 rfl
  have b8 := gi_b (lo := 0) (hi := 999) g 238 3 rfl
  have b9 := gi_b (lo := -2147483648) (hi := 2147483647) g 3 4 rfl
  have b10 := gi_b (lo := 0) (hi := 999) g 238 4 rfl
  have b11 := gi_b (lo := -2147483648) (hi := 2147483647) g 3 5 rfl
  have b12 := gi_b (lo := 0) (hi := 9) g 238 5 rfl
  have b13 := gi_b (lo := -2147483648) (hi := 2147483647) g 3 6 rfl
  have b14 := gi_b (lo := 0) (hi := 999) g 238 6 rfl
  have b15 := gi_b (lo := -2147483648) (hi := 2147483647) g 3 7 rfl
  have b16 := gi_b (lo := 0) (hi := 3) g 238 7 rfl
  have b17 := gi_b (lo := -2147483648) (hi := 2147483647) g 3 8 rfl
  have b18 := gi_b (lo := 0) (hi := 999) g 238 8 rfl
  have b19 := gi_b (lo := -2147483648) (hi := 2147483647) g 3 9 rfl
  have b20 := gi_b (lo := 0) (hi := 999) g 238 9 rfl
  have b21 := gi_b (lo := -2147483648) (hi := 2147483647) g 63 5 rfl
  have b22 := gi_b (lo := 0) (hi := 12) g 18 7 rfl
  have b23 := gi_b (lo := 0) (hi := 12) g 66 1 rfl
  have b24 := gi_b (lo := 0) (hi := 1) g 0 12 rfl
  have b25 := gi_b (lo := 0) (hi := 1) g 236 21 rfl
  have bl_ := gi_b (lo := 0) (hi := 800) g 1 1 rfl
  have tb0 : BufC (h 2) (h 1 1) h := ⟨fun _ => rfl, rfl, by omega, by omega⟩
  have b26 := gi_b (lo := 0) (hi := 6) g 238 98 rfl
  have b27 := gi_b (lo := 0) (hi := 6) g 238 99 rfl
  have b28 := gi_b (lo := 0) (hi := 6) g 238 100 rfl
  have b29 := gi_b (lo := 0) (hi := 6) g 238 101 rfl
  have b30 := gi_b (lo := 0) (hi := 3) g 238 102 rfl
  have b31 := gi_b (lo := 0) (hi := 12) g 238 106 rfl
  have b32 := gi_b (lo := 0) (hi := 12) g 238 73 rfl
  have b33 := gi_b (lo := 0) (hi := 9999) g 238 119 rfl
  have b34 := gi_b (lo := 0) (hi := 9999) g 238 67 rfl
  have b35 := gi_b (lo := 0) (hi := 9) g 238 69 rfl
  have b36 := gi_b (lo := 0) (hi := 6) g 241 98 rfl
  have b37 := gi_b (lo := 0) (hi := 6) g 241 99 rfl
  have b38 := gi_b (lo := 0) (hi := 6) g 241 100 rfl
  have b39 := gi_b (lo := 0) (hi := 6) g 241 101 rfl
  have b40 := gi_b (lo := 0) (hi := 3) g 241 102 rfl
  have b41 := gi_b (lo := 0) (hi := 12) g 241 106 rfl
  have b42 := gi_b (lo := 0) (hi := 12) g 241 73 rfl
  have b43 := gi_b (lo := 0) (hi := 12) g 241 2 rfl
  have b44 := gi_b (lo := 0) (hi := 9999) g 241 119 rfl
  have b45 := gi_b (lo := 0) (hi := 9999) g 241 67 rfl
  have b46 := gi_b (lo := 0) (hi := 9) g 241 69 rfl
  have b47 := gi_b (lo := 0) (hi := 9) g 241 5 rfl
  have b48 := gi_b (lo := 0) (hi := 800) g 1 1 rfl
  have b49 := gi_b (lo := 0) (hi := 800) g 236 2 rfl
  have b50 := gi_b (lo := -2147483648) (hi := 2147483647) g 1 2 rfl
  have b51 := gi_b (lo := -2147483648) (hi := 2147483647) g 236 10 rfl
  have b52 := gi_b (lo := -2147483648) (hi := 2147483647) g 1 3 rfl
  have b53 := gi_b (lo := -2147483648) (hi := 2147483647) g 236 11 rfl
  refine wi_aload_n (i := 1) (x := 0) (nx := 792) (r1 := 0) (r2 := 0) (r3 := 0) rfl rfl ?_
  refine wr_V (k0 := 0) (rest := []) (as := [.ref 0]) (nx := 795) (r1 := 34) (r2 := 0) (r3 := 0) rfl rfl rfl (of_decide_eq_true rfl) rfl rfl (by decide) rfl rfl (of_decide_eq_true rfl) (of_decide_eq_true rfl) ?_
  refine ct_34_0 hcr  g    (fun z55  (fz55 : 0 ≤ z55 ∧ z55 ≤ 12) => ?_)
  refine wk_i ?_
  refine wi_pop (nx := 796) (r1 := 0) (r2 := 0) (r3 := 0) rfl rfl ?_
  refine wi_aload_n (i := 2) (x := 236) (nx := 797) (r1 := 0) (r2 := 0) (r3 := 0) rfl rfl ?_
  refine wr_V (k0 := 236) (rest := []) (as := [.ref 236]) (nx := 800) (r1 := 260) (r2 := 0) (r3 := 11) rfl rfl rfl (of_decide_eq_true rfl) rfl rfl (by decide) rfl rfl (of_decide_eq_true rfl) (of_decide_eq_true rfl) ?_
  refine ct_260_236 hcr  g    (fun h56 z57 g56 u56 (fz57 : 0 ≤ z57 ∧ z57 ≤ 12) => ?_)
  refine wk_i ?_
  refine wi_pop (nx := 801) (r1 := 0) (r2 := 0) (r3 := 0) rfl rfl ?_
  refine wi_goto (nx := 804) (r1 := 1501) (r2 := 0) (r3 := 0) rfl ?_
  have e58 : h56 238 98 = h 238 98 := (u56 238 98 rfl)
  have e59 : h56 238 99 = h 238 99 := (u56 238 99 rfl)
  have e60 : h56 238 100 = h 238 100 := (u56 238 100 rfl)
  have e61 : h56 238 101 = h 238 101 := (u56 238 101 rfl)
  have e62 : h56 238 102 = h 238 102 := (u56 238 102 rfl)
  have e63 : h56 238 106 = h 238 106 := (u56 238 106 rfl)
  have e64 : h56 238 73 = h 238 73 := (u56 238 73 rfl)
  have e65 : h56 238 2 = h 238 2 := (u56 238 2 rfl)
  have e66 : h56 238 119 = h 238 119 := (u56 238 119 rfl)
  have e67 : h56 238 67 = h 238 67 := (u56 238 67 rfl)
  have e68 : h56 238 69 = h 238 69 := (u56 238 69 rfl)
  have e69 : h56 238 5 = h 238 5 := (u56 238 5 rfl)
  have e70 : h56 241 98 = h 241 98 := (u56 241 98 rfl)
  have e71 : h56 241 99 = h 241 99 := (u56 241 99 rfl)
  have e72 : h56 241 100 = h 241 100 := (u56 241 100 rfl)
  have e73 : h56 241 101 = h 241 101 := (u56 241 101 rfl)
  have e74 : h56 241 102 = h 241 102 := (u56 241 102 rfl)
  have e75 : h56 241 106 = h 241 106 := (u56 241 106 rfl)
  have e76 : h56 241 73 = h 241 73 := (u56 241 73 rfl)
  have e77 : h56 241 2 = h 241 2 := (u56 241 2 rfl)
  have e78 : h56 241 119 = h 241 119 := (u56 241 119 rfl)
  have e79 : h56 241 67 = h 241 67 := (u56 241 67 rfl)
  have e80 : h56 241 69 = h 241 69 := (u56 241 69 rfl)
  have e81 : h56 241 5 = h 241 5 := (u56 241 5 rfl)
  have e82 : h56 1 1 = h 1 1 := (u56 1 1 rfl)
  have e83 : h56 236 2 = h 236 2 := (u56 236 2 rfl)
  have e84 : h56 1 2 = h 1 2 := (u56 1 2 rfl)
  have e85 : h56 236 10 = h 236 10 := (u56 236 10 rfl)
  have e86 : h56 1 3 = h 1 3 := (u56 1 3 rfl)
  have e87 : h56 236 11 = h 236 11 := (u56 236 11 rfl)
  have gp88 := GPH.fr u56 rfl gp0
  have b89 := gi_b (lo := 0) (hi := 5) g 241 0 rfl
  have b90 := gi_b (lo := 0) (hi := 4) g 241 1 rfl
  have gs91 := GPS.fr u56 rfl gs0
  have e92 : h56 0 12 = h 0 12 := (u56 0 12 rfl)
  have e93 : h56 236 21 = h 236 21 := (u56 236 21 rfl)
  have e94 : h56 63 5 = h 63 5 := (u56 63 5 rfl)
  have e95 : h56 18 16 = h 18 16 := (u56 18 16 rfl)
  have e96 : h56 18 7 = h 18 7 := (u56 18 7 rfl)
  have e97 : h56 3 2 = h 3 2 := (u56 3 2 rfl)
  have e98 : h56 66 1 = h 66 1 := (u56 66 1 rfl)
  have b99 := gi_b (lo := 0) (hi := 6) g 73 1 rfl
  have e100 : h56 73 1 = h 73 1 := (u56 73 1 rfl)
  have b101 := gi_b (lo := 0) (hi := 6) g 73 2 rfl
  have e102 : h56 73 2 = h 73 2 := (u56 73 2 rfl)
  have b103 := gi_b (lo := 0) (hi := 6) g 236 22 rfl
  have e104 : h56 236 22 = h 236 22 := (u56 236 22 rfl)
  have b105 := gi_b (lo := 0) (hi := 12) g 210 2 rfl
  have e106 : h56 210 2 = h 210 2 := (u56 210 2 rfl)
  have q109 : h56 8 = h 8 := funext (fun i => (u56 8 i (fo_no_ok (by decide) i)))
  have q110 : h56 7 = h 7 := funext (fun i => (u56 7 i (fo_no_ok (by decide) i)))
  have q111 : h56 19 = h 19 := funext (fun i => (u56 19 i (fo_no_ok (by decide) i)))
  have q112 : h56 67 = h 67 := funext (fun i => (u56 67 i (fo_no_ok (by decide) i)))
  have ml108 : MCL h56 := MCL.mv mi0.1 q109 q110 q111 q112 (by omega) (by omega) (by omega) (by omega)
  have q114 : h56 69 = h 69 := funext (fun i => (u56 69 i (fo_no_ok (by decide) i)))
  have q115 : h56 70 = h 70 := funext (fun i => (u56 70 i (fo_no_ok (by decide) i)))
  have nb113 : NBc (h56 69) (h56 70) := by rw [q114, q115]; exact mi0.2.2
  have q116 : h56 8 = h 8 := funext (fun i => (u56 8 i (fo_no_ok (by decide) i)))
  have q117 : h56 7 = h 7 := funext (fun i => (u56 7 i (fo_no_ok (by decide) i)))
  have mi107 : MCI h56 := ⟨ml108, HIv.mv mi0.2.1 q116 q117 (by omega) (by omega) (sv_seven (P := fun x => ∀ i, h56 (76 + 19 * x) i = h (76 + 19 * x) i) (fun i => (u56 76 i (fn_a (by decide) fn_0))) (fun i => (u56 95 i (fn_a (by decide) fn_0))) (fun i => (u56 114 i (fn_a (by decide) fn_0))) (fun i => (u56 133 i (fn_a (by decide) fn_0))) (fun i => (u56 152 i (fn_a (by decide) fn_0))) (fun i => (u56 171 i (fn_a (by decide) fn_0))) (fun i => (u56 190 i (fn_a (by decide) fn_0)))) (by omega) (by omega), nb113⟩
  have gq118 := GQS.fr u56 rfl gq0
  have q119 : h56 8 = h 8 := funext (fun i => (u56 8 i (fo_no_ok (by decide) i)))
  have q120 : h56 7 = h 7 := funext (fun i => (u56 7 i (fo_no_ok (by decide) i)))
  have q121 : h56 215 = h 215 := funext (fun i => (u56 215 i (fo_no_ok (by decide) i)))
  have q122 : h56 218 = h 218 := funext (fun i => (u56 218 i (fo_no_ok (by decide) i)))
  have q123 : h56 214 = h 214 := funext (fun i => (u56 214 i (fo_no_ok (by decide) i)))
  have q124 : h56 241 = h 241 := funext (fun i => (u56 241 i (fo_no_ok (by decide) i)))
  exact k h56 b c ⟨⟨g56, (show h56 1 1 = h56 236 2 by omega), (RS.i0 (f := h56 238) (by refine ⟨?_, ?_, ?_, ?_, ?_⟩ <;> omega)), (RS.i0 (f := h56 241) (by refine ⟨?_, ?_, ?_, ?_, ?_⟩ <;> omega)), gp88, (BRh.keep br0 (fun i => (u56 2 i (fn_a (by decide) fn_0))) (fun i => (u56 237 i (fn_a (by decide) fn_0))) (by omega)), (show h56 1 2 = h56 236 10 by omega), (show h56 1 3 = h56 236 11 by omega), (SVx.keep sv0 (by omega) (fun i _ => (u56 3 i (fn_a (by decide) fn_0))) (fun i _ => (u56 5 i (fn_a (by decide) fn_0))) (fun i _ => (u56 6 i (fn_a (by decide) fn_0))) (fun i _ => (u56 8 i (fn_a (by decide) fn_0))) (fun i _ => (u56 238 i (fn_a (by decide) fn_0)))), (show h56 0 12 = h56 236 21 by omega), (fun e => (SVx.keep (ss0 (by omega)) (by omega) (fun i _ => (u56 210 i (fn_a (by decide) fn_0))) (fun i _ => (u56 212 i (fn_a (by decide) fn_0))) (fun i _ => (u56 213 i (fn_a (by decide) fn_0))) (fun i _ => (u56 215 i (fn_a (by decide) fn_0))) (fun i _ => (u56 241 i (fn_a (by decide) fn_0))))), gs91, mi107, (show h56 63 5 ≤ h56 18 16 by omega), (show (h56 63 5) < (h56 18 16) ∨ ((h56 18 7) ≤ (h56 3 2) ∧ (h56 66 1) = (h56 3 2) - (h56 18 7)) ∨ ((h56 3 2) < (h56 18 7) ∧ (h56 66 1) = 0) by omega), gq118, (MR.mv mr0 (MSN.then (MSN.refl) (fun i _ => (u56 238 i (fn_a (by decide) fn_0)))) (by omega) q119 q120 (by omega)), (fun e => SM.mv (sm0 (by omega)) q121 q122 q123 (by omega) q124)⟩, (by omega)⟩ (by omega) (by omega)
-- the law, case at 804
set_option maxRecDepth 100000 in
set_option maxHeartbeats 100000000 in
theorem lc_804 {L : Nat} {xs : Nat → Int32} {d b c : Nat} {h : hp} {cr : Nat → Nat → Option Nat} {Q : hp_Q} (hcr : CR cr) (hL : L ≤ 3072) (hr : 1 ≤ b ∧ 6 ≤ c) (i : Int) (I : LIm i h) (hi : 0 ≤ i ∧ i + 6 ≤ L) (k : ∀ (h2 : hp) (b2 c2 : Nat), LIm (i + 6) h2 → b ≤ b2 + 1 → c ≤ c2 + 6 → wp (md_xa (L, xs)) (d + 107) 0 (1501, [(0, .ref 1000000), (1, .ref 0), (2, .ref 236), (3, .ref 259), (4, vi i)], [], hp_w h2 cr, b2, c2) Q) : wp (md_xa (L, xs)) (d + 107) 0 (804, [(0, .ref 1000000), (1, .ref 0), (2, .ref 236), (3, .ref 259), (4, vi i)], [], hp_w h cr, b, c) Q := by
  obtain ⟨⟨g, i11, r238, r241, gp0, br0, er2, er3, sv0, sf0, ss0, gs0, mi0, ml1, ml2, gq0, mr0, sm0⟩, ie0⟩ := I
  have r238e := r238.e0
  have r241e := r241.e0
  obtain ⟨⟨se0, se1, se2, se3, se4, se5, se6, se7, se8, se9⟩, -⟩ := id sv0
  have b1 := gi_b (lo := 0) (hi := 5) g 3 0 rfl
  have b2 := gi_b (lo := 0) (hi := 5) g 238 0 rfl
  have b3 := gi_b (lo := 0) (hi := 4) g 3 1 rfl
  have b4 := gi_b (lo := 0) (hi := 4) g 238 1 rfl
  have b5 := gi_b (lo := 0) (hi := 12) g 3 2 rfl
  have b6 := gi_b (lo := 0) (hi := 12) g 238 2 rfl
  have b7 := gi_b (lo := -2147483648) (hi := 2147483647) g 3 3 rfl
  have b8 := gi_b (lo := 0) (hi := 999) g 238 3 rfl
  have b9 := gi_b (lo := -2147483648) (hi := 2147483647) g 3 4 rfl
  have b10 := gi_b (lo := 0) (hi := 999) g 238 4 rfl
  have b11 := gi_b (lo := -2147483648) (hi := 2147483647) g 3 5 rfl
  have b12 := gi_b (lo := 0) (hi := 9) g 238 5 rfl
  have b13 := gi_b (lo := -2147483648) (hi := 2147483647) g 3 6 rfl
  have b14 := gi_b (lo := 0) (hi := 999) g 238 6 rfl
  have b15 := gi_b (lo := -2147483648) (hi := 2147483647) g 3 7 rfl
  have b16 := gi_b (lo := 0) (hi := 3) g 238 7 rfl
  have b17 := gi_b (lo := -2147483648) (hi := 2147483647) g 3 8 rfl
  have b18 := gi_b (lo := 0) (hi := 999) g 238 8 rfl
  have b19 := gi_b (lo := -2147483648) (hi := 2147483647) g 3 9 rfl
  have b20 := gi_b (lo := 0) (hi := 999) g 238 9 rfl
  have b21 := gi_b (lo := -2147483648) (hi := 2147483647) g 63 5 rfl
  have b22 := gi_b (lo := 0) (hi := 12) g 18 7 rfl
  have b23 := gi_b (lo := 0) (hi := 12) g 66 1 rfl
  have b24 := gi_b (lo := 0) (hi := 1) g 0 12 rfl
  have b25 := gi_b (lo := 0) (hi := 1) g 236 21 rfl
  have bl_ := gi_b (lo := 0) (hi := 800) g 1 1 rfl
  have tb0 : BufC (h 2) (h 1 1) h := ⟨fun _ => rfl, rfl, by omega, by omega⟩
  have b26 := gi_b (lo := 0) (hi := 6) g 238 98 rfl
  have b27 := gi_b (lo := 0) (hi := 6) g 238 99 rfl
  have b28 := gi_b (lo := 0) (hi := 6) g 238 100 rfl
  have b29 := gi_b (lo := 0) (hi := 6) g 238 101 rfl
  have b30 := gi_b (lo := 0) (hi := 3) g 238 102 rfl
  have b31 := gi_b (lo := 0) (hi := 12) g 238 106 rfl
  have b32 := gi_b (lo := 0) (hi := 12) g 238 73 rfl
  have b33 := gi_b (lo := 0) (hi := 9999) g 238 119 rfl
  have b34 := gi_b (lo := 0) (hi := 9999) g 238 67 rfl
  have b35 := gi_b (lo := 0) (hi := 9) g 238 69 rfl
  have b36 := gi_b (lo := 0) (hi := 6) g 241 98 rfl
  have b37 := gi_b (lo := 0) (hi := 6) g 241 99 rfl
  have b38 := gi_b (lo := 0) (hi := 6) g 241 100 rfl
  have b39 := gi_b (lo := 0) (hi := 6) g 241 101 rfl
  have b40 := gi_b (lo := 0) (hi := 3) g 241 102 rfl
  have b41 := gi_b (lo := 0) (hi := 12) g 241 106 rfl
  have b42 := gi_b (lo := 0) (hi := 12) g 241 73 rfl
  have b43 := gi_b (lo := 0) (hi := 12) g 241 2 rfl
  have b44 := gi_b (lo := 0) (hi := 9999) g 241 119 rfl
  have b45 := gi_b (lo := 0) (hi := 9999) g 241 67 rfl
  have b46 := gi_b (lo := 0) (hi := 9) g 241 69 rfl
  have b47 := gi_b (lo := 0) (hi := 9) g 241 5 rfl
  have b48 := gi_b (lo := 0) (hi := 800) g 1 1 rfl
  have b49 := gi_b (lo := 0) (hi := 800) g 236 2 rfl
  have b50 := gi_b (lo := -2147483648) (hi := 2147483647) g 1 2 rfl
  have b51 := gi_b (lo := -2147483648) (hi := 2147483647) g 236 10 rfl
  have b52 := gi_b (lo := -2147483648) (hi := 2147483647) g 1 3 rfl
  have b53 := gi_b (lo := -2147483648) (hi := 2147483647) g 236 11 rfl
  refine wi_aload_n (i := 1) (x := 0) (nx := 805) (r1 := 0) (r2 := 0) (r3 := 0) rfl rfl ?_
  refine wi_aload_n (i := 0) (x := 1000000) (nx := 806) (r1 := 0) (r2 := 0) (r3 := 0) rfl rfl ?_
  refine wi_iload (i := 4) (e := i) (nx := 808) (r1 := 0) (r2 := 0) (r3 := 0) rfl rfl ?_
  refine wi_iconst (n := 1) (nx := 809) (r1 := 0) (r2 := 0) (r3 := 0) rfl ?_
  refine wr_add (nx := 810) (r1 := 0) (r2 := 0) (r3 := 0) rfl (fun e54 (fe54 : e54 = i + 1) => ?_)
  obtain ⟨i55, ei55⟩ : ∃ q : Nat, e54 = (q : Int) := ⟨(e54).toNat, by omega⟩
  have s56 := sc_b (xs i55)
  refine wr_sc (a := e54) (f := i55) (nx := 811) (r1 := 0) (r2 := 0) (r3 := 0) rfl (by omega) (by omega) hL ?_
  refine wr_V (k0 := 0) (rest := []) (as := [.ref 0, vi ((xs i55).toInt)]) (nx := 814) (r1 := 35) (r2 := 1) (r3 := 0) rfl rfl rfl (of_decide_eq_true rfl) rfl rfl (by decide) rfl rfl (of_decide_eq_true rfl) (of_decide_eq_true rfl) ?_
  refine ct_35_0 hcr  g ((xs i55).toInt) (by omega)  (fun z58  (fz58 : -2147483648 ≤ z58 ∧ z58 ≤ 2147483647) => ?_)
  refine wk_i ?_
  refine wi_pop (nx := 815) (r1 := 0) (r2 := 0) (r3 := 0) rfl rfl ?_
  refine wi_aload_n (i := 2) (x := 236) (nx := 816) (r1 := 0) (r2 := 0) (r3 := 0) rfl rfl ?_
  refine wi_aload_n (i := 0) (x := 1000000) (nx := 817) (r1 := 0) (r2 := 0) (r3 := 0) rfl rfl ?_
  refine wi_iload (i := 4) (e := i) (nx := 819) (r1 := 0) (r2 := 0) (r3 := 0) rfl rfl ?_
  refine wi_iconst (n := 1) (nx := 820) (r1 := 0) (r2 := 0) (r3 := 0) rfl ?_
  refine wr_add (nx := 821) (r1 := 0) (r2 := 0) (r3 := 0) rfl (fun e59 (fe59 : e59 = i + 1) => ?_)
  refine wr_sc (a := e59) (f := i55) (nx := 822) (r1 := 0) (r2 := 0) (r3 := 0) rfl (by omega) (by omega) hL ?_
  refine wr_V (k0 := 236) (rest := []) (as := [.ref 236, vi ((xs i55).toInt)]) (nx := 825) (r1 := 261) (r2 := 1) (r3 := 11) rfl rfl rfl (of_decide_eq_true rfl) rfl rfl (by decide) rfl rfl (of_decide_eq_true rfl) (of_decide_eq_true rfl) ?_
  refine ct_261_236 hcr  g ((xs i55).toInt) (by omega)  (fun h60 z61 g60 u60 (fz61 : -1 ≤ z61 ∧ z61 ≤ 11) => ?_)
  refine wk_i ?_
  refine wi_pop (nx := 826) (r1 := 0) (r2 := 0) (r3 := 0) rfl rfl ?_
  refine wi_goto (nx := 829) (r1 := 1501) (r2 := 0) (r3 := 0) rfl ?_
  have e62 : h60 238 98 = h 238 98 := (u60 238 98 rfl)
  have e63 : h60 238 99 = h 238 99 := (u60 238 99 rfl)
  have e64 : h60 238 100 = h 238 100 := (u60 238 100 rfl)
  have e65 : h60 238 101 = h 238 101 := (u60 238 101 rfl)
  have e66 : h60 238 102 = h 238 102 := (u60 238 102 rfl)
  have e67 : h60 238 106 = h 238 106 := (u60 238 106 rfl)
  have e68 : h60 238 73 = h 238 73 := (u60 238 73 rfl)
  have e69 : h60 238 2 = h 238 2 := (u60 238 2 rfl)
  have e70 : h60 238 119 = h 238 119 := (u60 238 119 rfl)
  have e71 : h60 238 67 = h 238 67 := (u60 238 67 rfl)
  have e72 : h60 238 69 = h 238 69 := (u60 238 69 rfl)
  have e73 : h60 238 5 = h 238 5 := (u60 238 5 rfl)
  have e74 : h60 241 98 = h 241 98 := (u60 241 98 rfl)
  have e75 : h60 241 99 = h 241 99 := (u60 241 99 rfl)
  have e76 : h60 241 100 = h 241 100 := (u60 241 100 rfl)
  have e77 : h60 241 101 = h 241 101 := (u60 241 101 rfl)
  have e78 : h60 241 102 = h 241 102 := (u60 241 102 rfl)
  have e79 : h60 241 106 = h 241 106 := (u60 241 106 rfl)
  have e80 : h60 241 73 = h 241 73 := (u60 241 73 rfl)
  have e81 : h60 241 2 = h 241 2 := (u60 241 2 rfl)
  have e82 : h60 241 119 = h 241 119 := (u60 241 119 rfl)
  have e83 : h60 241 67 = h 241 67 := (u60 241 67 rfl)
  have e84 : h60 241 69 = h 241 69 := (u60 241 69 rfl)
  have e85 : h60 241 5 = h 241 5 := (u60 241 5 rfl)
  have e86 : h60 1 1 = h 1 1 := (u60 1 1 rfl)
  have e87 : h60 236 2 = h 236 2 := (u60 236 2 rfl)
  have e88 : h60 1 2 = h 1 2 := (u60 1 2 rfl)
  have e89 : h60 236 10 = h 236 10 := (u60 236 10 rfl)
  have e90 : h60 1 3 = h 1 3 := (u60 1 3 rfl)
  have e91 : h60 236 11 = h 236 11 := (u60 236 11 rfl)
  have gp92 := GPH.fr u60 rfl gp0
  have b93 := gi_b (lo := 0) (hi := 5) g 241 0 rfl
  have b94 := gi_b (lo := 0) (hi := 4) g 241 1 rfl
  have gs95 := GPS.fr u60 rfl gs0
  have e96 : h60 0 12 = h 0 12 := (u60 0 12 rfl)
  have e97 : h60 236 21 = h 236 21 := (u60 236 21 rfl)
  have e98 : h60 63 5 = h 63 5 := (u60 63 5 rfl)
  have e99 : h60 18 16 = h 18 16 := (u60 18 16 rfl)
  have e100 : h60 18 7 = h 18 7 := (u60 18 7 rfl)
  have e101 : h60 3 2 = h 3 2 := (u60 3 2 rfl)
  have e102 : h60 66 1 = h 66 1 := (u60 66 1 rfl)
  have b103 := gi_b (lo := 0) (hi := 6) g 73 1 rfl
  have e104 : h60 73 1 = h 73 1 := (u60 73 1 rfl)
  have b105 := gi_b (lo := 0) (hi := 6) g 73 2 rfl
  have e106 : h60 73 2 = h 73 2 := (u60 73 2 rfl)
  have b107 := gi_b (lo := 0) (hi := 6) g 236 22 rfl
  have e108 : h60 236 22 = h 236 22 := (u60 236 22 rfl)
  have b109 := gi_b (lo := 0) (hi := 12) g 210 2 rfl
  have e110 : h60 210 2 = h 210 2 := (u60 210 2 rfl)
  have q113 : h60 8 = h 8 := funext (fun i => (u60 8 i (fo_no_ok (by decide) i)))
  have q114 : h60 7 = h 7 := funext (fun i => (u60 7 i (fo_no_ok (by decide) i)))
  have q115 : h60 19 = h 19 := funext (fun i => (u60 19 i (fo_no_ok (by decide) i)))
  have q116 : h60 67 = h 67 := funext (fun i => (u60 67 i (fo_no_ok (by decide) i)))
  have ml112 : MCL h60 := MCL.mv mi0.1 q113 q114 q115 q116 (by omega) (by omega) (by omega) (by omega)
  have q118 : h60 69 = h 69 := funext (fun i => (u60 69 i (fo_no_ok (by decide) i)))
  have q119 : h60 70 = h 70 := funext (fun i => (u60 70 i (fo_no_ok (by decide) i)))
  have nb117 : NBc (h60 69) (h60 70) := by rw [q118, q119]; exact mi0.2.2
  have q120 : h60 8 = h 8 := funext (fun i => (u60 8 i (fo_no_ok (by decide) i)))
  have q121 : h60 7 = h 7 := funext (fun i => (u60 7 i (fo_no_ok (by decide) i)))
  have mi111 : MCI h60 := ⟨ml112, HIv.mv mi0.2.1 q120 q121 (by omega) (by omega) (sv_seven (P := fun x => ∀ i, h60 (76 + 19 * x) i = h (76 + 19 * x) i) (fun i => (u60 76 i (fn_a (by decide) fn_0))) (fun i => (u60 95 i (fn_a (by decide) fn_0))) (fun i => (u60 114 i (fn_a (by decide) fn_0))) (fun i => (u60 133 i (fn_a (by decide) fn_0))) (fun i => (u60 152 i (fn_a (by decide) fn_0))) (fun i => (u60 171 i (fn_a (by decide) fn_0))) (fun i => (u60 190 i (fn_a (by decide) fn_0)))) (by omega) (by omega), nb117⟩
  have gq122 := GQS.fr u60 rfl gq0
  have q123 : h60 8 = h 8 := funext (fun i => (u60 8 i (fo_no_ok (by decide) i)))
  have q124 : h60 7 = h 7 := funext (fun i => (u60 7 i (fo_no_ok (by decide) i)))
  have q125 : h60 215 = h 215 := funext (fun i => (u60 215 i (fo_no_ok (by decide) i)))
  have q126 : h60 218 = h 218 := funext (fun i => (u60 218 i (fo_no_ok (by decide) i)))
  have q127 : h60 214 = h 214 := funext (fun i => (u60 214 i (fo_no_ok (by decide) i)))
  have q128 : h60 241 = h 241 := funext (fun i => (u60 241 i (fo_no_ok (by decide) i)))
  exact k h60 b c ⟨⟨g60, (show h60 1 1 = h60 236 2 by omega), (RS.i0 (f := h60 238) (by refine ⟨?_, ?_, ?_, ?_, ?_⟩ <;> omega)), (RS.i0 (f := h60 241) (by refine ⟨?_, ?_, ?_, ?_, ?_⟩ <;> omega)), gp92, (BRh.keep br0 (fun i => (u60 2 i (fn_a (by decide) fn_0))) (fun i => (u60 237 i (fn_a (by decide) fn_0))) (by omega)), (show h60 1 2 = h60 236 10 by omega), (show h60 1 3 = h60 236 11 by omega), (SVx.keep sv0 (by omega) (fun i _ => (u60 3 i (fn_a (by decide) fn_0))) (fun i _ => (u60 5 i (fn_a (by decide) fn_0))) (fun i _ => (u60 6 i (fn_a (by decide) fn_0))) (fun i _ => (u60 8 i (fn_a (by decide) fn_0))) (fun i _ => (u60 238 i (fn_a (by decide) fn_0)))), (show h60 0 12 = h60 236 21 by omega), (fun e => (SVx.keep (ss0 (by omega)) (by omega) (fun i _ => (u60 210 i (fn_a (by decide) fn_0))) (fun i _ => (u60 212 i (fn_a (by decide) fn_0))) (fun i _ => (u60 213 i (fn_a (by decide) fn_0))) (fun i _ => (u60 215 i (fn_a (by decide) fn_0))) (fun i _ => (u60 241 i (fn_a (by decide) fn_0))))), gs95, mi111, (show h60 63 5 ≤ h60 18 16 by omega), (show (h60 63 5) < (h60 18 16) ∨ ((h60 18 7) ≤ (h60 3 2) ∧ (h60 66 1) = (h60 3 2) - (h60 18 7)) ∨ ((h60 3 2) < (h60 18 7) ∧ (h60 66 1) = 0) by omega), gq122, (MR.mv mr0 (MSN.then (MSN.refl) (fun i _ => (u60 238 i (fn_a (by decide) fn_0)))) (by omega) q123 q124 (by omega)), (fun e => SM.mv (sm0 (by omega)) q125 q126 q127 (by omega) q128)⟩, (by omega)⟩ (by omega) (by omega)
-- the law, case at 829
set_option maxRecDepth 100000 in
set_option maxHeartbeats 100000000 in
theorem lc_829 {L : Nat} {xs : Nat → Int32} {d b c : Nat} {h : hp} {cr : Nat → Nat → Option Nat} {Q : hp_Q} (hcr : CR cr) (hL : L ≤ 3072) (hr : 1 ≤ b ∧ 6 ≤ c) (i : Int) (I : LIm i h) (hi : 0 ≤ i ∧ i + 6 ≤ L) (k : ∀ (h2 : hp) (b2 c2 : Nat), LIm (i + 6) h2 → b ≤ b2 + 1 → c ≤ c2 + 6 → wp (md_xa (L, xs)) (d + 107) 0 (1501, [(0, .ref 1000000), (1, .ref 0), (2, .ref 236), (3, .ref 259), (4, vi i)], [], hp_w h2 cr, b2, c2) Q) : wp (md_xa (L, xs)) (d + 107) 0 (829, [(0, .ref 1000000), (1, .ref 0), (2, .ref 236), (3, .ref 259), (4, vi i)], [], hp_w h cr, b, c) Q := by
  obtain ⟨⟨g, i11, r238, r241, gp0, br0, er2, er3, sv0, sf0, ss0, gs0, mi0, ml1, ml2, gq0, mr0, sm0⟩, ie0⟩ := I
  have r238e := r238.e0
  have r241e := r241.e0
  obtain ⟨⟨se0, se1, se2, se3, se4, se5, se6, se7, se8, se9⟩, -⟩ := id sv0
  have b1 := gi_b (lo := 0) (hi := 5) g 3 0 rfl
  have b2 := gi_b (lo := 0) (hi := 5) g 238 0 rfl
  have b3 := gi_b (lo := 0) (hi := 4) g 3 1 rfl
  have b4 := gi_b (lo := 0) (hi := 4) g 238 1 rfl
  have b5 := gi_b (lo := 0) (hi := 12) g 3 2 rfl
  have b6 := gi_b (lo := 0) (hi := 12) g 238 2 rfl
  have b7 := gi_b (lo := -2147483648) (hi := 2147483647) g 3 3 rfl
  have b8 := gi_b (lo := 0) (hi := 999) g 238 3 rfl
  have b9 := gi_b (lo := -2147483648) (hi := 2147483647) g 3 4 rfl
  have b10 := gi_b (lo := 0) (hi := 999) g 238 4 rfl
  have b11 := gi_b (lo := -2147483648) (hi := 2147483647) g 3 5 rfl
  have b12 := gi_b (lo := 0) (hi := 9) g 238 5 rfl
  have b13 := gi_b (lo := -2147483648) (hi := 2147483647) g 3 6 rfl
  have b14 := gi_b (lo := 0) (hi := 999) g 238 6 rfl
  have b15 := gi_b (lo := -2147483648) (hi := 2147483647) g 3 7 rfl
  have b16 := gi_b (lo := 0) (hi := 3) g 238 7 rfl
  have b17 := gi_b (lo := -2147483648) (hi := 2147483647) g 3 8 rfl
  have b18 := gi_b (lo := 0) (hi := 999) g 238 8 rfl
  have b19 := gi_b (lo := -2147483648) (hi := 2147483647) g 3 9 rfl
  have b20 := gi_b (lo := 0) (hi := 999) g 238 9 rfl
  have b21 := gi_b (lo := -2147483648) (hi := 2147483647) g 63 5 rfl
  have b22 := gi_b (lo := 0) (hi := 12) g 18 7 rfl
  have b23 := gi_b (lo := 0) (hi := 12) g 66 1 rfl
  have b24 := gi_b (lo := 0) (hi := 1) g 0 12 rfl
  have b25 := gi_b (lo := 0) (hi := 1) g 236 21 rfl
  have bl_ := gi_b (lo := 0) (hi := 800) g 1 1 rfl
  have tb0 : BufC (h 2) (h 1 1) h := ⟨fun _ => rfl, rfl, by omega, by omega⟩
  have b26 := gi_b (lo := 0) (hi := 6) g 238 98 rfl
  have b27 := gi_b (lo := 0) (hi := 6) g 238 99 rfl
  have b28 := gi_b (lo := 0) (hi := 6) g 238 100 rfl
  have b29 := gi_b (lo := 0) (hi := 6) g 238 101 rfl
  have b30 := gi_b (lo := 0) (hi := 3) g 238 102 rfl
  have b31 := gi_b (lo := 0) (hi := 12) g 238 106 rfl
  have b32 := gi_b (lo := 0) (hi := 12) g 238 73 rfl
  have b33 := gi_b (lo := 0) (hi := 9999) g 238 119 rfl
  have b34 := gi_b (lo := 0) (hi := 9999) g 238 67 rfl
  have b35 := gi_b (lo := 0) (hi := 9) g 238 69 rfl
  have b36 := gi_b (lo := 0) (hi := 6) g 241 98 rfl
  have b37 := gi_b (lo := 0) (hi := 6) g 241 99 rfl
  have b38 := gi_b (lo := 0) (hi := 6) g 241 100 rfl
  have b39 := gi_b (lo := 0) (hi := 6) g 241 101 rfl
  have b40 := gi_b (lo := 0) (hi := 3) g 241 102 rfl
  have b41 := gi_b (lo := 0) (hi := 12) g 241 106 rfl
  have b42 := gi_b (lo := 0) (hi := 12) g 241 73 rfl
  have b43 := gi_b (lo := 0) (hi := 12) g 241 2 rfl
  have b44 := gi_b (lo := 0) (hi := 9999) g 241 119 rfl
  have b45 := gi_b (lo := 0) (hi := 9999) g 241 67 rfl
  have b46 := gi_b (lo := 0) (hi := 9) g 241 69 rfl
  have b47 := gi_b (lo := 0) (hi := 9) g 241 5 rfl
  have b48 := gi_b (lo := 0) (hi := 800) g 1 1 rfl
  have b49 := gi_b (lo := 0) (hi := 800) g 236 2 rfl
  have b50 := gi_b (lo := -2147483648) (hi := 2147483647) g 1 2 rfl
  have b51 := gi_b (lo := -2147483648) (hi := 2147483647) g 236 10 rfl
  have b52 := gi_b (lo := -2147483648) (hi := 2147483647) g 1 3 rfl
  have b53 := gi_b (lo := -2147483648) (hi := 2147483647) g 236 11 rfl
  refine wi_aload_n (i := 1) (x := 0) (nx := 830) (r1 := 0) (r2 := 0) (r3 := 0) rfl rfl ?_
  refine wi_aload_n (i := 0) (x := 1000000) (nx := 831) (r1 := 0) (r2 := 0) (r3 := 0) rfl rfl ?_
  refine wi_iload (i := 4) (e := i) (nx := 833) (r1 := 0) (r2 := 0) (r3 := 0) rfl rfl ?_
  refine wi_iconst (n := 1) (nx := 834) (r1 := 0) (r2 := 0) (r3 := 0) rfl ?_
  refine wr_add (nx := 835) (r1 := 0) (r2 := 0) (r3 := 0) rfl (fun e54 (fe54 : e54 = i + 1) => ?_)
  obtain ⟨i55, ei55⟩ : ∃ q : Nat, e54 = (q : Int) := ⟨(e54).toNat, by omega⟩
  have s56 := sc_b (xs i55)
  refine wr_sc (a := e54) (f := i55) (nx := 836) (r1 := 0) (r2 := 0) (r3 := 0) rfl (by omega) (by omega) hL ?_
  refine wi_aload_n (i := 3) (x := 259) (nx := 837) (r1 := 0) (r2 := 0) (r3 := 0) rfl rfl ?_
  refine wi_S (rest := []) (as := [.ref 0, vi ((xs i55).toInt), .ref 259]) (nx := 840) (r1 := 14) (r2 := 19) (r3 := 0) rfl rfl rfl (of_decide_eq_true rfl) rfl rfl (of_decide_eq_true rfl) (of_decide_eq_true rfl) ?_
  refine wi_aload_n (i := 2) (x := 259) (nx := 1) (r1 := 0) (r2 := 0) (r3 := 0) rfl rfl ?_
  refine wi_iconst (n := 0) (nx := 2) (r1 := 0) (r2 := 0) (r3 := 0) rfl ?_
  refine wi_aload_n (i := 0) (x := 0) (nx := 3) (r1 := 0) (r2 := 0) (r3 := 0) rfl rfl ?_
  refine wi_iload_n (i := 1) (e := (xs i55).toInt) (nx := 4) (r1 := 0) (r2 := 0) (r3 := 0) rfl rfl ?_
  refine wr_V (k0 := 0) (rest := [vi 0, .ref 259]) (as := [.ref 0, vi ((xs i55).toInt)]) (nx := 7) (r1 := 76) (r2 := 1) (r3 := 0) rfl rfl rfl (of_decide_eq_true rfl) rfl rfl (by decide) rfl rfl (of_decide_eq_true rfl) (of_decide_eq_true rfl) ?_
  refine ct_76_0 hcr hr  g ((xs i55).toInt) (by omega)  (fun z58  (fz58 : -11 ≤ z58 ∧ z58 ≤ 11) => ?_) ?_ ?_
  ·
    refine wk_i ?_
    refine wi_i2l (nx := 8) (r1 := 0) (r2 := 0) (r3 := 0) rfl (by omega) ?_
    refine wr_ls (k0 := 259) (a := 0) (f := 0) (x := z58) (bl := -9223372036854775808) (bh := 9223372036854775807) (nx := 9) (r1 := 0) (r2 := 0) (r3 := 0) rfl (by decide) rfl (by omega) (by omega) (by decide) g rfl (by omega) (fun h59 g59 w59 u59 => ?_)
    refine wi_goto (nx := 12) (r1 := 18) (r2 := 0) (r3 := 0) rfl ?_
    refine wi_iconst (n := 0) (nx := 19) (r1 := 0) (r2 := 0) (r3 := 0) rfl ?_
    refine wi_ireturn (nx := 20) (r1 := 0) (r2 := 0) (r3 := 0) rfl rfl ?_
    refine wk_i ?_
    refine wi_istore (i := 5) (e := 0) (lo2 := [(5, vi 0), (0, .ref 1000000), (1, .ref 0), (2, .ref 236), (3, .ref 259), (4, vi i)]) (nx := 842) (r1 := 0) (r2 := 0) (r3 := 0) rfl rfl ?_
    refine wi_aload_n (i := 2) (x := 236) (nx := 843) (r1 := 0) (r2 := 0) (r3 := 0) rfl rfl ?_
    refine wi_aload_n (i := 0) (x := 1000000) (nx := 844) (r1 := 0) (r2 := 0) (r3 := 0) rfl rfl ?_
    refine wi_iload (i := 4) (e := i) (nx := 846) (r1 := 0) (r2 := 0) (r3 := 0) rfl rfl ?_
    refine wi_iconst (n := 1) (nx := 847) (r1 := 0) (r2 := 0) (r3 := 0) rfl ?_
    refine wr_add (nx := 848) (r1 := 0) (r2 := 0) (r3 := 0) rfl (fun e60 (fe60 : e60 = i + 1) => ?_)
    refine wr_sc (a := e60) (f := i55) (nx := 849) (r1 := 0) (r2 := 0) (r3 := 0) rfl (by omega) (by omega) hL ?_
    refine wr_V (k0 := 236) (rest := []) (as := [.ref 236, vi ((xs i55).toInt)]) (nx := 852) (r1 := 262) (r2 := 1) (r3 := 11) rfl rfl rfl (of_decide_eq_true rfl) rfl rfl (by decide) rfl rfl (of_decide_eq_true rfl) (of_decide_eq_true rfl) ?_
    refine ct_262_236 hcr  g59 ((xs i55).toInt) (by omega)  (fun h61 z62 g61 u61 (fz62 : -12 ≤ z62 ∧ z62 ≤ 11) => ?_)
    refine wk_i ?_
    refine wi_istore (i := 6) (e := z62) (lo2 := [(6, vi z62), (5, vi 0), (0, .ref 1000000), (1, .ref 0), (2, .ref 236), (3, .ref 259), (4, vi i)]) (nx := 854) (r1 := 0) (r2 := 0) (r3 := 0) rfl rfl ?_
    refine wi_goto (nx := 857) (r1 := 1501) (r2 := 0) (r3 := 0) rfl ?_
    refine wp.lo (lo := [(0, .ref 1000000), (1, .ref 0), (2, .ref 236), (3, .ref 259), (4, vi i)]) ⟨rfl, rfl, rfl, rfl, rfl, trivial⟩ rfl ?_
    have e63 : h61 238 98 = h 238 98 := ((u61 238 98 rfl).trans (u59 238 98 rfl))
    have e64 : h61 238 99 = h 238 99 := ((u61 238 99 rfl).trans (u59 238 99 rfl))
    have e65 : h61 238 100 = h 238 100 := ((u61 238 100 rfl).trans (u59 238 100 rfl))
    have e66 : h61 238 101 = h 238 101 := ((u61 238 101 rfl).trans (u59 238 101 rfl))
    have e67 : h61 238 102 = h 238 102 := ((u61 238 102 rfl).trans (u59 238 102 rfl))
    have e68 : h61 238 106 = h 238 106 := ((u61 238 106 rfl).trans (u59 238 106 rfl))
    have e69 : h61 238 73 = h 238 73 := ((u61 238 73 rfl).trans (u59 238 73 rfl))
    have e70 : h61 238 2 = h 238 2 := ((u61 238 2 rfl).trans (u59 238 2 rfl))
    have e71 : h61 238 119 = h 238 119 := ((u61 238 119 rfl).trans (u59 238 119 rfl))
    have e72 : h61 238 67 = h 238 67 := ((u61 238 67 rfl).trans (u59 238 67 rfl))
    have e73 : h61 238 69 = h 238 69 := ((u61 238 69 rfl).trans (u59 238 69 rfl))
    have e74 : h61 238 5 = h 238 5 := ((u61 238 5 rfl).trans (u59 238 5 rfl))
    have e75 : h61 241 98 = h 241 98 := ((u61 241 98 rfl).trans (u59 241 98 rfl))
    have e76 : h61 241 99 = h 241 99 := ((u61 241 99 rfl).trans (u59 241 99 rfl))
    have e77 : h61 241 100 = h 241 100 := ((u61 241 100 rfl).trans (u59 241 100 rfl))
    have e78 : h61 241 101 = h 241 101 := ((u61 241 101 rfl).trans (u59 241 101 rfl))
    have e79 : h61 241 102 = h 241 102 := ((u61 241 102 rfl).trans (u59 241 102 rfl))
    have e80 : h61 241 106 = h 241 106 := ((u61 241 106 rfl).trans (u59 241 106 rfl))
    have e81 : h61 241 73 = h 241 73 := ((u61 241 73 rfl).trans (u59 241 73 rfl))
    have e82 : h61 241 2 = h 241 2 := ((u61 241 2 rfl).trans (u59 241 2 rfl))
    have e83 : h61 241 119 = h 241 119 := ((u61 241 119 rfl).trans (u59 241 119 rfl))
    have e84 : h61 241 67 = h 241 67 := ((u61 241 67 rfl).trans (u59 241 67 rfl))
    have e85 : h61 241 69 = h 241 69 := ((u61 241 69 rfl).trans (u59 241 69 rfl))
    have e86 : h61 241 5 = h 241 5 := ((u61 241 5 rfl).trans (u59 241 5 rfl))
    have e87 : h61 1 1 = h 1 1 := ((u61 1 1 rfl).trans (u59 1 1 rfl))
    have e88 : h61 236 2 = h 236 2 := ((u61 236 2 rfl).trans (u59 236 2 rfl))
    have e89 : h61 1 2 = h 1 2 := ((u61 1 2 rfl).trans (u59 1 2 rfl))
    have e90 : h61 236 10 = h 236 10 := ((u61 236 10 rfl).trans (u59 236 10 rfl))
    have e91 : h61 1 3 = h 1 3 := ((u61 1 3 rfl).trans (u59 1 3 rfl))
    have e92 : h61 236 11 = h 236 11 := ((u61 236 11 rfl).trans (u59 236 11 rfl))
    have gp93 := GPH.fr u59 rfl gp0
    have gp94 := GPH.fr u61 rfl gp93
    have b95 := gi_b (lo := 0) (hi := 5) g 241 0 rfl
    have b96 := gi_b (lo := 0) (hi := 4) g 241 1 rfl
    have gs97 := GPS.fr u59 rfl gs0
    have gs98 := GPS.fr u61 rfl gs97
    have e99 : h61 0 12 = h 0 12 := ((u61 0 12 rfl).trans (u59 0 12 rfl))
    have e100 : h61 236 21 = h 236 21 := ((u61 236 21 rfl).trans (u59 236 21 rfl))
    have e101 : h61 63 5 = h 63 5 := ((u61 63 5 rfl).trans (u59 63 5 rfl))
    have e102 : h61 18 16 = h 18 16 := ((u61 18 16 rfl).trans (u59 18 16 rfl))
    have e103 : h61 18 7 = h 18 7 := ((u61 18 7 rfl).trans (u59 18 7 rfl))
    have e104 : h61 3 2 = h 3 2 := ((u61 3 2 rfl).trans (u59 3 2 rfl))
    have e105 : h61 66 1 = h 66 1 := ((u61 66 1 rfl).trans (u59 66 1 rfl))
    have b106 := gi_b (lo := 0) (hi := 6) g 73 1 rfl
    have e107 : h61 73 1 = h 73 1 := ((u61 73 1 rfl).trans (u59 73 1 rfl))
    have b108 := gi_b (lo := 0) (hi := 6) g 73 2 rfl
    have e109 : h61 73 2 = h 73 2 := ((u61 73 2 rfl).trans (u59 73 2 rfl))
    have b110 := gi_b (lo := 0) (hi := 6) g 236 22 rfl
    have e111 : h61 236 22 = h 236 22 := ((u61 236 22 rfl).trans (u59 236 22 rfl))
    have b112 := gi_b (lo := 0) (hi := 12) g 210 2 rfl
    have e113 : h61 210 2 = h 210 2 := ((u61 210 2 rfl).trans (u59 210 2 rfl))
    have q116 : h61 8 = h 8 := funext (fun i => ((u61 8 i (fo_no_ok (by decide) i)).trans (u59 8 i rfl)))
    have q117 : h61 7 = h 7 := funext (fun i => ((u61 7 i (fo_no_ok (by decide) i)).trans (u59 7 i rfl)))
    have q118 : h61 19 = h 19 := funext (fun i => ((u61 19 i (fo_no_ok (by decide) i)).trans (u59 19 i rfl)))
    have q119 : h61 67 = h 67 := funext (fun i => ((u61 67 i (fo_no_ok (by decide) i)).trans (u59 67 i rfl)))
    have ml115 : MCL h61 := MCL.mv mi0.1 q116 q117 q118 q119 (by omega) (by omega) (by omega) (by omega)
    have q121 : h61 69 = h 69 := funext (fun i => ((u61 69 i (fo_no_ok (by decide) i)).trans (u59 69 i rfl)))
    have q122 : h61 70 = h 70 := funext (fun i => ((u61 70 i (fo_no_ok (by decide) i)).trans (u59 70 i rfl)))
    have nb120 : NBc (h61 69) (h61 70) := by rw [q121, q122]; exact mi0.2.2
    have q123 : h61 8 = h 8 := funext (fun i => ((u61 8 i (fo_no_ok (by decide) i)).trans (u59 8 i rfl)))
    have q124 : h61 7 = h 7 := funext (fun i => ((u61 7 i (fo_no_ok (by decide) i)).trans (u59 7 i rfl)))
    have mi114 : MCI h61 := ⟨ml115, HIv.mv mi0.2.1 q123 q124 (by omega) (by omega) (sv_seven (P := fun x => ∀ i, h61 (76 + 19 * x) i = h (76 + 19 * x) i) (fun i => ((u61 76 i (fn_a (by decide) fn_0)).trans (u59 76 i (fn_a (by omega) fn_0)))) (fun i => ((u61 95 i (fn_a (by decide) fn_0)).trans (u59 95 i (fn_a (by omega) fn_0)))) (fun i => ((u61 114 i (fn_a (by decide) fn_0)).trans (u59 114 i (fn_a (by omega) fn_0)))) (fun i => ((u61 133 i (fn_a (by decide) fn_0)).trans (u59 133 i (fn_a (by omega) fn_0)))) (fun i => ((u61 152 i (fn_a (by decide) fn_0)).trans (u59 152 i (fn_a (by omega) fn_0)))) (fun i => ((u61 171 i (fn_a (by decide) fn_0)).trans (u59 171 i (fn_a (by omega) fn_0)))) (fun i => ((u61 190 i (fn_a (by decide) fn_0)).trans (u59 190 i (fn_a (by omega) fn_0))))) (by omega) (by omega), nb120⟩
    have gq125 := GQS.fr u59 rfl gq0
    have gq126 := GQS.fr u61 rfl gq125
    have q127 : h61 8 = h 8 := funext (fun i => ((u61 8 i (fo_no_ok (by decide) i)).trans (u59 8 i rfl)))
    have q128 : h61 7 = h 7 := funext (fun i => ((u61 7 i (fo_no_ok (by decide) i)).trans (u59 7 i rfl)))
    have q129 : h61 215 = h 215 := funext (fun i => ((u61 215 i (fo_no_ok (by decide) i)).trans (u59 215 i rfl)))
    have q130 : h61 218 = h 218 := funext (fun i => ((u61 218 i (fo_no_ok (by decide) i)).trans (u59 218 i rfl)))
    have q131 : h61 214 = h 214 := funext (fun i => ((u61 214 i (fo_no_ok (by decide) i)).trans (u59 214 i rfl)))
    have q132 : h61 241 = h 241 := funext (fun i => ((u61 241 i (fo_no_ok (by decide) i)).trans (u59 241 i rfl)))
    exact k h61 b c ⟨⟨g61, (show h61 1 1 = h61 236 2 by omega), (RS.i0 (f := h61 238) (by refine ⟨?_, ?_, ?_, ?_, ?_⟩ <;> omega)), (RS.i0 (f := h61 241) (by refine ⟨?_, ?_, ?_, ?_, ?_⟩ <;> omega)), gp94, (BRh.keep br0 (fun i => ((u61 2 i (fn_a (by decide) fn_0)).trans (u59 2 i (fn_a (by omega) fn_0)))) (fun i => ((u61 237 i (fn_a (by decide) fn_0)).trans (u59 237 i (fn_a (by omega) fn_0)))) (by omega)), (show h61 1 2 = h61 236 10 by omega), (show h61 1 3 = h61 236 11 by omega), (SVx.keep sv0 (by omega) (fun i _ => ((u61 3 i (fn_a (by decide) fn_0)).trans (u59 3 i (fn_a (by omega) fn_0)))) (fun i _ => ((u61 5 i (fn_a (by decide) fn_0)).trans (u59 5 i (fn_a (by omega) fn_0)))) (fun i _ => ((u61 6 i (fn_a (by decide) fn_0)).trans (u59 6 i (fn_a (by omega) fn_0)))) (fun i _ => ((u61 8 i (fn_a (by decide) fn_0)).trans (u59 8 i (fn_a (by omega) fn_0)))) (fun i _ => ((u61 238 i (fn_a (by decide) fn_0)).trans (u59 238 i (fn_a (by omega) fn_0))))), (show h61 0 12 = h61 236 21 by omega), (fun e => (SVx.keep (ss0 (by omega)) (by omega) (fun i _ => ((u61 210 i (fn_a (by decide) fn_0)).trans (u59 210 i (fn_a (by omega) fn_0)))) (fun i _ => ((u61 212 i (fn_a (by decide) fn_0)).trans (u59 212 i (fn_a (by omega) fn_0)))) (fun i _ => ((u61 213 i (fn_a (by decide) fn_0)).trans (u59 213 i (fn_a (by omega) fn_0)))) (fun i _ => ((u61 215 i (fn_a (by decide) fn_0)).trans (u59 215 i (fn_a (by omega) fn_0)))) (fun i _ => ((u61 241 i (fn_a (by decide) fn_0)).trans (u59 241 i (fn_a (by omega) fn_0)))))), gs98, mi114, (show h61 63 5 ≤ h61 18 16 by omega), (show (h61 63 5) < (h61 18 16) ∨ ((h61 18 7) ≤ (h61 3 2) ∧ (h61 66 1) = (h61 3 2) - (h61 18 7)) ∨ ((h61 3 2) < (h61 18 7) ∧ (h61 66 1) = 0) by omega), gq126, (MR.mv mr0 (MSN.then (MSN.refl) (fun i _ => ((u61 238 i (fn_a (by decide) fn_0)).trans (u59 238 i (fn_a (by omega) fn_0))))) (by omega) q127 q128 (by omega)), (fun e => SM.mv (sm0 (by omega)) q129 q130 q131 (by omega) q132)⟩, (by omega)⟩ (by omega) (by omega)
  ·
    refine wk_h 15 (by decide) rfl ?_
    refine wr_astx (i := 3) (lo2 := [(3, .retAddr 0), (0, .ref 0), (1, vi ((xs i55).toInt)), (2, .ref 259)]) (nx := 16) (r1 := 0) (r2 := 0) (r3 := 0) rfl rfl ?_
    refine wi_iconst (n := 2) (nx := 17) (r1 := 0) (r2 := 0) (r3 := 0) rfl ?_
    refine wi_ireturn (nx := 18) (r1 := 0) (r2 := 0) (r3 := 0) rfl rfl ?_
    refine wk_i ?_
    refine wi_istore (i := 5) (e := 2) (lo2 := [(5, vi 2), (0, .ref 1000000), (1, .ref 0), (2, .ref 236), (3, .ref 259), (4, vi i)]) (nx := 842) (r1 := 0) (r2 := 0) (r3 := 0) rfl rfl ?_
    refine wi_aload_n (i := 2) (x := 236) (nx := 843) (r1 := 0) (r2 := 0) (r3 := 0) rfl rfl ?_
    refine wi_aload_n (i := 0) (x := 1000000) (nx := 844) (r1 := 0) (r2 := 0) (r3 := 0) rfl rfl ?_
    refine wi_iload (i := 4) (e := i) (nx := 846) (r1 := 0) (r2 := 0) (r3 := 0) rfl rfl ?_
    refine wi_iconst (n := 1) (nx := 847) (r1 := 0) (r2 := 0) (r3 := 0) rfl ?_
    refine wr_add (nx := 848) (r1 := 0) (r2 := 0) (r3 := 0) rfl (fun e59 (fe59 : e59 = i + 1) => ?_)
    refine wr_sc (a := e59) (f := i55) (nx := 849) (r1 := 0) (r2 := 0) (r3 := 0) rfl (by omega) (by omega) hL ?_
    refine wr_V (k0 := 236) (rest := []) (as := [.ref 236, vi ((xs i55).toInt)]) (nx := 852) (r1 := 262) (r2 := 1) (r3 := 11) rfl rfl rfl (of_decide_eq_true rfl) rfl rfl (by decide) rfl rfl (of_decide_eq_true rfl) (of_decide_eq_true rfl) ?_
    refine ct_262_236 hcr  g ((xs i55).toInt) (by omega)  (fun h60 z61 g60 u60 (fz61 : -12 ≤ z61 ∧ z61 ≤ 11) => ?_)
    refine wk_i ?_
    refine wi_istore (i := 6) (e := z61) (lo2 := [(6, vi z61), (5, vi 2), (0, .ref 1000000), (1, .ref 0), (2, .ref 236), (3, .ref 259), (4, vi i)]) (nx := 854) (r1 := 0) (r2 := 0) (r3 := 0) rfl rfl ?_
    refine wi_goto (nx := 857) (r1 := 1501) (r2 := 0) (r3 := 0) rfl ?_
    refine wp.lo (lo := [(0, .ref 1000000), (1, .ref 0), (2, .ref 236), (3, .ref 259), (4, vi i)]) ⟨rfl, rfl, rfl, rfl, rfl, trivial⟩ rfl ?_
    have e62 : h60 238 98 = h 238 98 := (u60 238 98 rfl)
    have e63 : h60 238 99 = h 238 99 := (u60 238 99 rfl)
    have e64 : h60 238 100 = h 238 100 := (u60 238 100 rfl)
    have e65 : h60 238 101 = h 238 101 := (u60 238 101 rfl)
    have e66 : h60 238 102 = h 238 102 := (u60 238 102 rfl)
    have e67 : h60 238 106 = h 238 106 := (u60 238 106 rfl)
    have e68 : h60 238 73 = h 238 73 := (u60 238 73 rfl)
    have e69 : h60 238 2 = h 238 2 := (u60 238 2 rfl)
    have e70 : h60 238 119 = h 238 119 := (u60 238 119 rfl)
    have e71 : h60 238 67 = h 238 67 := (u60 238 67 rfl)
    have e72 : h60 238 69 = h 238 69 := (u60 238 69 rfl)
    have e73 : h60 238 5 = h 238 5 := (u60 238 5 rfl)
    have e74 : h60 241 98 = h 241 98 := (u60 241 98 rfl)
    have e75 : h60 241 99 = h 241 99 := (u60 241 99 rfl)
    have e76 : h60 241 100 = h 241 100 := (u60 241 100 rfl)
    have e77 : h60 241 101 = h 241 101 := (u60 241 101 rfl)
    have e78 : h60 241 102 = h 241 102 := (u60 241 102 rfl)
    have e79 : h60 241 106 = h 241 106 := (u60 241 106 rfl)
    have e80 : h60 241 73 = h 241 73 := (u60 241 73 rfl)
    have e81 : h60 241 2 = h 241 2 := (u60 241 2 rfl)
    have e82 : h60 241 119 = h 241 119 := (u60 241 119 rfl)
    have e83 : h60 241 67 = h 241 67 := (u60 241 67 rfl)
    have e84 : h60 241 69 = h 241 69 := (u60 241 69 rfl)
    have e85 : h60 241 5 = h 241 5 := (u60 241 5 rfl)
    have e86 : h60 1 1 = h 1 1 := (u60 1 1 rfl)
    have e87 : h60 236 2 = h 236 2 := (u60 236 2 rfl)
    have e88 : h60 1 2 = h 1 2 := (u60 1 2 rfl)
    have e89 : h60 236 10 = h 236 10 := (u60 236 10 rfl)
    have e90 : h60 1 3 = h 1 3 := (u60 1 3 rfl)
    have e91 : h60 236 11 = h 236 11 := (u60 236 11 rfl)
    have gp92 := GPH.fr u60 rfl gp0
    have b93 := gi_b (lo := 0) (hi := 5) g 241 0 rfl
    have b94 := gi_b (lo := 0) (hi := 4) g 241 1 rfl
    have gs95 := GPS.fr u60 rfl gs0
    have e96 : h60 0 12 = h 0 12 := (u60 0 12 rfl)
    have e97 : h60 236 21 = h 236 21 := (u60 236 21 rfl)
    have e98 : h60 63 5 = h 63 5 := (u60 63 5 rfl)
    have e99 : h60 18 16 = h 18 16 := (u60 18 16 rfl)
    have e100 : h60 18 7 = h 18 7 := (u60 18 7 rfl)
    have e101 : h60 3 2 = h 3 2 := (u60 3 2 rfl)
    have e102 : h60 66 1 = h 66 1 := (u60 66 1 rfl)
    have b103 := gi_b (lo := 0) (hi := 6) g 73 1 rfl
    have e104 : h60 73 1 = h 73 1 := (u60 73 1 rfl)
    have b105 := gi_b (lo := 0) (hi := 6) g 73 2 rfl
    have e106 : h60 73 2 = h 73 2 := (u60 73 2 rfl)
    have b107 := gi_b (lo := 0) (hi := 6) g 236 22 rfl
    have e108 : h60 236 22 = h 236 22 := (u60 236 22 rfl)
    have b109 := gi_b (lo := 0) (hi := 12) g 210 2 rfl
    have e110 : h60 210 2 = h 210 2 := (u60 210 2 rfl)
    have q113 : h60 8 = h 8 := funext (fun i => (u60 8 i (fo_no_ok (by decide) i)))
    have q114 : h60 7 = h 7 := funext (fun i => (u60 7 i (fo_no_ok (by decide) i)))
    have q115 : h60 19 = h 19 := funext (fun i => (u60 19 i (fo_no_ok (by decide) i)))
    have q116 : h60 67 = h 67 := funext (fun i => (u60 67 i (fo_no_ok (by decide) i)))
    have ml112 : MCL h60 := MCL.mv mi0.1 q113 q114 q115 q116 (by omega) (by omega) (by omega) (by omega)
    have q118 : h60 69 = h 69 := funext (fun i => (u60 69 i (fo_no_ok (by decide) i)))
    have q119 : h60 70 = h 70 := funext (fun i => (u60 70 i (fo_no_ok (by decide) i)))
    have nb117 : NBc (h60 69) (h60 70) := by rw [q118, q119]; exact mi0.2.2
    have q120 : h60 8 = h 8 := funext (fun i => (u60 8 i (fo_no_ok (by decide) i)))
    have q121 : h60 7 = h 7 := funext (fun i => (u60 7 i (fo_no_ok (by decide) i)))
    have mi111 : MCI h60 := ⟨ml112, HIv.mv mi0.2.1 q120 q121 (by omega) (by omega) (sv_seven (P := fun x => ∀ i, h60 (76 + 19 * x) i = h (76 + 19 * x) i) (fun i => (u60 76 i (fn_a (by decide) fn_0))) (fun i => (u60 95 i (fn_a (by decide) fn_0))) (fun i => (u60 114 i (fn_a (by decide) fn_0))) (fun i => (u60 133 i (fn_a (by decide) fn_0))) (fun i => (u60 152 i (fn_a (by decide) fn_0))) (fun i => (u60 171 i (fn_a (by decide) fn_0))) (fun i => (u60 190 i (fn_a (by decide) fn_0)))) (by omega) (by omega), nb117⟩
    have gq122 := GQS.fr u60 rfl gq0
    have q123 : h60 8 = h 8 := funext (fun i => (u60 8 i (fo_no_ok (by decide) i)))
    have q124 : h60 7 = h 7 := funext (fun i => (u60 7 i (fo_no_ok (by decide) i)))
    have q125 : h60 215 = h 215 := funext (fun i => (u60 215 i (fo_no_ok (by decide) i)))
    have q126 : h60 218 = h 218 := funext (fun i => (u60 218 i (fo_no_ok (by decide) i)))
    have q127 : h60 214 = h 214 := funext (fun i => (u60 214 i (fo_no_ok (by decide) i)))
    have q128 : h60 241 = h 241 := funext (fun i => (u60 241 i (fo_no_ok (by decide) i)))
    exact k h60 (b - 1) (c - 6) ⟨⟨g60, (show h60 1 1 = h60 236 2 by omega), (RS.i0 (f := h60 238) (by refine ⟨?_, ?_, ?_, ?_, ?_⟩ <;> omega)), (RS.i0 (f := h60 241) (by refine ⟨?_, ?_, ?_, ?_, ?_⟩ <;> omega)), gp92, (BRh.keep br0 (fun i => (u60 2 i (fn_a (by decide) fn_0))) (fun i => (u60 237 i (fn_a (by decide) fn_0))) (by omega)), (show h60 1 2 = h60 236 10 by omega), (show h60 1 3 = h60 236 11 by omega), (SVx.keep sv0 (by omega) (fun i _ => (u60 3 i (fn_a (by decide) fn_0))) (fun i _ => (u60 5 i (fn_a (by decide) fn_0))) (fun i _ => (u60 6 i (fn_a (by decide) fn_0))) (fun i _ => (u60 8 i (fn_a (by decide) fn_0))) (fun i _ => (u60 238 i (fn_a (by decide) fn_0)))), (show h60 0 12 = h60 236 21 by omega), (fun e => (SVx.keep (ss0 (by omega)) (by omega) (fun i _ => (u60 210 i (fn_a (by decide) fn_0))) (fun i _ => (u60 212 i (fn_a (by decide) fn_0))) (fun i _ => (u60 213 i (fn_a (by decide) fn_0))) (fun i _ => (u60 215 i (fn_a (by decide) fn_0))) (fun i _ => (u60 241 i (fn_a (by decide) fn_0))))), gs95, mi111, (show h60 63 5 ≤ h60 18 16 by omega), (show (h60 63 5) < (h60 18 16) ∨ ((h60 18 7) ≤ (h60 3 2) ∧ (h60 66 1) = (h60 3 2) - (h60 18 7)) ∨ ((h60 3 2) < (h60 18 7) ∧ (h60 66 1) = 0) by omega), gq122, (MR.mv mr0 (MSN.then (MSN.refl) (fun i _ => (u60 238 i (fn_a (by decide) fn_0)))) (by omega) q123 q124 (by omega)), (fun e => SM.mv (sm0 (by omega)) q125 q126 q127 (by omega) q128)⟩, (by omega)⟩ (by omega) (by omega)
  ·
    refine wk_h 12 (by decide) rfl ?_
    refine wr_astx (i := 3) (lo2 := [(3, .retAddr 0), (0, .ref 0), (1, vi ((xs i55).toInt)), (2, .ref 259)]) (nx := 13) (r1 := 0) (r2 := 0) (r3 := 0) rfl rfl ?_
    refine wi_iconst (n := 1) (nx := 14) (r1 := 0) (r2 := 0) (r3 := 0) rfl ?_
    refine wi_ireturn (nx := 15) (r1 := 0) (r2 := 0) (r3 := 0) rfl rfl ?_
    refine wk_i ?_
    refine wi_istore (i := 5) (e := 1) (lo2 := [(5, vi 1), (0, .ref 1000000), (1, .ref 0), (2, .ref 236), (3, .ref 259), (4, vi i)]) (nx := 842) (r1 := 0) (r2 := 0) (r3 := 0) rfl rfl ?_
    refine wi_aload_n (i := 2) (x := 236) (nx := 843) (r1 := 0) (r2 := 0) (r3 := 0) rfl rfl ?_
    refine wi_aload_n (i := 0) (x := 1000000) (nx := 844) (r1 := 0) (r2 := 0) (r3 := 0) rfl rfl ?_
    refine wi_iload (i := 4) (e := i) (nx := 846) (r1 := 0) (r2 := 0) (r3 := 0) rfl rfl ?_
    refine wi_iconst (n := 1) (nx := 847) (r1 := 0) (r2 := 0) (r3 := 0) rfl ?_
    refine wr_add (nx := 848) (r1 := 0) (r2 := 0) (r3 := 0) rfl (fun e59 (fe59 : e59 = i + 1) => ?_)
    refine wr_sc (a := e59) (f := i55) (nx := 849) (r1 := 0) (r2 := 0) (r3 := 0) rfl (by omega) (by omega) hL ?_
    refine wr_V (k0 := 236) (rest := []) (as := [.ref 236, vi ((xs i55).toInt)]) (nx := 852) (r1 := 262) (r2 := 1) (r3 := 11) rfl rfl rfl (of_decide_eq_true rfl) rfl rfl (by decide) rfl rfl (of_decide_eq_true rfl) (of_decide_eq_true rfl) ?_
    refine ct_262_236 hcr  g ((xs i55).toInt) (by omega)  (fun h60 z61 g60 u60 (fz61 : -12 ≤ z61 ∧ z61 ≤ 11) => ?_)
    refine wk_i ?_
    refine wi_istore (i := 6) (e := z61) (lo2 := [(6, vi z61), (5, vi 1), (0, .ref 1000000), (1, .ref 0), (2, .ref 236), (3, .ref 259), (4, vi i)]) (nx := 854) (r1 := 0) (r2 := 0) (r3 := 0) rfl rfl ?_
    refine wi_goto (nx := 857) (r1 := 1501) (r2 := 0) (r3 := 0) rfl ?_
    refine wp.lo (lo := [(0, .ref 1000000), (1, .ref 0), (2, .ref 236), (3, .ref 259), (4, vi i)]) ⟨rfl, rfl, rfl, rfl, rfl, trivial⟩ rfl ?_
    have e62 : h60 238 98 = h 238 98 := (u60 238 98 rfl)
    have e63 : h60 238 99 = h 238 99 := (u60 238 99 rfl)
    have e64 : h60 238 100 = h 238 100 := (u60 238 100 rfl)
    have e65 : h60 238 101 = h 238 101 := (u60 238 101 rfl)
    have e66 : h60 238 102 = h 238 102 := (u60 238 102 rfl)
    have e67 : h60 238 106 = h 238 106 := (u60 238 106 rfl)
    have e68 : h60 238 73 = h 238 73 := (u60 238 73 rfl)
    have e69 : h60 238 2 = h 238 2 := (u60 238 2 rfl)
    have e70 : h60 238 119 = h 238 119 := (u60 238 119 rfl)
    have e71 : h60 238 67 = h 238 67 := (u60 238 67 rfl)
    have e72 : h60 238 69 = h 238 69 := (u60 238 69 rfl)
    have e73 : h60 238 5 = h 238 5 := (u60 238 5 rfl)
    have e74 : h60 241 98 = h 241 98 := (u60 241 98 rfl)
    have e75 : h60 241 99 = h 241 99 := (u60 241 99 rfl)
    have e76 : h60 241 100 = h 241 100 := (u60 241 100 rfl)
    have e77 : h60 241 101 = h 241 101 := (u60 241 101 rfl)
    have e78 : h60 241 102 = h 241 102 := (u60 241 102 rfl)
    have e79 : h60 241 106 = h 241 106 := (u60 241 106 rfl)
    have e80 : h60 241 73 = h 241 73 := (u60 241 73 rfl)
    have e81 : h60 241 2 = h 241 2 := (u60 241 2 rfl)
    have e82 : h60 241 119 = h 241 119 := (u60 241 119 rfl)
    have e83 : h60 241 67 = h 241 67 := (u60 241 67 rfl)
    have e84 : h60 241 69 = h 241 69 := (u60 241 69 rfl)
    have e85 : h60 241 5 = h 241 5 := (u60 241 5 rfl)
    have e86 : h60 1 1 = h 1 1 := (u60 1 1 rfl)
    have e87 : h60 236 2 = h 236 2 := (u60 236 2 rfl)
    have e88 : h60 1 2 = h 1 2 := (u60 1 2 rfl)
    have e89 : h60 236 10 = h 236 10 := (u60 236 10 rfl)
    have e90 : h60 1 3 = h 1 3 := (u60 1 3 rfl)
    have e91 : h60 236 11 = h 236 11 := (u60 236 11 rfl)
    have gp92 := GPH.fr u60 rfl gp0
    have b93 := gi_b (lo := 0) (hi := 5) g 241 0 rfl
    have b94 := gi_b (lo := 0) (hi := 4) g 241 1 rfl
    have gs95 := GPS.fr u60 rfl gs0
    have e96 : h60 0 12 = h 0 12 := (u60 0 12 rfl)
    have e97 : h60 236 21 = h 236 21 := (u60 236 21 rfl)
    have e98 : h60 63 5 = h 63 5 := (u60 63 5 rfl)
    have e99 : h60 18 16 = h 18 16 := (u60 18 16 rfl)
    have e100 : h60 18 7 = h 18 7 := (u60 18 7 rfl)
    have e101 : h60 3 2 = h 3 2 := (u60 3 2 rfl)
    have e102 : h60 66 1 = h 66 1 := (u60 66 1 rfl)
    have b103 := gi_b (lo := 0) (hi := 6) g 73 1 rfl
    have e104 : h60 73 1 = h 73 1 := (u60 73 1 rfl)
    have b105 := gi_b (lo := 0) (hi := 6) g 73 2 rfl
    have e106 : h60 73 2 = h 73 2 := (u60 73 2 rfl)
    have b107 := gi_b (lo := 0) (hi := 6) g 236 22 rfl
    have e108 : h60 236 22 = h 236 22 := (u60 236 22 rfl)
    have b109 := gi_b (lo := 0) (hi := 12) g 210 2 rfl
    have e110 : h60 210 2 = h 210 2 := (u60 210 2 rfl)
    have q113 : h60 8 = h 8 := funext (fun i => (u60 8 i (fo_no_ok (by decide) i)))
    have q114 : h60 7 = h 7 := funext (fun i => (u60 7 i (fo_no_ok (by decide) i)))
    have q115 : h60 19 = h 19 := funext (fun i => (u60 19 i (fo_no_ok (by decide) i)))
    have q116 : h60 67 = h 67 := funext (fun i => (u60 67 i (fo_no_ok (by decide) i)))
    have ml112 : MCL h60 := MCL.mv mi0.1 q113 q114 q115 q116 (by omega) (by omega) (by omega) (by omega)
    have q118 : h60 69 = h 69 := funext (fun i => (u60 69 i (fo_no_ok (by decide) i)))
    have q119 : h60 70 = h 70 := funext (fun i => (u60 70 i (fo_no_ok (by decide) i)))
    have nb117 : NBc (h60 69) (h60 70) := by rw [q118, q119]; exact mi0.2.2
    have q120 : h60 8 = h 8 := funext (fun i => (u60 8 i (fo_no_ok (by decide) i)))
    have q121 : h60 7 = h 7 := funext (fun i => (u60 7 i (fo_no_ok (by decide) i)))
    have mi111 : MCI h60 := ⟨ml112, HIv.mv mi0.2.1 q120 q121 (by omega) (by omega) (sv_seven (P := fun x => ∀ i, h60 (76 + 19 * x) i = h (76 + 19 * x) i) (fun i => (u60 76 i (fn_a (by decide) fn_0))) (fun i => (u60 95 i (fn_a (by decide) fn_0))) (fun i => (u60 114 i (fn_a (by decide) fn_0))) (fun i => (u60 133 i (fn_a (by decide) fn_0))) (fun i => (u60 152 i (fn_a (by decide) fn_0))) (fun i => (u60 171 i (fn_a (by decide) fn_0))) (fun i => (u60 190 i (fn_a (by decide) fn_0)))) (by omega) (by omega), nb117⟩
    have gq122 := GQS.fr u60 rfl gq0
    have q123 : h60 8 = h 8 := funext (fun i => (u60 8 i (fo_no_ok (by decide) i)))
    have q124 : h60 7 = h 7 := funext (fun i => (u60 7 i (fo_no_ok (by decide) i)))
    have q125 : h60 215 = h 215 := funext (fun i => (u60 215 i (fo_no_ok (by decide) i)))
    have q126 : h60 218 = h 218 := funext (fun i => (u60 218 i (fo_no_ok (by decide) i)))
    have q127 : h60 214 = h 214 := funext (fun i => (u60 214 i (fo_no_ok (by decide) i)))
    have q128 : h60 241 = h 241 := funext (fun i => (u60 241 i (fo_no_ok (by decide) i)))
    exact k h60 (b - 1) (c - 6) ⟨⟨g60, (show h60 1 1 = h60 236 2 by omega), (RS.i0 (f := h60 238) (by refine ⟨?_, ?_, ?_, ?_, ?_⟩ <;> omega)), (RS.i0 (f := h60 241) (by refine ⟨?_, ?_, ?_, ?_, ?_⟩ <;> omega)), gp92, (BRh.keep br0 (fun i => (u60 2 i (fn_a (by decide) fn_0))) (fun i => (u60 237 i (fn_a (by decide) fn_0))) (by omega)), (show h60 1 2 = h60 236 10 by omega), (show h60 1 3 = h60 236 11 by omega), (SVx.keep sv0 (by omega) (fun i _ => (u60 3 i (fn_a (by decide) fn_0))) (fun i _ => (u60 5 i (fn_a (by decide) fn_0))) (fun i _ => (u60 6 i (fn_a (by decide) fn_0))) (fun i _ => (u60 8 i (fn_a (by decide) fn_0))) (fun i _ => (u60 238 i (fn_a (by decide) fn_0)))), (show h60 0 12 = h60 236 21 by omega), (fun e => (SVx.keep (ss0 (by omega)) (by omega) (fun i _ => (u60 210 i (fn_a (by decide) fn_0))) (fun i _ => (u60 212 i (fn_a (by decide) fn_0))) (fun i _ => (u60 213 i (fn_a (by decide) fn_0))) (fun i _ => (u60 215 i (fn_a (by decide) fn_0))) (fun i _ => (u60 241 i (fn_a (by decide) fn_0))))), gs95, mi111, (show h60 63 5 ≤ h60 18 16 by omega), (show (h60 63 5) < (h60 18 16) ∨ ((h60 18 7) ≤ (h60 3 2) ∧ (h60 66 1) = (h60 3 2) - (h60 18 7)) ∨ ((h60 3 2) < (h60 18 7) ∧ (h60 66 1) = 0) by omega), gq122, (MR.mv mr0 (MSN.then (MSN.refl) (fun i _ => (u60 238 i (fn_a (by decide) fn_0)))) (by omega) q123 q124 (by omega)), (fun e => SM.mv (sm0 (by omega)) q125 q126 q127 (by omega) q128)⟩, (by omega)⟩ (by omega) (by omega)
-- the law, case at 857
set_option maxRecDepth 100000 in
set_option maxHeartbeats 100000000 in
theorem lc_857 {L : Nat} {xs : Nat → Int32} {d b c : Nat} {h : hp} {cr : Nat → Nat → Option Nat} {Q : hp_Q} (hcr : CR cr) (hL : L ≤ 3072) (hr : 1 ≤ b ∧ 6 ≤ c) (i : Int) (I : LIm i h) (hi : 0 ≤ i ∧ i + 6 ≤ L) (k : ∀ (h2 : hp) (b2 c2 : Nat), LIm (i + 6) h2 → b ≤ b2 + 1 → c ≤ c2 + 6 → wp (md_xa (L, xs)) (d + 107) 0 (1501, [(0, .ref 1000000), (1, .ref 0), (2, .ref 236), (3, .ref 259), (4, vi i)], [], hp_w h2 cr, b2, c2) Q) : wp (md_xa (L, xs)) (d + 107) 0 (857, [(0, .ref 1000000), (1, .ref 0), (2, .ref 236), (3, .ref 259), (4, vi i)], [], hp_w h cr, b, c) Q := by
  obtain ⟨⟨g, i11, r238, r241, gp0, br0, er2, er3, sv0, sf0, ss0, gs0, mi0, ml1, ml2, gq0, mr0, sm0⟩, ie0⟩ := I
  have r238e := r238.e0
  have r241e := r241.e0
  obtain ⟨⟨se0, se1, se2, se3, se4, se5, se6, se7, se8, se9⟩, -⟩ := id sv0
  have b1 := gi_b (lo := 0) (hi := 5) g 3 0 rfl
  have b2 := gi_b (lo := 0) (hi := 5) g 238 0 rfl
  have b3 := gi_b (lo := 0) (hi := 4) g 3 1 rfl
  have b4 := gi_b (lo := 0) (hi := 4) g 238 1 rfl
  have b5 := gi_b (lo := 0) (hi := 12) g 3 2 rfl
  have b6 := gi_b (lo := 0) (hi := 12) g 238 2 rfl
  have b7 := gi_b (lo := -2147483648) (hi := 2147483647) g 3 3 rfl
  have b8 := gi_b (lo := 0) (hi := 999) g 238 3 rfl
  have b9 := gi_b (lo := -2147483648) (hi := 2147483647) g 3 4 rfl
  have b10 := gi_b (lo := 0) (hi := 999) g 238 4 rfl
  have b11 := gi_b (lo := -2147483648) (hi := 2147483647) g 3 5 rfl
  have b12 := gi_b (lo := 0) (hi := 9) g 238 5 rfl
  have b13 := gi_b (lo := -2147483648) (hi := 2147483647) g 3 6 rfl
  have b14 := gi_b (lo := 0) (hi := 999) g 238 6 rfl
  have b15 := gi_b (lo := -2147483648) (hi := 2147483647) g 3 7 rfl
  have b16 := gi_b (lo := 0) (hi := 3) g 238 7 rfl
  have b17 := gi_b (lo := -2147483648) (hi := 2147483647) g 3 8 rfl
  have b18 := gi_b (lo := 0) (hi := 999) g 238 8 rfl
  have b19 := gi_b (lo := -2147483648) (hi := 2147483647) g 3 9 rfl
  have b20 := gi_b (lo := 0) (hi := 999) g 238 9 rfl
  have b21 := gi_b (lo := -2147483648) (hi := 2147483647) g 63 5 rfl
  have b22 := gi_b (lo := 0) (hi := 12) g 18 7 rfl
  have b23 := gi_b (lo := 0) (hi := 12) g 66 1 rfl
  have b24 := gi_b (lo := 0) (hi := 1) g 0 12 rfl
  have b25 := gi_b (lo := 0) (hi := 1) g 236 21 rfl
  have bl_ := gi_b (lo := 0) (hi := 800) g 1 1 rfl
  have tb0 : BufC (h 2) (h 1 1) h := ⟨fun _ => rfl, rfl, by omega, by omega⟩
  have b26 := gi_b (lo := 0) (hi := 6) g 238 98 rfl
  have b27 := gi_b (lo := 0) (hi := 6) g 238 99 rfl
  have b28 := gi_b (lo := 0) (hi := 6) g 238 100 rfl
  have b29 := gi_b (lo := 0) (hi := 6) g 238 101 rfl
  have b30 := gi_b (lo := 0) (hi := 3) g 238 102 rfl
  have b31 := gi_b (lo := 0) (hi := 12) g 238 106 rfl
  have b32 := gi_b (lo := 0) (hi := 12) g 238 73 rfl
  have b33 := gi_b (lo := 0) (hi := 9999) g 238 119 rfl
  have b34 := gi_b (lo := 0) (hi := 9999) g 238 67 rfl
  have b35 := gi_b (lo := 0) (hi := 9) g 238 69 rfl
  have b36 := gi_b (lo := 0) (hi := 6) g 241 98 rfl
  have b37 := gi_b (lo := 0) (hi := 6) g 241 99 rfl
  have b38 := gi_b (lo := 0) (hi := 6) g 241 100 rfl
  have b39 := gi_b (lo := 0) (hi := 6) g 241 101 rfl
  have b40 := gi_b (lo := 0) (hi := 3) g 241 102 rfl
  have b41 := gi_b (lo := 0) (hi := 12) g 241 106 rfl
  have b42 := gi_b (lo := 0) (hi := 12) g 241 73 rfl
  have b43 := gi_b (lo := 0) (hi := 12) g 241 2 rfl
  have b44 := gi_b (lo := 0) (hi := 9999) g 241 119 rfl
  have b45 := gi_b (lo := 0) (hi := 9999) g 241 67 rfl
  have b46 := gi_b (lo := 0) (hi := 9) g 241 69 rfl
  have b47 := gi_b (lo := 0) (hi := 9) g 241 5 rfl
  have b48 := gi_b (lo := 0) (hi := 800) g 1 1 rfl
  have b49 := gi_b (lo := 0) (hi := 800) g 236 2 rfl
  have b50 := gi_b (lo := -2147483648) (hi := 2147483647) g 1 2 rfl
  have b51 := gi_b (lo := -2147483648) (hi := 2147483647) g 236 10 rfl
  have b52 := gi_b (lo := -2147483648) (hi := 2147483647) g 1 3 rfl
  have b53 := gi_b (lo := -2147483648) (hi := 2147483647) g 236 11 rfl
  refine wi_aload_n (i := 1) (x := 0) (nx := 858) (r1 := 0) (r2 := 0) (r3 := 0) rfl rfl ?_
  refine wr_V (k0 := 0) (rest := []) (as := [.ref 0]) (nx := 861) (r1 := 36) (r2 := 0) (r3 := 0) rfl rfl rfl (of_decide_eq_true rfl) rfl rfl (by decide) rfl rfl (of_decide_eq_true rfl) (of_decide_eq_true rfl) ?_
  refine ct_36_0 hcr  g    (fun z55  (fz55 : -2147483648 ≤ z55 ∧ z55 ≤ 2147483647) => ?_)
  refine wk_i ?_
  refine wi_pop (nx := 862) (r1 := 0) (r2 := 0) (r3 := 0) rfl rfl ?_
  refine wi_aload_n (i := 2) (x := 236) (nx := 863) (r1 := 0) (r2 := 0) (r3 := 0) rfl rfl ?_
  refine wr_V (k0 := 236) (rest := []) (as := [.ref 236]) (nx := 866) (r1 := 263) (r2 := 0) (r3 := 11) rfl rfl rfl (of_decide_eq_true rfl) rfl rfl (by decide) rfl rfl (of_decide_eq_true rfl) (of_decide_eq_true rfl) ?_
  refine ct_263_236 hcr  g    (fun h56 z57 g56 u56 (fz57 : -2147483648 ≤ z57 ∧ z57 ≤ 2147483647) => ?_)
  refine wk_i ?_
  refine wi_pop (nx := 867) (r1 := 0) (r2 := 0) (r3 := 0) rfl rfl ?_
  refine wi_goto (nx := 870) (r1 := 1501) (r2 := 0) (r3 := 0) rfl ?_
  have e58 : h56 238 98 = h 238 98 := (u56 238 98 rfl)
  have e59 : h56 238 99 = h 238 99 := (u56 238 99 rfl)
  have e60 : h56 238 100 = h 238 100 := (u56 238 100 rfl)
  have e61 : h56 238 101 = h 238 101 := (u56 238 101 rfl)
  have e62 : h56 238 102 = h 238 102 := (u56 238 102 rfl)
  have e63 : h56 238 106 = h 238 106 := (u56 238 106 rfl)
  have e64 : h56 238 73 = h 238 73 := (u56 238 73 rfl)
  have e65 : h56 238 2 = h 238 2 := (u56 238 2 rfl)
  have e66 : h56 238 119 = h 238 119 := (u56 238 119 rfl)
  have e67 : h56 238 67 = h 238 67 := (u56 238 67 rfl)
  have e68 : h56 238 69 = h 238 69 := (u56 238 69 rfl)
  have e69 : h56 238 5 = h 238 5 := (u56 238 5 rfl)
  have e70 : h56 241 98 = h 241 98 := (u56 241 98 rfl)
  have e71 : h56 241 99 = h 241 99 := (u56 241 99 rfl)
  have e72 : h56 241 100 = h 241 100 := (u56 241 100 rfl)
  have e73 : h56 241 101 = h 241 101 := (u56 241 101 rfl)
  have e74 : h56 241 102 = h 241 102 := (u56 241 102 rfl)
  have e75 : h56 241 106 = h 241 106 := (u56 241 106 rfl)
  have e76 : h56 241 73 = h 241 73 := (u56 241 73 rfl)
  have e77 : h56 241 2 = h 241 2 := (u56 241 2 rfl)
  have e78 : h56 241 119 = h 241 119 := (u56 241 119 rfl)
  have e79 : h56 241 67 = h 241 67 := (u56 241 67 rfl)
  have e80 : h56 241 69 = h 241 69 := (u56 241 69 rfl)
  have e81 : h56 241 5 = h 241 5 := (u56 241 5 rfl)
  have e82 : h56 1 1 = h 1 1 := (u56 1 1 rfl)
  have e83 : h56 236 2 = h 236 2 := (u56 236 2 rfl)
  have e84 : h56 1 2 = h 1 2 := (u56 1 2 rfl)
  have e85 : h56 236 10 = h 236 10 := (u56 236 10 rfl)
  have e86 : h56 1 3 = h 1 3 := (u56 1 3 rfl)
  have e87 : h56 236 11 = h 236 11 := (u56 236 11 rfl)
  have gp88 := GPH.fr u56 rfl gp0
  have b89 := gi_b (lo := 0) (hi := 5) g 241 0 rfl
  have b90 := gi_b (lo := 0) (hi := 4) g 241 1 rfl
  have gs91 := GPS.fr u56 rfl gs0
  have e92 : h56 0 12 = h 0 12 := (u56 0 12 rfl)
  have e93 : h56 236 21 = h 236 21 := (u56 236 21 rfl)
  have e94 : h56 63 5 = h 63 5 := (u56 63 5 rfl)
  have e95 : h56 18 16 = h 18 16 := (u56 18 16 rfl)
  have e96 : h56 18 7 = h 18 7 := (u56 18 7 rfl)
  have e97 : h56 3 2 = h 3 2 := (u56 3 2 rfl)
  have e98 : h56 66 1 = h 66 1 := (u56 66 1 rfl)
  have b99 := gi_b (lo := 0) (hi := 6) g 73 1 rfl
  have e100 : h56 73 1 = h 73 1 := (u56 73 1 rfl)
  have b101 := gi_b (lo := 0) (hi := 6) g 73 2 rfl
  have e102 : h56 73 2 = h 73 2 := (u56 73 2 rfl)
  have b103 := gi_b (lo := 0) (hi := 6) g 236 22 rfl
  have e104 : h56 236 22 = h 236 22 := (u56 236 22 rfl)
  have b105 := gi_b (lo := 0) (hi := 12) g 210 2 rfl
  have e106 : h56 210 2 = h 210 2 := (u56 210 2 rfl)
  have q109 : h56 8 = h 8 := funext (fun i => (u56 8 i (fo_no_ok (by decide) i)))
  have q110 : h56 7 = h 7 := funext (fun i => (u56 7 i (fo_no_ok (by decide) i)))
  have q111 : h56 19 = h 19 := funext (fun i => (u56 19 i (fo_no_ok (by decide) i)))
  have q112 : h56 67 = h 67 := funext (fun i => (u56 67 i (fo_no_ok (by decide) i)))
  have ml108 : MCL h56 := MCL.mv mi0.1 q109 q110 q111 q112 (by omega) (by omega) (by omega) (by omega)
  have q114 : h56 69 = h 69 := funext (fun i => (u56 69 i (fo_no_ok (by decide) i)))
  have q115 : h56 70 = h 70 := funext (fun i => (u56 70 i (fo_no_ok (by decide) i)))
  have nb113 : NBc (h56 69) (h56 70) := by rw [q114, q115]; exact mi0.2.2
  have q116 : h56 8 = h 8 := funext (fun i => (u56 8 i (fo_no_ok (by decide) i)))
  have q117 : h56 7 = h 7 := funext (fun i => (u56 7 i (fo_no_ok (by decide) i)))
  have mi107 : MCI h56 := ⟨ml108, HIv.mv mi0.2.1 q116 q117 (by omega) (by omega) (sv_seven (P := fun x => ∀ i, h56 (76 + 19 * x) i = h (76 + 19 * x) i) (fun i => (u56 76 i (fn_a (by decide) fn_0))) (fun i => (u56 95 i (fn_a (by decide) fn_0))) (fun i => (u56 114 i (fn_a (by decide) fn_0))) (fun i => (u56 133 i (fn_a (by decide) fn_0))) (fun i => (u56 152 i (fn_a (by decide) fn_0))) (fun i => (u56 171 i (fn_a (by decide) fn_0))) (fun i => (u56 190 i (fn_a (by decide) fn_0)))) (by omega) (by omega), nb113⟩
  have gq118 := GQS.fr u56 rfl gq0
  have q119 : h56 8 = h 8 := funext (fun i => (u56 8 i (fo_no_ok (by decide) i)))
  have q120 : h56 7 = h 7 := funext (fun i => (u56 7 i (fo_no_ok (by decide) i)))
  have q121 : h56 215 = h 215 := funext (fun i => (u56 215 i (fo_no_ok (by decide) i)))
  have q122 : h56 218 = h 218 := funext (fun i => (u56 218 i (fo_no_ok (by decide) i)))
  have q123 : h56 214 = h 214 := funext (fun i => (u56 214 i (fo_no_ok (by decide) i)))
  have q124 : h56 241 = h 241 := funext (fun i => (u56 241 i (fo_no_ok (by decide) i)))
  exact k h56 b c ⟨⟨g56, (show h56 1 1 = h56 236 2 by omega), (RS.i0 (f := h56 238) (by refine ⟨?_, ?_, ?_, ?_, ?_⟩ <;> omega)), (RS.i0 (f := h56 241) (by refine ⟨?_, ?_, ?_, ?_, ?_⟩ <;> omega)), gp88, (BRh.keep br0 (fun i => (u56 2 i (fn_a (by decide) fn_0))) (fun i => (u56 237 i (fn_a (by decide) fn_0))) (by omega)), (show h56 1 2 = h56 236 10 by omega), (show h56 1 3 = h56 236 11 by omega), (SVx.keep sv0 (by omega) (fun i _ => (u56 3 i (fn_a (by decide) fn_0))) (fun i _ => (u56 5 i (fn_a (by decide) fn_0))) (fun i _ => (u56 6 i (fn_a (by decide) fn_0))) (fun i _ => (u56 8 i (fn_a (by decide) fn_0))) (fun i _ => (u56 238 i (fn_a (by decide) fn_0)))), (show h56 0 12 = h56 236 21 by omega), (fun e => (SVx.keep (ss0 (by omega)) (by omega) (fun i _ => (u56 210 i (fn_a (by decide) fn_0))) (fun i _ => (u56 212 i (fn_a (by decide) fn_0))) (fun i _ => (u56 213 i (fn_a (by decide) fn_0))) (fun i _ => (u56 215 i (fn_a (by decide) fn_0))) (fun i _ => (u56 241 i (fn_a (by decide) fn_0))))), gs91, mi107, (show h56 63 5 ≤ h56 18 16 by omega), (show (h56 63 5) < (h56 18 16) ∨ ((h56 18 7) ≤ (h56 3 2) ∧ (h56 66 1) = (h56 3 2) - (h56 18 7)) ∨ ((h56 3 2) < (h56 18 7) ∧ (h56 66 1) = 0) by omega), gq118, (MR.mv mr0 (MSN.then (MSN.refl) (fun i _ => (u56 238 i (fn_a (by decide) fn_0)))) (by omega) q119 q120 (by omega)), (fun e => SM.mv (sm0 (by omega)) q121 q122 q123 (by omega) q124)⟩, (by omega)⟩ (by omega) (by omega)
-- the law, case at 870
set_option maxRecDepth 100000 in
set_option maxHeartbeats 100000000 in
theorem lc_870 {L : Nat} {xs : Nat → Int32} {d b c : Nat} {h : hp} {cr : Nat → Nat → Option Nat} {Q : hp_Q} (hcr : CR cr) (hL : L ≤ 3072) (hr : 1 ≤ b ∧ 6 ≤ c) (i : Int) (I : LIm i h) (hi : 0 ≤ i ∧ i + 6 ≤ L) (k : ∀ (h2 : hp) (b2 c2 : Nat), LIm (i + 6) h2 → b ≤ b2 + 1 → c ≤ c2 + 6 → wp (md_xa (L, xs)) (d + 107) 0 (1501, [(0, .ref 1000000), (1, .ref 0), (2, .ref 236), (3, .ref 259), (4, vi i)], [], hp_w h2 cr, b2, c2) Q) : wp (md_xa (L, xs)) (d + 107) 0 (870, [(0, .ref 1000000), (1, .ref 0), (2, .ref 236), (3, .ref 259), (4, vi i)], [], hp_w h cr, b, c) Q := by
  obtain ⟨⟨g, i11, r238, r241, gp0, br0, er2, er3, sv0, sf0, ss0, gs0, mi0, ml1, ml2, gq0, mr0, sm0⟩, ie0⟩ := I
  have r238e := r238.e0
  have r241e := r241.e0
  obtain ⟨⟨se0, se1, se2, se3, se4, se5, se6, se7, se8, se9⟩, -⟩ := id sv0
  have b1 := gi_b (lo := 0) (hi := 5) g 3 0 rfl
  have b2 := gi_b (lo := 0) (hi := 5) g 238 0 rfl
  have b3 := gi_b (lo := 0) (hi := 4) g 3 1 rfl
  have b4 := gi_b (lo := 0) (hi := 4) g 238 1 rfl
  have b5 := gi_b (lo := 0) (hi := 12) g 3 2 rfl
  have b6 := gi_b (lo := 0) (hi := 12) g 238 2 rfl
  have b7 := gi_b (lo := -2147483648) (hi := 2147483647) g 3 3 rfl
  have b8 := gi_b (lo := 0) (hi := 999) g 238 3 rfl
  have b9 := gi_b (lo := -2147483648) (hi := 2147483647) g 3 4 rfl
  have b10 := gi_b (lo := 0) (hi := 999) g 238 4 rfl
  have b11 := gi_b (lo := -2147483648) (hi := 2147483647) g 3 5 rfl
  have b12 := gi_b (lo := 0) (hi := 9) g 238 5 rfl
  have b13 := gi_b (lo := -2147483648) (hi := 2147483647) g 3 6 rfl
  have b14 := gi_b (lo := 0) (hi := 999) g 238 6 rfl
  have b15 := gi_b (lo := -2147483648) (hi := 2147483647) g 3 7 rfl
  have b16 := gi_b (lo := 0) (hi := 3) g 238 7 rfl
  have b17 := gi_b (lo := -2147483648) (hi := 2147483647) g 3 8 rfl
  have b18 := gi_b (lo := 0) (hi := 999) g 238 8 rfl
  have b19 := gi_b (lo := -2147483648) (hi := 2147483647) g 3 9 rfl
  have b20 := gi_b (lo := 0) (hi := 999) g 238 9 rfl
  have b21 := gi_b (lo := -2147483648) (hi := 2147483647) g 63 5 rfl
  have b22 := gi_b (lo := 0) (hi := 12) g 18 7 rfl
  have b23 := gi_b (lo := 0) (hi := 12) g 66 1 rfl
  have b24 := gi_b (lo := 0) (hi := 1) g 0 12 rfl
  have b25 := gi_b (lo := 0) (hi := 1) g 236 21 rfl
  have bl_ := gi_b (lo := 0) (hi := 800) g 1 1 rfl
  have tb0 : BufC (h 2) (h 1 1) h := ⟨fun _ => rfl, rfl, by omega, by omega⟩
  have b26 := gi_b (lo := 0) (hi := 6) g 238 98 rfl
  have b27 := gi_b (lo := 0) (hi := 6) g 238 99 rfl
  have b28 := gi_b (lo := 0) (hi := 6) g 238 100 rfl
  have b29 := gi_b (lo := 0) (hi := 6) g 238 101 rfl
  have b30 := gi_b (lo := 0) (hi := 3) g 238 102 rfl
  have b31 := gi_b (lo := 0) (hi := 12) g 238 106 rfl
  have b32 := gi_b (lo := 0) (hi := 12) g 238 73 rfl
  have b33 := gi_b (lo := 0) (hi := 9999) g 238 119 rfl
  have b34 := gi_b (lo := 0) (hi := 9999) g 238 67 rfl
  have b35 := gi_b (lo := 0) (hi := 9) g 238 69 rfl
  have b36 := gi_b (lo := 0) (hi := 6) g 241 98 rfl
  have b37 := gi_b (lo := 0) (hi := 6) g 241 99 rfl
  have b38 := gi_b (lo := 0) (hi := 6) g 241 100 rfl
  have b39 := gi_b (lo := 0) (hi := 6) g 241 101 rfl
  have b40 := gi_b (lo := 0) (hi := 3) g 241 102 rfl
  have b41 := gi_b (lo := 0) (hi := 12) g 241 106 rfl
  have b42 := gi_b (lo := 0) (hi := 12) g 241 73 rfl
  have b43 := gi_b (lo := 0) (hi := 12) g 241 2 rfl
  have b44 := gi_b (lo := 0) (hi := 9999) g 241 119 rfl
  have b45 := gi_b (lo := 0) (hi := 9999) g 241 67 rfl
  have b46 := gi_b (lo := 0) (hi := 9) g 241 69 rfl
  have b47 := gi_b (lo := 0) (hi := 9) g 241 5 rfl
  have b48 := gi_b (lo := 0) (hi := 800) g 1 1 rfl
  have b49 := gi_b (lo := 0) (hi := 800) g 236 2 rfl
  have b50 := gi_b (lo := -2147483648) (hi := 2147483647) g 1 2 rfl
  have b51 := gi_b (lo := -2147483648) (hi := 2147483647) g 236 10 rfl
  have b52 := gi_b (lo := -2147483648) (hi := 2147483647) g 1 3 rfl
  have b53 := gi_b (lo := -2147483648) (hi := 2147483647) g 236 11 rfl
  refine wi_aload_n (i := 1) (x := 0) (nx := 871) (r1 := 0) (r2 := 0) (r3 := 0) rfl rfl ?_
  refine wr_V (k0 := 0) (rest := []) (as := [.ref 0]) (nx := 874) (r1 := 37) (r2 := 0) (r3 := 0) rfl rfl rfl (of_decide_eq_true rfl) rfl rfl (by decide) rfl rfl (of_decide_eq_true rfl) (of_decide_eq_true rfl) ?_
  refine ct_37_0 hcr  g    (fun z55  (fz55 : 0 ≤ z55 ∧ z55 ≤ 2147483647) => ?_)
  refine wk_i ?_
  refine wi_pop (nx := 875) (r1 := 0) (r2 := 0) (r3 := 0) rfl rfl ?_
  refine wi_aload_n (i := 2) (x := 236) (nx := 876) (r1 := 0) (r2 := 0) (r3 := 0) rfl rfl ?_
  refine wr_V (k0 := 236) (rest := []) (as := [.ref 236]) (nx := 879) (r1 := 264) (r2 := 0) (r3 := 11) rfl rfl rfl (of_decide_eq_true rfl) rfl rfl (by decide) rfl rfl (of_decide_eq_true rfl) (of_decide_eq_true rfl) ?_
  refine ct_264_236 hcr  g    (fun h56 z57 g56 u56 (fz57 : 0 ≤ z57 ∧ z57 ≤ 2147483647) => ?_)
  refine wk_i ?_
  refine wi_pop (nx := 880) (r1 := 0) (r2 := 0) (r3 := 0) rfl rfl ?_
  refine wi_goto (nx := 883) (r1 := 1501) (r2 := 0) (r3 := 0) rfl ?_
  have e58 : h56 238 98 = h 238 98 := (u56 238 98 rfl)
  have e59 : h56 238 99 = h 238 99 := (u56 238 99 rfl)
  have e60 : h56 238 100 = h 238 100 := (u56 238 100 rfl)
  have e61 : h56 238 101 = h 238 101 := (u56 238 101 rfl)
  have e62 : h56 238 102 = h 238 102 := (u56 238 102 rfl)
  have e63 : h56 238 106 = h 238 106 := (u56 238 106 rfl)
  have e64 : h56 238 73 = h 238 73 := (u56 238 73 rfl)
  have e65 : h56 238 2 = h 238 2 := (u56 238 2 rfl)
  have e66 : h56 238 119 = h 238 119 := (u56 238 119 rfl)
  have e67 : h56 238 67 = h 238 67 := (u56 238 67 rfl)
  have e68 : h56 238 69 = h 238 69 := (u56 238 69 rfl)
  have e69 : h56 238 5 = h 238 5 := (u56 238 5 rfl)
  have e70 : h56 241 98 = h 241 98 := (u56 241 98 rfl)
  have e71 : h56 241 99 = h 241 99 := (u56 241 99 rfl)
  have e72 : h56 241 100 = h 241 100 := (u56 241 100 rfl)
  have e73 : h56 241 101 = h 241 101 := (u56 241 101 rfl)
  have e74 : h56 241 102 = h 241 102 := (u56 241 102 rfl)
  have e75 : h56 241 106 = h 241 106 := (u56 241 106 rfl)
  have e76 : h56 241 73 = h 241 73 := (u56 241 73 rfl)
  have e77 : h56 241 2 = h 241 2 := (u56 241 2 rfl)
  have e78 : h56 241 119 = h 241 119 := (u56 241 119 rfl)
  have e79 : h56 241 67 = h 241 67 := (u56 241 67 rfl)
  have e80 : h56 241 69 = h 241 69 := (u56 241 69 rfl)
  have e81 : h56 241 5 = h 241 5 := (u56 241 5 rfl)
  have e82 : h56 1 1 = h 1 1 := (u56 1 1 rfl)
  have e83 : h56 236 2 = h 236 2 := (u56 236 2 rfl)
  have e84 : h56 1 2 = h 1 2 := (u56 1 2 rfl)
  have e85 : h56 236 10 = h 236 10 := (u56 236 10 rfl)
  have e86 : h56 1 3 = h 1 3 := (u56 1 3 rfl)
  have e87 : h56 236 11 = h 236 11 := (u56 236 11 rfl)
  have gp88 := GPH.fr u56 rfl gp0
  have b89 := gi_b (lo := 0) (hi := 5) g 241 0 rfl
  have b90 := gi_b (lo := 0) (hi := 4) g 241 1 rfl
  have gs91 := GPS.fr u56 rfl gs0
  have e92 : h56 0 12 = h 0 12 := (u56 0 12 rfl)
  have e93 : h56 236 21 = h 236 21 := (u56 236 21 rfl)
  have e94 : h56 63 5 = h 63 5 := (u56 63 5 rfl)
  have e95 : h56 18 16 = h 18 16 := (u56 18 16 rfl)
  have e96 : h56 18 7 = h 18 7 := (u56 18 7 rfl)
  have e97 : h56 3 2 = h 3 2 := (u56 3 2 rfl)
  have e98 : h56 66 1 = h 66 1 := (u56 66 1 rfl)
  have b99 := gi_b (lo := 0) (hi := 6) g 73 1 rfl
  have e100 : h56 73 1 = h 73 1 := (u56 73 1 rfl)
  have b101 := gi_b (lo := 0) (hi := 6) g 73 2 rfl
  have e102 : h56 73 2 = h 73 2 := (u56 73 2 rfl)
  have b103 := gi_b (lo := 0) (hi := 6) g 236 22 rfl
  have e104 : h56 236 22 = h 236 22 := (u56 236 22 rfl)
  have b105 := gi_b (lo := 0) (hi := 12) g 210 2 rfl
  have e106 : h56 210 2 = h 210 2 := (u56 210 2 rfl)
  have q109 : h56 8 = h 8 := funext (fun i => (u56 8 i (fo_no_ok (by decide) i)))
  have q110 : h56 7 = h 7 := funext (fun i => (u56 7 i (fo_no_ok (by decide) i)))
  have q111 : h56 19 = h 19 := funext (fun i => (u56 19 i (fo_no_ok (by decide) i)))
  have q112 : h56 67 = h 67 := funext (fun i => (u56 67 i (fo_no_ok (by decide) i)))
  have ml108 : MCL h56 := MCL.mv mi0.1 q109 q110 q111 q112 (by omega) (by omega) (by omega) (by omega)
  have q114 : h56 69 = h 69 := funext (fun i => (u56 69 i (fo_no_ok (by decide) i)))
  have q115 : h56 70 = h 70 := funext (fun i => (u56 70 i (fo_no_ok (by decide) i)))
  have nb113 : NBc (h56 69) (h56 70) := by rw [q114, q115]; exact mi0.2.2
  have q116 : h56 8 = h 8 := funext (fun i => (u56 8 i (fo_no_ok (by decide) i)))
  have q117 : h56 7 = h 7 := funext (fun i => (u56 7 i (fo_no_ok (by decide) i)))
  have mi107 : MCI h56 := ⟨ml108, HIv.mv mi0.2.1 q116 q117 (by omega) (by omega) (sv_seven (P := fun x => ∀ i, h56 (76 + 19 * x) i = h (76 + 19 * x) i) (fun i => (u56 76 i (fn_a (by decide) fn_0))) (fun i => (u56 95 i (fn_a (by decide) fn_0))) (fun i => (u56 114 i (fn_a (by decide) fn_0))) (fun i => (u56 133 i (fn_a (by decide) fn_0))) (fun i => (u56 152 i (fn_a (by decide) fn_0))) (fun i => (u56 171 i (fn_a (by decide) fn_0))) (fun i => (u56 190 i (fn_a (by decide) fn_0)))) (by omega) (by omega), nb113⟩
  have gq118 := GQS.fr u56 rfl gq0
  have q119 : h56 8 = h 8 := funext (fun i => (u56 8 i (fo_no_ok (by decide) i)))
  have q120 : h56 7 = h 7 := funext (fun i => (u56 7 i (fo_no_ok (by decide) i)))
  have q121 : h56 215 = h 215 := funext (fun i => (u56 215 i (fo_no_ok (by decide) i)))
  have q122 : h56 218 = h 218 := funext (fun i => (u56 218 i (fo_no_ok (by decide) i)))
  have q123 : h56 214 = h 214 := funext (fun i => (u56 214 i (fo_no_ok (by decide) i)))
  have q124 : h56 241 = h 241 := funext (fun i => (u56 241 i (fo_no_ok (by decide) i)))
  exact k h56 b c ⟨⟨g56, (show h56 1 1 = h56 236 2 by omega), (RS.i0 (f := h56 238) (by refine ⟨?_, ?_, ?_, ?_, ?_⟩ <;> omega)), (RS.i0 (f := h56 241) (by refine ⟨?_, ?_, ?_, ?_, ?_⟩ <;> omega)), gp88, (BRh.keep br0 (fun i => (u56 2 i (fn_a (by decide) fn_0))) (fun i => (u56 237 i (fn_a (by decide) fn_0))) (by omega)), (show h56 1 2 = h56 236 10 by omega), (show h56 1 3 = h56 236 11 by omega), (SVx.keep sv0 (by omega) (fun i _ => (u56 3 i (fn_a (by decide) fn_0))) (fun i _ => (u56 5 i (fn_a (by decide) fn_0))) (fun i _ => (u56 6 i (fn_a (by decide) fn_0))) (fun i _ => (u56 8 i (fn_a (by decide) fn_0))) (fun i _ => (u56 238 i (fn_a (by decide) fn_0)))), (show h56 0 12 = h56 236 21 by omega), (fun e => (SVx.keep (ss0 (by omega)) (by omega) (fun i _ => (u56 210 i (fn_a (by decide) fn_0))) (fun i _ => (u56 212 i (fn_a (by decide) fn_0))) (fun i _ => (u56 213 i (fn_a (by decide) fn_0))) (fun i _ => (u56 215 i (fn_a (by decide) fn_0))) (fun i _ => (u56 241 i (fn_a (by decide) fn_0))))), gs91, mi107, (show h56 63 5 ≤ h56 18 16 by omega), (show (h56 63 5) < (h56 18 16) ∨ ((h56 18 7) ≤ (h56 3 2) ∧ (h56 66 1) = (h56 3 2) - (h56 18 7)) ∨ ((h56 3 2) < (h56 18 7) ∧ (h56 66 1) = 0) by omega), gq118, (MR.mv mr0 (MSN.then (MSN.refl) (fun i _ => (u56 238 i (fn_a (by decide) fn_0)))) (by omega) q119 q120 (by omega)), (fun e => SM.mv (sm0 (by omega)) q121 q122 q123 (by omega) q124)⟩, (by omega)⟩ (by omega) (by omega)
