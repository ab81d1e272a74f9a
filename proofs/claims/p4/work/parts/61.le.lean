-- the law, case at 1316
set_option maxRecDepth 100000 in
set_option maxHeartbeats 100000000 in
theorem lc_1316 {L : Nat} {xs : Nat → Int32} {d b c : Nat} {h : hp} {cr : Nat → Nat → Option Nat} {Q : hp_Q} (hcr : CR cr) (hL : L ≤ 3072) (hr : 1 ≤ b ∧ 6 ≤ c) (I : LI h) (i : Int) (hi : 0 ≤ i ∧ i + 6 ≤ L) (k : ∀ (h2 : hp) (b2 c2 : Nat), LI h2 → b ≤ b2 + 1 → c ≤ c2 + 6 → wp (md_xa (L, xs)) (d + 107) 0 (1529, [(0, .ref 1000000), (1, .ref 0), (2, .ref 236), (3, .ref 259), (4, vi i)], [], hp_w h2 cr, b2, c2) Q) : wp (md_xa (L, xs)) (d + 107) 0 (1316, [(0, .ref 1000000), (1, .ref 0), (2, .ref 236), (3, .ref 259), (4, vi i)], [], hp_w h cr, b, c) Q := by
  obtain ⟨g, i11, r238, r241, gp0, br0, er2, er3, sv0, sf0, ss0, gs0⟩ := I
  have r238e := r238.e0
  have r241e := r241.e0
  obtain ⟨⟨se0, se1, se2, se3, se4, se5, se6, se7, se8, se9⟩, -⟩ := id sv0
  have b1 := gi_b (lo := 0) (hi := 5) g 3 0 rfl
  have b2 := gi_b (lo := 0) (hi := 5) g 238 0 rfl
  have b3 := gi_b (lo := 0) (hi := 4) g 3 1 rfl
  have b4 := gi_b (lo := 0) (hi := 4) g 238 1 rfl
  have b5 := gi_b (lo := 0) (hi := 12) g 3 2 rfl
  have b6 := gi_b (lo := 0) (hi := 12) g 238 2 rfl
  have b7 := gi_b (lo := -2147483648) (hi := 2147483647) g 3 3 rfl
  have b8 := gi_b (lo := 0) (hi := 999) g 238 3 rfl
  have b9 := gi_b (lo := -2147483648) (hi := 2147483647) g 3 4 rfl
  have b10 := gi_b (lo := 0) (hi := 999) g 238 4 rfl
  have b11 := gi_b (lo := -2147483648) (hi := 2147483647) g 3 5 rfl
  have b12 := gi_b (lo := 0) (hi := 9) g 238 5 rfl
  have b13 := gi_b (lo := -2147483648) (hi := 2147483647) g 3 6 rfl
  have b14 := gi_b (lo := 0) (hi := 999) g 238 6 rfl
  have b15 := gi_b (lo := -2147483648) (hi := 2147483647) g 3 7 rfl
  have b16 := gi_b (lo := 0) (hi := 3) g 238 7 rfl
  have b17 := gi_b (lo := -2147483648) (hi := 2147483647) g 3 8 rfl
  have b18 := gi_b (lo := 0) (hi := 999) g 238 8 rfl
  have b19 := gi_b (lo := -2147483648) (hi := 2147483647) g 3 9 rfl
  have b20 := gi_b (lo := 0) (hi := 999) g 238 9 rfl
  have b21 := gi_b (lo := 0) (hi := 1) g 0 12 rfl
  have b22 := gi_b (lo := 0) (hi := 1) g 236 21 rfl
  have bl_ := gi_b (lo := 0) (hi := 800) g 1 1 rfl
  have tb0 : BufC (h 2) (h 1 1) h := ⟨fun _ => rfl, rfl, by omega, by omega⟩
  have b23 := gi_b (lo := 0) (hi := 6) g 238 98 rfl
  have b24 := gi_b (lo := 0) (hi := 6) g 238 99 rfl
  have b25 := gi_b (lo := 0) (hi := 6) g 238 100 rfl
  have b26 := gi_b (lo := 0) (hi := 6) g 238 101 rfl
  have b27 := gi_b (lo := 0) (hi := 3) g 238 102 rfl
  have b28 := gi_b (lo := 0) (hi := 12) g 238 106 rfl
  have b29 := gi_b (lo := 0) (hi := 12) g 238 73 rfl
  have b30 := gi_b (lo := 0) (hi := 9999) g 238 119 rfl
  have b31 := gi_b (lo := 0) (hi := 9999) g 238 67 rfl
  have b32 := gi_b (lo := 0) (hi := 9) g 238 69 rfl
  have b33 := gi_b (lo := 0) (hi := 6) g 241 98 rfl
  have b34 := gi_b (lo := 0) (hi := 6) g 241 99 rfl
  have b35 := gi_b (lo := 0) (hi := 6) g 241 100 rfl
  have b36 := gi_b (lo := 0) (hi := 6) g 241 101 rfl
  have b37 := gi_b (lo := 0) (hi := 3) g 241 102 rfl
  have b38 := gi_b (lo := 0) (hi := 12) g 241 106 rfl
  have b39 := gi_b (lo := 0) (hi := 12) g 241 73 rfl
  have b40 := gi_b (lo := 0) (hi := 12) g 241 2 rfl
  have b41 := gi_b (lo := 0) (hi := 9999) g 241 119 rfl
  have b42 := gi_b (lo := 0) (hi := 9999) g 241 67 rfl
  have b43 := gi_b (lo := 0) (hi := 9) g 241 69 rfl
  have b44 := gi_b (lo := 0) (hi := 9) g 241 5 rfl
  have b45 := gi_b (lo := 0) (hi := 800) g 1 1 rfl
  have b46 := gi_b (lo := 0) (hi := 800) g 236 2 rfl
  have b47 := gi_b (lo := -2147483648) (hi := 2147483647) g 1 2 rfl
  have b48 := gi_b (lo := -2147483648) (hi := 2147483647) g 236 10 rfl
  have b49 := gi_b (lo := -2147483648) (hi := 2147483647) g 1 3 rfl
  have b50 := gi_b (lo := -2147483648) (hi := 2147483647) g 236 11 rfl
  refine wi_aload_n (i := 1) (x := 0) (nx := 1317) (r1 := 0) (r2 := 0) (r3 := 0) rfl rfl ?_
  refine wr_V (k0 := 0) (rest := []) (as := [.ref 0]) (nx := 1320) (r1 := 52) (r2 := 0) (r3 := 0) rfl rfl rfl (of_decide_eq_true rfl) rfl rfl (by decide) rfl rfl (of_decide_eq_true rfl) (of_decide_eq_true rfl) ?_
  refine ct_52_0 hcr  g    (fun z52  (fz52 : -2147483648 ≤ z52 ∧ z52 ≤ 2147483647) => ?_)
  refine wk_i ?_
  refine wi_pop (nx := 1321) (r1 := 0) (r2 := 0) (r3 := 0) rfl rfl ?_
  refine wi_aload_n (i := 2) (x := 236) (nx := 1322) (r1 := 0) (r2 := 0) (r3 := 0) rfl rfl ?_
  refine wr_V (k0 := 236) (rest := []) (as := [.ref 236]) (nx := 1325) (r1 := 316) (r2 := 0) (r3 := 11) rfl rfl rfl (of_decide_eq_true rfl) rfl rfl (by decide) rfl rfl (of_decide_eq_true rfl) (of_decide_eq_true rfl) ?_
  refine ct_316_236 hcr  g    (fun h53 z54 g53 u53 (fz54 : -2147483648 ≤ z54 ∧ z54 ≤ 2147483647) => ?_)
  refine wk_i ?_
  refine wi_pop (nx := 1326) (r1 := 0) (r2 := 0) (r3 := 0) rfl rfl ?_
  refine wi_goto (nx := 1329) (r1 := 1529) (r2 := 0) (r3 := 0) rfl ?_
  have e55 : h53 238 98 = h 238 98 := (u53 238 98 rfl)
  have e56 : h53 238 99 = h 238 99 := (u53 238 99 rfl)
  have e57 : h53 238 100 = h 238 100 := (u53 238 100 rfl)
  have e58 : h53 238 101 = h 238 101 := (u53 238 101 rfl)
  have e59 : h53 238 102 = h 238 102 := (u53 238 102 rfl)
  have e60 : h53 238 106 = h 238 106 := (u53 238 106 rfl)
  have e61 : h53 238 73 = h 238 73 := (u53 238 73 rfl)
  have e62 : h53 238 2 = h 238 2 := (u53 238 2 rfl)
  have e63 : h53 238 119 = h 238 119 := (u53 238 119 rfl)
  have e64 : h53 238 67 = h 238 67 := (u53 238 67 rfl)
  have e65 : h53 238 69 = h 238 69 := (u53 238 69 rfl)
  have e66 : h53 238 5 = h 238 5 := (u53 238 5 rfl)
  have e67 : h53 241 98 = h 241 98 := (u53 241 98 rfl)
  have e68 : h53 241 99 = h 241 99 := (u53 241 99 rfl)
  have e69 : h53 241 100 = h 241 100 := (u53 241 100 rfl)
  have e70 : h53 241 101 = h 241 101 := (u53 241 101 rfl)
  have e71 : h53 241 102 = h 241 102 := (u53 241 102 rfl)
  have e72 : h53 241 106 = h 241 106 := (u53 241 106 rfl)
  have e73 : h53 241 73 = h 241 73 := (u53 241 73 rfl)
  have e74 : h53 241 2 = h 241 2 := (u53 241 2 rfl)
  have e75 : h53 241 119 = h 241 119 := (u53 241 119 rfl)
  have e76 : h53 241 67 = h 241 67 := (u53 241 67 rfl)
  have e77 : h53 241 69 = h 241 69 := (u53 241 69 rfl)
  have e78 : h53 241 5 = h 241 5 := (u53 241 5 rfl)
  have e79 : h53 1 1 = h 1 1 := (u53 1 1 rfl)
  have e80 : h53 236 2 = h 236 2 := (u53 236 2 rfl)
  have e81 : h53 1 2 = h 1 2 := (u53 1 2 rfl)
  have e82 : h53 236 10 = h 236 10 := (u53 236 10 rfl)
  have e83 : h53 1 3 = h 1 3 := (u53 1 3 rfl)
  have e84 : h53 236 11 = h 236 11 := (u53 236 11 rfl)
  have gp85 := GPH.fr u53 rfl gp0
  have b86 := gi_b (lo := 0) (hi := 5) g 241 0 rfl
  have b87 := gi_b (lo := 0) (hi := 4) g 241 1 rfl
  have gs88 := GPS.fr u53 rfl gs0
  have e89 : h53 0 12 = h 0 12 := (u53 0 12 rfl)
  have e90 : h53 236 21 = h 236 21 := (u53 236 21 rfl)
  exact k h53 b c ⟨g53, (show h53 1 1 = h53 236 2 by omega), (RS.i0 (f := h53 238) (by refine ⟨?_, ?_, ?_, ?_, ?_⟩ <;> omega)), (RS.i0 (f := h53 241) (by refine ⟨?_, ?_, ?_, ?_, ?_⟩ <;> omega)), gp85, (BRh.keep br0 (fun i => (u53 2 i (fn_a (by decide) fn_0))) (fun i => (u53 237 i (fn_a (by decide) fn_0))) (by omega)), (show h53 1 2 = h53 236 10 by omega), (show h53 1 3 = h53 236 11 by omega), (SVx.keep sv0 (by omega) (fun i _ => (u53 3 i (fn_a (by decide) fn_0))) (fun i _ => (u53 5 i (fn_a (by decide) fn_0))) (fun i _ => (u53 6 i (fn_a (by decide) fn_0))) (fun i _ => (u53 8 i (fn_a (by decide) fn_0))) (fun i _ => (u53 238 i (fn_a (by decide) fn_0)))), (show h53 0 12 = h53 236 21 by omega), (fun e => (SVx.keep (ss0 (by omega)) (by omega) (fun i _ => (u53 210 i (fn_a (by decide) fn_0))) (fun i _ => (u53 212 i (fn_a (by decide) fn_0))) (fun i _ => (u53 213 i (fn_a (by decide) fn_0))) (fun i _ => (u53 215 i (fn_a (by decide) fn_0))) (fun i _ => (u53 241 i (fn_a (by decide) fn_0))))), gs88⟩ (by omega) (by omega)
-- the law, case at 1329
set_option maxRecDepth 100000 in
set_option maxHeartbeats 100000000 in
theorem lc_1329 {L : Nat} {xs : Nat → Int32} {d b c : Nat} {h : hp} {cr : Nat → Nat → Option Nat} {Q : hp_Q} (hcr : CR cr) (hL : L ≤ 3072) (hr : 1 ≤ b ∧ 6 ≤ c) (I : LI h) (i : Int) (hi : 0 ≤ i ∧ i + 6 ≤ L) (k : ∀ (h2 : hp) (b2 c2 : Nat), LI h2 → b ≤ b2 + 1 → c ≤ c2 + 6 → wp (md_xa (L, xs)) (d + 107) 0 (1529, [(0, .ref 1000000), (1, .ref 0), (2, .ref 236), (3, .ref 259), (4, vi i)], [], hp_w h2 cr, b2, c2) Q) : wp (md_xa (L, xs)) (d + 107) 0 (1329, [(0, .ref 1000000), (1, .ref 0), (2, .ref 236), (3, .ref 259), (4, vi i)], [], hp_w h cr, b, c) Q := by
  obtain ⟨g, i11, r238, r241, gp0, br0, er2, er3, sv0, sf0, ss0, gs0⟩ := I
  have r238e := r238.e0
  have r241e := r241.e0
  obtain ⟨⟨se0, se1, se2, se3, se4, se5, se6, se7, se8, se9⟩, -⟩ := id sv0
  have b1 := gi_b (lo := 0) (hi := 5) g 3 0 rfl
  have b2 := gi_b (lo := 0) (hi := 5) g 238 0 rfl
  have b3 := gi_b (lo := 0) (hi := 4) g 3 1 rfl
  have b4 := gi_b (lo := 0) (hi := 4) g 238 1 rfl
  have b5 := gi_b (lo := 0) (hi := 12) g 3 2 rfl
  have b6 := gi_b (lo := 0) (hi := 12) g 238 2 rfl
  have b7 := gi_b (lo := -2147483648) (hi := 2147483647) g 3 3 rfl
  have b8 := gi_b (lo := 0) (hi := 999) g 238 3 rfl
  have b9 := gi_b (lo := -2147483648) (hi := 2147483647) g 3 4 rfl
  have b10 := gi_b (lo := 0) (hi := 999) g 238 4 rfl
  have b11 := gi_b (lo := -2147483648) (hi := 2147483647) g 3 5 rfl
  have b12 := gi_b (lo := 0) (hi := 9) g 238 5 rfl
  have b13 := gi_b (lo := -2147483648) (hi := 2147483647) g 3 6 rfl
  have b14 := gi_b (lo := 0) (hi := 999) g 238 6 rfl
  have b15 := gi_b (lo := -2147483648) (hi := 2147483647) g 3 7 rfl
  have b16 := gi_b (lo := 0) (hi := 3) g 238 7 rfl
  have b17 := gi_b (lo := -2147483648) (hi := 2147483647) g 3 8 rfl
  have b18 := gi_b (lo := 0) (hi := 999) g 238 8 rfl
  have b19 := gi_b (lo := -2147483648) (hi := 2147483647) g 3 9 rfl
  have b20 := gi_b (lo := 0) (hi := 999) g 238 9 rfl
  have b21 := gi_b (lo := 0) (hi := 1) g 0 12 rfl
  have b22 := gi_b (lo := 0) (hi := 1) g 236 21 rfl
  have bl_ := gi_b (lo := 0) (hi := 800) g 1 1 rfl
  have tb0 : BufC (h 2) (h 1 1) h := ⟨fun _ => rfl, rfl, by omega, by omega⟩
  have b23 := gi_b (lo := 0) (hi := 6) g 238 98 rfl
  have b24 := gi_b (lo := 0) (hi := 6) g 238 99 rfl
  have b25 := gi_b (lo := 0) (hi := 6) g 238 100 rfl
  have b26 := gi_b (lo := 0) (hi := 6) g 238 101 rfl
  have b27 := gi_b (lo := 0) (hi := 3) g 238 102 rfl
  have b28 := gi_b (lo := 0) (hi := 12) g 238 106 rfl
  have b29 := gi_b (lo := 0) (hi := 12) g 238 73 rfl
  have b30 := gi_b (lo := 0) (hi := 9999) g 238 119 rfl
  have b31 := gi_b (lo := 0) (hi := 9999) g 238 67 rfl
  have b32 := gi_b (lo := 0) (hi := 9) g 238 69 rfl
  have b33 := gi_b (lo := 0) (hi := 6) g 241 98 rfl
  have b34 := gi_b (lo := 0) (hi := 6) g 241 99 rfl
  have b35 := gi_b (lo := 0) (hi := 6) g 241 100 rfl
  have b36 := gi_b (lo := 0) (hi := 6) g 241 101 rfl
  have b37 := gi_b (lo := 0) (hi := 3) g 241 102 rfl
  have b38 := gi_b (lo := 0) (hi := 12) g 241 106 rfl
  have b39 := gi_b (lo := 0) (hi := 12) g 241 73 rfl
  have b40 := gi_b (lo := 0) (hi := 12) g 241 2 rfl
  have b41 := gi_b (lo := 0) (hi := 9999) g 241 119 rfl
  have b42 := gi_b (lo := 0) (hi := 9999) g 241 67 rfl
  have b43 := gi_b (lo := 0) (hi := 9) g 241 69 rfl
  have b44 := gi_b (lo := 0) (hi := 9) g 241 5 rfl
  have b45 := gi_b (lo := 0) (hi := 800) g 1 1 rfl
  have b46 := gi_b (lo := 0) (hi := 800) g 236 2 rfl
  have b47 := gi_b (lo := -2147483648) (hi := 2147483647) g 1 2 rfl
  have b48 := gi_b (lo := -2147483648) (hi := 2147483647) g 236 10 rfl
  have b49 := gi_b (lo := -2147483648) (hi := 2147483647) g 1 3 rfl
  have b50 := gi_b (lo := -2147483648) (hi := 2147483647) g 236 11 rfl
  refine wi_aload_n (i := 1) (x := 0) (nx := 1330) (r1 := 0) (r2 := 0) (r3 := 0) rfl rfl ?_
  refine wr_V (k0 := 0) (rest := []) (as := [.ref 0]) (nx := 1333) (r1 := 53) (r2 := 0) (r3 := 0) rfl rfl rfl (of_decide_eq_true rfl) rfl rfl (by decide) rfl rfl (of_decide_eq_true rfl) (of_decide_eq_true rfl) ?_
  refine ct_53_0 hcr  g    (fun z52  (fz52 : -2147483648 ≤ z52 ∧ z52 ≤ 2147483647) => ?_)
  refine wk_i ?_
  refine wi_pop (nx := 1334) (r1 := 0) (r2 := 0) (r3 := 0) rfl rfl ?_
  refine wi_aload_n (i := 2) (x := 236) (nx := 1335) (r1 := 0) (r2 := 0) (r3 := 0) rfl rfl ?_
  refine wr_V (k0 := 236) (rest := []) (as := [.ref 236]) (nx := 1338) (r1 := 319) (r2 := 0) (r3 := 11) rfl rfl rfl (of_decide_eq_true rfl) rfl rfl (by decide) rfl rfl (of_decide_eq_true rfl) (of_decide_eq_true rfl) ?_
  refine ct_319_236 hcr  g    (fun h53 z54 g53 u53 (fz54 : -2147483648 ≤ z54 ∧ z54 ≤ 2147483647) => ?_)
  refine wk_i ?_
  refine wi_pop (nx := 1339) (r1 := 0) (r2 := 0) (r3 := 0) rfl rfl ?_
  refine wi_goto (nx := 1342) (r1 := 1529) (r2 := 0) (r3 := 0) rfl ?_
  have e55 : h53 238 98 = h 238 98 := (u53 238 98 rfl)
  have e56 : h53 238 99 = h 238 99 := (u53 238 99 rfl)
  have e57 : h53 238 100 = h 238 100 := (u53 238 100 rfl)
  have e58 : h53 238 101 = h 238 101 := (u53 238 101 rfl)
  have e59 : h53 238 102 = h 238 102 := (u53 238 102 rfl)
  have e60 : h53 238 106 = h 238 106 := (u53 238 106 rfl)
  have e61 : h53 238 73 = h 238 73 := (u53 238 73 rfl)
  have e62 : h53 238 2 = h 238 2 := (u53 238 2 rfl)
  have e63 : h53 238 119 = h 238 119 := (u53 238 119 rfl)
  have e64 : h53 238 67 = h 238 67 := (u53 238 67 rfl)
  have e65 : h53 238 69 = h 238 69 := (u53 238 69 rfl)
  have e66 : h53 238 5 = h 238 5 := (u53 238 5 rfl)
  have e67 : h53 241 98 = h 241 98 := (u53 241 98 rfl)
  have e68 : h53 241 99 = h 241 99 := (u53 241 99 rfl)
  have e69 : h53 241 100 = h 241 100 := (u53 241 100 rfl)
  have e70 : h53 241 101 = h 241 101 := (u53 241 101 rfl)
  have e71 : h53 241 102 = h 241 102 := (u53 241 102 rfl)
  have e72 : h53 241 106 = h 241 106 := (u53 241 106 rfl)
  have e73 : h53 241 73 = h 241 73 := (u53 241 73 rfl)
  have e74 : h53 241 2 = h 241 2 := (u53 241 2 rfl)
  have e75 : h53 241 119 = h 241 119 := (u53 241 119 rfl)
  have e76 : h53 241 67 = h 241 67 := (u53 241 67 rfl)
  have e77 : h53 241 69 = h 241 69 := (u53 241 69 rfl)
  have e78 : h53 241 5 = h 241 5 := (u53 241 5 rfl)
  have e79 : h53 1 1 = h 1 1 := (u53 1 1 rfl)
  have e80 : h53 236 2 = h 236 2 := (u53 236 2 rfl)
  have e81 : h53 1 2 = h 1 2 := (u53 1 2 rfl)
  have e82 : h53 236 10 = h 236 10 := (u53 236 10 rfl)
  have e83 : h53 1 3 = h 1 3 := (u53 1 3 rfl)
  have e84 : h53 236 11 = h 236 11 := (u53 236 11 rfl)
  have gp85 := GPH.fr u53 rfl gp0
  have b86 := gi_b (lo := 0) (hi := 5) g 241 0 rfl
  have b87 := gi_b (lo := 0) (hi := 4) g 241 1 rfl
  have gs88 := GPS.fr u53 rfl gs0
  have e89 : h53 0 12 = h 0 12 := (u53 0 12 rfl)
  have e90 : h53 236 21 = h 236 21 := (u53 236 21 rfl)
  exact k h53 b c ⟨g53, (show h53 1 1 = h53 236 2 by omega), (RS.i0 (f := h53 238) (by refine ⟨?_, ?_, ?_, ?_, ?_⟩ <;> omega)), (RS.i0 (f := h53 241) (by refine ⟨?_, ?_, ?_, ?_, ?_⟩ <;> omega)), gp85, (BRh.keep br0 (fun i => (u53 2 i (fn_a (by decide) fn_0))) (fun i => (u53 237 i (fn_a (by decide) fn_0))) (by omega)), (show h53 1 2 = h53 236 10 by omega), (show h53 1 3 = h53 236 11 by omega), (SVx.keep sv0 (by omega) (fun i _ => (u53 3 i (fn_a (by decide) fn_0))) (fun i _ => (u53 5 i (fn_a (by decide) fn_0))) (fun i _ => (u53 6 i (fn_a (by decide) fn_0))) (fun i _ => (u53 8 i (fn_a (by decide) fn_0))) (fun i _ => (u53 238 i (fn_a (by decide) fn_0)))), (show h53 0 12 = h53 236 21 by omega), (fun e => (SVx.keep (ss0 (by omega)) (by omega) (fun i _ => (u53 210 i (fn_a (by decide) fn_0))) (fun i _ => (u53 212 i (fn_a (by decide) fn_0))) (fun i _ => (u53 213 i (fn_a (by decide) fn_0))) (fun i _ => (u53 215 i (fn_a (by decide) fn_0))) (fun i _ => (u53 241 i (fn_a (by decide) fn_0))))), gs88⟩ (by omega) (by omega)
-- the law, case at 1342
set_option maxRecDepth 100000 in
set_option maxHeartbeats 100000000 in
theorem lc_1342 {L : Nat} {xs : Nat → Int32} {d b c : Nat} {h : hp} {cr : Nat → Nat → Option Nat} {Q : hp_Q} (hcr : CR cr) (hL : L ≤ 3072) (hr : 1 ≤ b ∧ 6 ≤ c) (I : LI h) (i : Int) (hi : 0 ≤ i ∧ i + 6 ≤ L) (k : ∀ (h2 : hp) (b2 c2 : Nat), LI h2 → b ≤ b2 + 1 → c ≤ c2 + 6 → wp (md_xa (L, xs)) (d + 107) 0 (1529, [(0, .ref 1000000), (1, .ref 0), (2, .ref 236), (3, .ref 259), (4, vi i)], [], hp_w h2 cr, b2, c2) Q) : wp (md_xa (L, xs)) (d + 107) 0 (1342, [(0, .ref 1000000), (1, .ref 0), (2, .ref 236), (3, .ref 259), (4, vi i)], [], hp_w h cr, b, c) Q := by
  obtain ⟨g, i11, r238, r241, gp0, br0, er2, er3, sv0, sf0, ss0, gs0⟩ := I
  have r238e := r238.e0
  have r241e := r241.e0
  obtain ⟨⟨se0, se1, se2, se3, se4, se5, se6, se7, se8, se9⟩, -⟩ := id sv0
  have b1 := gi_b (lo := 0) (hi := 5) g 3 0 rfl
  have b2 := gi_b (lo := 0) (hi := 5) g 238 0 rfl
  have b3 := gi_b (lo := 0) (hi := 4) g 3 1 rfl
  have b4 := gi_b (lo := 0) (hi := 4) g 238 1 rfl
  have b5 := gi_b (lo := 0) (hi := 12) g 3 2 rfl
  have b6 := gi_b (lo := 0) (hi := 12) g 238 2 rfl
  have b7 := gi_b (lo := -2147483648) (hi := 2147483647) g 3 3 rfl
  have b8 := gi_b (lo := 0) (hi := 999) g 238 3 rfl
  have b9 := gi_b (lo := -2147483648) (hi := 2147483647) g 3 4 rfl
  have b10 := gi_b (lo := 0) (hi := 999) g 238 4 rfl
  have b11 := gi_b (lo := -2147483648) (hi := 2147483647) g 3 5 rfl
  have b12 := gi_b (lo := 0) (hi := 9) g 238 5 rfl
  have b13 := gi_b (lo := -2147483648) (hi := 2147483647) g 3 6 rfl
  have b14 := gi_b (lo := 0) (hi := 999) g 238 6 rfl
  have b15 := gi_b (lo := -2147483648) (hi := 2147483647) g 3 7 rfl
  have b16 := gi_b (lo := 0) (hi := 3) g 238 7 rfl
  have b17 := gi_b (lo := -2147483648) (hi := 2147483647) g 3 8 rfl
  have b18 := gi_b (lo := 0) (hi := 999) g 238 8 rfl
  have b19 := gi_b (lo := -2147483648) (hi := 2147483647) g 3 9 rfl
  have b20 := gi_b (lo := 0) (hi := 999) g 238 9 rfl
  have b21 := gi_b (lo := 0) (hi := 1) g 0 12 rfl
  have b22 := gi_b (lo := 0) (hi := 1) g 236 21 rfl
  have bl_ := gi_b (lo := 0) (hi := 800) g 1 1 rfl
  have tb0 : BufC (h 2) (h 1 1) h := ⟨fun _ => rfl, rfl, by omega, by omega⟩
  have b23 := gi_b (lo := 0) (hi := 6) g 238 98 rfl
  have b24 := gi_b (lo := 0) (hi := 6) g 238 99 rfl
  have b25 := gi_b (lo := 0) (hi := 6) g 238 100 rfl
  have b26 := gi_b (lo := 0) (hi := 6) g 238 101 rfl
  have b27 := gi_b (lo := 0) (hi := 3) g 238 102 rfl
  have b28 := gi_b (lo := 0) (hi := 12) g 238 106 rfl
  have b29 := gi_b (lo := 0) (hi := 12) g 238 73 rfl
  have b30 := gi_b (lo := 0) (hi := 9999) g 238 119 rfl
  have b31 := gi_b (lo := 0) (hi := 9999) g 238 67 rfl
  have b32 := gi_b (lo := 0) (hi := 9) g 238 69 rfl
  have b33 := gi_b (lo := 0) (hi := 6) g 241 98 rfl
  have b34 := gi_b (lo := 0) (hi := 6) g 241 99 rfl
  have b35 := gi_b (lo := 0) (hi := 6) g 241 100 rfl
  have b36 := gi_b (lo := 0) (hi := 6) g 241 101 rfl
  have b37 := gi_b (lo := 0) (hi := 3) g 241 102 rfl
  have b38 := gi_b (lo := 0) (hi := 12) g 241 106 rfl
  have b39 := gi_b (lo := 0) (hi := 12) g 241 73 rfl
  have b40 := gi_b (lo := 0) (hi := 12) g 241 2 rfl
  have b41 := gi_b (lo := 0) (hi := 9999) g 241 119 rfl
  have b42 := gi_b (lo := 0) (hi := 9999) g 241 67 rfl
  have b43 := gi_b (lo := 0) (hi := 9) g 241 69 rfl
  have b44 := gi_b (lo := 0) (hi := 9) g 241 5 rfl
  have b45 := gi_b (lo := 0) (hi := 800) g 1 1 rfl
  have b46 := gi_b (lo := 0) (hi := 800) g 236 2 rfl
  have b47 := gi_b (lo := -2147483648) (hi := 2147483647) g 1 2 rfl
  have b48 := gi_b (lo := -2147483648) (hi := 2147483647) g 236 10 rfl
  have b49 := gi_b (lo := -2147483648) (hi := 2147483647) g 1 3 rfl
  have b50 := gi_b (lo := -2147483648) (hi := 2147483647) g 236 11 rfl
  refine wi_aload_n (i := 1) (x := 0) (nx := 1343) (r1 := 0) (r2 := 0) (r3 := 0) rfl rfl ?_
  refine wr_V (k0 := 0) (rest := []) (as := [.ref 0]) (nx := 1346) (r1 := 54) (r2 := 0) (r3 := 0) rfl rfl rfl (of_decide_eq_true rfl) rfl rfl (by decide) rfl rfl (of_decide_eq_true rfl) (of_decide_eq_true rfl) ?_
  refine ct_54_0 hcr  g    (fun z52  (fz52 : -2147483648 ≤ z52 ∧ z52 ≤ 2147483647) => ?_)
  refine wk_i ?_
  refine wi_pop (nx := 1347) (r1 := 0) (r2 := 0) (r3 := 0) rfl rfl ?_
  refine wi_aload_n (i := 2) (x := 236) (nx := 1348) (r1 := 0) (r2 := 0) (r3 := 0) rfl rfl ?_
  refine wr_V (k0 := 236) (rest := []) (as := [.ref 236]) (nx := 1351) (r1 := 320) (r2 := 0) (r3 := 11) rfl rfl rfl (of_decide_eq_true rfl) rfl rfl (by decide) rfl rfl (of_decide_eq_true rfl) (of_decide_eq_true rfl) ?_
  refine ct_320_236 hcr  g    (fun h53 z54 g53 u53 (fz54 : -2147483648 ≤ z54 ∧ z54 ≤ 2147483647) => ?_)
  refine wk_i ?_
  refine wi_pop (nx := 1352) (r1 := 0) (r2 := 0) (r3 := 0) rfl rfl ?_
  refine wi_goto (nx := 1355) (r1 := 1529) (r2 := 0) (r3 := 0) rfl ?_
  have e55 : h53 238 98 = h 238 98 := (u53 238 98 rfl)
  have e56 : h53 238 99 = h 238 99 := (u53 238 99 rfl)
  have e57 : h53 238 100 = h 238 100 := (u53 238 100 rfl)
  have e58 : h53 238 101 = h 238 101 := (u53 238 101 rfl)
  have e59 : h53 238 102 = h 238 102 := (u53 238 102 rfl)
  have e60 : h53 238 106 = h 238 106 := (u53 238 106 rfl)
  have e61 : h53 238 73 = h 238 73 := (u53 238 73 rfl)
  have e62 : h53 238 2 = h 238 2 := (u53 238 2 rfl)
  have e63 : h53 238 119 = h 238 119 := (u53 238 119 rfl)
  have e64 : h53 238 67 = h 238 67 := (u53 238 67 rfl)
  have e65 : h53 238 69 = h 238 69 := (u53 238 69 rfl)
  have e66 : h53 238 5 = h 238 5 := (u53 238 5 rfl)
  have e67 : h53 241 98 = h 241 98 := (u53 241 98 rfl)
  have e68 : h53 241 99 = h 241 99 := (u53 241 99 rfl)
  have e69 : h53 241 100 = h 241 100 := (u53 241 100 rfl)
  have e70 : h53 241 101 = h 241 101 := (u53 241 101 rfl)
  have e71 : h53 241 102 = h 241 102 := (u53 241 102 rfl)
  have e72 : h53 241 106 = h 241 106 := (u53 241 106 rfl)
  have e73 : h53 241 73 = h 241 73 := (u53 241 73 rfl)
  have e74 : h53 241 2 = h 241 2 := (u53 241 2 rfl)
  have e75 : h53 241 119 = h 241 119 := (u53 241 119 rfl)
  have e76 : h53 241 67 = h 241 67 := (u53 241 67 rfl)
  have e77 : h53 241 69 = h 241 69 := (u53 241 69 rfl)
  have e78 : h53 241 5 = h 241 5 := (u53 241 5 rfl)
  have e79 : h53 1 1 = h 1 1 := (u53 1 1 rfl)
  have e80 : h53 236 2 = h 236 2 := (u53 236 2 rfl)
  have e81 : h53 1 2 = h 1 2 := (u53 1 2 rfl)
  have e82 : h53 236 10 = h 236 10 := (u53 236 10 rfl)
  have e83 : h53 1 3 = h 1 3 := (u53 1 3 rfl)
  have e84 : h53 236 11 = h 236 11 := (u53 236 11 rfl)
  have gp85 := GPH.fr u53 rfl gp0
  have b86 := gi_b (lo := 0) (hi := 5) g 241 0 rfl
  have b87 := gi_b (lo := 0) (hi := 4) g 241 1 rfl
  have gs88 := GPS.fr u53 rfl gs0
  have e89 : h53 0 12 = h 0 12 := (u53 0 12 rfl)
  have e90 : h53 236 21 = h 236 21 := (u53 236 21 rfl)
  exact k h53 b c ⟨g53, (show h53 1 1 = h53 236 2 by omega), (RS.i0 (f := h53 238) (by refine ⟨?_, ?_, ?_, ?_, ?_⟩ <;> omega)), (RS.i0 (f := h53 241) (by refine ⟨?_, ?_, ?_, ?_, ?_⟩ <;> omega)), gp85, (BRh.keep br0 (fun i => (u53 2 i (fn_a (by decide) fn_0))) (fun i => (u53 237 i (fn_a (by decide) fn_0))) (by omega)), (show h53 1 2 = h53 236 10 by omega), (show h53 1 3 = h53 236 11 by omega), (SVx.keep sv0 (by omega) (fun i _ => (u53 3 i (fn_a (by decide) fn_0))) (fun i _ => (u53 5 i (fn_a (by decide) fn_0))) (fun i _ => (u53 6 i (fn_a (by decide) fn_0))) (fun i _ => (u53 8 i (fn_a (by decide) fn_0))) (fun i _ => (u53 238 i (fn_a (by decide) fn_0)))), (show h53 0 12 = h53 236 21 by omega), (fun e => (SVx.keep (ss0 (by omega)) (by omega) (fun i _ => (u53 210 i (fn_a (by decide) fn_0))) (fun i _ => (u53 212 i (fn_a (by decide) fn_0))) (fun i _ => (u53 213 i (fn_a (by decide) fn_0))) (fun i _ => (u53 215 i (fn_a (by decide) fn_0))) (fun i _ => (u53 241 i (fn_a (by decide) fn_0))))), gs88⟩ (by omega) (by omega)
-- the law, case at 1355
set_option maxRecDepth 100000 in
set_option maxHeartbeats 100000000 in
theorem lc_1355 {L : Nat} {xs : Nat → Int32} {d b c : Nat} {h : hp} {cr : Nat → Nat → Option Nat} {Q : hp_Q} (hcr : CR cr) (hL : L ≤ 3072) (hr : 1 ≤ b ∧ 6 ≤ c) (I : LI h) (i : Int) (hi : 0 ≤ i ∧ i + 6 ≤ L) (k : ∀ (h2 : hp) (b2 c2 : Nat), LI h2 → b ≤ b2 + 1 → c ≤ c2 + 6 → wp (md_xa (L, xs)) (d + 107) 0 (1529, [(0, .ref 1000000), (1, .ref 0), (2, .ref 236), (3, .ref 259), (4, vi i)], [], hp_w h2 cr, b2, c2) Q) : wp (md_xa (L, xs)) (d + 107) 0 (1355, [(0, .ref 1000000), (1, .ref 0), (2, .ref 236), (3, .ref 259), (4, vi i)], [], hp_w h cr, b, c) Q := by
  obtain ⟨g, i11, r238, r241, gp0, br0, er2, er3, sv0, sf0, ss0, gs0⟩ := I
  have r238e := r238.e0
  have r241e := r241.e0
  obtain ⟨⟨se0, se1, se2, se3, se4, se5, se6, se7, se8, se9⟩, -⟩ := id sv0
  have b1 := gi_b (lo := 0) (hi := 5) g 3 0 rfl
  have b2 := gi_b (lo := 0) (hi := 5) g 238 0 rfl
  have b3 := gi_b (lo := 0) (hi := 4) g 3 1 rfl
  have b4 := gi_b (lo := 0) (hi := 4) g 238 1 rfl
  have b5 := gi_b (lo := 0) (hi := 12) g 3 2 rfl
  have b6 := gi_b (lo := 0) (hi := 12) g 238 2 rfl
  have b7 := gi_b (lo := -2147483648) (hi := 2147483647) g 3 3 rfl
  have b8 := gi_b (lo := 0) (hi := 999) g 238 3 rfl
  have b9 := gi_b (lo := -2147483648) (hi := 2147483647) g 3 4 rfl
  have b10 := gi_b (lo := 0) (hi := 999) g 238 4 rfl
  have b11 := gi_b (lo := -2147483648) (hi := 2147483647) g 3 5 rfl
  have b12 := gi_b (lo := 0) (hi := 9) g 238 5 rfl
  have b13 := gi_b (lo := -2147483648) (hi := 2147483647) g 3 6 rfl
  have b14 := gi_b (lo := 0) (hi := 999) g 238 6 rfl
  have b15 := gi_b (lo := -2147483648) (hi := 2147483647) g 3 7 rfl
  have b16 := gi_b (lo := 0) (hi := 3) g 238 7 rfl
  have b17 := gi_b (lo := -2147483648) (hi := 2147483647) g 3 8 rfl
  have b18 := gi_b (lo := 0) (hi := 999) g 238 8 rfl
  have b19 := gi_b (lo := -2147483648) (hi := 2147483647) g 3 9 rfl
  have b20 := gi_b (lo := 0) (hi := 999) g 238 9 rfl
  have b21 := gi_b (lo := 0) (hi := 1) g 0 12 rfl
  have b22 := gi_b (lo := 0) (hi := 1) g 236 21 rfl
  have bl_ := gi_b (lo := 0) (hi := 800) g 1 1 rfl
  have tb0 : BufC (h 2) (h 1 1) h := ⟨fun _ => rfl, rfl, by omega, by omega⟩
  have b23 := gi_b (lo := 0) (hi := 6) g 238 98 rfl
  have b24 := gi_b (lo := 0) (hi := 6) g 238 99 rfl
  have b25 := gi_b (lo := 0) (hi := 6) g 238 100 rfl
  have b26 := gi_b (lo := 0) (hi := 6) g 238 101 rfl
  have b27 := gi_b (lo := 0) (hi := 3) g 238 102 rfl
  have b28 := gi_b (lo := 0) (hi := 12) g 238 106 rfl
  have b29 := gi_b (lo := 0) (hi := 12) g 238 73 rfl
  have b30 := gi_b (lo := 0) (hi := 9999) g 238 119 rfl
  have b31 := gi_b (lo := 0) (hi := 9999) g 238 67 rfl
  have b32 := gi_b (lo := 0) (hi := 9) g 238 69 rfl
  have b33 := gi_b (lo := 0) (hi := 6) g 241 98 rfl
  have b34 := gi_b (lo := 0) (hi := 6) g 241 99 rfl
  have b35 := gi_b (lo := 0) (hi := 6) g 241 100 rfl
  have b36 := gi_b (lo := 0) (hi := 6) g 241 101 rfl
  have b37 := gi_b (lo := 0) (hi := 3) g 241 102 rfl
  have b38 := gi_b (lo := 0) (hi := 12) g 241 106 rfl
  have b39 := gi_b (lo := 0) (hi := 12) g 241 73 rfl
  have b40 := gi_b (lo := 0) (hi := 12) g 241 2 rfl
  have b41 := gi_b (lo := 0) (hi := 9999) g 241 119 rfl
  have b42 := gi_b (lo := 0) (hi := 9999) g 241 67 rfl
  have b43 := gi_b (lo := 0) (hi := 9) g 241 69 rfl
  have b44 := gi_b (lo := 0) (hi := 9) g 241 5 rfl
  have b45 := gi_b (lo := 0) (hi := 800) g 1 1 rfl
  have b46 := gi_b (lo := 0) (hi := 800) g 236 2 rfl
  have b47 := gi_b (lo := -2147483648) (hi := 2147483647) g 1 2 rfl
  have b48 := gi_b (lo := -2147483648) (hi := 2147483647) g 236 10 rfl
  have b49 := gi_b (lo := -2147483648) (hi := 2147483647) g 1 3 rfl
  have b50 := gi_b (lo := -2147483648) (hi := 2147483647) g 236 11 rfl
  refine wi_aload_n (i := 1) (x := 0) (nx := 1356) (r1 := 0) (r2 := 0) (r3 := 0) rfl rfl ?_
  refine wr_V (k0 := 0) (rest := []) (as := [.ref 0]) (nx := 1359) (r1 := 55) (r2 := 0) (r3 := 0) rfl rfl rfl (of_decide_eq_true rfl) rfl rfl (by decide) rfl rfl (of_decide_eq_true rfl) (of_decide_eq_true rfl) ?_
  refine ct_55_0 hcr  g    (fun h51 z52 g51 u51 (fz52 : -2147483648 ≤ z52 ∧ z52 ≤ 2147483647) => ?_)
  refine wk_i ?_
  refine wi_pop (nx := 1360) (r1 := 0) (r2 := 0) (r3 := 0) rfl rfl ?_
  refine wi_aload_n (i := 2) (x := 236) (nx := 1361) (r1 := 0) (r2 := 0) (r3 := 0) rfl rfl ?_
  refine wr_V (k0 := 236) (rest := []) (as := [.ref 236]) (nx := 1364) (r1 := 323) (r2 := 0) (r3 := 11) rfl rfl rfl (of_decide_eq_true rfl) rfl rfl (by decide) rfl rfl (of_decide_eq_true rfl) (of_decide_eq_true rfl) ?_
  have e54 : h51 238 98 = h 238 98 := (u51 238 98 rfl)
  have e55 : h51 238 99 = h 238 99 := (u51 238 99 rfl)
  have e56 : h51 238 100 = h 238 100 := (u51 238 100 rfl)
  have e57 : h51 238 101 = h 238 101 := (u51 238 101 rfl)
  have e58 : h51 238 102 = h 238 102 := (u51 238 102 rfl)
  have e59 : h51 238 106 = h 238 106 := (u51 238 106 rfl)
  have e60 : h51 238 73 = h 238 73 := (u51 238 73 rfl)
  have e61 : h51 238 2 = h 238 2 := (u51 238 2 rfl)
  have e62 : h51 238 119 = h 238 119 := (u51 238 119 rfl)
  have e63 : h51 238 67 = h 238 67 := (u51 238 67 rfl)
  have e64 : h51 238 69 = h 238 69 := (u51 238 69 rfl)
  have e65 : h51 238 5 = h 238 5 := (u51 238 5 rfl)
  refine ct_323_236 hcr  g51   (show (h51 238 98) + (h51 238 99) + (h51 238 100) + (h51 238 101) + (h51 238 102) + (h51 238 106) = (h51 238 73) by omega) (show (h51 238 73) ≤ (h51 238 2) by omega) (show (h51 238 119) ≤ (h51 238 67) by omega) (show (h51 238 69) ≤ (h51 238 5) by omega) (show (h51 238 2) ≤ 12 * (h51 238 5) by omega) (fun h53 z66 g53 u53 (fz66 : 0 ≤ z66 ∧ z66 ≤ 1000000) => ?_)
  refine wk_i ?_
  refine wi_pop (nx := 1365) (r1 := 0) (r2 := 0) (r3 := 0) rfl rfl ?_
  refine wi_goto (nx := 1368) (r1 := 1529) (r2 := 0) (r3 := 0) rfl ?_
  have e67 : h53 238 98 = h 238 98 := ((u53 238 98 rfl).trans (u51 238 98 rfl))
  have e68 : h53 238 99 = h 238 99 := ((u53 238 99 rfl).trans (u51 238 99 rfl))
  have e69 : h53 238 100 = h 238 100 := ((u53 238 100 rfl).trans (u51 238 100 rfl))
  have e70 : h53 238 101 = h 238 101 := ((u53 238 101 rfl).trans (u51 238 101 rfl))
  have e71 : h53 238 102 = h 238 102 := ((u53 238 102 rfl).trans (u51 238 102 rfl))
  have e72 : h53 238 106 = h 238 106 := ((u53 238 106 rfl).trans (u51 238 106 rfl))
  have e73 : h53 238 73 = h 238 73 := ((u53 238 73 rfl).trans (u51 238 73 rfl))
  have e74 : h53 238 2 = h 238 2 := ((u53 238 2 rfl).trans (u51 238 2 rfl))
  have e75 : h53 238 119 = h 238 119 := ((u53 238 119 rfl).trans (u51 238 119 rfl))
  have e76 : h53 238 67 = h 238 67 := ((u53 238 67 rfl).trans (u51 238 67 rfl))
  have e77 : h53 238 69 = h 238 69 := ((u53 238 69 rfl).trans (u51 238 69 rfl))
  have e78 : h53 238 5 = h 238 5 := ((u53 238 5 rfl).trans (u51 238 5 rfl))
  have e79 : h53 241 98 = h 241 98 := ((u53 241 98 rfl).trans (u51 241 98 rfl))
  have e80 : h53 241 99 = h 241 99 := ((u53 241 99 rfl).trans (u51 241 99 rfl))
  have e81 : h53 241 100 = h 241 100 := ((u53 241 100 rfl).trans (u51 241 100 rfl))
  have e82 : h53 241 101 = h 241 101 := ((u53 241 101 rfl).trans (u51 241 101 rfl))
  have e83 : h53 241 102 = h 241 102 := ((u53 241 102 rfl).trans (u51 241 102 rfl))
  have e84 : h53 241 106 = h 241 106 := ((u53 241 106 rfl).trans (u51 241 106 rfl))
  have e85 : h53 241 73 = h 241 73 := ((u53 241 73 rfl).trans (u51 241 73 rfl))
  have e86 : h53 241 2 = h 241 2 := ((u53 241 2 rfl).trans (u51 241 2 rfl))
  have e87 : h53 241 119 = h 241 119 := ((u53 241 119 rfl).trans (u51 241 119 rfl))
  have e88 : h53 241 67 = h 241 67 := ((u53 241 67 rfl).trans (u51 241 67 rfl))
  have e89 : h53 241 69 = h 241 69 := ((u53 241 69 rfl).trans (u51 241 69 rfl))
  have e90 : h53 241 5 = h 241 5 := ((u53 241 5 rfl).trans (u51 241 5 rfl))
  have e91 : h53 1 1 = h 1 1 := ((u53 1 1 rfl).trans (u51 1 1 rfl))
  have e92 : h53 236 2 = h 236 2 := ((u53 236 2 rfl).trans (u51 236 2 rfl))
  have e93 : h53 1 2 = h 1 2 := ((u53 1 2 rfl).trans (u51 1 2 rfl))
  have e94 : h53 236 10 = h 236 10 := ((u53 236 10 rfl).trans (u51 236 10 rfl))
  have e95 : h53 1 3 = h 1 3 := ((u53 1 3 rfl).trans (u51 1 3 rfl))
  have e96 : h53 236 11 = h 236 11 := ((u53 236 11 rfl).trans (u51 236 11 rfl))
  have gp97 := GPH.fr u51 rfl gp0
  have gp98 := GPH.fr u53 rfl gp97
  have b99 := gi_b (lo := 0) (hi := 5) g 241 0 rfl
  have b100 := gi_b (lo := 0) (hi := 4) g 241 1 rfl
  have gs101 := GPS.fr u51 rfl gs0
  have gs102 := GPS.fr u53 rfl gs101
  have e103 : h53 0 12 = h 0 12 := ((u53 0 12 rfl).trans (u51 0 12 rfl))
  have e104 : h53 236 21 = h 236 21 := ((u53 236 21 rfl).trans (u51 236 21 rfl))
  exact k h53 b c ⟨g53, (show h53 1 1 = h53 236 2 by omega), (RS.i0 (f := h53 238) (by refine ⟨?_, ?_, ?_, ?_, ?_⟩ <;> omega)), (RS.i0 (f := h53 241) (by refine ⟨?_, ?_, ?_, ?_, ?_⟩ <;> omega)), gp98, (BRh.keep br0 (fun i => ((u53 2 i (fo_nk rfl)).trans (u51 2 i (fo_nk rfl)))) (fun i => ((u53 237 i (fo_nk rfl)).trans (u51 237 i (fo_nk rfl)))) (by omega)), (show h53 1 2 = h53 236 10 by omega), (show h53 1 3 = h53 236 11 by omega), (SVx.keep sv0 (by omega) (fun i _ => ((u53 3 i (fo_nk rfl)).trans (u51 3 i (fo_nk rfl)))) (fun i _ => ((u53 5 i (fo_nk rfl)).trans (u51 5 i (fo_nk rfl)))) (fun i _ => ((u53 6 i (fo_nk rfl)).trans (u51 6 i (fo_nk rfl)))) (fun i _ => ((u53 8 i (fo_nk rfl)).trans (u51 8 i (fo_nk rfl)))) (fun i _ => ((u53 238 i (fo_nk rfl)).trans (u51 238 i (fo_nk rfl))))), (show h53 0 12 = h53 236 21 by omega), (fun e => (SVx.keep (ss0 (by omega)) (by omega) (fun i _ => ((u53 210 i (fo_nk rfl)).trans (u51 210 i (fo_nk rfl)))) (fun i _ => ((u53 212 i (fo_nk rfl)).trans (u51 212 i (fo_nk rfl)))) (fun i _ => ((u53 213 i (fo_nk rfl)).trans (u51 213 i (fo_nk rfl)))) (fun i _ => ((u53 215 i (fo_nk rfl)).trans (u51 215 i (fo_nk rfl)))) (fun i _ => ((u53 241 i (fo_nk rfl)).trans (u51 241 i (fo_nk rfl)))))), gs102⟩ (by omega) (by omega)
-- the law, case at 1368
set_option maxRecDepth 100000 in
set_option maxHeartbeats 100000000 in
theorem lc_1368 {L : Nat} {xs : Nat → Int32} {d b c : Nat} {h : hp} {cr : Nat → Nat → Option Nat} {Q : hp_Q} (hcr : CR cr) (hL : L ≤ 3072) (hr : 1 ≤ b ∧ 6 ≤ c) (I : LI h) (i : Int) (hi : 0 ≤ i ∧ i + 6 ≤ L) (k : ∀ (h2 : hp) (b2 c2 : Nat), LI h2 → b ≤ b2 + 1 → c ≤ c2 + 6 → wp (md_xa (L, xs)) (d + 107) 0 (1529, [(0, .ref 1000000), (1, .ref 0), (2, .ref 236), (3, .ref 259), (4, vi i)], [], hp_w h2 cr, b2, c2) Q) : wp (md_xa (L, xs)) (d + 107) 0 (1368, [(0, .ref 1000000), (1, .ref 0), (2, .ref 236), (3, .ref 259), (4, vi i)], [], hp_w h cr, b, c) Q := by
  obtain ⟨g, i11, r238, r241, gp0, br0, er2, er3, sv0, sf0, ss0, gs0⟩ := I
  have r238e := r238.e0
  have r241e := r241.e0
  obtain ⟨⟨se0, se1, se2, se3, se4, se5, se6, se7, se8, se9⟩, -⟩ := id sv0
  have b1 := gi_b (lo := 0) (hi := 5) g 3 0 rfl
  have b2 := gi_b (lo := 0) (hi := 5) g 238 0 rfl
  have b3 := gi_b (lo := 0) (hi := 4) g 3 1 rfl
  have b4 := gi_b (lo := 0) (hi := 4) g 238 1 rfl
  have b5 := gi_b (lo := 0) (hi := 12) g 3 2 rfl
  have b6 := gi_b (lo := 0) (hi := 12) g 238 2 rfl
  have b7 := gi_b (lo := -2147483648) (hi := 2147483647) g 3 3 rfl
  have b8 := gi_b (lo := 0) (hi := 999) g 238 3 rfl
  have b9 := gi_b (lo := -2147483648) (hi := 2147483647) g 3 4 rfl
  have b10 := gi_b (lo := 0) (hi := 999) g 238 4 rfl
  have b11 := gi_b (lo := -2147483648) (hi := 2147483647) g 3 5 rfl
  have b12 := gi_b (lo := 0) (hi := 9) g 238 5 rfl
  have b13 := gi_b (lo := -2147483648) (hi := 2147483647) g 3 6 rfl
  have b14 := gi_b (lo := 0) (hi := 999) g 238 6 rfl
  have b15 := gi_b (lo := -2147483648) (hi := 2147483647) g 3 7 rfl
  have b16 := gi_b (lo := 0) (hi := 3) g 238 7 rfl
  have b17 := gi_b (lo := -2147483648) (hi := 2147483647) g 3 8 rfl
  have b18 := gi_b (lo := 0) (hi := 999) g 238 8 rfl
  have b19 := gi_b (lo := -2147483648) (hi := 2147483647) g 3 9 rfl
  have b20 := gi_b (lo := 0) (hi := 999) g 238 9 rfl
  have b21 := gi_b (lo := 0) (hi := 1) g 0 12 rfl
  have b22 := gi_b (lo := 0) (hi := 1) g 236 21 rfl
  have bl_ := gi_b (lo := 0) (hi := 800) g 1 1 rfl
  have tb0 : BufC (h 2) (h 1 1) h := ⟨fun _ => rfl, rfl, by omega, by omega⟩
  have b23 := gi_b (lo := 0) (hi := 6) g 238 98 rfl
  have b24 := gi_b (lo := 0) (hi := 6) g 238 99 rfl
  have b25 := gi_b (lo := 0) (hi := 6) g 238 100 rfl
  have b26 := gi_b (lo := 0) (hi := 6) g 238 101 rfl
  have b27 := gi_b (lo := 0) (hi := 3) g 238 102 rfl
  have b28 := gi_b (lo := 0) (hi := 12) g 238 106 rfl
  have b29 := gi_b (lo := 0) (hi := 12) g 238 73 rfl
  have b30 := gi_b (lo := 0) (hi := 9999) g 238 119 rfl
  have b31 := gi_b (lo := 0) (hi := 9999) g 238 67 rfl
  have b32 := gi_b (lo := 0) (hi := 9) g 238 69 rfl
  have b33 := gi_b (lo := 0) (hi := 6) g 241 98 rfl
  have b34 := gi_b (lo := 0) (hi := 6) g 241 99 rfl
  have b35 := gi_b (lo := 0) (hi := 6) g 241 100 rfl
  have b36 := gi_b (lo := 0) (hi := 6) g 241 101 rfl
  have b37 := gi_b (lo := 0) (hi := 3) g 241 102 rfl
  have b38 := gi_b (lo := 0) (hi := 12) g 241 106 rfl
  have b39 := gi_b (lo := 0) (hi := 12) g 241 73 rfl
  have b40 := gi_b (lo := 0) (hi := 12) g 241 2 rfl
  have b41 := gi_b (lo := 0) (hi := 9999) g 241 119 rfl
  have b42 := gi_b (lo := 0) (hi := 9999) g 241 67 rfl
  have b43 := gi_b (lo := 0) (hi := 9) g 241 69 rfl
  have b44 := gi_b (lo := 0) (hi := 9) g 241 5 rfl
  have b45 := gi_b (lo := 0) (hi := 800) g 1 1 rfl
  have b46 := gi_b (lo := 0) (hi := 800) g 236 2 rfl
  have b47 := gi_b (lo := -2147483648) (hi := 2147483647) g 1 2 rfl
  have b48 := gi_b (lo := -2147483648) (hi := 2147483647) g 236 10 rfl
  have b49 := gi_b (lo := -2147483648) (hi := 2147483647) g 1 3 rfl
  have b50 := gi_b (lo := -2147483648) (hi := 2147483647) g 236 11 rfl
  refine wi_aload_n (i := 1) (x := 0) (nx := 1369) (r1 := 0) (r2 := 0) (r3 := 0) rfl rfl ?_
  refine wi_aload_n (i := 0) (x := 1000000) (nx := 1370) (r1 := 0) (r2 := 0) (r3 := 0) rfl rfl ?_
  refine wi_iload (i := 4) (e := i) (nx := 1372) (r1 := 0) (r2 := 0) (r3 := 0) rfl rfl ?_
  refine wi_iconst (n := 1) (nx := 1373) (r1 := 0) (r2 := 0) (r3 := 0) rfl ?_
  refine wr_add (nx := 1374) (r1 := 0) (r2 := 0) (r3 := 0) rfl (fun e51 (fe51 : e51 = i + 1) => ?_)
  obtain ⟨i52, ei52⟩ : ∃ q : Nat, e51 = (q : Int) := ⟨(e51).toNat, by omega⟩
  have s53 := sc_b (xs i52)
  refine wr_sc (a := e51) (f := i52) (nx := 1375) (r1 := 0) (r2 := 0) (r3 := 0) rfl (by omega) (by omega) hL ?_
  refine wr_V (k0 := 0) (rest := []) (as := [.ref 0, vi ((xs i52).toInt)]) (nx := 1378) (r1 := 56) (r2 := 1) (r3 := 0) rfl rfl rfl (of_decide_eq_true rfl) rfl rfl (by decide) rfl rfl (of_decide_eq_true rfl) (of_decide_eq_true rfl) ?_
  refine ct_56_0 hcr  g ((xs i52).toInt) (by omega)  (fun h54 z55 g54 u54 (fz55 : -2147483648 ≤ z55 ∧ z55 ≤ 2147483647) => ?_)
  refine wk_i ?_
  refine wi_pop (nx := 1379) (r1 := 0) (r2 := 0) (r3 := 0) rfl rfl ?_
  refine wi_aload_n (i := 2) (x := 236) (nx := 1380) (r1 := 0) (r2 := 0) (r3 := 0) rfl rfl ?_
  refine wi_aload_n (i := 0) (x := 1000000) (nx := 1381) (r1 := 0) (r2 := 0) (r3 := 0) rfl rfl ?_
  refine wi_iload (i := 4) (e := i) (nx := 1383) (r1 := 0) (r2 := 0) (r3 := 0) rfl rfl ?_
  refine wi_iconst (n := 1) (nx := 1384) (r1 := 0) (r2 := 0) (r3 := 0) rfl ?_
  refine wr_add (nx := 1385) (r1 := 0) (r2 := 0) (r3 := 0) rfl (fun e56 (fe56 : e56 = i + 1) => ?_)
  refine wr_sc (a := e56) (f := i52) (nx := 1386) (r1 := 0) (r2 := 0) (r3 := 0) rfl (by omega) (by omega) hL ?_
  refine wr_V (k0 := 236) (rest := []) (as := [.ref 236, vi ((xs i52).toInt)]) (nx := 1389) (r1 := 331) (r2 := 1) (r3 := 11) rfl rfl rfl (of_decide_eq_true rfl) rfl rfl (by decide) rfl rfl (of_decide_eq_true rfl) (of_decide_eq_true rfl) ?_
  have e58 : h54 238 98 = h 238 98 := (u54 238 98 rfl)
  have e59 : h54 238 99 = h 238 99 := (u54 238 99 rfl)
  have e60 : h54 238 100 = h 238 100 := (u54 238 100 rfl)
  have e61 : h54 238 101 = h 238 101 := (u54 238 101 rfl)
  have e62 : h54 238 102 = h 238 102 := (u54 238 102 rfl)
  have e63 : h54 238 106 = h 238 106 := (u54 238 106 rfl)
  have e64 : h54 238 73 = h 238 73 := (u54 238 73 rfl)
  have e65 : h54 238 2 = h 238 2 := (u54 238 2 rfl)
  have e66 : h54 238 119 = h 238 119 := (u54 238 119 rfl)
  have e67 : h54 238 67 = h 238 67 := (u54 238 67 rfl)
  have e68 : h54 238 69 = h 238 69 := (u54 238 69 rfl)
  have e69 : h54 238 5 = h 238 5 := (u54 238 5 rfl)
  refine ct_331_236 hcr  g54 ((xs i52).toInt) (by omega) (show (h54 238 98) + (h54 238 99) + (h54 238 100) + (h54 238 101) + (h54 238 102) + (h54 238 106) = (h54 238 73) by omega) (show (h54 238 73) ≤ (h54 238 2) by omega) (show (h54 238 119) ≤ (h54 238 67) by omega) (show (h54 238 69) ≤ (h54 238 5) by omega) (show (h54 238 2) ≤ 12 * (h54 238 5) by omega) (fun h57 z70 g57 u57 (fz70 : -1 ≤ z70 ∧ z70 ≤ 4) => ?_)
  refine wk_i ?_
  refine wi_pop (nx := 1390) (r1 := 0) (r2 := 0) (r3 := 0) rfl rfl ?_
  refine wi_goto (nx := 1393) (r1 := 1529) (r2 := 0) (r3 := 0) rfl ?_
  have e71 : h57 238 98 = h 238 98 := ((u57 238 98 rfl).trans (u54 238 98 rfl))
  have e72 : h57 238 99 = h 238 99 := ((u57 238 99 rfl).trans (u54 238 99 rfl))
  have e73 : h57 238 100 = h 238 100 := ((u57 238 100 rfl).trans (u54 238 100 rfl))
  have e74 : h57 238 101 = h 238 101 := ((u57 238 101 rfl).trans (u54 238 101 rfl))
  have e75 : h57 238 102 = h 238 102 := ((u57 238 102 rfl).trans (u54 238 102 rfl))
  have e76 : h57 238 106 = h 238 106 := ((u57 238 106 rfl).trans (u54 238 106 rfl))
  have e77 : h57 238 73 = h 238 73 := ((u57 238 73 rfl).trans (u54 238 73 rfl))
  have e78 : h57 238 2 = h 238 2 := ((u57 238 2 rfl).trans (u54 238 2 rfl))
  have e79 : h57 238 119 = h 238 119 := ((u57 238 119 rfl).trans (u54 238 119 rfl))
  have e80 : h57 238 67 = h 238 67 := ((u57 238 67 rfl).trans (u54 238 67 rfl))
  have e81 : h57 238 69 = h 238 69 := ((u57 238 69 rfl).trans (u54 238 69 rfl))
  have e82 : h57 238 5 = h 238 5 := ((u57 238 5 rfl).trans (u54 238 5 rfl))
  have e83 : h57 241 98 = h 241 98 := ((u57 241 98 rfl).trans (u54 241 98 rfl))
  have e84 : h57 241 99 = h 241 99 := ((u57 241 99 rfl).trans (u54 241 99 rfl))
  have e85 : h57 241 100 = h 241 100 := ((u57 241 100 rfl).trans (u54 241 100 rfl))
  have e86 : h57 241 101 = h 241 101 := ((u57 241 101 rfl).trans (u54 241 101 rfl))
  have e87 : h57 241 102 = h 241 102 := ((u57 241 102 rfl).trans (u54 241 102 rfl))
  have e88 : h57 241 106 = h 241 106 := ((u57 241 106 rfl).trans (u54 241 106 rfl))
  have e89 : h57 241 73 = h 241 73 := ((u57 241 73 rfl).trans (u54 241 73 rfl))
  have e90 : h57 241 2 = h 241 2 := ((u57 241 2 rfl).trans (u54 241 2 rfl))
  have e91 : h57 241 119 = h 241 119 := ((u57 241 119 rfl).trans (u54 241 119 rfl))
  have e92 : h57 241 67 = h 241 67 := ((u57 241 67 rfl).trans (u54 241 67 rfl))
  have e93 : h57 241 69 = h 241 69 := ((u57 241 69 rfl).trans (u54 241 69 rfl))
  have e94 : h57 241 5 = h 241 5 := ((u57 241 5 rfl).trans (u54 241 5 rfl))
  have e95 : h57 1 1 = h 1 1 := ((u57 1 1 rfl).trans (u54 1 1 rfl))
  have e96 : h57 236 2 = h 236 2 := ((u57 236 2 rfl).trans (u54 236 2 rfl))
  have e97 : h57 1 2 = h 1 2 := ((u57 1 2 rfl).trans (u54 1 2 rfl))
  have e98 : h57 236 10 = h 236 10 := ((u57 236 10 rfl).trans (u54 236 10 rfl))
  have e99 : h57 1 3 = h 1 3 := ((u57 1 3 rfl).trans (u54 1 3 rfl))
  have e100 : h57 236 11 = h 236 11 := ((u57 236 11 rfl).trans (u54 236 11 rfl))
  have gp101 := GPH.fr u54 rfl gp0
  have gp102 := GPH.fr u57 rfl gp101
  have b103 := gi_b (lo := 0) (hi := 5) g 241 0 rfl
  have b104 := gi_b (lo := 0) (hi := 4) g 241 1 rfl
  have gs105 := GPS.fr u54 rfl gs0
  have gs106 := GPS.fr u57 rfl gs105
  have e107 : h57 0 12 = h 0 12 := ((u57 0 12 rfl).trans (u54 0 12 rfl))
  have e108 : h57 236 21 = h 236 21 := ((u57 236 21 rfl).trans (u54 236 21 rfl))
  exact k h57 b c ⟨g57, (show h57 1 1 = h57 236 2 by omega), (RS.i0 (f := h57 238) (by refine ⟨?_, ?_, ?_, ?_, ?_⟩ <;> omega)), (RS.i0 (f := h57 241) (by refine ⟨?_, ?_, ?_, ?_, ?_⟩ <;> omega)), gp102, (BRh.keep br0 (fun i => ((u57 2 i (fo_nk rfl)).trans (u54 2 i (fo_nk rfl)))) (fun i => ((u57 237 i (fo_nk rfl)).trans (u54 237 i (fo_nk rfl)))) (by omega)), (show h57 1 2 = h57 236 10 by omega), (show h57 1 3 = h57 236 11 by omega), (SVx.keep sv0 (by omega) (fun i _ => ((u57 3 i (fo_nk rfl)).trans (u54 3 i (fo_nk rfl)))) (fun i _ => ((u57 5 i (fo_nk rfl)).trans (u54 5 i (fo_nk rfl)))) (fun i _ => ((u57 6 i (fo_nk rfl)).trans (u54 6 i (fo_nk rfl)))) (fun i _ => ((u57 8 i (fo_nk rfl)).trans (u54 8 i (fo_nk rfl)))) (fun i _ => ((u57 238 i (fo_nk rfl)).trans (u54 238 i (fo_nk rfl))))), (show h57 0 12 = h57 236 21 by omega), (fun e => (SVx.keep (ss0 (by omega)) (by omega) (fun i _ => ((u57 210 i (fo_nk rfl)).trans (u54 210 i (fo_nk rfl)))) (fun i _ => ((u57 212 i (fo_nk rfl)).trans (u54 212 i (fo_nk rfl)))) (fun i _ => ((u57 213 i (fo_nk rfl)).trans (u54 213 i (fo_nk rfl)))) (fun i _ => ((u57 215 i (fo_nk rfl)).trans (u54 215 i (fo_nk rfl)))) (fun i _ => ((u57 241 i (fo_nk rfl)).trans (u54 241 i (fo_nk rfl)))))), gs106⟩ (by omega) (by omega)
-- the law, case at 1393
set_option maxRecDepth 100000 in
set_option maxHeartbeats 100000000 in
theorem lc_1393 {L : Nat} {xs : Nat → Int32} {d b c : Nat} {h : hp} {cr : Nat → Nat → Option Nat} {Q : hp_Q} (hcr : CR cr) (hL : L ≤ 3072) (hr : 1 ≤ b ∧ 6 ≤ c) (I : LI h) (i : Int) (hi : 0 ≤ i ∧ i + 6 ≤ L) (k : ∀ (h2 : hp) (b2 c2 : Nat), LI h2 → b ≤ b2 + 1 → c ≤ c2 + 6 → wp (md_xa (L, xs)) (d + 107) 0 (1529, [(0, .ref 1000000), (1, .ref 0), (2, .ref 236), (3, .ref 259), (4, vi i)], [], hp_w h2 cr, b2, c2) Q) : wp (md_xa (L, xs)) (d + 107) 0 (1393, [(0, .ref 1000000), (1, .ref 0), (2, .ref 236), (3, .ref 259), (4, vi i)], [], hp_w h cr, b, c) Q := by
  obtain ⟨g, i11, r238, r241, gp0, br0, er2, er3, sv0, sf0, ss0, gs0⟩ := I
  have r238e := r238.e0
  have r241e := r241.e0
  obtain ⟨⟨se0, se1, se2, se3, se4, se5, se6, se7, se8, se9⟩, -⟩ := id sv0
  have b1 := gi_b (lo := 0) (hi := 5) g 3 0 rfl
  have b2 := gi_b (lo := 0) (hi := 5) g 238 0 rfl
  have b3 := gi_b (lo := 0) (hi := 4) g 3 1 rfl
  have b4 := gi_b (lo := 0) (hi := 4) g 238 1 rfl
  have b5 := gi_b (lo := 0) (hi := 12) g 3 2 rfl
  have b6 := gi_b (lo := 0) (hi := 12) g 238 2 rfl
  have b7 := gi_b (lo := -2147483648) (hi := 2147483647) g 3 3 rfl
  have b8 := gi_b (lo := 0) (hi := 999) g 238 3 rfl
  have b9 := gi_b (lo := -2147483648) (hi := 2147483647) g 3 4 rfl
  have b10 := gi_b (lo := 0) (hi := 999) g 238 4 rfl
  have b11 := gi_b (lo := -2147483648) (hi := 2147483647) g 3 5 rfl
  have b12 := gi_b (lo := 0) (hi := 9) g 238 5 rfl
  have b13 := gi_b (lo := -2147483648) (hi := 2147483647) g 3 6 rfl
  have b14 := gi_b (lo := 0) (hi := 999) g 238 6 rfl
  have b15 := gi_b (lo := -2147483648) (hi := 2147483647) g 3 7 rfl
  have b16 := gi_b (lo := 0) (hi := 3) g 238 7 rfl
  have b17 := gi_b (lo := -2147483648) (hi := 2147483647) g 3 8 rfl
  have b18 := gi_b (lo := 0) (hi := 999) g 238 8 rfl
  have b19 := gi_b (lo := -2147483648) (hi := 2147483647) g 3 9 rfl
  have b20 := gi_b (lo := 0) (hi := 999) g 238 9 rfl
  have b21 := gi_b (lo := 0) (hi := 1) g 0 12 rfl
  have b22 := gi_b (lo := 0) (hi := 1) g 236 21 rfl
  have bl_ := gi_b (lo := 0) (hi := 800) g 1 1 rfl
  have tb0 : BufC (h 2) (h 1 1) h := ⟨fun _ => rfl, rfl, by omega, by omega⟩
  have b23 := gi_b (lo := 0) (hi := 6) g 238 98 rfl
  have b24 := gi_b (lo := 0) (hi := 6) g 238 99 rfl
  have b25 := gi_b (lo := 0) (hi := 6) g 238 100 rfl
  have b26 := gi_b (lo := 0) (hi := 6) g 238 101 rfl
  have b27 := gi_b (lo := 0) (hi := 3) g 238 102 rfl
  have b28 := gi_b (lo := 0) (hi := 12) g 238 106 rfl
  have b29 := gi_b (lo := 0) (hi := 12) g 238 73 rfl
  have b30 := gi_b (lo := 0) (hi := 9999) g 238 119 rfl
  have b31 := gi_b (lo := 0) (hi := 9999) g 238 67 rfl
  have b32 := gi_b (lo := 0) (hi := 9) g 238 69 rfl
  have b33 := gi_b (lo := 0) (hi := 6) g 241 98 rfl
  have b34 := gi_b (lo := 0) (hi := 6) g 241 99 rfl
  have b35 := gi_b (lo := 0) (hi := 6) g 241 100 rfl
  have b36 := gi_b (lo := 0) (hi := 6) g 241 101 rfl
  have b37 := gi_b (lo := 0) (hi := 3) g 241 102 rfl
  have b38 := gi_b (lo := 0) (hi := 12) g 241 106 rfl
  have b39 := gi_b (lo := 0) (hi := 12) g 241 73 rfl
  have b40 := gi_b (lo := 0) (hi := 12) g 241 2 rfl
  have b41 := gi_b (lo := 0) (hi := 9999) g 241 119 rfl
  have b42 := gi_b (lo := 0) (hi := 9999) g 241 67 rfl
  have b43 := gi_b (lo := 0) (hi := 9) g 241 69 rfl
  have b44 := gi_b (lo := 0) (hi := 9) g 241 5 rfl
  have b45 := gi_b (lo := 0) (hi := 800) g 1 1 rfl
  have b46 := gi_b (lo := 0) (hi := 800) g 236 2 rfl
  have b47 := gi_b (lo := -2147483648) (hi := 2147483647) g 1 2 rfl
  have b48 := gi_b (lo := -2147483648) (hi := 2147483647) g 236 10 rfl
  have b49 := gi_b (lo := -2147483648) (hi := 2147483647) g 1 3 rfl
  have b50 := gi_b (lo := -2147483648) (hi := 2147483647) g 236 11 rfl
  refine wi_aload_n (i := 1) (x := 0) (nx := 1394) (r1 := 0) (r2 := 0) (r3 := 0) rfl rfl ?_
  refine wr_V (k0 := 0) (rest := []) (as := [.ref 0]) (nx := 1397) (r1 := 57) (r2 := 0) (r3 := 0) rfl rfl rfl (of_decide_eq_true rfl) rfl rfl (by decide) rfl rfl (of_decide_eq_true rfl) (of_decide_eq_true rfl) ?_
  refine ct_57_0 hcr  g    (fun z52  (fz52 : 0 ≤ z52 ∧ z52 ≤ 20) => ?_)
  refine wk_i ?_
  refine wi_pop (nx := 1398) (r1 := 0) (r2 := 0) (r3 := 0) rfl rfl ?_
  refine wi_aload_n (i := 2) (x := 236) (nx := 1399) (r1 := 0) (r2 := 0) (r3 := 0) rfl rfl ?_
  refine wr_V (k0 := 236) (rest := []) (as := [.ref 236]) (nx := 1402) (r1 := 344) (r2 := 0) (r3 := 11) rfl rfl rfl (of_decide_eq_true rfl) rfl rfl (by decide) rfl rfl (of_decide_eq_true rfl) (of_decide_eq_true rfl) ?_
  refine ct_344_236 hcr  g    (fun h53 z54 g53 u53 (fz54 : 0 ≤ z54 ∧ z54 ≤ 20) => ?_)
  refine wk_i ?_
  refine wi_pop (nx := 1403) (r1 := 0) (r2 := 0) (r3 := 0) rfl rfl ?_
  refine wi_goto (nx := 1406) (r1 := 1529) (r2 := 0) (r3 := 0) rfl ?_
  have e55 : h53 238 98 = h 238 98 := (u53 238 98 rfl)
  have e56 : h53 238 99 = h 238 99 := (u53 238 99 rfl)
  have e57 : h53 238 100 = h 238 100 := (u53 238 100 rfl)
  have e58 : h53 238 101 = h 238 101 := (u53 238 101 rfl)
  have e59 : h53 238 102 = h 238 102 := (u53 238 102 rfl)
  have e60 : h53 238 106 = h 238 106 := (u53 238 106 rfl)
  have e61 : h53 238 73 = h 238 73 := (u53 238 73 rfl)
  have e62 : h53 238 2 = h 238 2 := (u53 238 2 rfl)
  have e63 : h53 238 119 = h 238 119 := (u53 238 119 rfl)
  have e64 : h53 238 67 = h 238 67 := (u53 238 67 rfl)
  have e65 : h53 238 69 = h 238 69 := (u53 238 69 rfl)
  have e66 : h53 238 5 = h 238 5 := (u53 238 5 rfl)
  have e67 : h53 241 98 = h 241 98 := (u53 241 98 rfl)
  have e68 : h53 241 99 = h 241 99 := (u53 241 99 rfl)
  have e69 : h53 241 100 = h 241 100 := (u53 241 100 rfl)
  have e70 : h53 241 101 = h 241 101 := (u53 241 101 rfl)
  have e71 : h53 241 102 = h 241 102 := (u53 241 102 rfl)
  have e72 : h53 241 106 = h 241 106 := (u53 241 106 rfl)
  have e73 : h53 241 73 = h 241 73 := (u53 241 73 rfl)
  have e74 : h53 241 2 = h 241 2 := (u53 241 2 rfl)
  have e75 : h53 241 119 = h 241 119 := (u53 241 119 rfl)
  have e76 : h53 241 67 = h 241 67 := (u53 241 67 rfl)
  have e77 : h53 241 69 = h 241 69 := (u53 241 69 rfl)
  have e78 : h53 241 5 = h 241 5 := (u53 241 5 rfl)
  have e79 : h53 1 1 = h 1 1 := (u53 1 1 rfl)
  have e80 : h53 236 2 = h 236 2 := (u53 236 2 rfl)
  have e81 : h53 1 2 = h 1 2 := (u53 1 2 rfl)
  have e82 : h53 236 10 = h 236 10 := (u53 236 10 rfl)
  have e83 : h53 1 3 = h 1 3 := (u53 1 3 rfl)
  have e84 : h53 236 11 = h 236 11 := (u53 236 11 rfl)
  have gp85 := GPH.fr u53 rfl gp0
  have b86 := gi_b (lo := 0) (hi := 5) g 241 0 rfl
  have b87 := gi_b (lo := 0) (hi := 4) g 241 1 rfl
  have gs88 := GPS.fr u53 rfl gs0
  have e89 : h53 0 12 = h 0 12 := (u53 0 12 rfl)
  have e90 : h53 236 21 = h 236 21 := (u53 236 21 rfl)
  exact k h53 b c ⟨g53, (show h53 1 1 = h53 236 2 by omega), (RS.i0 (f := h53 238) (by refine ⟨?_, ?_, ?_, ?_, ?_⟩ <;> omega)), (RS.i0 (f := h53 241) (by refine ⟨?_, ?_, ?_, ?_, ?_⟩ <;> omega)), gp85, (BRh.keep br0 (fun i => (u53 2 i (fn_a (by decide) fn_0))) (fun i => (u53 237 i (fn_a (by decide) fn_0))) (by omega)), (show h53 1 2 = h53 236 10 by omega), (show h53 1 3 = h53 236 11 by omega), (SVx.keep sv0 (by omega) (fun i _ => (u53 3 i (fn_a (by decide) fn_0))) (fun i _ => (u53 5 i (fn_a (by decide) fn_0))) (fun i _ => (u53 6 i (fn_a (by decide) fn_0))) (fun i _ => (u53 8 i (fn_a (by decide) fn_0))) (fun i _ => (u53 238 i (fn_a (by decide) fn_0)))), (show h53 0 12 = h53 236 21 by omega), (fun e => (SVx.keep (ss0 (by omega)) (by omega) (fun i _ => (u53 210 i (fn_a (by decide) fn_0))) (fun i _ => (u53 212 i (fn_a (by decide) fn_0))) (fun i _ => (u53 213 i (fn_a (by decide) fn_0))) (fun i _ => (u53 215 i (fn_a (by decide) fn_0))) (fun i _ => (u53 241 i (fn_a (by decide) fn_0))))), gs88⟩ (by omega) (by omega)
-- the law, case at 1406
set_option maxRecDepth 100000 in
set_option maxHeartbeats 100000000 in
theorem lc_1406 {L : Nat} {xs : Nat → Int32} {d b c : Nat} {h : hp} {cr : Nat → Nat → Option Nat} {Q : hp_Q} (hcr : CR cr) (hL : L ≤ 3072) (hr : 1 ≤ b ∧ 6 ≤ c) (I : LI h) (i : Int) (hi : 0 ≤ i ∧ i + 6 ≤ L) (k : ∀ (h2 : hp) (b2 c2 : Nat), LI h2 → b ≤ b2 + 1 → c ≤ c2 + 6 → wp (md_xa (L, xs)) (d + 107) 0 (1529, [(0, .ref 1000000), (1, .ref 0), (2, .ref 236), (3, .ref 259), (4, vi i)], [], hp_w h2 cr, b2, c2) Q) : wp (md_xa (L, xs)) (d + 107) 0 (1406, [(0, .ref 1000000), (1, .ref 0), (2, .ref 236), (3, .ref 259), (4, vi i)], [], hp_w h cr, b, c) Q := by
  obtain ⟨g, i11, r238, r241, gp0, br0, er2, er3, sv0, sf0, ss0, gs0⟩ := I
  have r238e := r238.e0
  have r241e := r241.e0
  obtain ⟨⟨se0, se1, se2, se3, se4, se5, se6, se7, se8, se9⟩, -⟩ := id sv0
  have b1 := gi_b (lo := 0) (hi := 5) g 3 0 rfl
  have b2 := gi_b (lo := 0) (hi := 5) g 238 0 rfl
  have b3 := gi_b (lo := 0) (hi := 4) g 3 1 rfl
  have b4 := gi_b (lo := 0) (hi := 4) g 238 1 rfl
  have b5 := gi_b (lo := 0) (hi := 12) g 3 2 rfl
  have b6 := gi_b (lo := 0) (hi := 12) g 238 2 rfl
  have b7 := gi_b (lo := -2147483648) (hi := 2147483647) g 3 3 rfl
  have b8 := gi_b (lo := 0) (hi := 999) g 238 3 rfl
  have b9 := gi_b (lo := -2147483648) (hi := 2147483647) g 3 4 rfl
  have b10 := gi_b (lo := 0) (hi := 999) g 238 4 rfl
  have b11 := gi_b (lo := -2147483648) (hi := 2147483647) g 3 5 rfl
  have b12 := gi_b (lo := 0) (hi := 9) g 238 5 rfl
  have b13 := gi_b (lo := -2147483648) (hi := 2147483647) g 3 6 rfl
  have b14 := gi_b (lo := 0) (hi := 999) g 238 6 rfl
  have b15 := gi_b (lo := -2147483648) (hi := 2147483647) g 3 7 rfl
  have b16 := gi_b (lo := 0) (hi := 3) g 238 7 rfl
  have b17 := gi_b (lo := -2147483648) (hi := 2147483647) g 3 8 rfl
  have b18 := gi_b (lo := 0) (hi := 999) g 238 8 rfl
  have b19 := gi_b (lo := -2147483648) (hi := 2147483647) g 3 9 rfl
  have b20 := gi_b (lo := 0) (hi := 999) g 238 9 rfl
  have b21 := gi_b (lo := 0) (hi := 1) g 0 12 rfl
  have b22 := gi_b (lo := 0) (hi := 1) g 236 21 rfl
  have bl_ := gi_b (lo := 0) (hi := 800) g 1 1 rfl
  have tb0 : BufC (h 2) (h 1 1) h := ⟨fun _ => rfl, rfl, by omega, by omega⟩
  have b23 := gi_b (lo := 0) (hi := 6) g 238 98 rfl
  have b24 := gi_b (lo := 0) (hi := 6) g 238 99 rfl
  have b25 := gi_b (lo := 0) (hi := 6) g 238 100 rfl
  have b26 := gi_b (lo := 0) (hi := 6) g 238 101 rfl
  have b27 := gi_b (lo := 0) (hi := 3) g 238 102 rfl
  have b28 := gi_b (lo := 0) (hi := 12) g 238 106 rfl
  have b29 := gi_b (lo := 0) (hi := 12) g 238 73 rfl
  have b30 := gi_b (lo := 0) (hi := 9999) g 238 119 rfl
  have b31 := gi_b (lo := 0) (hi := 9999) g 238 67 rfl
  have b32 := gi_b (lo := 0) (hi := 9) g 238 69 rfl
  have b33 := gi_b (lo := 0) (hi := 6) g 241 98 rfl
  have b34 := gi_b (lo := 0) (hi := 6) g 241 99 rfl
  have b35 := gi_b (lo := 0) (hi := 6) g 241 100 rfl
  have b36 := gi_b (lo := 0) (hi := 6) g 241 101 rfl
  have b37 := gi_b (lo := 0) (hi := 3) g 241 102 rfl
  have b38 := gi_b (lo := 0) (hi := 12) g 241 106 rfl
  have b39 := gi_b (lo := 0) (hi := 12) g 241 73 rfl
  have b40 := gi_b (lo := 0) (hi := 12) g 241 2 rfl
  have b41 := gi_b (lo := 0) (hi := 9999) g 241 119 rfl
  have b42 := gi_b (lo := 0) (hi := 9999) g 241 67 rfl
  have b43 := gi_b (lo := 0) (hi := 9) g 241 69 rfl
  have b44 := gi_b (lo := 0) (hi := 9) g 241 5 rfl
  have b45 := gi_b (lo := 0) (hi := 800) g 1 1 rfl
  have b46 := gi_b (lo := 0) (hi := 800) g 236 2 rfl
  have b47 := gi_b (lo := -2147483648) (hi := 2147483647) g 1 2 rfl
  have b48 := gi_b (lo := -2147483648) (hi := 2147483647) g 236 10 rfl
  have b49 := gi_b (lo := -2147483648) (hi := 2147483647) g 1 3 rfl
  have b50 := gi_b (lo := -2147483648) (hi := 2147483647) g 236 11 rfl
  refine wi_aload_n (i := 1) (x := 0) (nx := 1407) (r1 := 0) (r2 := 0) (r3 := 0) rfl rfl ?_
  refine wi_aload_n (i := 0) (x := 1000000) (nx := 1408) (r1 := 0) (r2 := 0) (r3 := 0) rfl rfl ?_
  refine wi_iload (i := 4) (e := i) (nx := 1410) (r1 := 0) (r2 := 0) (r3 := 0) rfl rfl ?_
  refine wi_iconst (n := 1) (nx := 1411) (r1 := 0) (r2 := 0) (r3 := 0) rfl ?_
  refine wr_add (nx := 1412) (r1 := 0) (r2 := 0) (r3 := 0) rfl (fun e51 (fe51 : e51 = i + 1) => ?_)
  obtain ⟨i52, ei52⟩ : ∃ q : Nat, e51 = (q : Int) := ⟨(e51).toNat, by omega⟩
  have s53 := sc_b (xs i52)
  refine wr_sc (a := e51) (f := i52) (nx := 1413) (r1 := 0) (r2 := 0) (r3 := 0) rfl (by omega) (by omega) hL ?_
  refine wi_aload_n (i := 0) (x := 1000000) (nx := 1414) (r1 := 0) (r2 := 0) (r3 := 0) rfl rfl ?_
  refine wi_iload (i := 4) (e := i) (nx := 1416) (r1 := 0) (r2 := 0) (r3 := 0) rfl rfl ?_
  refine wi_iconst (n := 2) (nx := 1417) (r1 := 0) (r2 := 0) (r3 := 0) rfl ?_
  refine wr_add (nx := 1418) (r1 := 0) (r2 := 0) (r3 := 0) rfl (fun e54 (fe54 : e54 = i + 2) => ?_)
  obtain ⟨i55, ei55⟩ : ∃ q : Nat, e54 = (q : Int) := ⟨(e54).toNat, by omega⟩
  have s56 := sc_b (xs i55)
  refine wr_sc (a := e54) (f := i55) (nx := 1419) (r1 := 0) (r2 := 0) (r3 := 0) rfl (by omega) (by omega) hL ?_
  refine wi_aload_n (i := 3) (x := 259) (nx := 1420) (r1 := 0) (r2 := 0) (r3 := 0) rfl rfl ?_
  refine wi_S (rest := []) (as := [.ref 0, vi ((xs i52).toInt), vi ((xs i55).toInt), .ref 259]) (nx := 1423) (r1 := 23) (r2 := 20) (r3 := 0) rfl rfl rfl (of_decide_eq_true rfl) rfl rfl (of_decide_eq_true rfl) (of_decide_eq_true rfl) ?_
  refine wi_aload_n (i := 3) (x := 259) (nx := 1) (r1 := 0) (r2 := 0) (r3 := 0) rfl rfl ?_
  refine wi_iconst (n := 0) (nx := 2) (r1 := 0) (r2 := 0) (r3 := 0) rfl ?_
  refine wi_aload_n (i := 0) (x := 0) (nx := 3) (r1 := 0) (r2 := 0) (r3 := 0) rfl rfl ?_
  refine wi_iload_n (i := 1) (e := (xs i52).toInt) (nx := 4) (r1 := 0) (r2 := 0) (r3 := 0) rfl rfl ?_
  refine wi_iload_n (i := 2) (e := (xs i55).toInt) (nx := 5) (r1 := 0) (r2 := 0) (r3 := 0) rfl rfl ?_
  refine wr_V (k0 := 0) (rest := [vi 0, .ref 259]) (as := [.ref 0, vi ((xs i52).toInt), vi ((xs i55).toInt)]) (nx := 8) (r1 := 87) (r2 := 2) (r3 := 0) rfl rfl rfl (of_decide_eq_true rfl) rfl rfl (by decide) rfl rfl (of_decide_eq_true rfl) (of_decide_eq_true rfl) ?_
  refine ct_87_0 hcr hr  g ((xs i52).toInt) ((xs i55).toInt) (by omega) (by omega)  (fun z58  (fz58 : -2147483648 ≤ z58 ∧ z58 ≤ 2147483647) => ?_) ?_ ?_
  ·
    refine wk_i ?_
    refine wi_i2l (nx := 9) (r1 := 0) (r2 := 0) (r3 := 0) rfl (by omega) ?_
    refine wr_ls (k0 := 259) (a := 0) (f := 0) (x := z58) (bl := -9223372036854775808) (bh := 9223372036854775807) (nx := 10) (r1 := 0) (r2 := 0) (r3 := 0) rfl (by decide) rfl (by omega) (by omega) (by decide) g rfl (by omega) (fun h59 g59 w59 u59 => ?_)
    refine wi_goto (nx := 13) (r1 := 21) (r2 := 0) (r3 := 0) rfl ?_
    refine wi_iconst (n := 0) (nx := 22) (r1 := 0) (r2 := 0) (r3 := 0) rfl ?_
    refine wi_ireturn (nx := 23) (r1 := 0) (r2 := 0) (r3 := 0) rfl rfl ?_
    refine wk_i ?_
    refine wi_istore (i := 5) (e := 0) (lo2 := [(5, vi 0), (0, .ref 1000000), (1, .ref 0), (2, .ref 236), (3, .ref 259), (4, vi i)]) (nx := 1425) (r1 := 0) (r2 := 0) (r3 := 0) rfl rfl ?_
    refine wi_aload_n (i := 2) (x := 236) (nx := 1426) (r1 := 0) (r2 := 0) (r3 := 0) rfl rfl ?_
    refine wi_aload_n (i := 0) (x := 1000000) (nx := 1427) (r1 := 0) (r2 := 0) (r3 := 0) rfl rfl ?_
    refine wi_iload (i := 4) (e := i) (nx := 1429) (r1 := 0) (r2 := 0) (r3 := 0) rfl rfl ?_
    refine wi_iconst (n := 1) (nx := 1430) (r1 := 0) (r2 := 0) (r3 := 0) rfl ?_
    refine wr_add (nx := 1431) (r1 := 0) (r2 := 0) (r3 := 0) rfl (fun e60 (fe60 : e60 = i + 1) => ?_)
    refine wr_sc (a := e60) (f := i52) (nx := 1432) (r1 := 0) (r2 := 0) (r3 := 0) rfl (by omega) (by omega) hL ?_
    refine wi_aload_n (i := 0) (x := 1000000) (nx := 1433) (r1 := 0) (r2 := 0) (r3 := 0) rfl rfl ?_
    refine wi_iload (i := 4) (e := i) (nx := 1435) (r1 := 0) (r2 := 0) (r3 := 0) rfl rfl ?_
    refine wi_iconst (n := 2) (nx := 1436) (r1 := 0) (r2 := 0) (r3 := 0) rfl ?_
    refine wr_add (nx := 1437) (r1 := 0) (r2 := 0) (r3 := 0) rfl (fun e61 (fe61 : e61 = i + 2) => ?_)
    refine wr_sc (a := e61) (f := i55) (nx := 1438) (r1 := 0) (r2 := 0) (r3 := 0) rfl (by omega) (by omega) hL ?_
    refine wr_V (k0 := 236) (rest := []) (as := [.ref 236, vi ((xs i52).toInt), vi ((xs i55).toInt)]) (nx := 1441) (r1 := 345) (r2 := 2) (r3 := 11) rfl rfl rfl (of_decide_eq_true rfl) rfl rfl (by decide) rfl rfl (of_decide_eq_true rfl) (of_decide_eq_true rfl) ?_
    refine ct_345_236 hcr  g59 ((xs i52).toInt) ((xs i55).toInt) (by omega) (by omega)  (fun h62 z63 g62 u62 (fz63 : -2147483648 ≤ z63 ∧ z63 ≤ 2147483647) => ?_)
    refine wk_i ?_
    refine wi_istore (i := 6) (e := z63) (lo2 := [(6, vi z63), (5, vi 0), (0, .ref 1000000), (1, .ref 0), (2, .ref 236), (3, .ref 259), (4, vi i)]) (nx := 1443) (r1 := 0) (r2 := 0) (r3 := 0) rfl rfl ?_
    refine wi_goto (nx := 1446) (r1 := 1529) (r2 := 0) (r3 := 0) rfl ?_
    refine wp.lo (lo := [(0, .ref 1000000), (1, .ref 0), (2, .ref 236), (3, .ref 259), (4, vi i)]) ⟨rfl, rfl, rfl, rfl, rfl, trivial⟩ rfl ?_
    have e64 : h62 238 98 = h 238 98 := ((u62 238 98 rfl).trans (u59 238 98 rfl))
    have e65 : h62 238 99 = h 238 99 := ((u62 238 99 rfl).trans (u59 238 99 rfl))
    have e66 : h62 238 100 = h 238 100 := ((u62 238 100 rfl).trans (u59 238 100 rfl))
    have e67 : h62 238 101 = h 238 101 := ((u62 238 101 rfl).trans (u59 238 101 rfl))
    have e68 : h62 238 102 = h 238 102 := ((u62 238 102 rfl).trans (u59 238 102 rfl))
    have e69 : h62 238 106 = h 238 106 := ((u62 238 106 rfl).trans (u59 238 106 rfl))
    have e70 : h62 238 73 = h 238 73 := ((u62 238 73 rfl).trans (u59 238 73 rfl))
    have e71 : h62 238 2 = h 238 2 := ((u62 238 2 rfl).trans (u59 238 2 rfl))
    have e72 : h62 238 119 = h 238 119 := ((u62 238 119 rfl).trans (u59 238 119 rfl))
    have e73 : h62 238 67 = h 238 67 := ((u62 238 67 rfl).trans (u59 238 67 rfl))
    have e74 : h62 238 69 = h 238 69 := ((u62 238 69 rfl).trans (u59 238 69 rfl))
    have e75 : h62 238 5 = h 238 5 := ((u62 238 5 rfl).trans (u59 238 5 rfl))
    have e76 : h62 241 98 = h 241 98 := ((u62 241 98 rfl).trans (u59 241 98 rfl))
    have e77 : h62 241 99 = h 241 99 := ((u62 241 99 rfl).trans (u59 241 99 rfl))
    have e78 : h62 241 100 = h 241 100 := ((u62 241 100 rfl).trans (u59 241 100 rfl))
    have e79 : h62 241 101 = h 241 101 := ((u62 241 101 rfl).trans (u59 241 101 rfl))
    have e80 : h62 241 102 = h 241 102 := ((u62 241 102 rfl).trans (u59 241 102 rfl))
    have e81 : h62 241 106 = h 241 106 := ((u62 241 106 rfl).trans (u59 241 106 rfl))
    have e82 : h62 241 73 = h 241 73 := ((u62 241 73 rfl).trans (u59 241 73 rfl))
    have e83 : h62 241 2 = h 241 2 := ((u62 241 2 rfl).trans (u59 241 2 rfl))
    have e84 : h62 241 119 = h 241 119 := ((u62 241 119 rfl).trans (u59 241 119 rfl))
    have e85 : h62 241 67 = h 241 67 := ((u62 241 67 rfl).trans (u59 241 67 rfl))
    have e86 : h62 241 69 = h 241 69 := ((u62 241 69 rfl).trans (u59 241 69 rfl))
    have e87 : h62 241 5 = h 241 5 := ((u62 241 5 rfl).trans (u59 241 5 rfl))
    have e88 : h62 1 1 = h 1 1 := ((u62 1 1 rfl).trans (u59 1 1 rfl))
    have e89 : h62 236 2 = h 236 2 := ((u62 236 2 rfl).trans (u59 236 2 rfl))
    have e90 : h62 1 2 = h 1 2 := ((u62 1 2 rfl).trans (u59 1 2 rfl))
    have e91 : h62 236 10 = h 236 10 := ((u62 236 10 rfl).trans (u59 236 10 rfl))
    have e92 : h62 1 3 = h 1 3 := ((u62 1 3 rfl).trans (u59 1 3 rfl))
    have e93 : h62 236 11 = h 236 11 := ((u62 236 11 rfl).trans (u59 236 11 rfl))
    have gp94 := GPH.fr u59 rfl gp0
    have gp95 := GPH.fr u62 rfl gp94
    have b96 := gi_b (lo := 0) (hi := 5) g 241 0 rfl
    have b97 := gi_b (lo := 0) (hi := 4) g 241 1 rfl
    have gs98 := GPS.fr u59 rfl gs0
    have gs99 := GPS.fr u62 rfl gs98
    have e100 : h62 0 12 = h 0 12 := ((u62 0 12 rfl).trans (u59 0 12 rfl))
    have e101 : h62 236 21 = h 236 21 := ((u62 236 21 rfl).trans (u59 236 21 rfl))
    exact k h62 b c ⟨g62, (show h62 1 1 = h62 236 2 by omega), (RS.i0 (f := h62 238) (by refine ⟨?_, ?_, ?_, ?_, ?_⟩ <;> omega)), (RS.i0 (f := h62 241) (by refine ⟨?_, ?_, ?_, ?_, ?_⟩ <;> omega)), gp95, (BRh.keep br0 (fun i => ((u62 2 i (fn_a (by decide) fn_0)).trans (u59 2 i (fn_a (by omega) fn_0)))) (fun i => ((u62 237 i (fn_a (by decide) fn_0)).trans (u59 237 i (fn_a (by omega) fn_0)))) (by omega)), (show h62 1 2 = h62 236 10 by omega), (show h62 1 3 = h62 236 11 by omega), (SVx.keep sv0 (by omega) (fun i _ => ((u62 3 i (fn_a (by decide) fn_0)).trans (u59 3 i (fn_a (by omega) fn_0)))) (fun i _ => ((u62 5 i (fn_a (by decide) fn_0)).trans (u59 5 i (fn_a (by omega) fn_0)))) (fun i _ => ((u62 6 i (fn_a (by decide) fn_0)).trans (u59 6 i (fn_a (by omega) fn_0)))) (fun i _ => ((u62 8 i (fn_a (by decide) fn_0)).trans (u59 8 i (fn_a (by omega) fn_0)))) (fun i _ => ((u62 238 i (fn_a (by decide) fn_0)).trans (u59 238 i (fn_a (by omega) fn_0))))), (show h62 0 12 = h62 236 21 by omega), (fun e => (SVx.keep (ss0 (by omega)) (by omega) (fun i _ => ((u62 210 i (fn_a (by decide) fn_0)).trans (u59 210 i (fn_a (by omega) fn_0)))) (fun i _ => ((u62 212 i (fn_a (by decide) fn_0)).trans (u59 212 i (fn_a (by omega) fn_0)))) (fun i _ => ((u62 213 i (fn_a (by decide) fn_0)).trans (u59 213 i (fn_a (by omega) fn_0)))) (fun i _ => ((u62 215 i (fn_a (by decide) fn_0)).trans (u59 215 i (fn_a (by omega) fn_0)))) (fun i _ => ((u62 241 i (fn_a (by decide) fn_0)).trans (u59 241 i (fn_a (by omega) fn_0)))))), gs99⟩ (by omega) (by omega)
  ·
    refine wk_h 17 (by decide) rfl ?_
    refine wr_asty (i := 4) (lo2 := [(4, .retAddr 0), (0, .ref 0), (1, vi ((xs i52).toInt)), (2, vi ((xs i55).toInt)), (3, .ref 259)]) (nx := 19) (r1 := 0) (r2 := 0) (r3 := 0) rfl rfl ?_
    refine wi_iconst (n := 2) (nx := 20) (r1 := 0) (r2 := 0) (r3 := 0) rfl ?_
    refine wi_ireturn (nx := 21) (r1 := 0) (r2 := 0) (r3 := 0) rfl rfl ?_
    refine wk_i ?_
    refine wi_istore (i := 5) (e := 2) (lo2 := [(5, vi 2), (0, .ref 1000000), (1, .ref 0), (2, .ref 236), (3, .ref 259), (4, vi i)]) (nx := 1425) (r1 := 0) (r2 := 0) (r3 := 0) rfl rfl ?_
    refine wi_aload_n (i := 2) (x := 236) (nx := 1426) (r1 := 0) (r2 := 0) (r3 := 0) rfl rfl ?_
    refine wi_aload_n (i := 0) (x := 1000000) (nx := 1427) (r1 := 0) (r2 := 0) (r3 := 0) rfl rfl ?_
    refine wi_iload (i := 4) (e := i) (nx := 1429) (r1 := 0) (r2 := 0) (r3 := 0) rfl rfl ?_
    refine wi_iconst (n := 1) (nx := 1430) (r1 := 0) (r2 := 0) (r3 := 0) rfl ?_
    refine wr_add (nx := 1431) (r1 := 0) (r2 := 0) (r3 := 0) rfl (fun e59 (fe59 : e59 = i + 1) => ?_)
    refine wr_sc (a := e59) (f := i52) (nx := 1432) (r1 := 0) (r2 := 0) (r3 := 0) rfl (by omega) (by omega) hL ?_
    refine wi_aload_n (i := 0) (x := 1000000) (nx := 1433) (r1 := 0) (r2 := 0) (r3 := 0) rfl rfl ?_
    refine wi_iload (i := 4) (e := i) (nx := 1435) (r1 := 0) (r2 := 0) (r3 := 0) rfl rfl ?_
    refine wi_iconst (n := 2) (nx := 1436) (r1 := 0) (r2 := 0) (r3 := 0) rfl ?_
    refine wr_add (nx := 1437) (r1 := 0) (r2 := 0) (r3 := 0) rfl (fun e60 (fe60 : e60 = i + 2) => ?_)
    refine wr_sc (a := e60) (f := i55) (nx := 1438) (r1 := 0) (r2 := 0) (r3 := 0) rfl (by omega) (by omega) hL ?_
    refine wr_V (k0 := 236) (rest := []) (as := [.ref 236, vi ((xs i52).toInt), vi ((xs i55).toInt)]) (nx := 1441) (r1 := 345) (r2 := 2) (r3 := 11) rfl rfl rfl (of_decide_eq_true rfl) rfl rfl (by decide) rfl rfl (of_decide_eq_true rfl) (of_decide_eq_true rfl) ?_
    refine ct_345_236 hcr  g ((xs i52).toInt) ((xs i55).toInt) (by omega) (by omega)  (fun h61 z62 g61 u61 (fz62 : -2147483648 ≤ z62 ∧ z62 ≤ 2147483647) => ?_)
    refine wk_i ?_
    refine wi_istore (i := 6) (e := z62) (lo2 := [(6, vi z62), (5, vi 2), (0, .ref 1000000), (1, .ref 0), (2, .ref 236), (3, .ref 259), (4, vi i)]) (nx := 1443) (r1 := 0) (r2 := 0) (r3 := 0) rfl rfl ?_
    refine wi_goto (nx := 1446) (r1 := 1529) (r2 := 0) (r3 := 0) rfl ?_
    refine wp.lo (lo := [(0, .ref 1000000), (1, .ref 0), (2, .ref 236), (3, .ref 259), (4, vi i)]) ⟨rfl, rfl, rfl, rfl, rfl, trivial⟩ rfl ?_
    have e63 : h61 238 98 = h 238 98 := (u61 238 98 rfl)
    have e64 : h61 238 99 = h 238 99 := (u61 238 99 rfl)
    have e65 : h61 238 100 = h 238 100 := (u61 238 100 rfl)
    have e66 : h61 238 101 = h 238 101 := (u61 238 101 rfl)
    have e67 : h61 238 102 = h 238 102 := (u61 238 102 rfl)
    have e68 : h61 238 106 = h 238 106 := (u61 238 106 rfl)
    have e69 : h61 238 73 = h 238 73 := (u61 238 73 rfl)
    have e70 : h61 238 2 = h 238 2 := (u61 238 2 rfl)
    have e71 : h61 238 119 = h 238 119 := (u61 238 119 rfl)
    have e72 : h61 238 67 = h 238 67 := (u61 238 67 rfl)
    have e73 : h61 238 69 = h 238 69 := (u61 238 69 rfl)
    have e74 : h61 238 5 = h 238 5 := (u61 238 5 rfl)
    have e75 : h61 241 98 = h 241 98 := (u61 241 98 rfl)
    have e76 : h61 241 99 = h 241 99 := (u61 241 99 rfl)
    have e77 : h61 241 100 = h 241 100 := (u61 241 100 rfl)
    have e78 : h61 241 101 = h 241 101 := (u61 241 101 rfl)
    have e79 : h61 241 102 = h 241 102 := (u61 241 102 rfl)
    have e80 : h61 241 106 = h 241 106 := (u61 241 106 rfl)
    have e81 : h61 241 73 = h 241 73 := (u61 241 73 rfl)
    have e82 : h61 241 2 = h 241 2 := (u61 241 2 rfl)
    have e83 : h61 241 119 = h 241 119 := (u61 241 119 rfl)
    have e84 : h61 241 67 = h 241 67 := (u61 241 67 rfl)
    have e85 : h61 241 69 = h 241 69 := (u61 241 69 rfl)
    have e86 : h61 241 5 = h 241 5 := (u61 241 5 rfl)
    have e87 : h61 1 1 = h 1 1 := (u61 1 1 rfl)
    have e88 : h61 236 2 = h 236 2 := (u61 236 2 rfl)
    have e89 : h61 1 2 = h 1 2 := (u61 1 2 rfl)
    have e90 : h61 236 10 = h 236 10 := (u61 236 10 rfl)
    have e91 : h61 1 3 = h 1 3 := (u61 1 3 rfl)
    have e92 : h61 236 11 = h 236 11 := (u61 236 11 rfl)
    have gp93 := GPH.fr u61 rfl gp0
    have b94 := gi_b (lo := 0) (hi := 5) g 241 0 rfl
    have b95 := gi_b (lo := 0) (hi := 4) g 241 1 rfl
    have gs96 := GPS.fr u61 rfl gs0
    have e97 : h61 0 12 = h 0 12 := (u61 0 12 rfl)
    have e98 : h61 236 21 = h 236 21 := (u61 236 21 rfl)
    exact k h61 (b - 1) (c - 6) ⟨g61, (show h61 1 1 = h61 236 2 by omega), (RS.i0 (f := h61 238) (by refine ⟨?_, ?_, ?_, ?_, ?_⟩ <;> omega)), (RS.i0 (f := h61 241) (by refine ⟨?_, ?_, ?_, ?_, ?_⟩ <;> omega)), gp93, (BRh.keep br0 (fun i => (u61 2 i (fn_a (by decide) fn_0))) (fun i => (u61 237 i (fn_a (by decide) fn_0))) (by omega)), (show h61 1 2 = h61 236 10 by omega), (show h61 1 3 = h61 236 11 by omega), (SVx.keep sv0 (by omega) (fun i _ => (u61 3 i (fn_a (by decide) fn_0))) (fun i _ => (u61 5 i (fn_a (by decide) fn_0))) (fun i _ => (u61 6 i (fn_a (by decide) fn_0))) (fun i _ => (u61 8 i (fn_a (by decide) fn_0))) (fun i _ => (u61 238 i (fn_a (by decide) fn_0)))), (show h61 0 12 = h61 236 21 by omega), (fun e => (SVx.keep (ss0 (by omega)) (by omega) (fun i _ => (u61 210 i (fn_a (by decide) fn_0))) (fun i _ => (u61 212 i (fn_a (by decide) fn_0))) (fun i _ => (u61 213 i (fn_a (by decide) fn_0))) (fun i _ => (u61 215 i (fn_a (by decide) fn_0))) (fun i _ => (u61 241 i (fn_a (by decide) fn_0))))), gs96⟩ (by omega) (by omega)
  ·
    refine wk_h 13 (by decide) rfl ?_
    refine wr_asty (i := 4) (lo2 := [(4, .retAddr 0), (0, .ref 0), (1, vi ((xs i52).toInt)), (2, vi ((xs i55).toInt)), (3, .ref 259)]) (nx := 15) (r1 := 0) (r2 := 0) (r3 := 0) rfl rfl ?_
    refine wi_iconst (n := 1) (nx := 16) (r1 := 0) (r2 := 0) (r3 := 0) rfl ?_
    refine wi_ireturn (nx := 17) (r1 := 0) (r2 := 0) (r3 := 0) rfl rfl ?_
    refine wk_i ?_
    refine wi_istore (i := 5) (e := 1) (lo2 := [(5, vi 1), (0, .ref 1000000), (1, .ref 0), (2, .ref 236), (3, .ref 259), (4, vi i)]) (nx := 1425) (r1 := 0) (r2 := 0) (r3 := 0) rfl rfl ?_
    refine wi_aload_n (i := 2) (x := 236) (nx := 1426) (r1 := 0) (r2 := 0) (r3 := 0) rfl rfl ?_
    refine wi_aload_n (i := 0) (x := 1000000) (nx := 1427) (r1 := 0) (r2 := 0) (r3 := 0) rfl rfl ?_
    refine wi_iload (i := 4) (e := i) (nx := 1429) (r1 := 0) (r2 := 0) (r3 := 0) rfl rfl ?_
    refine wi_iconst (n := 1) (nx := 1430) (r1 := 0) (r2 := 0) (r3 := 0) rfl ?_
    refine wr_add (nx := 1431) (r1 := 0) (r2 := 0) (r3 := 0) rfl (fun e59 (fe59 : e59 = i + 1) => ?_)
    refine wr_sc (a := e59) (f := i52) (nx := 1432) (r1 := 0) (r2 := 0) (r3 := 0) rfl (by omega) (by omega) hL ?_
    refine wi_aload_n (i := 0) (x := 1000000) (nx := 1433) (r1 := 0) (r2 := 0) (r3 := 0) rfl rfl ?_
    refine wi_iload (i := 4) (e := i) (nx := 1435) (r1 := 0) (r2 := 0) (r3 := 0) rfl rfl ?_
    refine wi_iconst (n := 2) (nx := 1436) (r1 := 0) (r2 := 0) (r3 := 0) rfl ?_
    refine wr_add (nx := 1437) (r1 := 0) (r2 := 0) (r3 := 0) rfl (fun e60 (fe60 : e60 = i + 2) => ?_)
    refine wr_sc (a := e60) (f := i55) (nx := 1438) (r1 := 0) (r2 := 0) (r3 := 0) rfl (by omega) (by omega) hL ?_
    refine wr_V (k0 := 236) (rest := []) (as := [.ref 236, vi ((xs i52).toInt), vi ((xs i55).toInt)]) (nx := 1441) (r1 := 345) (r2 := 2) (r3 := 11) rfl rfl rfl (of_decide_eq_true rfl) rfl rfl (by decide) rfl rfl (of_decide_eq_true rfl) (of_decide_eq_true rfl) ?_
    refine ct_345_236 hcr  g ((xs i52).toInt) ((xs i55).toInt) (by omega) (by omega)  (fun h61 z62 g61 u61 (fz62 : -2147483648 ≤ z62 ∧ z62 ≤ 2147483647) => ?_)
    refine wk_i ?_
    refine wi_istore (i := 6) (e := z62) (lo2 := [(6, vi z62), (5, vi 1), (0, .ref 1000000), (1, .ref 0), (2, .ref 236), (3, .ref 259), (4, vi i)]) (nx := 1443) (r1 := 0) (r2 := 0) (r3 := 0) rfl rfl ?_
    refine wi_goto (nx := 1446) (r1 := 1529) (r2 := 0) (r3 := 0) rfl ?_
    refine wp.lo (lo := [(0, .ref 1000000), (1, .ref 0), (2, .ref 236), (3, .ref 259), (4, vi i)]) ⟨rfl, rfl, rfl, rfl, rfl, trivial⟩ rfl ?_
    have e63 : h61 238 98 = h 238 98 := (u61 238 98 rfl)
    have e64 : h61 238 99 = h 238 99 := (u61 238 99 rfl)
    have e65 : h61 238 100 = h 238 100 := (u61 238 100 rfl)
    have e66 : h61 238 101 = h 238 101 := (u61 238 101 rfl)
    have e67 : h61 238 102 = h 238 102 := (u61 238 102 rfl)
    have e68 : h61 238 106 = h 238 106 := (u61 238 106 rfl)
    have e69 : h61 238 73 = h 238 73 := (u61 238 73 rfl)
    have e70 : h61 238 2 = h 238 2 := (u61 238 2 rfl)
    have e71 : h61 238 119 = h 238 119 := (u61 238 119 rfl)
    have e72 : h61 238 67 = h 238 67 := (u61 238 67 rfl)
    have e73 : h61 238 69 = h 238 69 := (u61 238 69 rfl)
    have e74 : h61 238 5 = h 238 5 := (u61 238 5 rfl)
    have e75 : h61 241 98 = h 241 98 := (u61 241 98 rfl)
    have e76 : h61 241 99 = h 241 99 := (u61 241 99 rfl)
    have e77 : h61 241 100 = h 241 100 := (u61 241 100 rfl)
    have e78 : h61 241 101 = h 241 101 := (u61 241 101 rfl)
    have e79 : h61 241 102 = h 241 102 := (u61 241 102 rfl)
    have e80 : h61 241 106 = h 241 106 := (u61 241 106 rfl)
    have e81 : h61 241 73 = h 241 73 := (u61 241 73 rfl)
    have e82 : h61 241 2 = h 241 2 := (u61 241 2 rfl)
    have e83 : h61 241 119 = h 241 119 := (u61 241 119 rfl)
    have e84 : h61 241 67 = h 241 67 := (u61 241 67 rfl)
    have e85 : h61 241 69 = h 241 69 := (u61 241 69 rfl)
    have e86 : h61 241 5 = h 241 5 := (u61 241 5 rfl)
    have e87 : h61 1 1 = h 1 1 := (u61 1 1 rfl)
    have e88 : h61 236 2 = h 236 2 := (u61 236 2 rfl)
    have e89 : h61 1 2 = h 1 2 := (u61 1 2 rfl)
    have e90 : h61 236 10 = h 236 10 := (u61 236 10 rfl)
    have e91 : h61 1 3 = h 1 3 := (u61 1 3 rfl)
    have e92 : h61 236 11 = h 236 11 := (u61 236 11 rfl)
    have gp93 := GPH.fr u61 rfl gp0
    have b94 := gi_b (lo := 0) (hi := 5) g 241 0 rfl
    have b95 := gi_b (lo := 0) (hi := 4) g 241 1 rfl
    have gs96 := GPS.fr u61 rfl gs0
    have e97 : h61 0 12 = h 0 12 := (u61 0 12 rfl)
    have e98 : h61 236 21 = h 236 21 := (u61 236 21 rfl)
    exact k h61 (b - 1) (c - 6) ⟨g61, (show h61 1 1 = h61 236 2 by omega), (RS.i0 (f := h61 238) (by refine ⟨?_, ?_, ?_, ?_, ?_⟩ <;> omega)), (RS.i0 (f := h61 241) (by refine ⟨?_, ?_, ?_, ?_, ?_⟩ <;> omega)), gp93, (BRh.keep br0 (fun i => (u61 2 i (fn_a (by decide) fn_0))) (fun i => (u61 237 i (fn_a (by decide) fn_0))) (by omega)), (show h61 1 2 = h61 236 10 by omega), (show h61 1 3 = h61 236 11 by omega), (SVx.keep sv0 (by omega) (fun i _ => (u61 3 i (fn_a (by decide) fn_0))) (fun i _ => (u61 5 i (fn_a (by decide) fn_0))) (fun i _ => (u61 6 i (fn_a (by decide) fn_0))) (fun i _ => (u61 8 i (fn_a (by decide) fn_0))) (fun i _ => (u61 238 i (fn_a (by decide) fn_0)))), (show h61 0 12 = h61 236 21 by omega), (fun e => (SVx.keep (ss0 (by omega)) (by omega) (fun i _ => (u61 210 i (fn_a (by decide) fn_0))) (fun i _ => (u61 212 i (fn_a (by decide) fn_0))) (fun i _ => (u61 213 i (fn_a (by decide) fn_0))) (fun i _ => (u61 215 i (fn_a (by decide) fn_0))) (fun i _ => (u61 241 i (fn_a (by decide) fn_0))))), gs96⟩ (by omega) (by omega)
-- the law, case at 1446
set_option maxRecDepth 100000 in
set_option maxHeartbeats 100000000 in
theorem lc_1446 {L : Nat} {xs : Nat → Int32} {d b c : Nat} {h : hp} {cr : Nat → Nat → Option Nat} {Q : hp_Q} (hcr : CR cr) (hL : L ≤ 3072) (hr : 1 ≤ b ∧ 6 ≤ c) (I : LI h) (i : Int) (hi : 0 ≤ i ∧ i + 6 ≤ L) (k : ∀ (h2 : hp) (b2 c2 : Nat), LI h2 → b ≤ b2 + 1 → c ≤ c2 + 6 → wp (md_xa (L, xs)) (d + 107) 0 (1529, [(0, .ref 1000000), (1, .ref 0), (2, .ref 236), (3, .ref 259), (4, vi i)], [], hp_w h2 cr, b2, c2) Q) : wp (md_xa (L, xs)) (d + 107) 0 (1446, [(0, .ref 1000000), (1, .ref 0), (2, .ref 236), (3, .ref 259), (4, vi i)], [], hp_w h cr, b, c) Q := by
  obtain ⟨g, i11, r238, r241, gp0, br0, er2, er3, sv0, sf0, ss0, gs0⟩ := I
  have r238e := r238.e0
  have r241e := r241.e0
  obtain ⟨⟨se0, se1, se2, se3, se4, se5, se6, se7, se8, se9⟩, -⟩ := id sv0
  have b1 := gi_b (lo := 0) (hi := 5) g 3 0 rfl
  have b2 := gi_b (lo := 0) (hi := 5) g 238 0 rfl
  have b3 := gi_b (lo := 0) (hi := 4) g 3 1 rfl
  have b4 := gi_b (lo := 0) (hi := 4) g 238 1 rfl
  have b5 := gi_b (lo := 0) (hi := 12) g 3 2 rfl
  have b6 := gi_b (lo := 0) (hi := 12) g 238 2 rfl
  have b7 := gi_b (lo := -2147483648) (hi := 2147483647) g 3 3 rfl
  have b8 := gi_b (lo := 0) (hi := 999) g 238 3 rfl
  have b9 := gi_b (lo := -2147483648) (hi := 2147483647) g 3 4 rfl
  have b10 := gi_b (lo := 0) (hi := 999) g 238 4 rfl
  have b11 := gi_b (lo := -2147483648) (hi := 2147483647) g 3 5 rfl
  have b12 := gi_b (lo := 0) (hi := 9) g 238 5 rfl
  have b13 := gi_b (lo := -2147483648) (hi := 2147483647) g 3 6 rfl
  have b14 := gi_b (lo := 0) (hi := 999) g 238 6 rfl
  have b15 := gi_b (lo := -2147483648) (hi := 2147483647) g 3 7 rfl
  have b16 := gi_b (lo := 0) (hi := 3) g 238 7 rfl
  have b17 := gi_b (lo := -2147483648) (hi := 2147483647) g 3 8 rfl
  have b18 := gi_b (lo := 0) (hi := 999) g 238 8 rfl
  have b19 := gi_b (lo := -2147483648) (hi := 2147483647) g 3 9 rfl
  have b20 := gi_b (lo := 0) (hi := 999) g 238 9 rfl
  have b21 := gi_b (lo := 0) (hi := 1) g 0 12 rfl
  have b22 := gi_b (lo := 0) (hi := 1) g 236 21 rfl
  have bl_ := gi_b (lo := 0) (hi := 800) g 1 1 rfl
  have tb0 : BufC (h 2) (h 1 1) h := ⟨fun _ => rfl, rfl, by omega, by omega⟩
  have b23 := gi_b (lo := 0) (hi := 6) g 238 98 rfl
  have b24 := gi_b (lo := 0) (hi := 6) g 238 99 rfl
  have b25 := gi_b (lo := 0) (hi := 6) g 238 100 rfl
  have b26 := gi_b (lo := 0) (hi := 6) g 238 101 rfl
  have b27 := gi_b (lo := 0) (hi := 3) g 238 102 rfl
  have b28 := gi_b (lo := 0) (hi := 12) g 238 106 rfl
  have b29 := gi_b (lo := 0) (hi := 12) g 238 73 rfl
  have b30 := gi_b (lo := 0) (hi := 9999) g 238 119 rfl
  have b31 := gi_b (lo := 0) (hi := 9999) g 238 67 rfl
  have b32 := gi_b (lo := 0) (hi := 9) g 238 69 rfl
  have b33 := gi_b (lo := 0) (hi := 6) g 241 98 rfl
  have b34 := gi_b (lo := 0) (hi := 6) g 241 99 rfl
  have b35 := gi_b (lo := 0) (hi := 6) g 241 100 rfl
  have b36 := gi_b (lo := 0) (hi := 6) g 241 101 rfl
  have b37 := gi_b (lo := 0) (hi := 3) g 241 102 rfl
  have b38 := gi_b (lo := 0) (hi := 12) g 241 106 rfl
  have b39 := gi_b (lo := 0) (hi := 12) g 241 73 rfl
  have b40 := gi_b (lo := 0) (hi := 12) g 241 2 rfl
  have b41 := gi_b (lo := 0) (hi := 9999) g 241 119 rfl
  have b42 := gi_b (lo := 0) (hi := 9999) g 241 67 rfl
  have b43 := gi_b (lo := 0) (hi := 9) g 241 69 rfl
  have b44 := gi_b (lo := 0) (hi := 9) g 241 5 rfl
  have b45 := gi_b (lo := 0) (hi := 800) g 1 1 rfl
  have b46 := gi_b (lo := 0) (hi := 800) g 236 2 rfl
  have b47 := gi_b (lo := -2147483648) (hi := 2147483647) g 1 2 rfl
  have b48 := gi_b (lo := -2147483648) (hi := 2147483647) g 236 10 rfl
  have b49 := gi_b (lo := -2147483648) (hi := 2147483647) g 1 3 rfl
  have b50 := gi_b (lo := -2147483648) (hi := 2147483647) g 236 11 rfl
  refine wi_aload_n (i := 1) (x := 0) (nx := 1447) (r1 := 0) (r2 := 0) (r3 := 0) rfl rfl ?_
  refine wr_V (k0 := 0) (rest := []) (as := [.ref 0]) (nx := 1450) (r1 := 58) (r2 := 0) (r3 := 0) rfl rfl rfl (of_decide_eq_true rfl) rfl rfl (by decide) rfl rfl (of_decide_eq_true rfl) (of_decide_eq_true rfl) ?_
  refine ct_58_0 hcr  g    (fun h51 z52 g51 u51 (fz52 : 0 ≤ z52 ∧ z52 ≤ 152) => ?_)
  refine wk_i ?_
  refine wi_pop (nx := 1451) (r1 := 0) (r2 := 0) (r3 := 0) rfl rfl ?_
  refine wi_aload_n (i := 2) (x := 236) (nx := 1452) (r1 := 0) (r2 := 0) (r3 := 0) rfl rfl ?_
  refine wr_V (k0 := 236) (rest := []) (as := [.ref 236]) (nx := 1455) (r1 := 346) (r2 := 0) (r3 := 11) rfl rfl rfl (of_decide_eq_true rfl) rfl rfl (by decide) rfl rfl (of_decide_eq_true rfl) (of_decide_eq_true rfl) ?_
  have e54 : h51 238 98 = h 238 98 := (u51 238 98 rfl)
  have e55 : h51 238 99 = h 238 99 := (u51 238 99 rfl)
  have e56 : h51 238 100 = h 238 100 := (u51 238 100 rfl)
  have e57 : h51 238 101 = h 238 101 := (u51 238 101 rfl)
  have e58 : h51 238 102 = h 238 102 := (u51 238 102 rfl)
  have e59 : h51 238 106 = h 238 106 := (u51 238 106 rfl)
  have e60 : h51 238 73 = h 238 73 := (u51 238 73 rfl)
  have e61 : h51 238 2 = h 238 2 := (u51 238 2 rfl)
  have e62 : h51 238 119 = h 238 119 := (u51 238 119 rfl)
  have e63 : h51 238 67 = h 238 67 := (u51 238 67 rfl)
  have e64 : h51 238 69 = h 238 69 := (u51 238 69 rfl)
  have e65 : h51 238 5 = h 238 5 := (u51 238 5 rfl)
  refine ct_346_236 hcr  g51   (show (h51 238 98) + (h51 238 99) + (h51 238 100) + (h51 238 101) + (h51 238 102) + (h51 238 106) = (h51 238 73) by omega) (show (h51 238 73) ≤ (h51 238 2) by omega) (show (h51 238 119) ≤ (h51 238 67) by omega) (show (h51 238 69) ≤ (h51 238 5) by omega) (show (h51 238 2) ≤ 12 * (h51 238 5) by omega) (fun h53 z66 g53 u53 (fz66 : 1 ≤ z66 ∧ z66 ≤ 301) => ?_)
  refine wk_i ?_
  refine wi_pop (nx := 1456) (r1 := 0) (r2 := 0) (r3 := 0) rfl rfl ?_
  refine wi_goto (nx := 1459) (r1 := 1529) (r2 := 0) (r3 := 0) rfl ?_
  have e67 : h53 238 98 = h 238 98 := ((u53 238 98 rfl).trans (u51 238 98 rfl))
  have e68 : h53 238 99 = h 238 99 := ((u53 238 99 rfl).trans (u51 238 99 rfl))
  have e69 : h53 238 100 = h 238 100 := ((u53 238 100 rfl).trans (u51 238 100 rfl))
  have e70 : h53 238 101 = h 238 101 := ((u53 238 101 rfl).trans (u51 238 101 rfl))
  have e71 : h53 238 102 = h 238 102 := ((u53 238 102 rfl).trans (u51 238 102 rfl))
  have e72 : h53 238 106 = h 238 106 := ((u53 238 106 rfl).trans (u51 238 106 rfl))
  have e73 : h53 238 73 = h 238 73 := ((u53 238 73 rfl).trans (u51 238 73 rfl))
  have e74 : h53 238 2 = h 238 2 := ((u53 238 2 rfl).trans (u51 238 2 rfl))
  have e75 : h53 238 119 = h 238 119 := ((u53 238 119 rfl).trans (u51 238 119 rfl))
  have e76 : h53 238 67 = h 238 67 := ((u53 238 67 rfl).trans (u51 238 67 rfl))
  have e77 : h53 238 69 = h 238 69 := ((u53 238 69 rfl).trans (u51 238 69 rfl))
  have e78 : h53 238 5 = h 238 5 := ((u53 238 5 rfl).trans (u51 238 5 rfl))
  have e79 : h53 241 98 = h 241 98 := ((u53 241 98 rfl).trans (u51 241 98 rfl))
  have e80 : h53 241 99 = h 241 99 := ((u53 241 99 rfl).trans (u51 241 99 rfl))
  have e81 : h53 241 100 = h 241 100 := ((u53 241 100 rfl).trans (u51 241 100 rfl))
  have e82 : h53 241 101 = h 241 101 := ((u53 241 101 rfl).trans (u51 241 101 rfl))
  have e83 : h53 241 102 = h 241 102 := ((u53 241 102 rfl).trans (u51 241 102 rfl))
  have e84 : h53 241 106 = h 241 106 := ((u53 241 106 rfl).trans (u51 241 106 rfl))
  have e85 : h53 241 73 = h 241 73 := ((u53 241 73 rfl).trans (u51 241 73 rfl))
  have e86 : h53 241 2 = h 241 2 := ((u53 241 2 rfl).trans (u51 241 2 rfl))
  have e87 : h53 241 119 = h 241 119 := ((u53 241 119 rfl).trans (u51 241 119 rfl))
  have e88 : h53 241 67 = h 241 67 := ((u53 241 67 rfl).trans (u51 241 67 rfl))
  have e89 : h53 241 69 = h 241 69 := ((u53 241 69 rfl).trans (u51 241 69 rfl))
  have e90 : h53 241 5 = h 241 5 := ((u53 241 5 rfl).trans (u51 241 5 rfl))
  have e91 : h53 1 1 = h 1 1 := ((u53 1 1 rfl).trans (u51 1 1 rfl))
  have e92 : h53 236 2 = h 236 2 := ((u53 236 2 rfl).trans (u51 236 2 rfl))
  have e93 : h53 1 2 = h 1 2 := ((u53 1 2 rfl).trans (u51 1 2 rfl))
  have e94 : h53 236 10 = h 236 10 := ((u53 236 10 rfl).trans (u51 236 10 rfl))
  have e95 : h53 1 3 = h 1 3 := ((u53 1 3 rfl).trans (u51 1 3 rfl))
  have e96 : h53 236 11 = h 236 11 := ((u53 236 11 rfl).trans (u51 236 11 rfl))
  have gp97 := GPH.fr u51 rfl gp0
  have gp98 := GPH.fr u53 rfl gp97
  have b99 := gi_b (lo := 0) (hi := 5) g 241 0 rfl
  have b100 := gi_b (lo := 0) (hi := 4) g 241 1 rfl
  have gs101 := GPS.fr u51 rfl gs0
  have gs102 := GPS.fr u53 rfl gs101
  have e103 : h53 0 12 = h 0 12 := ((u53 0 12 rfl).trans (u51 0 12 rfl))
  have e104 : h53 236 21 = h 236 21 := ((u53 236 21 rfl).trans (u51 236 21 rfl))
  exact k h53 b c ⟨g53, (show h53 1 1 = h53 236 2 by omega), (RS.i0 (f := h53 238) (by refine ⟨?_, ?_, ?_, ?_, ?_⟩ <;> omega)), (RS.i0 (f := h53 241) (by refine ⟨?_, ?_, ?_, ?_, ?_⟩ <;> omega)), gp98, (BRh.keep br0 (fun i => ((u53 2 i (fn_a (by decide) (fn_a (by decide) (fn_a (by decide) (fn_a (by decide) fn_0))))).trans (u51 2 i (fn_a (by decide) (fn_a (by decide) fn_0))))) (fun i => ((u53 237 i (fn_a (by decide) (fn_a (by decide) (fn_a (by decide) (fn_a (by decide) fn_0))))).trans (u51 237 i (fn_a (by decide) (fn_a (by decide) fn_0))))) (by omega)), (show h53 1 2 = h53 236 10 by omega), (show h53 1 3 = h53 236 11 by omega), (SVx.keep sv0 (by omega) (fun i _ => ((u53 3 i (fn_a (by decide) (fn_a (by decide) (fn_a (by decide) (fn_a (by decide) fn_0))))).trans (u51 3 i (fn_a (by decide) (fn_a (by decide) fn_0))))) (fun i _ => ((u53 5 i (fn_a (by decide) (fn_a (by decide) (fn_a (by decide) (fn_a (by decide) fn_0))))).trans (u51 5 i (fn_a (by decide) (fn_a (by decide) fn_0))))) (fun i _ => ((u53 6 i (fn_a (by decide) (fn_a (by decide) (fn_a (by decide) (fn_a (by decide) fn_0))))).trans (u51 6 i (fn_a (by decide) (fn_a (by decide) fn_0))))) (fun i _ => ((u53 8 i (fn_a (by decide) (fn_a (by decide) (fn_a (by decide) (fn_a (by decide) fn_0))))).trans (u51 8 i (fn_a (by decide) (fn_a (by decide) fn_0))))) (fun i _ => ((u53 238 i (fn_a (by decide) (fn_a (by decide) (fn_a (by decide) (fn_a (by decide) fn_0))))).trans (u51 238 i (fn_a (by decide) (fn_a (by decide) fn_0)))))), (show h53 0 12 = h53 236 21 by omega), (fun e => (SVx.keep (ss0 (by omega)) (by omega) (fun i _ => ((u53 210 i (fn_a (by decide) (fn_a (by decide) (fn_a (by decide) (fn_a (by decide) fn_0))))).trans (u51 210 i (fn_a (by decide) (fn_a (by decide) fn_0))))) (fun i _ => ((u53 212 i (fn_a (by decide) (fn_a (by decide) (fn_a (by decide) (fn_a (by decide) fn_0))))).trans (u51 212 i (fn_a (by decide) (fn_a (by decide) fn_0))))) (fun i _ => ((u53 213 i (fn_a (by decide) (fn_a (by decide) (fn_a (by decide) (fn_a (by decide) fn_0))))).trans (u51 213 i (fn_a (by decide) (fn_a (by decide) fn_0))))) (fun i _ => ((u53 215 i (fn_a (by decide) (fn_a (by decide) (fn_a (by decide) (fn_a (by decide) fn_0))))).trans (u51 215 i (fn_a (by decide) (fn_a (by decide) fn_0))))) (fun i _ => ((u53 241 i (fn_a (by decide) (fn_a (by decide) (fn_a (by decide) (fn_a (by decide) fn_0))))).trans (u51 241 i (fn_a (by decide) (fn_a (by decide) fn_0))))))), gs102⟩ (by omega) (by omega)
-- the law, case at 1459
set_option maxRecDepth 100000 in
set_option maxHeartbeats 100000000 in
theorem lc_1459 {L : Nat} {xs : Nat → Int32} {d b c : Nat} {h : hp} {cr : Nat → Nat → Option Nat} {Q : hp_Q} (hcr : CR cr) (hL : L ≤ 3072) (hr : 1 ≤ b ∧ 6 ≤ c) (I : LI h) (i : Int) (hi : 0 ≤ i ∧ i + 6 ≤ L) (k : ∀ (h2 : hp) (b2 c2 : Nat), LI h2 → b ≤ b2 + 1 → c ≤ c2 + 6 → wp (md_xa (L, xs)) (d + 107) 0 (1529, [(0, .ref 1000000), (1, .ref 0), (2, .ref 236), (3, .ref 259), (4, vi i)], [], hp_w h2 cr, b2, c2) Q) : wp (md_xa (L, xs)) (d + 107) 0 (1459, [(0, .ref 1000000), (1, .ref 0), (2, .ref 236), (3, .ref 259), (4, vi i)], [], hp_w h cr, b, c) Q := by
  obtain ⟨g, i11, r238, r241, gp0, br0, er2, er3, sv0, sf0, ss0, gs0⟩ := I
  have r238e := r238.e0
  have r241e := r241.e0
  obtain ⟨⟨se0, se1, se2, se3, se4, se5, se6, se7, se8, se9⟩, -⟩ := id sv0
  have b1 := gi_b (lo := 0) (hi := 5) g 3 0 rfl
  have b2 := gi_b (lo := 0) (hi := 5) g 238 0 rfl
  have b3 := gi_b (lo := 0) (hi := 4) g 3 1 rfl
  have b4 := gi_b (lo := 0) (hi := 4) g 238 1 rfl
  have b5 := gi_b (lo := 0) (hi := 12) g 3 2 rfl
  have b6 := gi_b (lo := 0) (hi := 12) g 238 2 rfl
  have b7 := gi_b (lo := -2147483648) (hi := 2147483647) g 3 3 rfl
  have b8 := gi_b (lo := 0) (hi := 999) g 238 3 rfl
  have b9 := gi_b (lo := -2147483648) (hi := 2147483647) g 3 4 rfl
  have b10 := gi_b (lo := 0) (hi := 999) g 238 4 rfl
  have b11 := gi_b (lo := -2147483648) (hi := 2147483647) g 3 5 rfl
  have b12 := gi_b (lo := 0) (hi := 9) g 238 5 rfl
  have b13 := gi_b (lo := -2147483648) (hi := 2147483647) g 3 6 rfl
  have b14 := gi_b (lo := 0) (hi := 999) g 238 6 rfl
  have b15 := gi_b (lo := -2147483648) (hi := 2147483647) g 3 7 rfl
  have b16 := gi_b (lo := 0) (hi := 3) g 238 7 rfl
  have b17 := gi_b (lo := -2147483648) (hi := 2147483647) g 3 8 rfl
  have b18 := gi_b (lo := 0) (hi := 999) g 238 8 rfl
  have b19 := gi_b (lo := -2147483648) (hi := 2147483647) g 3 9 rfl
  have b20 := gi_b (lo := 0) (hi := 999) g 238 9 rfl
  have b21 := gi_b (lo := 0) (hi := 1) g 0 12 rfl
  have b22 := gi_b (lo := 0) (hi := 1) g 236 21 rfl
  have bl_ := gi_b (lo := 0) (hi := 800) g 1 1 rfl
  have tb0 : BufC (h 2) (h 1 1) h := ⟨fun _ => rfl, rfl, by omega, by omega⟩
  have b23 := gi_b (lo := 0) (hi := 6) g 238 98 rfl
  have b24 := gi_b (lo := 0) (hi := 6) g 238 99 rfl
  have b25 := gi_b (lo := 0) (hi := 6) g 238 100 rfl
  have b26 := gi_b (lo := 0) (hi := 6) g 238 101 rfl
  have b27 := gi_b (lo := 0) (hi := 3) g 238 102 rfl
  have b28 := gi_b (lo := 0) (hi := 12) g 238 106 rfl
  have b29 := gi_b (lo := 0) (hi := 12) g 238 73 rfl
  have b30 := gi_b (lo := 0) (hi := 9999) g 238 119 rfl
  have b31 := gi_b (lo := 0) (hi := 9999) g 238 67 rfl
  have b32 := gi_b (lo := 0) (hi := 9) g 238 69 rfl
  have b33 := gi_b (lo := 0) (hi := 6) g 241 98 rfl
  have b34 := gi_b (lo := 0) (hi := 6) g 241 99 rfl
  have b35 := gi_b (lo := 0) (hi := 6) g 241 100 rfl
  have b36 := gi_b (lo := 0) (hi := 6) g 241 101 rfl
  have b37 := gi_b (lo := 0) (hi := 3) g 241 102 rfl
  have b38 := gi_b (lo := 0) (hi := 12) g 241 106 rfl
  have b39 := gi_b (lo := 0) (hi := 12) g 241 73 rfl
  have b40 := gi_b (lo := 0) (hi := 12) g 241 2 rfl
  have b41 := gi_b (lo := 0) (hi := 9999) g 241 119 rfl
  have b42 := gi_b (lo := 0) (hi := 9999) g 241 67 rfl
  have b43 := gi_b (lo := 0) (hi := 9) g 241 69 rfl
  have b44 := gi_b (lo := 0) (hi := 9) g 241 5 rfl
  have b45 := gi_b (lo := 0) (hi := 800) g 1 1 rfl
  have b46 := gi_b (lo := 0) (hi := 800) g 236 2 rfl
  have b47 := gi_b (lo := -2147483648) (hi := 2147483647) g 1 2 rfl
  have b48 := gi_b (lo := -2147483648) (hi := 2147483647) g 236 10 rfl
  have b49 := gi_b (lo := -2147483648) (hi := 2147483647) g 1 3 rfl
  have b50 := gi_b (lo := -2147483648) (hi := 2147483647) g 236 11 rfl
  refine wi_aload_n (i := 1) (x := 0) (nx := 1460) (r1 := 0) (r2 := 0) (r3 := 0) rfl rfl ?_
  refine wi_aload_n (i := 0) (x := 1000000) (nx := 1461) (r1 := 0) (r2 := 0) (r3 := 0) rfl rfl ?_
  refine wi_iload (i := 4) (e := i) (nx := 1463) (r1 := 0) (r2 := 0) (r3 := 0) rfl rfl ?_
  refine wi_iconst (n := 1) (nx := 1464) (r1 := 0) (r2 := 0) (r3 := 0) rfl ?_
  refine wr_add (nx := 1465) (r1 := 0) (r2 := 0) (r3 := 0) rfl (fun e51 (fe51 : e51 = i + 1) => ?_)
  obtain ⟨i52, ei52⟩ : ∃ q : Nat, e51 = (q : Int) := ⟨(e51).toNat, by omega⟩
  have s53 := sc_b (xs i52)
  refine wr_sc (a := e51) (f := i52) (nx := 1466) (r1 := 0) (r2 := 0) (r3 := 0) rfl (by omega) (by omega) hL ?_
  refine wi_aload_n (i := 3) (x := 259) (nx := 1467) (r1 := 0) (r2 := 0) (r3 := 0) rfl rfl ?_
  refine wi_S (rest := []) (as := [.ref 0, vi ((xs i52).toInt), .ref 259]) (nx := 1470) (r1 := 24) (r2 := 19) (r3 := 0) rfl rfl rfl (of_decide_eq_true rfl) rfl rfl (of_decide_eq_true rfl) (of_decide_eq_true rfl) ?_
  refine wi_aload_n (i := 2) (x := 259) (nx := 1) (r1 := 0) (r2 := 0) (r3 := 0) rfl rfl ?_
  refine wi_iconst (n := 0) (nx := 2) (r1 := 0) (r2 := 0) (r3 := 0) rfl ?_
  refine wi_aload_n (i := 0) (x := 0) (nx := 3) (r1 := 0) (r2 := 0) (r3 := 0) rfl rfl ?_
  refine wi_iload_n (i := 1) (e := (xs i52).toInt) (nx := 4) (r1 := 0) (r2 := 0) (r3 := 0) rfl rfl ?_
  refine wr_V (k0 := 0) (rest := [vi 0, .ref 259]) (as := [.ref 0, vi ((xs i52).toInt)]) (nx := 7) (r1 := 88) (r2 := 1) (r3 := 0) rfl rfl rfl (of_decide_eq_true rfl) rfl rfl (by decide) rfl rfl (of_decide_eq_true rfl) (of_decide_eq_true rfl) ?_
  refine ct_88_0 hcr hr  g ((xs i52).toInt) (by omega)  (fun z55  (fz55 : -128 ≤ z55 ∧ z55 ≤ 127) => ?_) ?_
  ·
    refine wk_i ?_
    refine wi_i2l (nx := 8) (r1 := 0) (r2 := 0) (r3 := 0) rfl (by omega) ?_
    refine wr_ls (k0 := 259) (a := 0) (f := 0) (x := z55) (bl := -9223372036854775808) (bh := 9223372036854775807) (nx := 9) (r1 := 0) (r2 := 0) (r3 := 0) rfl (by decide) rfl (by omega) (by omega) (by decide) g rfl (by omega) (fun h56 g56 w56 u56 => ?_)
    refine wi_goto (nx := 12) (r1 := 15) (r2 := 0) (r3 := 0) rfl ?_
    refine wi_iconst (n := 0) (nx := 16) (r1 := 0) (r2 := 0) (r3 := 0) rfl ?_
    refine wi_ireturn (nx := 17) (r1 := 0) (r2 := 0) (r3 := 0) rfl rfl ?_
    refine wk_i ?_
    refine wi_istore (i := 5) (e := 0) (lo2 := [(5, vi 0), (0, .ref 1000000), (1, .ref 0), (2, .ref 236), (3, .ref 259), (4, vi i)]) (nx := 1472) (r1 := 0) (r2 := 0) (r3 := 0) rfl rfl ?_
    refine wi_aload_n (i := 2) (x := 236) (nx := 1473) (r1 := 0) (r2 := 0) (r3 := 0) rfl rfl ?_
    refine wi_aload_n (i := 0) (x := 1000000) (nx := 1474) (r1 := 0) (r2 := 0) (r3 := 0) rfl rfl ?_
    refine wi_iload (i := 4) (e := i) (nx := 1476) (r1 := 0) (r2 := 0) (r3 := 0) rfl rfl ?_
    refine wi_iconst (n := 1) (nx := 1477) (r1 := 0) (r2 := 0) (r3 := 0) rfl ?_
    refine wr_add (nx := 1478) (r1 := 0) (r2 := 0) (r3 := 0) rfl (fun e57 (fe57 : e57 = i + 1) => ?_)
    refine wr_sc (a := e57) (f := i52) (nx := 1479) (r1 := 0) (r2 := 0) (r3 := 0) rfl (by omega) (by omega) hL ?_
    refine wr_V (k0 := 236) (rest := []) (as := [.ref 236, vi ((xs i52).toInt)]) (nx := 1482) (r1 := 350) (r2 := 1) (r3 := 11) rfl rfl rfl (of_decide_eq_true rfl) rfl rfl (by decide) rfl rfl (of_decide_eq_true rfl) (of_decide_eq_true rfl) ?_
    refine ct_350_236 hcr  g56 ((xs i52).toInt) (by omega)  (fun h58 z59 g58 u58 (fz59 : -2147483648 ≤ z59 ∧ z59 ≤ 2147483647) => ?_)
    refine wk_i ?_
    refine wi_istore (i := 6) (e := z59) (lo2 := [(6, vi z59), (5, vi 0), (0, .ref 1000000), (1, .ref 0), (2, .ref 236), (3, .ref 259), (4, vi i)]) (nx := 1484) (r1 := 0) (r2 := 0) (r3 := 0) rfl rfl ?_
    refine wi_goto (nx := 1487) (r1 := 1529) (r2 := 0) (r3 := 0) rfl ?_
    refine wp.lo (lo := [(0, .ref 1000000), (1, .ref 0), (2, .ref 236), (3, .ref 259), (4, vi i)]) ⟨rfl, rfl, rfl, rfl, rfl, trivial⟩ rfl ?_
    have e60 : h58 238 98 = h 238 98 := ((u58 238 98 rfl).trans (u56 238 98 rfl))
    have e61 : h58 238 99 = h 238 99 := ((u58 238 99 rfl).trans (u56 238 99 rfl))
    have e62 : h58 238 100 = h 238 100 := ((u58 238 100 rfl).trans (u56 238 100 rfl))
    have e63 : h58 238 101 = h 238 101 := ((u58 238 101 rfl).trans (u56 238 101 rfl))
    have e64 : h58 238 102 = h 238 102 := ((u58 238 102 rfl).trans (u56 238 102 rfl))
    have e65 : h58 238 106 = h 238 106 := ((u58 238 106 rfl).trans (u56 238 106 rfl))
    have e66 : h58 238 73 = h 238 73 := ((u58 238 73 rfl).trans (u56 238 73 rfl))
    have e67 : h58 238 2 = h 238 2 := ((u58 238 2 rfl).trans (u56 238 2 rfl))
    have e68 : h58 238 119 = h 238 119 := ((u58 238 119 rfl).trans (u56 238 119 rfl))
    have e69 : h58 238 67 = h 238 67 := ((u58 238 67 rfl).trans (u56 238 67 rfl))
    have e70 : h58 238 69 = h 238 69 := ((u58 238 69 rfl).trans (u56 238 69 rfl))
    have e71 : h58 238 5 = h 238 5 := ((u58 238 5 rfl).trans (u56 238 5 rfl))
    have e72 : h58 241 98 = h 241 98 := ((u58 241 98 rfl).trans (u56 241 98 rfl))
    have e73 : h58 241 99 = h 241 99 := ((u58 241 99 rfl).trans (u56 241 99 rfl))
    have e74 : h58 241 100 = h 241 100 := ((u58 241 100 rfl).trans (u56 241 100 rfl))
    have e75 : h58 241 101 = h 241 101 := ((u58 241 101 rfl).trans (u56 241 101 rfl))
    have e76 : h58 241 102 = h 241 102 := ((u58 241 102 rfl).trans (u56 241 102 rfl))
    have e77 : h58 241 106 = h 241 106 := ((u58 241 106 rfl).trans (u56 241 106 rfl))
    have e78 : h58 241 73 = h 241 73 := ((u58 241 73 rfl).trans (u56 241 73 rfl))
    have e79 : h58 241 2 = h 241 2 := ((u58 241 2 rfl).trans (u56 241 2 rfl))
    have e80 : h58 241 119 = h 241 119 := ((u58 241 119 rfl).trans (u56 241 119 rfl))
    have e81 : h58 241 67 = h 241 67 := ((u58 241 67 rfl).trans (u56 241 67 rfl))
    have e82 : h58 241 69 = h 241 69 := ((u58 241 69 rfl).trans (u56 241 69 rfl))
    have e83 : h58 241 5 = h 241 5 := ((u58 241 5 rfl).trans (u56 241 5 rfl))
    have e84 : h58 1 1 = h 1 1 := ((u58 1 1 rfl).trans (u56 1 1 rfl))
    have e85 : h58 236 2 = h 236 2 := ((u58 236 2 rfl).trans (u56 236 2 rfl))
    have e86 : h58 1 2 = h 1 2 := ((u58 1 2 rfl).trans (u56 1 2 rfl))
    have e87 : h58 236 10 = h 236 10 := ((u58 236 10 rfl).trans (u56 236 10 rfl))
    have e88 : h58 1 3 = h 1 3 := ((u58 1 3 rfl).trans (u56 1 3 rfl))
    have e89 : h58 236 11 = h 236 11 := ((u58 236 11 rfl).trans (u56 236 11 rfl))
    have gp90 := GPH.fr u56 rfl gp0
    have gp91 := GPH.fr u58 rfl gp90
    have b92 := gi_b (lo := 0) (hi := 5) g 241 0 rfl
    have b93 := gi_b (lo := 0) (hi := 4) g 241 1 rfl
    have gs94 := GPS.fr u56 rfl gs0
    have gs95 := GPS.fr u58 rfl gs94
    have e96 : h58 0 12 = h 0 12 := ((u58 0 12 rfl).trans (u56 0 12 rfl))
    have e97 : h58 236 21 = h 236 21 := ((u58 236 21 rfl).trans (u56 236 21 rfl))
    exact k h58 b c ⟨g58, (show h58 1 1 = h58 236 2 by omega), (RS.i0 (f := h58 238) (by refine ⟨?_, ?_, ?_, ?_, ?_⟩ <;> omega)), (RS.i0 (f := h58 241) (by refine ⟨?_, ?_, ?_, ?_, ?_⟩ <;> omega)), gp91, (BRh.keep br0 (fun i => ((u58 2 i (fn_a (by decide) fn_0)).trans (u56 2 i (fn_a (by omega) fn_0)))) (fun i => ((u58 237 i (fn_a (by decide) fn_0)).trans (u56 237 i (fn_a (by omega) fn_0)))) (by omega)), (show h58 1 2 = h58 236 10 by omega), (show h58 1 3 = h58 236 11 by omega), (SVx.keep sv0 (by omega) (fun i _ => ((u58 3 i (fn_a (by decide) fn_0)).trans (u56 3 i (fn_a (by omega) fn_0)))) (fun i _ => ((u58 5 i (fn_a (by decide) fn_0)).trans (u56 5 i (fn_a (by omega) fn_0)))) (fun i _ => ((u58 6 i (fn_a (by decide) fn_0)).trans (u56 6 i (fn_a (by omega) fn_0)))) (fun i _ => ((u58 8 i (fn_a (by decide) fn_0)).trans (u56 8 i (fn_a (by omega) fn_0)))) (fun i _ => ((u58 238 i (fn_a (by decide) fn_0)).trans (u56 238 i (fn_a (by omega) fn_0))))), (show h58 0 12 = h58 236 21 by omega), (fun e => (SVx.keep (ss0 (by omega)) (by omega) (fun i _ => ((u58 210 i (fn_a (by decide) fn_0)).trans (u56 210 i (fn_a (by omega) fn_0)))) (fun i _ => ((u58 212 i (fn_a (by decide) fn_0)).trans (u56 212 i (fn_a (by omega) fn_0)))) (fun i _ => ((u58 213 i (fn_a (by decide) fn_0)).trans (u56 213 i (fn_a (by omega) fn_0)))) (fun i _ => ((u58 215 i (fn_a (by decide) fn_0)).trans (u56 215 i (fn_a (by omega) fn_0)))) (fun i _ => ((u58 241 i (fn_a (by decide) fn_0)).trans (u56 241 i (fn_a (by omega) fn_0)))))), gs95⟩ (by omega) (by omega)
  ·
    refine wk_h 12 (by decide) rfl ?_
    refine wr_astx (i := 3) (lo2 := [(3, .retAddr 0), (0, .ref 0), (1, vi ((xs i52).toInt)), (2, .ref 259)]) (nx := 13) (r1 := 0) (r2 := 0) (r3 := 0) rfl rfl ?_
    refine wi_iconst (n := 1) (nx := 14) (r1 := 0) (r2 := 0) (r3 := 0) rfl ?_
    refine wi_ireturn (nx := 15) (r1 := 0) (r2 := 0) (r3 := 0) rfl rfl ?_
    refine wk_i ?_
    refine wi_istore (i := 5) (e := 1) (lo2 := [(5, vi 1), (0, .ref 1000000), (1, .ref 0), (2, .ref 236), (3, .ref 259), (4, vi i)]) (nx := 1472) (r1 := 0) (r2 := 0) (r3 := 0) rfl rfl ?_
    refine wi_aload_n (i := 2) (x := 236) (nx := 1473) (r1 := 0) (r2 := 0) (r3 := 0) rfl rfl ?_
    refine wi_aload_n (i := 0) (x := 1000000) (nx := 1474) (r1 := 0) (r2 := 0) (r3 := 0) rfl rfl ?_
    refine wi_iload (i := 4) (e := i) (nx := 1476) (r1 := 0) (r2 := 0) (r3 := 0) rfl rfl ?_
    refine wi_iconst (n := 1) (nx := 1477) (r1 := 0) (r2 := 0) (r3 := 0) rfl ?_
    refine wr_add (nx := 1478) (r1 := 0) (r2 := 0) (r3 := 0) rfl (fun e56 (fe56 : e56 = i + 1) => ?_)
    refine wr_sc (a := e56) (f := i52) (nx := 1479) (r1 := 0) (r2 := 0) (r3 := 0) rfl (by omega) (by omega) hL ?_
    refine wr_V (k0 := 236) (rest := []) (as := [.ref 236, vi ((xs i52).toInt)]) (nx := 1482) (r1 := 350) (r2 := 1) (r3 := 11) rfl rfl rfl (of_decide_eq_true rfl) rfl rfl (by decide) rfl rfl (of_decide_eq_true rfl) (of_decide_eq_true rfl) ?_
    refine ct_350_236 hcr  g ((xs i52).toInt) (by omega)  (fun h57 z58 g57 u57 (fz58 : -2147483648 ≤ z58 ∧ z58 ≤ 2147483647) => ?_)
    refine wk_i ?_
    refine wi_istore (i := 6) (e := z58) (lo2 := [(6, vi z58), (5, vi 1), (0, .ref 1000000), (1, .ref 0), (2, .ref 236), (3, .ref 259), (4, vi i)]) (nx := 1484) (r1 := 0) (r2 := 0) (r3 := 0) rfl rfl ?_
    refine wi_goto (nx := 1487) (r1 := 1529) (r2 := 0) (r3 := 0) rfl ?_
    refine wp.lo (lo := [(0, .ref 1000000), (1, .ref 0), (2, .ref 236), (3, .ref 259), (4, vi i)]) ⟨rfl, rfl, rfl, rfl, rfl, trivial⟩ rfl ?_
    have e59 : h57 238 98 = h 238 98 := (u57 238 98 rfl)
    have e60 : h57 238 99 = h 238 99 := (u57 238 99 rfl)
    have e61 : h57 238 100 = h 238 100 := (u57 238 100 rfl)
    have e62 : h57 238 101 = h 238 101 := (u57 238 101 rfl)
    have e63 : h57 238 102 = h 238 102 := (u57 238 102 rfl)
    have e64 : h57 238 106 = h 238 106 := (u57 238 106 rfl)
    have e65 : h57 238 73 = h 238 73 := (u57 238 73 rfl)
    have e66 : h57 238 2 = h 238 2 := (u57 238 2 rfl)
    have e67 : h57 238 119 = h 238 119 := (u57 238 119 rfl)
    have e68 : h57 238 67 = h 238 67 := (u57 238 67 rfl)
    have e69 : h57 238 69 = h 238 69 := (u57 238 69 rfl)
    have e70 : h57 238 5 = h 238 5 := (u57 238 5 rfl)
    have e71 : h57 241 98 = h 241 98 := (u57 241 98 rfl)
    have e72 : h57 241 99 = h 241 99 := (u57 241 99 rfl)
    have e73 : h57 241 100 = h 241 100 := (u57 241 100 rfl)
    have e74 : h57 241 101 = h 241 101 := (u57 241 101 rfl)
    have e75 : h57 241 102 = h 241 102 := (u57 241 102 rfl)
    have e76 : h57 241 106 = h 241 106 := (u57 241 106 rfl)
    have e77 : h57 241 73 = h 241 73 := (u57 241 73 rfl)
    have e78 : h57 241 2 = h 241 2 := (u57 241 2 rfl)
    have e79 : h57 241 119 = h 241 119 := (u57 241 119 rfl)
    have e80 : h57 241 67 = h 241 67 := (u57 241 67 rfl)
    have e81 : h57 241 69 = h 241 69 := (u57 241 69 rfl)
    have e82 : h57 241 5 = h 241 5 := (u57 241 5 rfl)
    have e83 : h57 1 1 = h 1 1 := (u57 1 1 rfl)
    have e84 : h57 236 2 = h 236 2 := (u57 236 2 rfl)
    have e85 : h57 1 2 = h 1 2 := (u57 1 2 rfl)
    have e86 : h57 236 10 = h 236 10 := (u57 236 10 rfl)
    have e87 : h57 1 3 = h 1 3 := (u57 1 3 rfl)
    have e88 : h57 236 11 = h 236 11 := (u57 236 11 rfl)
    have gp89 := GPH.fr u57 rfl gp0
    have b90 := gi_b (lo := 0) (hi := 5) g 241 0 rfl
    have b91 := gi_b (lo := 0) (hi := 4) g 241 1 rfl
    have gs92 := GPS.fr u57 rfl gs0
    have e93 : h57 0 12 = h 0 12 := (u57 0 12 rfl)
    have e94 : h57 236 21 = h 236 21 := (u57 236 21 rfl)
    exact k h57 (b - 1) (c - 6) ⟨g57, (show h57 1 1 = h57 236 2 by omega), (RS.i0 (f := h57 238) (by refine ⟨?_, ?_, ?_, ?_, ?_⟩ <;> omega)), (RS.i0 (f := h57 241) (by refine ⟨?_, ?_, ?_, ?_, ?_⟩ <;> omega)), gp89, (BRh.keep br0 (fun i => (u57 2 i (fn_a (by decide) fn_0))) (fun i => (u57 237 i (fn_a (by decide) fn_0))) (by omega)), (show h57 1 2 = h57 236 10 by omega), (show h57 1 3 = h57 236 11 by omega), (SVx.keep sv0 (by omega) (fun i _ => (u57 3 i (fn_a (by decide) fn_0))) (fun i _ => (u57 5 i (fn_a (by decide) fn_0))) (fun i _ => (u57 6 i (fn_a (by decide) fn_0))) (fun i _ => (u57 8 i (fn_a (by decide) fn_0))) (fun i _ => (u57 238 i (fn_a (by decide) fn_0)))), (show h57 0 12 = h57 236 21 by omega), (fun e => (SVx.keep (ss0 (by omega)) (by omega) (fun i _ => (u57 210 i (fn_a (by decide) fn_0))) (fun i _ => (u57 212 i (fn_a (by decide) fn_0))) (fun i _ => (u57 213 i (fn_a (by decide) fn_0))) (fun i _ => (u57 215 i (fn_a (by decide) fn_0))) (fun i _ => (u57 241 i (fn_a (by decide) fn_0))))), gs92⟩ (by omega) (by omega)
-- the law, case at 1487
set_option maxRecDepth 100000 in
set_option maxHeartbeats 100000000 in
theorem lc_1487 {L : Nat} {xs : Nat → Int32} {d b c : Nat} {h : hp} {cr : Nat → Nat → Option Nat} {Q : hp_Q} (hcr : CR cr) (hL : L ≤ 3072) (hr : 1 ≤ b ∧ 6 ≤ c) (I : LI h) (i : Int) (hi : 0 ≤ i ∧ i + 6 ≤ L) (k : ∀ (h2 : hp) (b2 c2 : Nat), LI h2 → b ≤ b2 + 1 → c ≤ c2 + 6 → wp (md_xa (L, xs)) (d + 107) 0 (1529, [(0, .ref 1000000), (1, .ref 0), (2, .ref 236), (3, .ref 259), (4, vi i)], [], hp_w h2 cr, b2, c2) Q) : wp (md_xa (L, xs)) (d + 107) 0 (1487, [(0, .ref 1000000), (1, .ref 0), (2, .ref 236), (3, .ref 259), (4, vi i)], [], hp_w h cr, b, c) Q := by
  obtain ⟨g, i11, r238, r241, gp0, br0, er2, er3, sv0, sf0, ss0, gs0⟩ := I
  have r238e := r238.e0
  have r241e := r241.e0
  obtain ⟨⟨se0, se1, se2, se3, se4, se5, se6, se7, se8, se9⟩, -⟩ := id sv0
  have b1 := gi_b (lo := 0) (hi := 5) g 3 0 rfl
  have b2 := gi_b (lo := 0) (hi := 5) g 238 0 rfl
  have b3 := gi_b (lo := 0) (hi := 4) g 3 1 rfl
  have b4 := gi_b (lo := 0) (hi := 4) g 238 1 rfl
  have b5 := gi_b (lo := 0) (hi := 12) g 3 2 rfl
  have b6 := gi_b (lo := 0) (hi := 12) g 238 2 rfl
  have b7 := gi_b (lo := -2147483648) (hi := 2147483647) g 3 3 rfl
  have b8 := gi_b (lo := 0) (hi := 999) g 238 3 rfl
  have b9 := gi_b (lo := -2147483648) (hi := 2147483647) g 3 4 rfl
  have b10 := gi_b (lo := 0) (hi := 999) g 238 4 rfl
  have b11 := gi_b (lo := -2147483648) (hi := 2147483647) g 3 5 rfl
  have b12 := gi_b (lo := 0) (hi := 9) g 238 5 rfl
  have b13 := gi_b (lo := -2147483648) (hi := 2147483647) g 3 6 rfl
  have b14 := gi_b (lo := 0) (hi := 999) g 238 6 rfl
  have b15 := gi_b (lo := -2147483648) (hi := 2147483647) g 3 7 rfl
  have b16 := gi_b (lo := 0) (hi := 3) g 238 7 rfl
  have b17 := gi_b (lo := -2147483648) (hi := 2147483647) g 3 8 rfl
  have b18 := gi_b (lo := 0) (hi := 999) g 238 8 rfl
  have b19 := gi_b (lo := -2147483648) (hi := 2147483647) g 3 9 rfl
  have b20 := gi_b (lo := 0) (hi := 999) g 238 9 rfl
  have b21 := gi_b (lo := 0) (hi := 1) g 0 12 rfl
  have b22 := gi_b (lo := 0) (hi := 1) g 236 21 rfl
  have bl_ := gi_b (lo := 0) (hi := 800) g 1 1 rfl
  have tb0 : BufC (h 2) (h 1 1) h := ⟨fun _ => rfl, rfl, by omega, by omega⟩
  have b23 := gi_b (lo := 0) (hi := 6) g 238 98 rfl
  have b24 := gi_b (lo := 0) (hi := 6) g 238 99 rfl
  have b25 := gi_b (lo := 0) (hi := 6) g 238 100 rfl
  have b26 := gi_b (lo := 0) (hi := 6) g 238 101 rfl
  have b27 := gi_b (lo := 0) (hi := 3) g 238 102 rfl
  have b28 := gi_b (lo := 0) (hi := 12) g 238 106 rfl
  have b29 := gi_b (lo := 0) (hi := 12) g 238 73 rfl
  have b30 := gi_b (lo := 0) (hi := 9999) g 238 119 rfl
  have b31 := gi_b (lo := 0) (hi := 9999) g 238 67 rfl
  have b32 := gi_b (lo := 0) (hi := 9) g 238 69 rfl
  have b33 := gi_b (lo := 0) (hi := 6) g 241 98 rfl
  have b34 := gi_b (lo := 0) (hi := 6) g 241 99 rfl
  have b35 := gi_b (lo := 0) (hi := 6) g 241 100 rfl
  have b36 := gi_b (lo := 0) (hi := 6) g 241 101 rfl
  have b37 := gi_b (lo := 0) (hi := 3) g 241 102 rfl
  have b38 := gi_b (lo := 0) (hi := 12) g 241 106 rfl
  have b39 := gi_b (lo := 0) (hi := 12) g 241 73 rfl
  have b40 := gi_b (lo := 0) (hi := 12) g 241 2 rfl
  have b41 := gi_b (lo := 0) (hi := 9999) g 241 119 rfl
  have b42 := gi_b (lo := 0) (hi := 9999) g 241 67 rfl
  have b43 := gi_b (lo := 0) (hi := 9) g 241 69 rfl
  have b44 := gi_b (lo := 0) (hi := 9) g 241 5 rfl
  have b45 := gi_b (lo := 0) (hi := 800) g 1 1 rfl
  have b46 := gi_b (lo := 0) (hi := 800) g 236 2 rfl
  have b47 := gi_b (lo := -2147483648) (hi := 2147483647) g 1 2 rfl
  have b48 := gi_b (lo := -2147483648) (hi := 2147483647) g 236 10 rfl
  have b49 := gi_b (lo := -2147483648) (hi := 2147483647) g 1 3 rfl
  have b50 := gi_b (lo := -2147483648) (hi := 2147483647) g 236 11 rfl
  refine wi_aload_n (i := 1) (x := 0) (nx := 1488) (r1 := 0) (r2 := 0) (r3 := 0) rfl rfl ?_
  refine wr_V (k0 := 0) (rest := []) (as := [.ref 0]) (nx := 1491) (r1 := 59) (r2 := 0) (r3 := 0) rfl rfl rfl (of_decide_eq_true rfl) rfl rfl (by decide) rfl rfl (of_decide_eq_true rfl) (of_decide_eq_true rfl) ?_
  refine ct_59_0 hcr  g    (fun h51 z52 g51 u51 (fz52 : -1 ≤ z52 ∧ z52 ≤ 6) => ?_)
  refine wk_i ?_
  refine wi_pop (nx := 1492) (r1 := 0) (r2 := 0) (r3 := 0) rfl rfl ?_
  refine wi_aload_n (i := 2) (x := 236) (nx := 1493) (r1 := 0) (r2 := 0) (r3 := 0) rfl rfl ?_
  refine wr_V (k0 := 236) (rest := []) (as := [.ref 236]) (nx := 1496) (r1 := 351) (r2 := 0) (r3 := 11) rfl rfl rfl (of_decide_eq_true rfl) rfl rfl (by decide) rfl rfl (of_decide_eq_true rfl) (of_decide_eq_true rfl) ?_
  have e54 : h51 238 98 = h 238 98 := (u51 238 98 rfl)
  have e55 : h51 238 99 = h 238 99 := (u51 238 99 rfl)
  have e56 : h51 238 100 = h 238 100 := (u51 238 100 rfl)
  have e57 : h51 238 101 = h 238 101 := (u51 238 101 rfl)
  have e58 : h51 238 102 = h 238 102 := (u51 238 102 rfl)
  have e59 : h51 238 106 = h 238 106 := (u51 238 106 rfl)
  have e60 : h51 238 73 = h 238 73 := (u51 238 73 rfl)
  have e61 : h51 238 2 = h 238 2 := (u51 238 2 rfl)
  have e62 : h51 238 119 = h 238 119 := (u51 238 119 rfl)
  have e63 : h51 238 67 = h 238 67 := (u51 238 67 rfl)
  have e64 : h51 238 69 = h 238 69 := (u51 238 69 rfl)
  have e65 : h51 238 5 = h 238 5 := (u51 238 5 rfl)
  have gs67 := GPS.fr u51 rfl gs0
  have gp68 := GPH.fr u51 rfl gp0
  refine ct_351_236 hcr  g51   (show (h51 238 98) + (h51 238 99) + (h51 238 100) + (h51 238 101) + (h51 238 102) + (h51 238 106) = (h51 238 73) by omega) (show (h51 238 73) ≤ (h51 238 2) by omega) (show (h51 238 119) ≤ (h51 238 67) by omega) (show (h51 238 69) ≤ (h51 238 5) by omega) (show (h51 238 2) ≤ 12 * (h51 238 5) by omega) gs67 gp68 (fun h53 z66 g53 u53 (fz66 : -1 ≤ z66 ∧ z66 ≤ 5) y53_0 y53_1 y53_2 y53_3 => ?_)
  refine wk_i ?_
  refine wi_pop (nx := 1497) (r1 := 0) (r2 := 0) (r3 := 0) rfl rfl ?_
  refine wi_goto (nx := 1500) (r1 := 1529) (r2 := 0) (r3 := 0) rfl ?_
  have b69 := gi_b (lo := 0) (hi := 6) g53 238 98 rfl
  have b70 := gi_b (lo := 0) (hi := 6) g53 238 99 rfl
  have b71 := gi_b (lo := 0) (hi := 6) g53 238 100 rfl
  have b72 := gi_b (lo := 0) (hi := 6) g53 238 101 rfl
  have b73 := gi_b (lo := 0) (hi := 3) g53 238 102 rfl
  have b74 := gi_b (lo := 0) (hi := 12) g53 238 106 rfl
  have b75 := gi_b (lo := 0) (hi := 12) g53 238 73 rfl
  have e76 : h53 238 2 = h 238 2 := ((y53_1 2 (by decide)).trans (u51 238 2 rfl))
  have b77 := gi_b (lo := 0) (hi := 9999) g53 238 119 rfl
  have b78 := gi_b (lo := 0) (hi := 9999) g53 238 67 rfl
  have b79 := gi_b (lo := 0) (hi := 9) g53 238 69 rfl
  have e80 : h53 238 5 = h 238 5 := ((y53_1 5 (by decide)).trans (u51 238 5 rfl))
  have e81 : h53 241 98 = h 241 98 := ((u53 241 98 rfl).trans (u51 241 98 rfl))
  have e82 : h53 241 99 = h 241 99 := ((u53 241 99 rfl).trans (u51 241 99 rfl))
  have e83 : h53 241 100 = h 241 100 := ((u53 241 100 rfl).trans (u51 241 100 rfl))
  have e84 : h53 241 101 = h 241 101 := ((u53 241 101 rfl).trans (u51 241 101 rfl))
  have e85 : h53 241 102 = h 241 102 := ((u53 241 102 rfl).trans (u51 241 102 rfl))
  have e86 : h53 241 106 = h 241 106 := ((u53 241 106 rfl).trans (u51 241 106 rfl))
  have e87 : h53 241 73 = h 241 73 := ((u53 241 73 rfl).trans (u51 241 73 rfl))
  have e88 : h53 241 2 = h 241 2 := ((u53 241 2 rfl).trans (u51 241 2 rfl))
  have e89 : h53 241 119 = h 241 119 := ((u53 241 119 rfl).trans (u51 241 119 rfl))
  have e90 : h53 241 67 = h 241 67 := ((u53 241 67 rfl).trans (u51 241 67 rfl))
  have e91 : h53 241 69 = h 241 69 := ((u53 241 69 rfl).trans (u51 241 69 rfl))
  have e92 : h53 241 5 = h 241 5 := ((u53 241 5 rfl).trans (u51 241 5 rfl))
  have e93 : h53 1 1 = h 1 1 := ((u53 1 1 rfl).trans (u51 1 1 rfl))
  have e94 : h53 236 2 = h 236 2 := ((u53 236 2 rfl).trans (u51 236 2 rfl))
  have e95 : h53 1 2 = h 1 2 := ((u53 1 2 rfl).trans (u51 1 2 rfl))
  have e96 : h53 236 10 = h 236 10 := ((u53 236 10 rfl).trans (u51 236 10 rfl))
  have e97 : h53 1 3 = h 1 3 := ((u53 1 3 rfl).trans (u51 1 3 rfl))
  have e98 : h53 236 11 = h 236 11 := ((u53 236 11 rfl).trans (u51 236 11 rfl))
  have b99 := gi_b (lo := 0) (hi := 5) g 241 0 rfl
  have b100 := gi_b (lo := 0) (hi := 4) g 241 1 rfl
  have e101 : h53 0 12 = h 0 12 := ((u53 0 12 rfl).trans (u51 0 12 rfl))
  have e102 : h53 236 21 = h 236 21 := ((u53 236 21 rfl).trans (u51 236 21 rfl))
  exact k h53 b c ⟨g53, (show h53 1 1 = h53 236 2 by omega), y53_0, (RS.i0 (f := h53 241) (by refine ⟨?_, ?_, ?_, ?_, ?_⟩ <;> omega)), y53_3, (BRh.keep br0 (fun i => ((u53 2 i (fn_a (by decide) (fn_a (by decide) (fn_a (by decide) fn_0)))).trans (u51 2 i (fn_a (by decide) (fn_a (by decide) (fn_a (by decide) fn_0)))))) (fun i => ((u53 237 i (fn_a (by decide) (fn_a (by decide) (fn_a (by decide) fn_0)))).trans (u51 237 i (fn_a (by decide) (fn_a (by decide) (fn_a (by decide) fn_0)))))) (by omega)), (show h53 1 2 = h53 236 10 by omega), (show h53 1 3 = h53 236 11 by omega), (SVx.keep sv0 (by omega) (fun i _ => ((u53 3 i (fn_a (by decide) (fn_a (by decide) (fn_a (by decide) fn_0)))).trans (u51 3 i (fn_a (by decide) (fn_a (by decide) (fn_a (by decide) fn_0)))))) (fun i _ => ((u53 5 i (fn_a (by decide) (fn_a (by decide) (fn_a (by decide) fn_0)))).trans (u51 5 i (fn_a (by decide) (fn_a (by decide) (fn_a (by decide) fn_0)))))) (fun i _ => ((u53 6 i (fn_a (by decide) (fn_a (by decide) (fn_a (by decide) fn_0)))).trans (u51 6 i (fn_a (by decide) (fn_a (by decide) (fn_a (by decide) fn_0)))))) (fun i _ => ((u53 8 i (fn_a (by decide) (fn_a (by decide) (fn_a (by decide) fn_0)))).trans (u51 8 i (fn_a (by decide) (fn_a (by decide) (fn_a (by decide) fn_0)))))) (fun i _ => ((y53_1 i (by omega)).trans (u51 238 i (fn_a (by decide) (fn_a (by decide) (fn_a (by decide) fn_0))))))), (show h53 0 12 = h53 236 21 by omega), (fun e => (SVx.keep (ss0 (by omega)) (by omega) (fun i _ => ((u53 210 i (fn_a (by decide) (fn_a (by decide) (fn_a (by decide) fn_0)))).trans (u51 210 i (fn_a (by decide) (fn_a (by decide) (fn_a (by decide) fn_0)))))) (fun i _ => ((u53 212 i (fn_a (by decide) (fn_a (by decide) (fn_a (by decide) fn_0)))).trans (u51 212 i (fn_a (by decide) (fn_a (by decide) (fn_a (by decide) fn_0)))))) (fun i _ => ((u53 213 i (fn_a (by decide) (fn_a (by decide) (fn_a (by decide) fn_0)))).trans (u51 213 i (fn_a (by decide) (fn_a (by decide) (fn_a (by decide) fn_0)))))) (fun i _ => ((u53 215 i (fn_a (by decide) (fn_a (by decide) (fn_a (by decide) fn_0)))).trans (u51 215 i (fn_a (by decide) (fn_a (by decide) (fn_a (by decide) fn_0)))))) (fun i _ => ((u53 241 i (fn_a (by decide) (fn_a (by decide) (fn_a (by decide) fn_0)))).trans (u51 241 i (fn_a (by decide) (fn_a (by decide) (fn_a (by decide) fn_0)))))))), y53_2⟩ (by omega) (by omega)
-- the law, case at 1500
set_option maxRecDepth 100000 in
set_option maxHeartbeats 100000000 in
theorem lc_1500 {L : Nat} {xs : Nat → Int32} {d b c : Nat} {h : hp} {cr : Nat → Nat → Option Nat} {Q : hp_Q} (hcr : CR cr) (hL : L ≤ 3072) (hr : 1 ≤ b ∧ 6 ≤ c) (I : LI h) (i : Int) (hi : 0 ≤ i ∧ i + 6 ≤ L) (k : ∀ (h2 : hp) (b2 c2 : Nat), LI h2 → b ≤ b2 + 1 → c ≤ c2 + 6 → wp (md_xa (L, xs)) (d + 107) 0 (1529, [(0, .ref 1000000), (1, .ref 0), (2, .ref 236), (3, .ref 259), (4, vi i)], [], hp_w h2 cr, b2, c2) Q) : wp (md_xa (L, xs)) (d + 107) 0 (1500, [(0, .ref 1000000), (1, .ref 0), (2, .ref 236), (3, .ref 259), (4, vi i)], [], hp_w h cr, b, c) Q := by
  obtain ⟨g, i11, r238, r241, gp0, br0, er2, er3, sv0, sf0, ss0, gs0⟩ := I
  have r238e := r238.e0
  have r241e := r241.e0
  obtain ⟨⟨se0, se1, se2, se3, se4, se5, se6, se7, se8, se9⟩, -⟩ := id sv0
  have b1 := gi_b (lo := 0) (hi := 5) g 3 0 rfl
  have b2 := gi_b (lo := 0) (hi := 5) g 238 0 rfl
  have b3 := gi_b (lo := 0) (hi := 4) g 3 1 rfl
  have b4 := gi_b (lo := 0) (hi := 4) g 238 1 rfl
  have b5 := gi_b (lo := 0) (hi := 12) g 3 2 rfl
  have b6 := gi_b (lo := 0) (hi := 12) g 238 2 rfl
  have b7 := gi_b (lo := -2147483648) (hi := 2147483647) g 3 3 rfl
  have b8 := gi_b (lo := 0) (hi := 999) g 238 3 rfl
  have b9 := gi_b (lo := -2147483648) (hi := 2147483647) g 3 4 rfl
  have b10 := gi_b (lo := 0) (hi := 999) g 238 4 rfl
  have b11 := gi_b (lo := -2147483648) (hi := 2147483647) g 3 5 rfl
  have b12 := gi_b (lo := 0) (hi := 9) g 238 5 rfl
  have b13 := gi_b (lo := -2147483648) (hi := 2147483647) g 3 6 rfl
  have b14 := gi_b (lo := 0) (hi := 999) g 238 6 rfl
  have b15 := gi_b (lo := -2147483648) (hi := 2147483647) g 3 7 rfl
  have b16 := gi_b (lo := 0) (hi := 3) g 238 7 rfl
  have b17 := gi_b (lo := -2147483648) (hi := 2147483647) g 3 8 rfl
  have b18 := gi_b (lo := 0) (hi := 999) g 238 8 rfl
  have b19 := gi_b (lo := -2147483648) (hi := 2147483647) g 3 9 rfl
  have b20 := gi_b (lo := 0) (hi := 999) g 238 9 rfl
  have b21 := gi_b (lo := 0) (hi := 1) g 0 12 rfl
  have b22 := gi_b (lo := 0) (hi := 1) g 236 21 rfl
  have bl_ := gi_b (lo := 0) (hi := 800) g 1 1 rfl
  have tb0 : BufC (h 2) (h 1 1) h := ⟨fun _ => rfl, rfl, by omega, by omega⟩
  have b23 := gi_b (lo := 0) (hi := 6) g 238 98 rfl
  have b24 := gi_b (lo := 0) (hi := 6) g 238 99 rfl
  have b25 := gi_b (lo := 0) (hi := 6) g 238 100 rfl
  have b26 := gi_b (lo := 0) (hi := 6) g 238 101 rfl
  have b27 := gi_b (lo := 0) (hi := 3) g 238 102 rfl
  have b28 := gi_b (lo := 0) (hi := 12) g 238 106 rfl
  have b29 := gi_b (lo := 0) (hi := 12) g 238 73 rfl
  have b30 := gi_b (lo := 0) (hi := 9999) g 238 119 rfl
  have b31 := gi_b (lo := 0) (hi := 9999) g 238 67 rfl
  have b32 := gi_b (lo := 0) (hi := 9) g 238 69 rfl
  have b33 := gi_b (lo := 0) (hi := 6) g 241 98 rfl
  have b34 := gi_b (lo := 0) (hi := 6) g 241 99 rfl
  have b35 := gi_b (lo := 0) (hi := 6) g 241 100 rfl
  have b36 := gi_b (lo := 0) (hi := 6) g 241 101 rfl
  have b37 := gi_b (lo := 0) (hi := 3) g 241 102 rfl
  have b38 := gi_b (lo := 0) (hi := 12) g 241 106 rfl
  have b39 := gi_b (lo := 0) (hi := 12) g 241 73 rfl
  have b40 := gi_b (lo := 0) (hi := 12) g 241 2 rfl
  have b41 := gi_b (lo := 0) (hi := 9999) g 241 119 rfl
  have b42 := gi_b (lo := 0) (hi := 9999) g 241 67 rfl
  have b43 := gi_b (lo := 0) (hi := 9) g 241 69 rfl
  have b44 := gi_b (lo := 0) (hi := 9) g 241 5 rfl
  have b45 := gi_b (lo := 0) (hi := 800) g 1 1 rfl
  have b46 := gi_b (lo := 0) (hi := 800) g 236 2 rfl
  have b47 := gi_b (lo := -2147483648) (hi := 2147483647) g 1 2 rfl
  have b48 := gi_b (lo := -2147483648) (hi := 2147483647) g 236 10 rfl
  have b49 := gi_b (lo := -2147483648) (hi := 2147483647) g 1 3 rfl
  have b50 := gi_b (lo := -2147483648) (hi := 2147483647) g 236 11 rfl
  refine wi_aload_n (i := 1) (x := 0) (nx := 1501) (r1 := 0) (r2 := 0) (r3 := 0) rfl rfl ?_
  refine wr_V (k0 := 0) (rest := []) (as := [.ref 0]) (nx := 1504) (r1 := 60) (r2 := 0) (r3 := 0) rfl rfl rfl (of_decide_eq_true rfl) rfl rfl (by decide) rfl rfl (of_decide_eq_true rfl) (of_decide_eq_true rfl) ?_
  refine ct_60_0 hcr  g    (fun h51 z52 g51 u51 (fz52 : -2147483648 ≤ z52 ∧ z52 ≤ 2147483647) (p51_0 : (h51 0 12) = 1) y51_0 => ?_)
  have b53 := gi_b (lo := 0) (hi := 1) g51 0 12 rfl
  refine wk_i ?_
  refine wi_pop (nx := 1505) (r1 := 0) (r2 := 0) (r3 := 0) rfl rfl ?_
  refine wi_aload_n (i := 2) (x := 236) (nx := 1506) (r1 := 0) (r2 := 0) (r3 := 0) rfl rfl ?_
  refine wr_V (k0 := 236) (rest := []) (as := [.ref 236]) (nx := 1509) (r1 := 352) (r2 := 0) (r3 := 11) rfl rfl rfl (of_decide_eq_true rfl) rfl rfl (by decide) rfl rfl (of_decide_eq_true rfl) (of_decide_eq_true rfl) ?_
  have e55 : h51 238 98 = h 238 98 := (u51 238 98 rfl)
  have e56 : h51 238 99 = h 238 99 := (u51 238 99 rfl)
  have e57 : h51 238 100 = h 238 100 := (u51 238 100 rfl)
  have e58 : h51 238 101 = h 238 101 := (u51 238 101 rfl)
  have e59 : h51 238 102 = h 238 102 := (u51 238 102 rfl)
  have e60 : h51 238 106 = h 238 106 := (u51 238 106 rfl)
  have e61 : h51 238 73 = h 238 73 := (u51 238 73 rfl)
  have e62 : h51 238 2 = h 238 2 := (u51 238 2 rfl)
  have e63 : h51 238 119 = h 238 119 := (u51 238 119 rfl)
  have e64 : h51 238 67 = h 238 67 := (u51 238 67 rfl)
  have e65 : h51 238 69 = h 238 69 := (u51 238 69 rfl)
  have e66 : h51 238 5 = h 238 5 := (u51 238 5 rfl)
  refine ct_352_236 hcr  g51   (show (h51 238 98) + (h51 238 99) + (h51 238 100) + (h51 238 101) + (h51 238 102) + (h51 238 106) = (h51 238 73) by omega) (show (h51 238 73) ≤ (h51 238 2) by omega) (show (h51 238 119) ≤ (h51 238 67) by omega) (show (h51 238 69) ≤ (h51 238 5) by omega) (show (h51 238 2) ≤ 12 * (h51 238 5) by omega) (fun h54 z67 g54 u54 (fz67 : 0 ≤ z67 ∧ z67 ≤ 9999) (p54_0 : (h54 241 98) + (h54 241 99) + (h54 241 100) + (h54 241 101) + (h54 241 102) + (h54 241 106) = (h54 241 73)) (p54_1 : (h54 241 73) ≤ (h54 241 2)) (p54_2 : (h54 241 119) ≤ (h54 241 67)) (p54_3 : (h54 241 69) ≤ (h54 241 5)) (p54_4 : (h54 241 2) ≤ 12 * (h54 241 5)) (p54_5 : (h54 236 21) = 1) y54_0 => ?_)
  have e68 : h54 241 98 = h 238 98 := ((y54_0 98 (by decide)).trans (u51 238 98 rfl))
  have e69 : h54 241 99 = h 238 99 := ((y54_0 99 (by decide)).trans (u51 238 99 rfl))
  have e70 : h54 241 100 = h 238 100 := ((y54_0 100 (by decide)).trans (u51 238 100 rfl))
  have e71 : h54 241 101 = h 238 101 := ((y54_0 101 (by decide)).trans (u51 238 101 rfl))
  have e72 : h54 241 102 = h 238 102 := ((y54_0 102 (by decide)).trans (u51 238 102 rfl))
  have e73 : h54 241 106 = h 238 106 := ((y54_0 106 (by decide)).trans (u51 238 106 rfl))
  have e74 : h54 241 73 = h 238 73 := ((y54_0 73 (by decide)).trans (u51 238 73 rfl))
  have e75 : h54 241 2 = h 238 2 := ((y54_0 2 (by decide)).trans (u51 238 2 rfl))
  have e76 : h54 241 119 = h 238 119 := ((y54_0 119 (by decide)).trans (u51 238 119 rfl))
  have e77 : h54 241 67 = h 238 67 := ((y54_0 67 (by decide)).trans (u51 238 67 rfl))
  have e78 : h54 241 69 = h 238 69 := ((y54_0 69 (by decide)).trans (u51 238 69 rfl))
  have e79 : h54 241 5 = h 238 5 := ((y54_0 5 (by decide)).trans (u51 238 5 rfl))
  have b80 := gi_b (lo := 0) (hi := 1) g54 236 21 rfl
  refine wk_i ?_
  refine wi_pop (nx := 1510) (r1 := 0) (r2 := 0) (r3 := 0) rfl rfl ?_
  refine wi_goto (nx := 1513) (r1 := 1529) (r2 := 0) (r3 := 0) rfl ?_
  have e81 : h54 238 98 = h 238 98 := ((u54 238 98 rfl).trans (u51 238 98 rfl))
  have e82 : h54 238 99 = h 238 99 := ((u54 238 99 rfl).trans (u51 238 99 rfl))
  have e83 : h54 238 100 = h 238 100 := ((u54 238 100 rfl).trans (u51 238 100 rfl))
  have e84 : h54 238 101 = h 238 101 := ((u54 238 101 rfl).trans (u51 238 101 rfl))
  have e85 : h54 238 102 = h 238 102 := ((u54 238 102 rfl).trans (u51 238 102 rfl))
  have e86 : h54 238 106 = h 238 106 := ((u54 238 106 rfl).trans (u51 238 106 rfl))
  have e87 : h54 238 73 = h 238 73 := ((u54 238 73 rfl).trans (u51 238 73 rfl))
  have e88 : h54 238 2 = h 238 2 := ((u54 238 2 rfl).trans (u51 238 2 rfl))
  have e89 : h54 238 119 = h 238 119 := ((u54 238 119 rfl).trans (u51 238 119 rfl))
  have e90 : h54 238 67 = h 238 67 := ((u54 238 67 rfl).trans (u51 238 67 rfl))
  have e91 : h54 238 69 = h 238 69 := ((u54 238 69 rfl).trans (u51 238 69 rfl))
  have e92 : h54 238 5 = h 238 5 := ((u54 238 5 rfl).trans (u51 238 5 rfl))
  have e93 : h54 1 1 = h 1 1 := ((u54 1 1 rfl).trans (u51 1 1 rfl))
  have e94 : h54 236 2 = h 236 2 := ((u54 236 2 rfl).trans (u51 236 2 rfl))
  have e95 : h54 1 2 = h 1 2 := ((u54 1 2 rfl).trans (u51 1 2 rfl))
  have e96 : h54 236 10 = h 236 10 := ((u54 236 10 rfl).trans (u51 236 10 rfl))
  have e97 : h54 1 3 = h 1 3 := ((u54 1 3 rfl).trans (u51 1 3 rfl))
  have e98 : h54 236 11 = h 236 11 := ((u54 236 11 rfl).trans (u51 236 11 rfl))
  have gp99 := GPH.fr u51 rfl gp0
  have gp100 := GPH.fr u54 rfl gp99
  have b101 := gi_b (lo := 0) (hi := 5) g 241 0 rfl
  have b102 := gi_b (lo := 0) (hi := 4) g 241 1 rfl
  have gs103 := GPS.fr u51 rfl gs0
  have gs104 := GPS.fr u54 rfl gs103
  have e105 : h54 0 12 = h51 0 12 := (u54 0 12 rfl)
  exact k h54 b c ⟨g54, (show h54 1 1 = h54 236 2 by omega), (RS.i0 (f := h54 238) (by refine ⟨?_, ?_, ?_, ?_, ?_⟩ <;> omega)), (RS.i0 (f := h54 241) (by refine ⟨?_, ?_, ?_, ?_, ?_⟩ <;> omega)), gp100, (BRh.keep br0 (fun i => ((u54 2 i (fn_a (by decide) (fn_a (by decide) (fn_a (by decide) (fn_a (by decide) fn_0))))).trans (u51 2 i (fo_nk rfl)))) (fun i => ((u54 237 i (fn_a (by decide) (fn_a (by decide) (fn_a (by decide) (fn_a (by decide) fn_0))))).trans (u51 237 i (fo_nk rfl)))) (by omega)), (show h54 1 2 = h54 236 10 by omega), (show h54 1 3 = h54 236 11 by omega), (SVx.keep sv0 (by omega) (fun i _ => ((u54 3 i (fn_a (by decide) (fn_a (by decide) (fn_a (by decide) (fn_a (by decide) fn_0))))).trans (u51 3 i (fo_nk rfl)))) (fun i _ => ((u54 5 i (fn_a (by decide) (fn_a (by decide) (fn_a (by decide) (fn_a (by decide) fn_0))))).trans (u51 5 i (fo_nk rfl)))) (fun i _ => ((u54 6 i (fn_a (by decide) (fn_a (by decide) (fn_a (by decide) (fn_a (by decide) fn_0))))).trans (u51 6 i (fo_nk rfl)))) (fun i _ => ((u54 8 i (fn_a (by decide) (fn_a (by decide) (fn_a (by decide) (fn_a (by decide) fn_0))))).trans (u51 8 i (fo_nk rfl)))) (fun i _ => ((u54 238 i (fn_a (by decide) (fn_a (by decide) (fn_a (by decide) (fn_a (by decide) fn_0))))).trans (u51 238 i (fo_nk rfl))))), (show h54 0 12 = h54 236 21 by omega), (fun _ => (SVx.keep sv0 (by omega) (fun i e => ((u54 210 i (fn_a (by decide) (fn_a (by decide) (fn_a (by decide) (fn_a (by decide) fn_0))))).trans (y51_0.1 i e))) (fun i e => ((u54 212 i (fn_a (by decide) (fn_a (by decide) (fn_a (by decide) (fn_a (by decide) fn_0))))).trans (y51_0.2.1 i e))) (fun i e => ((u54 213 i (fn_a (by decide) (fn_a (by decide) (fn_a (by decide) (fn_a (by decide) fn_0))))).trans (y51_0.2.2.1 i e))) (fun i e => ((u54 215 i (fn_a (by decide) (fn_a (by decide) (fn_a (by decide) (fn_a (by decide) fn_0))))).trans (y51_0.2.2.2 i e))) (fun i _ => ((y54_0 i (by omega)).trans (u51 238 i (fo_nk rfl)))))), gs104⟩ (by omega) (by omega)
-- the law, case at 1513
set_option maxRecDepth 100000 in
set_option maxHeartbeats 100000000 in
theorem lc_1513 {L : Nat} {xs : Nat → Int32} {d b c : Nat} {h : hp} {cr : Nat → Nat → Option Nat} {Q : hp_Q} (hcr : CR cr) (hL : L ≤ 3072) (hr : 1 ≤ b ∧ 6 ≤ c) (I : LI h) (i : Int) (hi : 0 ≤ i ∧ i + 6 ≤ L) (k : ∀ (h2 : hp) (b2 c2 : Nat), LI h2 → b ≤ b2 + 1 → c ≤ c2 + 6 → wp (md_xa (L, xs)) (d + 107) 0 (1529, [(0, .ref 1000000), (1, .ref 0), (2, .ref 236), (3, .ref 259), (4, vi i)], [], hp_w h2 cr, b2, c2) Q) : wp (md_xa (L, xs)) (d + 107) 0 (1513, [(0, .ref 1000000), (1, .ref 0), (2, .ref 236), (3, .ref 259), (4, vi i)], [], hp_w h cr, b, c) Q := by
  obtain ⟨g, i11, r238, r241, gp0, br0, er2, er3, sv0, sf0, ss0, gs0⟩ := I
  have r238e := r238.e0
  have r241e := r241.e0
  obtain ⟨⟨se0, se1, se2, se3, se4, se5, se6, se7, se8, se9⟩, -⟩ := id sv0
  have b1 := gi_b (lo := 0) (hi := 5) g 3 0 rfl
  have b2 := gi_b (lo := 0) (hi := 5) g 238 0 rfl
  have b3 := gi_b (lo := 0) (hi := 4) g 3 1 rfl
  have b4 := gi_b (lo := 0) (hi := 4) g 238 1 rfl
  have b5 := gi_b (lo := 0) (hi := 12) g 3 2 rfl
  have b6 := gi_b (lo := 0) (hi := 12) g 238 2 rfl
  have b7 := gi_b (lo := -2147483648) (hi := 2147483647) g 3 3 rfl
  have b8 := gi_b (lo := 0) (hi := 999) g 238 3 rfl
  have b9 := gi_b (lo := -2147483648) (hi := 2147483647) g 3 4 rfl
  have b10 := gi_b (lo := 0) (hi := 999) g 238 4 rfl
  have b11 := gi_b (lo := -2147483648) (hi := 2147483647) g 3 5 rfl
  have b12 := gi_b (lo := 0) (hi := 9) g 238 5 rfl
  have b13 := gi_b (lo := -2147483648) (hi := 2147483647) g 3 6 rfl
  have b14 := gi_b (lo := 0) (hi := 999) g 238 6 rfl
  have b15 := gi_b (lo := -2147483648) (hi := 2147483647) g 3 7 rfl
  have b16 := gi_b (lo := 0) (hi := 3) g 238 7 rfl
  have b17 := gi_b (lo := -2147483648) (hi := 2147483647) g 3 8 rfl
  have b18 := gi_b (lo := 0) (hi := 999) g 238 8 rfl
  have b19 := gi_b (lo := -2147483648) (hi := 2147483647) g 3 9 rfl
  have b20 := gi_b (lo := 0) (hi := 999) g 238 9 rfl
  have b21 := gi_b (lo := 0) (hi := 1) g 0 12 rfl
  have b22 := gi_b (lo := 0) (hi := 1) g 236 21 rfl
  have bl_ := gi_b (lo := 0) (hi := 800) g 1 1 rfl
  have tb0 : BufC (h 2) (h 1 1) h := ⟨fun _ => rfl, rfl, by omega, by omega⟩
  have b23 := gi_b (lo := 0) (hi := 6) g 238 98 rfl
  have b24 := gi_b (lo := 0) (hi := 6) g 238 99 rfl
  have b25 := gi_b (lo := 0) (hi := 6) g 238 100 rfl
  have b26 := gi_b (lo := 0) (hi := 6) g 238 101 rfl
  have b27 := gi_b (lo := 0) (hi := 3) g 238 102 rfl
  have b28 := gi_b (lo := 0) (hi := 12) g 238 106 rfl
  have b29 := gi_b (lo := 0) (hi := 12) g 238 73 rfl
  have b30 := gi_b (lo := 0) (hi := 9999) g 238 119 rfl
  have b31 := gi_b (lo := 0) (hi := 9999) g 238 67 rfl
  have b32 := gi_b (lo := 0) (hi := 9) g 238 69 rfl
  have b33 := gi_b (lo := 0) (hi := 6) g 241 98 rfl
  have b34 := gi_b (lo := 0) (hi := 6) g 241 99 rfl
  have b35 := gi_b (lo := 0) (hi := 6) g 241 100 rfl
  have b36 := gi_b (lo := 0) (hi := 6) g 241 101 rfl
  have b37 := gi_b (lo := 0) (hi := 3) g 241 102 rfl
  have b38 := gi_b (lo := 0) (hi := 12) g 241 106 rfl
  have b39 := gi_b (lo := 0) (hi := 12) g 241 73 rfl
  have b40 := gi_b (lo := 0) (hi := 12) g 241 2 rfl
  have b41 := gi_b (lo := 0) (hi := 9999) g 241 119 rfl
  have b42 := gi_b (lo := 0) (hi := 9999) g 241 67 rfl
  have b43 := gi_b (lo := 0) (hi := 9) g 241 69 rfl
  have b44 := gi_b (lo := 0) (hi := 9) g 241 5 rfl
  have b45 := gi_b (lo := 0) (hi := 800) g 1 1 rfl
  have b46 := gi_b (lo := 0) (hi := 800) g 236 2 rfl
  have b47 := gi_b (lo := -2147483648) (hi := 2147483647) g 1 2 rfl
  have b48 := gi_b (lo := -2147483648) (hi := 2147483647) g 236 10 rfl
  have b49 := gi_b (lo := -2147483648) (hi := 2147483647) g 1 3 rfl
  have b50 := gi_b (lo := -2147483648) (hi := 2147483647) g 236 11 rfl
  refine wi_aload_n (i := 1) (x := 0) (nx := 1514) (r1 := 0) (r2 := 0) (r3 := 0) rfl rfl ?_
  refine wi_aload_n (i := 3) (x := 259) (nx := 1515) (r1 := 0) (r2 := 0) (r3 := 0) rfl rfl ?_
  refine wi_S (rest := []) (as := [.ref 0, .ref 259]) (nx := 1518) (r1 := 25) (r2 := 18) (r3 := 0) rfl rfl rfl (of_decide_eq_true rfl) rfl rfl (of_decide_eq_true rfl) (of_decide_eq_true rfl) ?_
  refine wi_aload_n (i := 1) (x := 259) (nx := 1) (r1 := 0) (r2 := 0) (r3 := 0) rfl rfl ?_
  refine wi_iconst (n := 0) (nx := 2) (r1 := 0) (r2 := 0) (r3 := 0) rfl ?_
  refine wi_aload_n (i := 0) (x := 0) (nx := 3) (r1 := 0) (r2 := 0) (r3 := 0) rfl rfl ?_
  refine wr_V (k0 := 0) (rest := [vi 0, .ref 259]) (as := [.ref 0]) (nx := 6) (r1 := 89) (r2 := 0) (r3 := 0) rfl rfl rfl (of_decide_eq_true rfl) rfl rfl (by decide) rfl rfl (of_decide_eq_true rfl) (of_decide_eq_true rfl) ?_
  refine ct_89_0 hcr hr  g    (fun h51 z52 g51 u51 (fz52 : -2147483648 ≤ z52 ∧ z52 ≤ 2147483647) (p51_0 : (h 0 12) = 1) y51_0 => ?_) (fun h51 g51 u51 (pe51_0 : (h 0 12) = 0) ye51_0 => ?_)
  ·
    refine wk_i ?_
    refine wi_i2l (nx := 7) (r1 := 0) (r2 := 0) (r3 := 0) rfl (by omega) ?_
    refine wr_ls (k0 := 259) (a := 0) (f := 0) (x := z52) (bl := -9223372036854775808) (bh := 9223372036854775807) (nx := 8) (r1 := 0) (r2 := 0) (r3 := 0) rfl (by decide) rfl (by omega) (by omega) (by decide) g51 rfl (by omega) (fun h53 g53 w53 u53 => ?_)
    refine wi_goto (nx := 11) (r1 := 14) (r2 := 0) (r3 := 0) rfl ?_
    refine wi_iconst (n := 0) (nx := 15) (r1 := 0) (r2 := 0) (r3 := 0) rfl ?_
    refine wi_ireturn (nx := 16) (r1 := 0) (r2 := 0) (r3 := 0) rfl rfl ?_
    refine wk_i ?_
    refine wi_istore (i := 5) (e := 0) (lo2 := [(5, vi 0), (0, .ref 1000000), (1, .ref 0), (2, .ref 236), (3, .ref 259), (4, vi i)]) (nx := 1520) (r1 := 0) (r2 := 0) (r3 := 0) rfl rfl ?_
    refine wi_aload_n (i := 2) (x := 236) (nx := 1521) (r1 := 0) (r2 := 0) (r3 := 0) rfl rfl ?_
    refine wr_V (k0 := 236) (rest := []) (as := [.ref 236]) (nx := 1524) (r1 := 353) (r2 := 0) (r3 := 11) rfl rfl rfl (of_decide_eq_true rfl) rfl rfl (by decide) rfl rfl (of_decide_eq_true rfl) (of_decide_eq_true rfl) ?_
    have e55 : h53 238 98 = h 238 98 := ((u53 238 98 rfl).trans (u51 238 98 rfl))
    have e56 : h53 238 99 = h 238 99 := ((u53 238 99 rfl).trans (u51 238 99 rfl))
    have e57 : h53 238 100 = h 238 100 := ((u53 238 100 rfl).trans (u51 238 100 rfl))
    have e58 : h53 238 101 = h 238 101 := ((u53 238 101 rfl).trans (u51 238 101 rfl))
    have e59 : h53 238 102 = h 238 102 := ((u53 238 102 rfl).trans (u51 238 102 rfl))
    have e60 : h53 238 106 = h 238 106 := ((u53 238 106 rfl).trans (u51 238 106 rfl))
    have e61 : h53 238 73 = h 238 73 := ((u53 238 73 rfl).trans (u51 238 73 rfl))
    have e62 : h53 238 2 = h 238 2 := ((u53 238 2 rfl).trans (u51 238 2 rfl))
    have e63 : h53 238 119 = h 238 119 := ((u53 238 119 rfl).trans (u51 238 119 rfl))
    have e64 : h53 238 67 = h 238 67 := ((u53 238 67 rfl).trans (u51 238 67 rfl))
    have e65 : h53 238 69 = h 238 69 := ((u53 238 69 rfl).trans (u51 238 69 rfl))
    have e66 : h53 238 5 = h 238 5 := ((u53 238 5 rfl).trans (u51 238 5 rfl))
    have e67 : h53 241 98 = h 241 98 := ((u53 241 98 rfl).trans (u51 241 98 rfl))
    have e68 : h53 241 99 = h 241 99 := ((u53 241 99 rfl).trans (u51 241 99 rfl))
    have e69 : h53 241 100 = h 241 100 := ((u53 241 100 rfl).trans (u51 241 100 rfl))
    have e70 : h53 241 101 = h 241 101 := ((u53 241 101 rfl).trans (u51 241 101 rfl))
    have e71 : h53 241 102 = h 241 102 := ((u53 241 102 rfl).trans (u51 241 102 rfl))
    have e72 : h53 241 106 = h 241 106 := ((u53 241 106 rfl).trans (u51 241 106 rfl))
    have e73 : h53 241 73 = h 241 73 := ((u53 241 73 rfl).trans (u51 241 73 rfl))
    have e74 : h53 241 2 = h 241 2 := ((u53 241 2 rfl).trans (u51 241 2 rfl))
    have e75 : h53 241 119 = h 241 119 := ((u53 241 119 rfl).trans (u51 241 119 rfl))
    have e76 : h53 241 67 = h 241 67 := ((u53 241 67 rfl).trans (u51 241 67 rfl))
    have e77 : h53 241 69 = h 241 69 := ((u53 241 69 rfl).trans (u51 241 69 rfl))
    have e78 : h53 241 5 = h 241 5 := ((u53 241 5 rfl).trans (u51 241 5 rfl))
    refine ct_353_236 hcr  g53   (show (h53 238 98) + (h53 238 99) + (h53 238 100) + (h53 238 101) + (h53 238 102) + (h53 238 106) = (h53 238 73) by omega) (show (h53 238 73) ≤ (h53 238 2) by omega) (show (h53 238 119) ≤ (h53 238 67) by omega) (show (h53 238 69) ≤ (h53 238 5) by omega) (show (h53 238 2) ≤ 12 * (h53 238 5) by omega) (show (h53 241 98) + (h53 241 99) + (h53 241 100) + (h53 241 101) + (h53 241 102) + (h53 241 106) = (h53 241 73) by omega) (show (h53 241 73) ≤ (h53 241 2) by omega) (show (h53 241 119) ≤ (h53 241 67) by omega) (show (h53 241 69) ≤ (h53 241 5) by omega) (show (h53 241 2) ≤ 12 * (h53 241 5) by omega) (fun h54 z79 g54 u54 (fz79 : 0 ≤ z79 ∧ z79 ≤ 9999) (p54_0 : ((h53 236 21) = 0 ∧ (h54 236 0) = 1 ∧ (h54 236 22) = (h53 236 22)) ∨ ((h53 236 21) = 1 ∧ (h54 236 0) = 0 ∧ (h54 236 22) = 0)) (p54_1 : (h54 238 98) + (h54 238 99) + (h54 238 100) + (h54 238 101) + (h54 238 102) + (h54 238 106) = (h54 238 73)) (p54_2 : (h54 238 73) ≤ (h54 238 2)) (p54_3 : (h54 238 119) ≤ (h54 238 67)) (p54_4 : (h54 238 69) ≤ (h54 238 5)) (p54_5 : (h54 238 2) ≤ 12 * (h54 238 5)) y54_0 y54_1 => ?_)
    have e80 : h53 236 21 = h 236 21 := ((u53 236 21 rfl).trans (u51 236 21 rfl))
    have b81 := gi_b (lo := 0) (hi := 6) g 236 22 rfl
    have e82 : h53 236 22 = h 236 22 := ((u53 236 22 rfl).trans (u51 236 22 rfl))
    have b83 := gi_b (lo := 0) (hi := 2) g54 236 0 rfl
    have b84 := gi_b (lo := 0) (hi := 6) g54 236 22 rfl
    have b85 := gi_b (lo := 0) (hi := 6) g54 238 98 rfl
    have b86 := gi_b (lo := 0) (hi := 6) g54 238 99 rfl
    have b87 := gi_b (lo := 0) (hi := 6) g54 238 100 rfl
    have b88 := gi_b (lo := 0) (hi := 6) g54 238 101 rfl
    have b89 := gi_b (lo := 0) (hi := 3) g54 238 102 rfl
    have b90 := gi_b (lo := 0) (hi := 12) g54 238 106 rfl
    have b91 := gi_b (lo := 0) (hi := 12) g54 238 73 rfl
    have b92 := gi_b (lo := 0) (hi := 12) g54 238 2 rfl
    have b93 := gi_b (lo := 0) (hi := 9999) g54 238 119 rfl
    have b94 := gi_b (lo := 0) (hi := 9999) g54 238 67 rfl
    have b95 := gi_b (lo := 0) (hi := 9) g54 238 69 rfl
    have b96 := gi_b (lo := 0) (hi := 9) g54 238 5 rfl
    refine wk_i ?_
    rcases p54_0 with p54_0 | p54_0
    ·
      exfalso; omega
    ·
      refine wi_istore (i := 6) (e := z79) (lo2 := [(6, vi z79), (5, vi 0), (0, .ref 1000000), (1, .ref 0), (2, .ref 236), (3, .ref 259), (4, vi i)]) (nx := 1526) (r1 := 0) (r2 := 0) (r3 := 0) rfl rfl ?_
      refine wi_goto (nx := 1529) (r1 := 1529) (r2 := 0) (r3 := 0) rfl ?_
      refine wp.lo (lo := [(0, .ref 1000000), (1, .ref 0), (2, .ref 236), (3, .ref 259), (4, vi i)]) ⟨rfl, rfl, rfl, rfl, rfl, trivial⟩ rfl ?_
      have e97 : h54 241 98 = h 241 98 := ((u54 241 98 rfl).trans ((u53 241 98 rfl).trans (u51 241 98 rfl)))
      have e98 : h54 241 99 = h 241 99 := ((u54 241 99 rfl).trans ((u53 241 99 rfl).trans (u51 241 99 rfl)))
      have e99 : h54 241 100 = h 241 100 := ((u54 241 100 rfl).trans ((u53 241 100 rfl).trans (u51 241 100 rfl)))
      have e100 : h54 241 101 = h 241 101 := ((u54 241 101 rfl).trans ((u53 241 101 rfl).trans (u51 241 101 rfl)))
      have e101 : h54 241 102 = h 241 102 := ((u54 241 102 rfl).trans ((u53 241 102 rfl).trans (u51 241 102 rfl)))
      have e102 : h54 241 106 = h 241 106 := ((u54 241 106 rfl).trans ((u53 241 106 rfl).trans (u51 241 106 rfl)))
      have e103 : h54 241 73 = h 241 73 := ((u54 241 73 rfl).trans ((u53 241 73 rfl).trans (u51 241 73 rfl)))
      have e104 : h54 241 2 = h 241 2 := ((u54 241 2 rfl).trans ((u53 241 2 rfl).trans (u51 241 2 rfl)))
      have e105 : h54 241 119 = h 241 119 := ((u54 241 119 rfl).trans ((u53 241 119 rfl).trans (u51 241 119 rfl)))
      have e106 : h54 241 67 = h 241 67 := ((u54 241 67 rfl).trans ((u53 241 67 rfl).trans (u51 241 67 rfl)))
      have e107 : h54 241 69 = h 241 69 := ((u54 241 69 rfl).trans ((u53 241 69 rfl).trans (u51 241 69 rfl)))
      have e108 : h54 241 5 = h 241 5 := ((u54 241 5 rfl).trans ((u53 241 5 rfl).trans (u51 241 5 rfl)))
      have e109 : h54 1 1 = h 1 1 := ((u54 1 1 rfl).trans ((u53 1 1 rfl).trans (u51 1 1 rfl)))
      have e110 : h54 236 2 = h 236 2 := ((u54 236 2 rfl).trans ((u53 236 2 rfl).trans (u51 236 2 rfl)))
      have e111 : h54 1 2 = h 1 2 := ((u54 1 2 rfl).trans ((u53 1 2 rfl).trans (u51 1 2 rfl)))
      have e112 : h54 236 10 = h 236 10 := ((u54 236 10 rfl).trans ((u53 236 10 rfl).trans (u51 236 10 rfl)))
      have e113 : h54 1 3 = h 1 3 := ((u54 1 3 rfl).trans ((u53 1 3 rfl).trans (u51 1 3 rfl)))
      have e114 : h54 236 11 = h 236 11 := ((u54 236 11 rfl).trans ((u53 236 11 rfl).trans (u51 236 11 rfl)))
      have gp115 := GPH.fr u51 rfl gp0
      have gp116 := GPH.fr u53 rfl gp115
      have gp117 := GPH.fr u54 rfl gp116
      have b118 := gi_b (lo := 0) (hi := 5) g 241 0 rfl
      have b119 := gi_b (lo := 0) (hi := 4) g 241 1 rfl
      have e120 : h54 0 12 = h 0 12 := ((u54 0 12 rfl).trans ((u53 0 12 rfl).trans (u51 0 12 rfl)))
      have e121 : h54 236 21 = h 236 21 := ((u54 236 21 rfl).trans ((u53 236 21 rfl).trans (u51 236 21 rfl)))
      exact k h54 b c ⟨g54, (show h54 1 1 = h54 236 2 by omega), (RS.i0 (f := h54 238) (by refine ⟨?_, ?_, ?_, ?_, ?_⟩ <;> omega)), (RS.i0 (f := h54 241) (by refine ⟨?_, ?_, ?_, ?_, ?_⟩ <;> omega)), gp117, (BRh.keep br0 (fun i => ((u54 2 i (fn_a (by decide) (fn_a (by decide) (fn_a (by decide) (fn_a (by decide) fn_0))))).trans ((u53 2 i (fn_a (by omega) fn_0)).trans (u51 2 i (fo_nk rfl))))) (fun i => ((u54 237 i (fn_a (by decide) (fn_a (by decide) (fn_a (by decide) (fn_a (by decide) fn_0))))).trans ((u53 237 i (fn_a (by omega) fn_0)).trans (u51 237 i (fo_nk rfl))))) (by omega)), (show h54 1 2 = h54 236 10 by omega), (show h54 1 3 = h54 236 11 by omega), (SVx.keep (ss0 (by omega)) (by omega) (fun i e => (((u54 3 i (fn_a (by decide) (fn_a (by decide) (fn_a (by decide) (fn_a (by decide) fn_0))))).trans (u53 3 i (fn_a (by omega) fn_0))).trans (y51_0.1 i e))) (fun i e => (((u54 5 i (fn_a (by decide) (fn_a (by decide) (fn_a (by decide) (fn_a (by decide) fn_0))))).trans (u53 5 i (fn_a (by omega) fn_0))).trans (y51_0.2.1 i e))) (fun i e => (((u54 6 i (fn_a (by decide) (fn_a (by decide) (fn_a (by decide) (fn_a (by decide) fn_0))))).trans (u53 6 i (fn_a (by omega) fn_0))).trans (y51_0.2.2.1 i e))) (fun i e => (((u54 8 i (fn_a (by decide) (fn_a (by decide) (fn_a (by decide) (fn_a (by decide) fn_0))))).trans (u53 8 i (fn_a (by omega) fn_0))).trans (y51_0.2.2.2 i e))) (fun i hi => ((y54_0 (by omega) i (by omega)).trans ((u53 241 i (fn_a (by omega) fn_0)).trans (u51 241 i (fo_nk rfl)))))), (show h54 0 12 = h54 236 21 by omega), (fun e => (SVx.keep (ss0 (by omega)) (by omega) (fun i _ => ((u54 210 i (fn_a (by decide) (fn_a (by decide) (fn_a (by decide) (fn_a (by decide) fn_0))))).trans ((u53 210 i (fn_a (by omega) fn_0)).trans (u51 210 i (fo_nk rfl))))) (fun i _ => ((u54 212 i (fn_a (by decide) (fn_a (by decide) (fn_a (by decide) (fn_a (by decide) fn_0))))).trans ((u53 212 i (fn_a (by omega) fn_0)).trans (u51 212 i (fo_nk rfl))))) (fun i _ => ((u54 213 i (fn_a (by decide) (fn_a (by decide) (fn_a (by decide) (fn_a (by decide) fn_0))))).trans ((u53 213 i (fn_a (by omega) fn_0)).trans (u51 213 i (fo_nk rfl))))) (fun i _ => ((u54 215 i (fn_a (by decide) (fn_a (by decide) (fn_a (by decide) (fn_a (by decide) fn_0))))).trans ((u53 215 i (fn_a (by omega) fn_0)).trans (u51 215 i (fo_nk rfl))))) (fun i _ => ((u54 241 i (fn_a (by decide) (fn_a (by decide) (fn_a (by decide) (fn_a (by decide) fn_0))))).trans ((u53 241 i (fn_a (by omega) fn_0)).trans (u51 241 i (fo_nk rfl))))))), (GPS.zero (by omega))⟩ (by omega) (by omega)
  ·
    refine wk_h 11 (by decide) rfl ?_
    refine wr_astx (i := 2) (lo2 := [(2, .retAddr 0), (0, .ref 0), (1, .ref 259)]) (nx := 12) (r1 := 0) (r2 := 0) (r3 := 0) rfl rfl ?_
    refine wi_iconst (n := 1) (nx := 13) (r1 := 0) (r2 := 0) (r3 := 0) rfl ?_
    refine wi_ireturn (nx := 14) (r1 := 0) (r2 := 0) (r3 := 0) rfl rfl ?_
    refine wk_i ?_
    refine wi_istore (i := 5) (e := 1) (lo2 := [(5, vi 1), (0, .ref 1000000), (1, .ref 0), (2, .ref 236), (3, .ref 259), (4, vi i)]) (nx := 1520) (r1 := 0) (r2 := 0) (r3 := 0) rfl rfl ?_
    refine wi_aload_n (i := 2) (x := 236) (nx := 1521) (r1 := 0) (r2 := 0) (r3 := 0) rfl rfl ?_
    refine wr_V (k0 := 236) (rest := []) (as := [.ref 236]) (nx := 1524) (r1 := 353) (r2 := 0) (r3 := 11) rfl rfl rfl (of_decide_eq_true rfl) rfl rfl (by decide) rfl rfl (of_decide_eq_true rfl) (of_decide_eq_true rfl) ?_
    have e54 : h51 238 98 = h 238 98 := (u51 238 98 rfl)
    have e55 : h51 238 99 = h 238 99 := (u51 238 99 rfl)
    have e56 : h51 238 100 = h 238 100 := (u51 238 100 rfl)
    have e57 : h51 238 101 = h 238 101 := (u51 238 101 rfl)
    have e58 : h51 238 102 = h 238 102 := (u51 238 102 rfl)
    have e59 : h51 238 106 = h 238 106 := (u51 238 106 rfl)
    have e60 : h51 238 73 = h 238 73 := (u51 238 73 rfl)
    have e61 : h51 238 2 = h 238 2 := (u51 238 2 rfl)
    have e62 : h51 238 119 = h 238 119 := (u51 238 119 rfl)
    have e63 : h51 238 67 = h 238 67 := (u51 238 67 rfl)
    have e64 : h51 238 69 = h 238 69 := (u51 238 69 rfl)
    have e65 : h51 238 5 = h 238 5 := (u51 238 5 rfl)
    have e66 : h51 241 98 = h 241 98 := (u51 241 98 rfl)
    have e67 : h51 241 99 = h 241 99 := (u51 241 99 rfl)
    have e68 : h51 241 100 = h 241 100 := (u51 241 100 rfl)
    have e69 : h51 241 101 = h 241 101 := (u51 241 101 rfl)
    have e70 : h51 241 102 = h 241 102 := (u51 241 102 rfl)
    have e71 : h51 241 106 = h 241 106 := (u51 241 106 rfl)
    have e72 : h51 241 73 = h 241 73 := (u51 241 73 rfl)
    have e73 : h51 241 2 = h 241 2 := (u51 241 2 rfl)
    have e74 : h51 241 119 = h 241 119 := (u51 241 119 rfl)
    have e75 : h51 241 67 = h 241 67 := (u51 241 67 rfl)
    have e76 : h51 241 69 = h 241 69 := (u51 241 69 rfl)
    have e77 : h51 241 5 = h 241 5 := (u51 241 5 rfl)
    refine ct_353_236 hcr  g51   (show (h51 238 98) + (h51 238 99) + (h51 238 100) + (h51 238 101) + (h51 238 102) + (h51 238 106) = (h51 238 73) by omega) (show (h51 238 73) ≤ (h51 238 2) by omega) (show (h51 238 119) ≤ (h51 238 67) by omega) (show (h51 238 69) ≤ (h51 238 5) by omega) (show (h51 238 2) ≤ 12 * (h51 238 5) by omega) (show (h51 241 98) + (h51 241 99) + (h51 241 100) + (h51 241 101) + (h51 241 102) + (h51 241 106) = (h51 241 73) by omega) (show (h51 241 73) ≤ (h51 241 2) by omega) (show (h51 241 119) ≤ (h51 241 67) by omega) (show (h51 241 69) ≤ (h51 241 5) by omega) (show (h51 241 2) ≤ 12 * (h51 241 5) by omega) (fun h53 z78 g53 u53 (fz78 : 0 ≤ z78 ∧ z78 ≤ 9999) (p53_0 : ((h51 236 21) = 0 ∧ (h53 236 0) = 1 ∧ (h53 236 22) = (h51 236 22)) ∨ ((h51 236 21) = 1 ∧ (h53 236 0) = 0 ∧ (h53 236 22) = 0)) (p53_1 : (h53 238 98) + (h53 238 99) + (h53 238 100) + (h53 238 101) + (h53 238 102) + (h53 238 106) = (h53 238 73)) (p53_2 : (h53 238 73) ≤ (h53 238 2)) (p53_3 : (h53 238 119) ≤ (h53 238 67)) (p53_4 : (h53 238 69) ≤ (h53 238 5)) (p53_5 : (h53 238 2) ≤ 12 * (h53 238 5)) y53_0 y53_1 => ?_)
    have e79 : h51 236 21 = h 236 21 := (u51 236 21 rfl)
    have b80 := gi_b (lo := 0) (hi := 6) g 236 22 rfl
    have e81 : h51 236 22 = h 236 22 := (u51 236 22 rfl)
    have b82 := gi_b (lo := 0) (hi := 2) g53 236 0 rfl
    have b83 := gi_b (lo := 0) (hi := 6) g53 236 22 rfl
    have b84 := gi_b (lo := 0) (hi := 6) g53 238 98 rfl
    have b85 := gi_b (lo := 0) (hi := 6) g53 238 99 rfl
    have b86 := gi_b (lo := 0) (hi := 6) g53 238 100 rfl
    have b87 := gi_b (lo := 0) (hi := 6) g53 238 101 rfl
    have b88 := gi_b (lo := 0) (hi := 3) g53 238 102 rfl
    have b89 := gi_b (lo := 0) (hi := 12) g53 238 106 rfl
    have b90 := gi_b (lo := 0) (hi := 12) g53 238 73 rfl
    have b91 := gi_b (lo := 0) (hi := 12) g53 238 2 rfl
    have b92 := gi_b (lo := 0) (hi := 9999) g53 238 119 rfl
    have b93 := gi_b (lo := 0) (hi := 9999) g53 238 67 rfl
    have b94 := gi_b (lo := 0) (hi := 9) g53 238 69 rfl
    have b95 := gi_b (lo := 0) (hi := 9) g53 238 5 rfl
    refine wk_i ?_
    rcases p53_0 with p53_0 | p53_0
    ·
      refine wi_istore (i := 6) (e := z78) (lo2 := [(6, vi z78), (5, vi 1), (0, .ref 1000000), (1, .ref 0), (2, .ref 236), (3, .ref 259), (4, vi i)]) (nx := 1526) (r1 := 0) (r2 := 0) (r3 := 0) rfl rfl ?_
      refine wi_goto (nx := 1529) (r1 := 1529) (r2 := 0) (r3 := 0) rfl ?_
      refine wp.lo (lo := [(0, .ref 1000000), (1, .ref 0), (2, .ref 236), (3, .ref 259), (4, vi i)]) ⟨rfl, rfl, rfl, rfl, rfl, trivial⟩ rfl ?_
      have e96 : h53 241 98 = h 241 98 := ((u53 241 98 rfl).trans (u51 241 98 rfl))
      have e97 : h53 241 99 = h 241 99 := ((u53 241 99 rfl).trans (u51 241 99 rfl))
      have e98 : h53 241 100 = h 241 100 := ((u53 241 100 rfl).trans (u51 241 100 rfl))
      have e99 : h53 241 101 = h 241 101 := ((u53 241 101 rfl).trans (u51 241 101 rfl))
      have e100 : h53 241 102 = h 241 102 := ((u53 241 102 rfl).trans (u51 241 102 rfl))
      have e101 : h53 241 106 = h 241 106 := ((u53 241 106 rfl).trans (u51 241 106 rfl))
      have e102 : h53 241 73 = h 241 73 := ((u53 241 73 rfl).trans (u51 241 73 rfl))
      have e103 : h53 241 2 = h 241 2 := ((u53 241 2 rfl).trans (u51 241 2 rfl))
      have e104 : h53 241 119 = h 241 119 := ((u53 241 119 rfl).trans (u51 241 119 rfl))
      have e105 : h53 241 67 = h 241 67 := ((u53 241 67 rfl).trans (u51 241 67 rfl))
      have e106 : h53 241 69 = h 241 69 := ((u53 241 69 rfl).trans (u51 241 69 rfl))
      have e107 : h53 241 5 = h 241 5 := ((u53 241 5 rfl).trans (u51 241 5 rfl))
      have e108 : h53 1 1 = h 1 1 := ((u53 1 1 rfl).trans (u51 1 1 rfl))
      have e109 : h53 236 2 = h 236 2 := ((u53 236 2 rfl).trans (u51 236 2 rfl))
      have e110 : h53 1 2 = h 1 2 := ((u53 1 2 rfl).trans (u51 1 2 rfl))
      have e111 : h53 236 10 = h 236 10 := ((u53 236 10 rfl).trans (u51 236 10 rfl))
      have e112 : h53 1 3 = h 1 3 := ((u53 1 3 rfl).trans (u51 1 3 rfl))
      have e113 : h53 236 11 = h 236 11 := ((u53 236 11 rfl).trans (u51 236 11 rfl))
      have gp114 := GPH.fr u51 rfl gp0
      have gp115 := GPH.fr u53 rfl gp114
      have b116 := gi_b (lo := 0) (hi := 5) g 241 0 rfl
      have b117 := gi_b (lo := 0) (hi := 4) g 241 1 rfl
      have e118 : h53 0 12 = h 0 12 := ((u53 0 12 rfl).trans (u51 0 12 rfl))
      have e119 : h53 236 21 = h 236 21 := ((u53 236 21 rfl).trans (u51 236 21 rfl))
      exact k h53 (b - 1) (c - 6) ⟨g53, (show h53 1 1 = h53 236 2 by omega), (RS.i0 (f := h53 238) (by refine ⟨?_, ?_, ?_, ?_, ?_⟩ <;> omega)), (RS.i0 (f := h53 241) (by refine ⟨?_, ?_, ?_, ?_, ?_⟩ <;> omega)), gp115, (BRh.keep br0 (fun i => ((u53 2 i (fn_a (by decide) (fn_a (by decide) (fn_a (by decide) (fn_a (by decide) fn_0))))).trans (u51 2 i (fo_nk rfl)))) (fun i => ((u53 237 i (fn_a (by decide) (fn_a (by decide) (fn_a (by decide) (fn_a (by decide) fn_0))))).trans (u51 237 i (fo_nk rfl)))) (by omega)), (show h53 1 2 = h53 236 10 by omega), (show h53 1 3 = h53 236 11 by omega), (SVx.keep sv0 (by omega) (fun i _ => ((u53 3 i (fn_a (by decide) (fn_a (by decide) (fn_a (by decide) (fn_a (by decide) fn_0))))).trans (ye51_0.1 i))) (fun i _ => ((u53 5 i (fn_a (by decide) (fn_a (by decide) (fn_a (by decide) (fn_a (by decide) fn_0))))).trans (ye51_0.2.1 i))) (fun i _ => ((u53 6 i (fn_a (by decide) (fn_a (by decide) (fn_a (by decide) (fn_a (by decide) fn_0))))).trans (ye51_0.2.2.1 i))) (fun i _ => ((u53 8 i (fn_a (by decide) (fn_a (by decide) (fn_a (by decide) (fn_a (by decide) fn_0))))).trans (ye51_0.2.2.2 i))) (fun i hi => ((y53_1 (by omega) i hi).trans (u51 238 i (fo_nk rfl))))), (show h53 0 12 = h53 236 21 by omega), (fun e => (SVx.keep (ss0 (by omega)) (by omega) (fun i _ => ((u53 210 i (fn_a (by decide) (fn_a (by decide) (fn_a (by decide) (fn_a (by decide) fn_0))))).trans (u51 210 i (fo_nk rfl)))) (fun i _ => ((u53 212 i (fn_a (by decide) (fn_a (by decide) (fn_a (by decide) (fn_a (by decide) fn_0))))).trans (u51 212 i (fo_nk rfl)))) (fun i _ => ((u53 213 i (fn_a (by decide) (fn_a (by decide) (fn_a (by decide) (fn_a (by decide) fn_0))))).trans (u51 213 i (fo_nk rfl)))) (fun i _ => ((u53 215 i (fn_a (by decide) (fn_a (by decide) (fn_a (by decide) (fn_a (by decide) fn_0))))).trans (u51 215 i (fo_nk rfl)))) (fun i _ => ((u53 241 i (fn_a (by decide) (fn_a (by decide) (fn_a (by decide) (fn_a (by decide) fn_0))))).trans (u51 241 i (fo_nk rfl)))))), (GPS.back gs0 (by omega) (fun i hi => ((y53_1 (by omega) i hi).trans (u51 238 i (fo_nk rfl)))) (fun i => ((u53 242 i (fn_a (by decide) (fn_a (by decide) (fn_a (by decide) (fn_a (by decide) fn_0))))).trans (u51 242 i (fo_nk rfl)))))⟩ (by omega) (by omega)
    ·
      exfalso; omega
