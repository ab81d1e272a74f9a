-- method 197: Report.write(LPaintBank$Setup;LPaintBank$Line;)I
set_option maxRecDepth 100000 in
set_option maxHeartbeats 100000000 in
theorem ct_197_208_3_18 {L : Nat} {xs : Nat → Int32} {d b c : Nat} {h : hp} {cr : Nat → Nat → Option Nat} {Q : hp_Q} (hcr : CR cr)  (g : GI h)    (k : ∀ (h2 : hp) (z0 : Int) , GI h2 → FR [(209, 209, none), (208, 208, some (1, 1))] h h2 → (0 ≤ z0 ∧ z0 ≤ 152) → Q (.inl (some (vi z0))) (hp_w h2 cr) b c) : wp (md_xa (L, xs)) (d + 5) 197 (0, [(0, .ref 208), (1, .ref 3), (2, .ref 18)], [], hp_w h cr, b, c) Q := by
  have F0 : FR [(209, 209, none), (208, 208, some (1, 1))] h h := FR.refl
  refine wi_aload_n (i := 0) (x := 208) (nx := 1) (r1 := 0) (r2 := 0) (r3 := 0) rfl rfl ?_
  refine wi_iconst (n := 0) (nx := 2) (r1 := 0) (r2 := 0) (r3 := 0) rfl ?_
  refine wr_pf0 (k0 := 208) (x := 0) (bl := 0) (bh := 152) (nx := 5) (r1 := 10) (r2 := 1) (r3 := 0) rfl (by decide) rfl ⟨rfl, rfl⟩ rfl rfl g rfl (by omega) (fun h1 g1 w1 u1 => ?_)
  have F2 := F0.then rfl u1
  refine wi_iconst (n := 0) (nx := 6) (r1 := 0) (r2 := 0) (r3 := 0) rfl ?_
  refine wi_istore_n (i := 3) (e := 0) (lo2 := [(3, vi 0), (0, .ref 208), (1, .ref 3), (2, .ref 18)]) (nx := 7) (r1 := 0) (r2 := 0) (r3 := 0) rfl rfl ?_
  refine wp.lo (lo := [(0, .ref 208), (1, .ref 3), (2, .ref 18), (3, vi 0)]) ⟨rfl, rfl, rfl, rfl, trivial⟩ rfl ?_
  refine wl_1 (fun x3 h4 => GI h4 ∧ FR [(209, 209, none), (208, 208, some (1, 1))] h h4 ∧ FR [(209, 209, none), (208, 208, some (1, 1))] h1 h4 ∧ ((0 ≤ x3 ∧ x3 ≤ 4))) (fun x3 h4 => ((4 : Int) + 1 - x3).toNat) (fun x3 h4 => (7, [(0, .ref 208), (1, .ref 3), (2, .ref 18), (3, vi x3)], [], hp_w h4 cr, b, c)) ?_ 0 h1 ⟨g1, F2, FR.refl, (show (0 ≤ 0 ∧ 0 ≤ 4) by omega)⟩
  intro x3 h4 ⟨g4, F5, u4, f4⟩ I4
  refine wi_iload_n (i := 3) (e := x3) (nx := 8) (r1 := 0) (r2 := 0) (r3 := 0) rfl rfl ?_
  refine wi_aload_n (i := 1) (x := 3) (nx := 9) (r1 := 0) (r2 := 0) (r3 := 0) rfl rfl ?_
  have b6 := gi_b (lo := 0) (hi := 4) g 3 1 rfl
  refine wr_gi0 (k0 := 3) (x := h 3 1) (nx := 12) (r1 := 2) (r2 := 1) (r3 := 0) rfl rfl (by decide) rfl ⟨rfl, rfl⟩ rfl ((u4 3 1 rfl).trans (u1 3 1 rfl)) ?_
  refine wi_icmp (cd := .ge) (nx := 15) (r1 := 47) (r2 := 0) (r3 := 0) rfl (by omega) (by omega) (fun (q7 : (h 3 1) ≤ x3) => ?_) (fun (q7 : ¬ ((h 3 1) ≤ x3)) => ?_)
  ·
    refine wi_aload_n (i := 0) (x := 208) (nx := 48) (r1 := 0) (r2 := 0) (r3 := 0) rfl rfl ?_
    refine wr_ldcr (x := 1000025) (nx := 50) (r1 := 1) (r2 := 25) (r3 := 0) rfl (by decide) rfl ?_
    refine wr_V (k0 := 208) (rest := []) (as := [.ref 208, .ref 1000025]) (nx := 53) (r1 := 198) (r2 := 1) (r3 := 10) rfl rfl rfl (of_decide_eq_true rfl) rfl rfl (by decide) rfl rfl (of_decide_eq_true rfl) (of_decide_eq_true rfl) ?_
    refine wi_iconst (n := 0) (nx := 1) (r1 := 0) (r2 := 0) (r3 := 0) rfl ?_
    refine wi_istore_n (i := 2) (e := 0) (lo2 := [(2, vi 0), (0, .ref 208), (1, .ref 1000025)]) (nx := 2) (r1 := 0) (r2 := 0) (r3 := 0) rfl rfl ?_
    refine wi_iload_n (i := 2) (e := 0) (nx := 3) (r1 := 0) (r2 := 0) (r3 := 0) rfl rfl ?_
    refine wi_aload_n (i := 1) (x := 1000025) (nx := 4) (r1 := 0) (r2 := 0) (r3 := 0) rfl rfl ?_
    refine wr_VX (k0 := 1000025) (m := 1) (rest := [vi 0]) (as := [.ref 1000025]) (nx := 7) (r1 := 360) (r2 := 0) (r3 := 1001) rfl rfl rfl (of_decide_eq_true rfl) rfl rfl (by decide) rfl rfl (of_decide_eq_true rfl) (of_decide_eq_true rfl) ?_
    refine wi_aload_n (i := 0) (x := 1000025) (nx := 1) (r1 := 0) (r2 := 0) (r3 := 0) rfl rfl ?_
    refine wr_gx (k0 := 1000025) (v := .ref 1000027) (nx := 4) (r1 := 5) (r2 := 0) (r3 := 1) rfl (by decide) (by decide) rfl ?_
    refine wr_xl (k0 := 1000027) (e := 3) (nx := 5) (r1 := 0) (r2 := 0) (r3 := 0) rfl (by decide) rfl rfl ?_
    refine wi_aload_n (i := 0) (x := 1000025) (nx := 6) (r1 := 0) (r2 := 0) (r3 := 0) rfl rfl ?_
    refine wr_VX (k0 := 1000025) (m := 1) (rest := [vi 3]) (as := [.ref 1000025]) (nx := 9) (r1 := 361) (r2 := 0) (r3 := 1001) rfl rfl rfl (of_decide_eq_true rfl) rfl rfl (by decide) rfl rfl (of_decide_eq_true rfl) (of_decide_eq_true rfl) ?_
    refine wr_gst (v := vi 1) (nx := 3) (r1 := 23) (r2 := 0) (r3 := 0) rfl rfl rfl ?_
    refine wi_if (cd := .eq) (nx := 6) (r1 := 13) (r2 := 0) (r3 := 0) rfl (by omega) (fun (q8 : 1 = 0) => by exfalso; omega) (fun (q8 : ¬ (1 = 0)) => ?_)
    refine wi_aload_n (i := 0) (x := 1000025) (nx := 7) (r1 := 0) (r2 := 0) (r3 := 0) rfl rfl ?_
    refine wr_gx (k0 := 1000025) (v := vi 0) (nx := 10) (r1 := 6) (r2 := 0) (r3 := 1) rfl (by decide) (by decide) rfl ?_
    refine wi_goto (nx := 13) (r1 := 14) (r2 := 0) (r3 := 0) rfl ?_
    refine wr_xreturn (x := 0) (nx := 15) (r1 := 0) (r2 := 0) (r3 := 0) rfl rfl (by first | rfl | decide) ?_
    refine wk_i ?_
    refine wi_ishr (e := 3) (nx := 10) (r1 := 0) (r2 := 0) (r3 := 0) rfl (by decide) ?_
    refine wi_ireturn (nx := 11) (r1 := 0) (r2 := 0) (r3 := 0) rfl rfl ?_
    refine wk_i ?_
    refine wi_icmp (cd := .ge) (nx := 10) (r1 := 25) (r2 := 0) (r3 := 0) rfl (by omega) (by omega) (fun (q9 : 3 ≤ 0) => by exfalso; omega) (fun (q9 : ¬ (3 ≤ 0)) => ?_)
    refine wi_aload_n (i := 0) (x := 208) (nx := 11) (r1 := 0) (r2 := 0) (r3 := 0) rfl rfl ?_
    refine wi_aload_n (i := 1) (x := 1000025) (nx := 12) (r1 := 0) (r2 := 0) (r3 := 0) rfl rfl ?_
    refine wi_iload_n (i := 2) (e := 0) (nx := 13) (r1 := 0) (r2 := 0) (r3 := 0) rfl rfl ?_
    refine wr_VX (k0 := 1000025) (m := 1) (rest := [.ref 208]) (as := [.ref 1000025, vi 0]) (nx := 16) (r1 := 362) (r2 := 1) (r3 := 1001) rfl rfl rfl (of_decide_eq_true rfl) rfl rfl (by decide) rfl rfl (of_decide_eq_true rfl) (of_decide_eq_true rfl) ?_
    refine wi_aload_n (i := 0) (x := 1000025) (nx := 1) (r1 := 0) (r2 := 0) (r3 := 0) rfl rfl ?_
    refine wr_VX (k0 := 1000025) (m := 1) (rest := []) (as := [.ref 1000025]) (nx := 4) (r1 := 363) (r2 := 0) (r3 := 1001) rfl rfl rfl (of_decide_eq_true rfl) rfl rfl (by decide) rfl rfl (of_decide_eq_true rfl) (of_decide_eq_true rfl) ?_
    refine wr_gst (v := vi 1) (nx := 3) (r1 := 23) (r2 := 0) (r3 := 0) rfl rfl rfl ?_
    refine wi_if (cd := .eq) (nx := 6) (r1 := 17) (r2 := 0) (r3 := 0) rfl (by omega) (fun (q10 : 1 = 0) => by exfalso; omega) (fun (q10 : ¬ (1 = 0)) => ?_)
    refine wi_aload_n (i := 0) (x := 1000025) (nx := 7) (r1 := 0) (r2 := 0) (r3 := 0) rfl rfl ?_
    refine wr_gx (k0 := 1000025) (v := vi 0) (nx := 10) (r1 := 6) (r2 := 0) (r3 := 1) rfl (by decide) (by decide) rfl ?_
    refine wi_if (cd := .ne) (nx := 13) (r1 := 17) (r2 := 0) (r3 := 0) rfl (by omega) (fun (q11 : 0 ≠ 0) => by exfalso; omega) (fun (q11 : ¬ (0 ≠ 0)) => ?_)
    refine wi_iconst (n := 1) (nx := 14) (r1 := 0) (r2 := 0) (r3 := 0) rfl ?_
    refine wi_goto (nx := 17) (r1 := 18) (r2 := 0) (r3 := 0) rfl ?_
    refine wi_zreturn (nx := 19) (r1 := 0) (r2 := 0) (r3 := 0) rfl rfl (by omega) ?_
    refine wk_i ?_
    refine wi_if (cd := .eq) (nx := 7) (r1 := 16) (r2 := 0) (r3 := 0) rfl (by omega) (fun (q12 : 1 = 0) => by exfalso; omega) (fun (q12 : ¬ (1 = 0)) => ?_)
    refine wi_aload_n (i := 0) (x := 1000025) (nx := 8) (r1 := 0) (r2 := 0) (r3 := 0) rfl rfl ?_
    refine wr_gx (k0 := 1000025) (v := .ref 1000027) (nx := 11) (r1 := 5) (r2 := 0) (r3 := 1) rfl (by decide) (by decide) rfl ?_
    refine wi_iload_n (i := 1) (e := 0) (nx := 12) (r1 := 0) (r2 := 0) (r3 := 0) rfl rfl ?_
    refine wi_S (rest := []) (as := [.ref 1000027, vi 0]) (nx := 15) (r1 := 364) (r2 := 18) (r3 := 0) rfl rfl rfl (of_decide_eq_true rfl) rfl rfl (of_decide_eq_true rfl) (of_decide_eq_true rfl) ?_
    refine wi_iload_n (i := 1) (e := 0) (nx := 1) (r1 := 0) (r2 := 0) (r3 := 0) rfl rfl ?_
    refine wi_aload_n (i := 0) (x := 1000027) (nx := 2) (r1 := 0) (r2 := 0) (r3 := 0) rfl rfl ?_
    refine wr_xl (k0 := 1000027) (e := 3) (nx := 3) (r1 := 0) (r2 := 0) (r3 := 0) rfl (by decide) rfl rfl ?_
    refine wi_S (rest := []) (as := [vi 0, vi 3]) (nx := 6) (r1 := 365) (r2 := 18) (r3 := 0) rfl rfl rfl (of_decide_eq_true rfl) rfl rfl (of_decide_eq_true rfl) (of_decide_eq_true rfl) ?_
    refine wi_iload_n (i := 0) (e := 0) (nx := 1) (r1 := 0) (r2 := 0) (r3 := 0) rfl rfl ?_
    refine wi_iload_n (i := 1) (e := 3) (nx := 2) (r1 := 0) (r2 := 0) (r3 := 0) rfl rfl ?_
    refine wr_gsx (nx := 5) (r1 := 0) (r2 := 0) (r3 := 1) rfl (by decide) ?_
    refine wi_S (rest := []) (as := [vi 0, vi 3, .retAddr 0]) (nx := 8) (r1 := 366) (r2 := 19) (r3 := 0) rfl rfl rfl (of_decide_eq_true rfl) rfl rfl (of_decide_eq_true rfl) (of_decide_eq_true rfl) ?_
    refine wi_iload_n (i := 0) (e := 0) (nx := 1) (r1 := 0) (r2 := 0) (r3 := 0) rfl rfl ?_
    refine wi_if (cd := .lt) (nx := 4) (r1 := 9) (r2 := 0) (r3 := 0) rfl (by omega) (fun (q13 : 0 < 0) => by exfalso; omega) (fun (q13 : ¬ (0 < 0)) => ?_)
    refine wi_iload_n (i := 0) (e := 0) (nx := 5) (r1 := 0) (r2 := 0) (r3 := 0) rfl rfl ?_
    refine wi_iload_n (i := 1) (e := 3) (nx := 6) (r1 := 0) (r2 := 0) (r3 := 0) rfl rfl ?_
    refine wi_icmp (cd := .lt) (nx := 9) (r1 := 16) (r2 := 0) (r3 := 0) rfl (by omega) (by omega) (fun (q14 : 0 < 3) => ?_) (fun (q14 : ¬ (0 < 3)) => by exfalso; omega)
    refine wi_iload_n (i := 0) (e := 0) (nx := 17) (r1 := 0) (r2 := 0) (r3 := 0) rfl rfl ?_
    refine wi_ireturn (nx := 18) (r1 := 0) (r2 := 0) (r3 := 0) rfl rfl ?_
    refine wk_i ?_
    refine wi_pop (nx := 9) (r1 := 0) (r2 := 0) (r3 := 0) rfl rfl ?_
    refine wi_return (nx := 10) (r1 := 0) (r2 := 0) (r3 := 0) rfl rfl ?_
    refine wk_n ?_
    refine wi_aload_n (i := 0) (x := 1000027) (nx := 7) (r1 := 0) (r2 := 0) (r3 := 0) rfl rfl ?_
    refine wi_iload_n (i := 1) (e := 0) (nx := 8) (r1 := 0) (r2 := 0) (r3 := 0) rfl rfl ?_
    refine wr_xa (k0 := 1000027) (a := 0) (f := 0) (v := vi 111) .baload (Or.inr (Or.inl ⟨rfl, Or.inl rfl⟩)) (nx := 9) (r1 := 0) (r2 := 0) (r3 := 0) rfl (by decide) rfl rfl (by decide) (by decide) rfl ?_
    refine wi_sipush (n := 255) (nx := 12) (r1 := 0) (r2 := 0) (r3 := 0) rfl (by decide) ?_
    refine wi_iand (e := 111) (nx := 13) (r1 := 0) (r2 := 0) (r3 := 0) rfl (by decide) ?_
    refine wr_i2cL (e := 111) (nx := 14) (r1 := 0) (r2 := 0) (r3 := 0) rfl (by decide) ?_
    refine wr_xreturn (x := 111) (nx := 15) (r1 := 0) (r2 := 0) (r3 := 0) rfl rfl (by first | rfl | decide) ?_
    refine wk_i ?_
    refine wr_xreturn (x := 111) (nx := 16) (r1 := 0) (r2 := 0) (r3 := 0) rfl rfl (by first | rfl | decide) ?_
    refine wk_i ?_
    refine wr_V (k0 := 208) (rest := []) (as := [.ref 208, vi 111]) (nx := 19) (r1 := 199) (r2 := 1) (r3 := 10) rfl rfl rfl (of_decide_eq_true rfl) rfl rfl (by decide) rfl rfl (of_decide_eq_true rfl) (of_decide_eq_true rfl) ?_
    refine ct_199_208 hcr  g4 111 (by omega)  (fun h15 g15 u15 => ?_)
    have F16 := F5.then (by decide +kernel) u15
    refine wk_n ?_
    refine wr_iincL (i := 2) (n := 1) (v := 0) (1) ([(2, vi 1), (0, .ref 208), (1, .ref 1000025)]) (nx := 22) (r1 := 0) (r2 := 0) (r3 := 0) rfl rfl (by decide) rfl ?_
    refine wi_goto (nx := 25) (r1 := 2) (r2 := 0) (r3 := 0) rfl ?_
    refine wi_iload_n (i := 2) (e := 1) (nx := 3) (r1 := 0) (r2 := 0) (r3 := 0) rfl rfl ?_
    refine wi_aload_n (i := 1) (x := 1000025) (nx := 4) (r1 := 0) (r2 := 0) (r3 := 0) rfl rfl ?_
    refine wr_VX (k0 := 1000025) (m := 1) (rest := [vi 1]) (as := [.ref 1000025]) (nx := 7) (r1 := 360) (r2 := 0) (r3 := 1001) rfl rfl rfl (of_decide_eq_true rfl) rfl rfl (by decide) rfl rfl (of_decide_eq_true rfl) (of_decide_eq_true rfl) ?_
    refine wi_aload_n (i := 0) (x := 1000025) (nx := 1) (r1 := 0) (r2 := 0) (r3 := 0) rfl rfl ?_
    refine wr_gx (k0 := 1000025) (v := .ref 1000027) (nx := 4) (r1 := 5) (r2 := 0) (r3 := 1) rfl (by decide) (by decide) rfl ?_
    refine wr_xl (k0 := 1000027) (e := 3) (nx := 5) (r1 := 0) (r2 := 0) (r3 := 0) rfl (by decide) rfl rfl ?_
    refine wi_aload_n (i := 0) (x := 1000025) (nx := 6) (r1 := 0) (r2 := 0) (r3 := 0) rfl rfl ?_
    refine wr_VX (k0 := 1000025) (m := 1) (rest := [vi 3]) (as := [.ref 1000025]) (nx := 9) (r1 := 361) (r2 := 0) (r3 := 1001) rfl rfl rfl (of_decide_eq_true rfl) rfl rfl (by decide) rfl rfl (of_decide_eq_true rfl) (of_decide_eq_true rfl) ?_
    refine wr_gst (v := vi 1) (nx := 3) (r1 := 23) (r2 := 0) (r3 := 0) rfl rfl rfl ?_
    refine wi_if (cd := .eq) (nx := 6) (r1 := 13) (r2 := 0) (r3 := 0) rfl (by omega) (fun (q17 : 1 = 0) => by exfalso; omega) (fun (q17 : ¬ (1 = 0)) => ?_)
    refine wi_aload_n (i := 0) (x := 1000025) (nx := 7) (r1 := 0) (r2 := 0) (r3 := 0) rfl rfl ?_
    refine wr_gx (k0 := 1000025) (v := vi 0) (nx := 10) (r1 := 6) (r2 := 0) (r3 := 1) rfl (by decide) (by decide) rfl ?_
    refine wi_goto (nx := 13) (r1 := 14) (r2 := 0) (r3 := 0) rfl ?_
    refine wr_xreturn (x := 0) (nx := 15) (r1 := 0) (r2 := 0) (r3 := 0) rfl rfl (by first | rfl | decide) ?_
    refine wk_i ?_
    refine wi_ishr (e := 3) (nx := 10) (r1 := 0) (r2 := 0) (r3 := 0) rfl (by decide) ?_
    refine wi_ireturn (nx := 11) (r1 := 0) (r2 := 0) (r3 := 0) rfl rfl ?_
    refine wk_i ?_
    refine wi_icmp (cd := .ge) (nx := 10) (r1 := 25) (r2 := 0) (r3 := 0) rfl (by omega) (by omega) (fun (q18 : 3 ≤ 1) => by exfalso; omega) (fun (q18 : ¬ (3 ≤ 1)) => ?_)
    refine wi_aload_n (i := 0) (x := 208) (nx := 11) (r1 := 0) (r2 := 0) (r3 := 0) rfl rfl ?_
    refine wi_aload_n (i := 1) (x := 1000025) (nx := 12) (r1 := 0) (r2 := 0) (r3 := 0) rfl rfl ?_
    refine wi_iload_n (i := 2) (e := 1) (nx := 13) (r1 := 0) (r2 := 0) (r3 := 0) rfl rfl ?_
    refine wr_VX (k0 := 1000025) (m := 1) (rest := [.ref 208]) (as := [.ref 1000025, vi 1]) (nx := 16) (r1 := 362) (r2 := 1) (r3 := 1001) rfl rfl rfl (of_decide_eq_true rfl) rfl rfl (by decide) rfl rfl (of_decide_eq_true rfl) (of_decide_eq_true rfl) ?_
    refine wi_aload_n (i := 0) (x := 1000025) (nx := 1) (r1 := 0) (r2 := 0) (r3 := 0) rfl rfl ?_
    refine wr_VX (k0 := 1000025) (m := 1) (rest := []) (as := [.ref 1000025]) (nx := 4) (r1 := 363) (r2 := 0) (r3 := 1001) rfl rfl rfl (of_decide_eq_true rfl) rfl rfl (by decide) rfl rfl (of_decide_eq_true rfl) (of_decide_eq_true rfl) ?_
    refine wr_gst (v := vi 1) (nx := 3) (r1 := 23) (r2 := 0) (r3 := 0) rfl rfl rfl ?_
    refine wi_if (cd := .eq) (nx := 6) (r1 := 17) (r2 := 0) (r3 := 0) rfl (by omega) (fun (q19 : 1 = 0) => by exfalso; omega) (fun (q19 : ¬ (1 = 0)) => ?_)
    refine wi_aload_n (i := 0) (x := 1000025) (nx := 7) (r1 := 0) (r2 := 0) (r3 := 0) rfl rfl ?_
    refine wr_gx (k0 := 1000025) (v := vi 0) (nx := 10) (r1 := 6) (r2 := 0) (r3 := 1) rfl (by decide) (by decide) rfl ?_
    refine wi_if (cd := .ne) (nx := 13) (r1 := 17) (r2 := 0) (r3 := 0) rfl (by omega) (fun (q20 : 0 ≠ 0) => by exfalso; omega) (fun (q20 : ¬ (0 ≠ 0)) => ?_)
    refine wi_iconst (n := 1) (nx := 14) (r1 := 0) (r2 := 0) (r3 := 0) rfl ?_
    refine wi_goto (nx := 17) (r1 := 18) (r2 := 0) (r3 := 0) rfl ?_
    refine wi_zreturn (nx := 19) (r1 := 0) (r2 := 0) (r3 := 0) rfl rfl (by omega) ?_
    refine wk_i ?_
    refine wi_if (cd := .eq) (nx := 7) (r1 := 16) (r2 := 0) (r3 := 0) rfl (by omega) (fun (q21 : 1 = 0) => by exfalso; omega) (fun (q21 : ¬ (1 = 0)) => ?_)
    refine wi_aload_n (i := 0) (x := 1000025) (nx := 8) (r1 := 0) (r2 := 0) (r3 := 0) rfl rfl ?_
    refine wr_gx (k0 := 1000025) (v := .ref 1000027) (nx := 11) (r1 := 5) (r2 := 0) (r3 := 1) rfl (by decide) (by decide) rfl ?_
    refine wi_iload_n (i := 1) (e := 1) (nx := 12) (r1 := 0) (r2 := 0) (r3 := 0) rfl rfl ?_
    refine wi_S (rest := []) (as := [.ref 1000027, vi 1]) (nx := 15) (r1 := 364) (r2 := 18) (r3 := 0) rfl rfl rfl (of_decide_eq_true rfl) rfl rfl (of_decide_eq_true rfl) (of_decide_eq_true rfl) ?_
    refine wi_iload_n (i := 1) (e := 1) (nx := 1) (r1 := 0) (r2 := 0) (r3 := 0) rfl rfl ?_
    refine wi_aload_n (i := 0) (x := 1000027) (nx := 2) (r1 := 0) (r2 := 0) (r3 := 0) rfl rfl ?_
    refine wr_xl (k0 := 1000027) (e := 3) (nx := 3) (r1 := 0) (r2 := 0) (r3 := 0) rfl (by decide) rfl rfl ?_
    refine wi_S (rest := []) (as := [vi 1, vi 3]) (nx := 6) (r1 := 365) (r2 := 18) (r3 := 0) rfl rfl rfl (of_decide_eq_true rfl) rfl rfl (of_decide_eq_true rfl) (of_decide_eq_true rfl) ?_
    refine wi_iload_n (i := 0) (e := 1) (nx := 1) (r1 := 0) (r2 := 0) (r3 := 0) rfl rfl ?_
    refine wi_iload_n (i := 1) (e := 3) (nx := 2) (r1 := 0) (r2 := 0) (r3 := 0) rfl rfl ?_
    refine wr_gsx (nx := 5) (r1 := 0) (r2 := 0) (r3 := 1) rfl (by decide) ?_
    refine wi_S (rest := []) (as := [vi 1, vi 3, .retAddr 0]) (nx := 8) (r1 := 366) (r2 := 19) (r3 := 0) rfl rfl rfl (of_decide_eq_true rfl) rfl rfl (of_decide_eq_true rfl) (of_decide_eq_true rfl) ?_
    refine wi_iload_n (i := 0) (e := 1) (nx := 1) (r1 := 0) (r2 := 0) (r3 := 0) rfl rfl ?_
    refine wi_if (cd := .lt) (nx := 4) (r1 := 9) (r2 := 0) (r3 := 0) rfl (by omega) (fun (q22 : 1 < 0) => by exfalso; omega) (fun (q22 : ¬ (1 < 0)) => ?_)
    refine wi_iload_n (i := 0) (e := 1) (nx := 5) (r1 := 0) (r2 := 0) (r3 := 0) rfl rfl ?_
    refine wi_iload_n (i := 1) (e := 3) (nx := 6) (r1 := 0) (r2 := 0) (r3 := 0) rfl rfl ?_
    refine wi_icmp (cd := .lt) (nx := 9) (r1 := 16) (r2 := 0) (r3 := 0) rfl (by omega) (by omega) (fun (q23 : 1 < 3) => ?_) (fun (q23 : ¬ (1 < 3)) => by exfalso; omega)
    refine wi_iload_n (i := 0) (e := 1) (nx := 17) (r1 := 0) (r2 := 0) (r3 := 0) rfl rfl ?_
    refine wi_ireturn (nx := 18) (r1 := 0) (r2 := 0) (r3 := 0) rfl rfl ?_
    refine wk_i ?_
    refine wi_pop (nx := 9) (r1 := 0) (r2 := 0) (r3 := 0) rfl rfl ?_
    refine wi_return (nx := 10) (r1 := 0) (r2 := 0) (r3 := 0) rfl rfl ?_
    refine wk_n ?_
    refine wi_aload_n (i := 0) (x := 1000027) (nx := 7) (r1 := 0) (r2 := 0) (r3 := 0) rfl rfl ?_
    refine wi_iload_n (i := 1) (e := 1) (nx := 8) (r1 := 0) (r2 := 0) (r3 := 0) rfl rfl ?_
    refine wr_xa (k0 := 1000027) (a := 1) (f := 1) (v := vi 117) .baload (Or.inr (Or.inl ⟨rfl, Or.inl rfl⟩)) (nx := 9) (r1 := 0) (r2 := 0) (r3 := 0) rfl (by decide) rfl rfl (by decide) (by decide) rfl ?_
    refine wi_sipush (n := 255) (nx := 12) (r1 := 0) (r2 := 0) (r3 := 0) rfl (by decide) ?_
    refine wi_iand (e := 117) (nx := 13) (r1 := 0) (r2 := 0) (r3 := 0) rfl (by decide) ?_
    refine wr_i2cL (e := 117) (nx := 14) (r1 := 0) (r2 := 0) (r3 := 0) rfl (by decide) ?_
    refine wr_xreturn (x := 117) (nx := 15) (r1 := 0) (r2 := 0) (r3 := 0) rfl rfl (by first | rfl | decide) ?_
    refine wk_i ?_
    refine wr_xreturn (x := 117) (nx := 16) (r1 := 0) (r2 := 0) (r3 := 0) rfl rfl (by first | rfl | decide) ?_
    refine wk_i ?_
    refine wr_V (k0 := 208) (rest := []) (as := [.ref 208, vi 117]) (nx := 19) (r1 := 199) (r2 := 1) (r3 := 10) rfl rfl rfl (of_decide_eq_true rfl) rfl rfl (by decide) rfl rfl (of_decide_eq_true rfl) (of_decide_eq_true rfl) ?_
    refine ct_199_208 hcr  g15 117 (by omega)  (fun h24 g24 u24 => ?_)
    have F25 := F16.then (by decide +kernel) u24
    refine wk_n ?_
    refine wr_iincL (i := 2) (n := 1) (v := 1) (2) ([(2, vi 2), (0, .ref 208), (1, .ref 1000025)]) (nx := 22) (r1 := 0) (r2 := 0) (r3 := 0) rfl rfl (by decide) rfl ?_
    refine wi_goto (nx := 25) (r1 := 2) (r2 := 0) (r3 := 0) rfl ?_
    refine wi_iload_n (i := 2) (e := 2) (nx := 3) (r1 := 0) (r2 := 0) (r3 := 0) rfl rfl ?_
    refine wi_aload_n (i := 1) (x := 1000025) (nx := 4) (r1 := 0) (r2 := 0) (r3 := 0) rfl rfl ?_
    refine wr_VX (k0 := 1000025) (m := 1) (rest := [vi 2]) (as := [.ref 1000025]) (nx := 7) (r1 := 360) (r2 := 0) (r3 := 1001) rfl rfl rfl (of_decide_eq_true rfl) rfl rfl (by decide) rfl rfl (of_decide_eq_true rfl) (of_decide_eq_true rfl) ?_
    refine wi_aload_n (i := 0) (x := 1000025) (nx := 1) (r1 := 0) (r2 := 0) (r3 := 0) rfl rfl ?_
    refine wr_gx (k0 := 1000025) (v := .ref 1000027) (nx := 4) (r1 := 5) (r2 := 0) (r3 := 1) rfl (by decide) (by decide) rfl ?_
    refine wr_xl (k0 := 1000027) (e := 3) (nx := 5) (r1 := 0) (r2 := 0) (r3 := 0) rfl (by decide) rfl rfl ?_
    refine wi_aload_n (i := 0) (x := 1000025) (nx := 6) (r1 := 0) (r2 := 0) (r3 := 0) rfl rfl ?_
    refine wr_VX (k0 := 1000025) (m := 1) (rest := [vi 3]) (as := [.ref 1000025]) (nx := 9) (r1 := 361) (r2 := 0) (r3 := 1001) rfl rfl rfl (of_decide_eq_true rfl) rfl rfl (by decide) rfl rfl (of_decide_eq_true rfl) (of_decide_eq_true rfl) ?_
    refine wr_gst (v := vi 1) (nx := 3) (r1 := 23) (r2 := 0) (r3 := 0) rfl rfl rfl ?_
    refine wi_if (cd := .eq) (nx := 6) (r1 := 13) (r2 := 0) (r3 := 0) rfl (by omega) (fun (q26 : 1 = 0) => by exfalso; omega) (fun (q26 : ¬ (1 = 0)) => ?_)
    refine wi_aload_n (i := 0) (x := 1000025) (nx := 7) (r1 := 0) (r2 := 0) (r3 := 0) rfl rfl ?_
    refine wr_gx (k0 := 1000025) (v := vi 0) (nx := 10) (r1 := 6) (r2 := 0) (r3 := 1) rfl (by decide) (by decide) rfl ?_
    refine wi_goto (nx := 13) (r1 := 14) (r2 := 0) (r3 := 0) rfl ?_
    refine wr_xreturn (x := 0) (nx := 15) (r1 := 0) (r2 := 0) (r3 := 0) rfl rfl (by first | rfl | decide) ?_
    refine wk_i ?_
    refine wi_ishr (e := 3) (nx := 10) (r1 := 0) (r2 := 0) (r3 := 0) rfl (by decide) ?_
    refine wi_ireturn (nx := 11) (r1 := 0) (r2 := 0) (r3 := 0) rfl rfl ?_
    refine wk_i ?_
    refine wi_icmp (cd := .ge) (nx := 10) (r1 := 25) (r2 := 0) (r3 := 0) rfl (by omega) (by omega) (fun (q27 : 3 ≤ 2) => by exfalso; omega) (fun (q27 : ¬ (3 ≤ 2)) => ?_)
    refine wi_aload_n (i := 0) (x := 208) (nx := 11) (r1 := 0) (r2 := 0) (r3 := 0) rfl rfl ?_
    refine wi_aload_n (i := 1) (x := 1000025) (nx := 12) (r1 := 0) (r2 := 0) (r3 := 0) rfl rfl ?_
    refine wi_iload_n (i := 2) (e := 2) (nx := 13) (r1 := 0) (r2 := 0) (r3 := 0) rfl rfl ?_
    refine wr_VX (k0 := 1000025) (m := 1) (rest := [.ref 208]) (as := [.ref 1000025, vi 2]) (nx := 16) (r1 := 362) (r2 := 1) (r3 := 1001) rfl rfl rfl (of_decide_eq_true rfl) rfl rfl (by decide) rfl rfl (of_decide_eq_true rfl) (of_decide_eq_true rfl) ?_
    refine wi_aload_n (i := 0) (x := 1000025) (nx := 1) (r1 := 0) (r2 := 0) (r3 := 0) rfl rfl ?_
    refine wr_VX (k0 := 1000025) (m := 1) (rest := []) (as := [.ref 1000025]) (nx := 4) (r1 := 363) (r2 := 0) (r3 := 1001) rfl rfl rfl (of_decide_eq_true rfl) rfl rfl (by decide) rfl rfl (of_decide_eq_true rfl) (of_decide_eq_true rfl) ?_
    refine wr_gst (v := vi 1) (nx := 3) (r1 := 23) (r2 := 0) (r3 := 0) rfl rfl rfl ?_
    refine wi_if (cd := .eq) (nx := 6) (r1 := 17) (r2 := 0) (r3 := 0) rfl (by omega) (fun (q28 : 1 = 0) => by exfalso; omega) (fun (q28 : ¬ (1 = 0)) => ?_)
    refine wi_aload_n (i := 0) (x := 1000025) (nx := 7) (r1 := 0) (r2 := 0) (r3 := 0) rfl rfl ?_
    refine wr_gx (k0 := 1000025) (v := vi 0) (nx := 10) (r1 := 6) (r2 := 0) (r3 := 1) rfl (by decide) (by decide) rfl ?_
    refine wi_if (cd := .ne) (nx := 13) (r1 := 17) (r2 := 0) (r3 := 0) rfl (by omega) (fun (q29 : 0 ≠ 0) => by exfalso; omega) (fun (q29 : ¬ (0 ≠ 0)) => ?_)
    refine wi_iconst (n := 1) (nx := 14) (r1 := 0) (r2 := 0) (r3 := 0) rfl ?_
    refine wi_goto (nx := 17) (r1 := 18) (r2 := 0) (r3 := 0) rfl ?_
    refine wi_zreturn (nx := 19) (r1 := 0) (r2 := 0) (r3 := 0) rfl rfl (by omega) ?_
    refine wk_i ?_
    refine wi_if (cd := .eq) (nx := 7) (r1 := 16) (r2 := 0) (r3 := 0) rfl (by omega) (fun (q30 : 1 = 0) => by exfalso; omega) (fun (q30 : ¬ (1 = 0)) => ?_)
    refine wi_aload_n (i := 0) (x := 1000025) (nx := 8) (r1 := 0) (r2 := 0) (r3 := 0) rfl rfl ?_
    refine wr_gx (k0 := 1000025) (v := .ref 1000027) (nx := 11) (r1 := 5) (r2 := 0) (r3 := 1) rfl (by decide) (by decide) rfl ?_
    refine wi_iload_n (i := 1) (e := 2) (nx := 12) (r1 := 0) (r2 := 0) (r3 := 0) rfl rfl ?_
    refine wi_S (rest := []) (as := [.ref 1000027, vi 2]) (nx := 15) (r1 := 364) (r2 := 18) (r3 := 0) rfl rfl rfl (of_decide_eq_true rfl) rfl rfl (of_decide_eq_true rfl) (of_decide_eq_true rfl) ?_
    refine wi_iload_n (i := 1) (e := 2) (nx := 1) (r1 := 0) (r2 := 0) (r3 := 0) rfl rfl ?_
    refine wi_aload_n (i := 0) (x := 1000027) (nx := 2) (r1 := 0) (r2 := 0) (r3 := 0) rfl rfl ?_
    refine wr_xl (k0 := 1000027) (e := 3) (nx := 3) (r1 := 0) (r2 := 0) (r3 := 0) rfl (by decide) rfl rfl ?_
    refine wi_S (rest := []) (as := [vi 2, vi 3]) (nx := 6) (r1 := 365) (r2 := 18) (r3 := 0) rfl rfl rfl (of_decide_eq_true rfl) rfl rfl (of_decide_eq_true rfl) (of_decide_eq_true rfl) ?_
    refine wi_iload_n (i := 0) (e := 2) (nx := 1) (r1 := 0) (r2 := 0) (r3 := 0) rfl rfl ?_
    refine wi_iload_n (i := 1) (e := 3) (nx := 2) (r1 := 0) (r2 := 0) (r3 := 0) rfl rfl ?_
    refine wr_gsx (nx := 5) (r1 := 0) (r2 := 0) (r3 := 1) rfl (by decide) ?_
    refine wi_S (rest := []) (as := [vi 2, vi 3, .retAddr 0]) (nx := 8) (r1 := 366) (r2 := 19) (r3 := 0) rfl rfl rfl (of_decide_eq_true rfl) rfl rfl (of_decide_eq_true rfl) (of_decide_eq_true rfl) ?_
    refine wi_iload_n (i := 0) (e := 2) (nx := 1) (r1 := 0) (r2 := 0) (r3 := 0) rfl rfl ?_
    refine wi_if (cd := .lt) (nx := 4) (r1 := 9) (r2 := 0) (r3 := 0) rfl (by omega) (fun (q31 : 2 < 0) => by exfalso; omega) (fun (q31 : ¬ (2 < 0)) => ?_)
    refine wi_iload_n (i := 0) (e := 2) (nx := 5) (r1 := 0) (r2 := 0) (r3 := 0) rfl rfl ?_
    refine wi_iload_n (i := 1) (e := 3) (nx := 6) (r1 := 0) (r2 := 0) (r3 := 0) rfl rfl ?_
    refine wi_icmp (cd := .lt) (nx := 9) (r1 := 16) (r2 := 0) (r3 := 0) rfl (by omega) (by omega) (fun (q32 : 2 < 3) => ?_) (fun (q32 : ¬ (2 < 3)) => by exfalso; omega)
    refine wi_iload_n (i := 0) (e := 2) (nx := 17) (r1 := 0) (r2 := 0) (r3 := 0) rfl rfl ?_
    refine wi_ireturn (nx := 18) (r1 := 0) (r2 := 0) (r3 := 0) rfl rfl ?_
    refine wk_i ?_
    refine wi_pop (nx := 9) (r1 := 0) (r2 := 0) (r3 := 0) rfl rfl ?_
    refine wi_return (nx := 10) (r1 := 0) (r2 := 0) (r3 := 0) rfl rfl ?_
    refine wk_n ?_
    refine wi_aload_n (i := 0) (x := 1000027) (nx := 7) (r1 := 0) (r2 := 0) (r3 := 0) rfl rfl ?_
    refine wi_iload_n (i := 1) (e := 2) (nx := 8) (r1 := 0) (r2 := 0) (r3 := 0) rfl rfl ?_
    refine wr_xa (k0 := 1000027) (a := 2) (f := 2) (v := vi 116) .baload (Or.inr (Or.inl ⟨rfl, Or.inl rfl⟩)) (nx := 9) (r1 := 0) (r2 := 0) (r3 := 0) rfl (by decide) rfl rfl (by decide) (by decide) rfl ?_
    refine wi_sipush (n := 255) (nx := 12) (r1 := 0) (r2 := 0) (r3 := 0) rfl (by decide) ?_
    refine wi_iand (e := 116) (nx := 13) (r1 := 0) (r2 := 0) (r3 := 0) rfl (by decide) ?_
    refine wr_i2cL (e := 116) (nx := 14) (r1 := 0) (r2 := 0) (r3 := 0) rfl (by decide) ?_
    refine wr_xreturn (x := 116) (nx := 15) (r1 := 0) (r2 := 0) (r3 := 0) rfl rfl (by first | rfl | decide) ?_
    refine wk_i ?_
    refine wr_xreturn (x := 116) (nx := 16) (r1 := 0) (r2 := 0) (r3 := 0) rfl rfl (by first | rfl | decide) ?_
    refine wk_i ?_
    refine wr_V (k0 := 208) (rest := []) (as := [.ref 208, vi 116]) (nx := 19) (r1 := 199) (r2 := 1) (r3 := 10) rfl rfl rfl (of_decide_eq_true rfl) rfl rfl (by decide) rfl rfl (of_decide_eq_true rfl) (of_decide_eq_true rfl) ?_
    refine ct_199_208 hcr  g24 116 (by omega)  (fun h33 g33 u33 => ?_)
    have F34 := F25.then (by decide +kernel) u33
    refine wk_n ?_
    refine wr_iincL (i := 2) (n := 1) (v := 2) (3) ([(2, vi 3), (0, .ref 208), (1, .ref 1000025)]) (nx := 22) (r1 := 0) (r2 := 0) (r3 := 0) rfl rfl (by decide) rfl ?_
    refine wi_goto (nx := 25) (r1 := 2) (r2 := 0) (r3 := 0) rfl ?_
    refine wi_iload_n (i := 2) (e := 3) (nx := 3) (r1 := 0) (r2 := 0) (r3 := 0) rfl rfl ?_
    refine wi_aload_n (i := 1) (x := 1000025) (nx := 4) (r1 := 0) (r2 := 0) (r3 := 0) rfl rfl ?_
    refine wr_VX (k0 := 1000025) (m := 1) (rest := [vi 3]) (as := [.ref 1000025]) (nx := 7) (r1 := 360) (r2 := 0) (r3 := 1001) rfl rfl rfl (of_decide_eq_true rfl) rfl rfl (by decide) rfl rfl (of_decide_eq_true rfl) (of_decide_eq_true rfl) ?_
    refine wi_aload_n (i := 0) (x := 1000025) (nx := 1) (r1 := 0) (r2 := 0) (r3 := 0) rfl rfl ?_
    refine wr_gx (k0 := 1000025) (v := .ref 1000027) (nx := 4) (r1 := 5) (r2 := 0) (r3 := 1) rfl (by decide) (by decide) rfl ?_
    refine wr_xl (k0 := 1000027) (e := 3) (nx := 5) (r1 := 0) (r2 := 0) (r3 := 0) rfl (by decide) rfl rfl ?_
    refine wi_aload_n (i := 0) (x := 1000025) (nx := 6) (r1 := 0) (r2 := 0) (r3 := 0) rfl rfl ?_
    refine wr_VX (k0 := 1000025) (m := 1) (rest := [vi 3]) (as := [.ref 1000025]) (nx := 9) (r1 := 361) (r2 := 0) (r3 := 1001) rfl rfl rfl (of_decide_eq_true rfl) rfl rfl (by decide) rfl rfl (of_decide_eq_true rfl) (of_decide_eq_true rfl) ?_
    refine wr_gst (v := vi 1) (nx := 3) (r1 := 23) (r2 := 0) (r3 := 0) rfl rfl rfl ?_
    refine wi_if (cd := .eq) (nx := 6) (r1 := 13) (r2 := 0) (r3 := 0) rfl (by omega) (fun (q35 : 1 = 0) => by exfalso; omega) (fun (q35 : ¬ (1 = 0)) => ?_)
    refine wi_aload_n (i := 0) (x := 1000025) (nx := 7) (r1 := 0) (r2 := 0) (r3 := 0) rfl rfl ?_
    refine wr_gx (k0 := 1000025) (v := vi 0) (nx := 10) (r1 := 6) (r2 := 0) (r3 := 1) rfl (by decide) (by decide) rfl ?_
    refine wi_goto (nx := 13) (r1 := 14) (r2 := 0) (r3 := 0) rfl ?_
    refine wr_xreturn (x := 0) (nx := 15) (r1 := 0) (r2 := 0) (r3 := 0) rfl rfl (by first | rfl | decide) ?_
    refine wk_i ?_
    refine wi_ishr (e := 3) (nx := 10) (r1 := 0) (r2 := 0) (r3 := 0) rfl (by decide) ?_
    refine wi_ireturn (nx := 11) (r1 := 0) (r2 := 0) (r3 := 0) rfl rfl ?_
    refine wk_i ?_
    refine wi_icmp (cd := .ge) (nx := 10) (r1 := 25) (r2 := 0) (r3 := 0) rfl (by omega) (by omega) (fun (q36 : 3 ≤ 3) => ?_) (fun (q36 : ¬ (3 ≤ 3)) => by exfalso; omega)
    refine wi_return (nx := 26) (r1 := 0) (r2 := 0) (r3 := 0) rfl rfl ?_
    refine wk_n ?_
    refine wi_aload_n (i := 0) (x := 208) (nx := 54) (r1 := 0) (r2 := 0) (r3 := 0) rfl rfl ?_
    refine wi_aload_n (i := 1) (x := 3) (nx := 55) (r1 := 0) (r2 := 0) (r3 := 0) rfl rfl ?_
    refine wi_aload_n (i := 2) (x := 18) (nx := 56) (r1 := 0) (r2 := 0) (r3 := 0) rfl rfl ?_
    refine wi_aload_n (i := 2) (x := 18) (nx := 57) (r1 := 0) (r2 := 0) (r3 := 0) rfl rfl ?_
    refine wr_gr (k0 := 18) (x := 26) (nx := 60) (r1 := 4) (r2 := 6) (r3 := 0) rfl rfl (by decide) rfl ⟨rfl, rfl⟩ rfl ?_
    refine wr_V (k0 := 208) (rest := []) (as := [.ref 208, .ref 3, .ref 18, .ref 26]) (nx := 63) (r1 := 200) (r2 := 3) (r3 := 10) rfl rfl rfl (of_decide_eq_true rfl) rfl rfl (by decide) rfl rfl (of_decide_eq_true rfl) (of_decide_eq_true rfl) ?_
    refine ct_200_208_3_18_R hcr rw_26 g33    (fun h37 g37 u37 => ?_)
    have F38 := F34.then (by decide +kernel) u37
    refine wk_n ?_
    refine wi_aload_n (i := 0) (x := 208) (nx := 64) (r1 := 0) (r2 := 0) (r3 := 0) rfl rfl ?_
    have b39 := gi_b (lo := 0) (hi := 152) g37 208 1 rfl
    refine wr_gi0 (k0 := 208) (x := h37 208 1) (nx := 67) (r1 := 10) (r2 := 1) (r3 := 0) rfl rfl (by decide) rfl ⟨rfl, rfl⟩ rfl rfl ?_
    refine wi_ireturn (nx := 68) (r1 := 0) (r2 := 0) (r3 := 0) rfl rfl ?_
    exact k h37 (h37 208 1) g37 F38 (by omega)
  ·
    refine wi_aload_n (i := 0) (x := 208) (nx := 16) (r1 := 0) (r2 := 0) (r3 := 0) rfl rfl ?_
    refine wr_ldcr (x := 1000024) (nx := 18) (r1 := 1) (r2 := 24) (r3 := 0) rfl (by decide) rfl ?_
    refine wr_V (k0 := 208) (rest := []) (as := [.ref 208, .ref 1000024]) (nx := 21) (r1 := 198) (r2 := 1) (r3 := 10) rfl rfl rfl (of_decide_eq_true rfl) rfl rfl (by decide) rfl rfl (of_decide_eq_true rfl) (of_decide_eq_true rfl) ?_
    refine wi_iconst (n := 0) (nx := 1) (r1 := 0) (r2 := 0) (r3 := 0) rfl ?_
    refine wi_istore_n (i := 2) (e := 0) (lo2 := [(2, vi 0), (0, .ref 208), (1, .ref 1000024)]) (nx := 2) (r1 := 0) (r2 := 0) (r3 := 0) rfl rfl ?_
    refine wi_iload_n (i := 2) (e := 0) (nx := 3) (r1 := 0) (r2 := 0) (r3 := 0) rfl rfl ?_
    refine wi_aload_n (i := 1) (x := 1000024) (nx := 4) (r1 := 0) (r2 := 0) (r3 := 0) rfl rfl ?_
    refine wr_VX (k0 := 1000024) (m := 1) (rest := [vi 0]) (as := [.ref 1000024]) (nx := 7) (r1 := 360) (r2 := 0) (r3 := 1001) rfl rfl rfl (of_decide_eq_true rfl) rfl rfl (by decide) rfl rfl (of_decide_eq_true rfl) (of_decide_eq_true rfl) ?_
    refine wi_aload_n (i := 0) (x := 1000024) (nx := 1) (r1 := 0) (r2 := 0) (r3 := 0) rfl rfl ?_
    refine wr_gx (k0 := 1000024) (v := .ref 1000026) (nx := 4) (r1 := 5) (r2 := 0) (r3 := 1) rfl (by decide) (by decide) rfl ?_
    refine wr_xl (k0 := 1000026) (e := 5) (nx := 5) (r1 := 0) (r2 := 0) (r3 := 0) rfl (by decide) rfl rfl ?_
    refine wi_aload_n (i := 0) (x := 1000024) (nx := 6) (r1 := 0) (r2 := 0) (r3 := 0) rfl rfl ?_
    refine wr_VX (k0 := 1000024) (m := 1) (rest := [vi 5]) (as := [.ref 1000024]) (nx := 9) (r1 := 361) (r2 := 0) (r3 := 1001) rfl rfl rfl (of_decide_eq_true rfl) rfl rfl (by decide) rfl rfl (of_decide_eq_true rfl) (of_decide_eq_true rfl) ?_
    refine wr_gst (v := vi 1) (nx := 3) (r1 := 23) (r2 := 0) (r3 := 0) rfl rfl rfl ?_
    refine wi_if (cd := .eq) (nx := 6) (r1 := 13) (r2 := 0) (r3 := 0) rfl (by omega) (fun (q8 : 1 = 0) => by exfalso; omega) (fun (q8 : ¬ (1 = 0)) => ?_)
    refine wi_aload_n (i := 0) (x := 1000024) (nx := 7) (r1 := 0) (r2 := 0) (r3 := 0) rfl rfl ?_
    refine wr_gx (k0 := 1000024) (v := vi 0) (nx := 10) (r1 := 6) (r2 := 0) (r3 := 1) rfl (by decide) (by decide) rfl ?_
    refine wi_goto (nx := 13) (r1 := 14) (r2 := 0) (r3 := 0) rfl ?_
    refine wr_xreturn (x := 0) (nx := 15) (r1 := 0) (r2 := 0) (r3 := 0) rfl rfl (by first | rfl | decide) ?_
    refine wk_i ?_
    refine wi_ishr (e := 5) (nx := 10) (r1 := 0) (r2 := 0) (r3 := 0) rfl (by decide) ?_
    refine wi_ireturn (nx := 11) (r1 := 0) (r2 := 0) (r3 := 0) rfl rfl ?_
    refine wk_i ?_
    refine wi_icmp (cd := .ge) (nx := 10) (r1 := 25) (r2 := 0) (r3 := 0) rfl (by omega) (by omega) (fun (q9 : 5 ≤ 0) => by exfalso; omega) (fun (q9 : ¬ (5 ≤ 0)) => ?_)
    refine wi_aload_n (i := 0) (x := 208) (nx := 11) (r1 := 0) (r2 := 0) (r3 := 0) rfl rfl ?_
    refine wi_aload_n (i := 1) (x := 1000024) (nx := 12) (r1 := 0) (r2 := 0) (r3 := 0) rfl rfl ?_
    refine wi_iload_n (i := 2) (e := 0) (nx := 13) (r1 := 0) (r2 := 0) (r3 := 0) rfl rfl ?_
    refine wr_VX (k0 := 1000024) (m := 1) (rest := [.ref 208]) (as := [.ref 1000024, vi 0]) (nx := 16) (r1 := 362) (r2 := 1) (r3 := 1001) rfl rfl rfl (of_decide_eq_true rfl) rfl rfl (by decide) rfl rfl (of_decide_eq_true rfl) (of_decide_eq_true rfl) ?_
    refine wi_aload_n (i := 0) (x := 1000024) (nx := 1) (r1 := 0) (r2 := 0) (r3 := 0) rfl rfl ?_
    refine wr_VX (k0 := 1000024) (m := 1) (rest := []) (as := [.ref 1000024]) (nx := 4) (r1 := 363) (r2 := 0) (r3 := 1001) rfl rfl rfl (of_decide_eq_true rfl) rfl rfl (by decide) rfl rfl (of_decide_eq_true rfl) (of_decide_eq_true rfl) ?_
    refine wr_gst (v := vi 1) (nx := 3) (r1 := 23) (r2 := 0) (r3 := 0) rfl rfl rfl ?_
    refine wi_if (cd := .eq) (nx := 6) (r1 := 17) (r2 := 0) (r3 := 0) rfl (by omega) (fun (q10 : 1 = 0) => by exfalso; omega) (fun (q10 : ¬ (1 = 0)) => ?_)
    refine wi_aload_n (i := 0) (x := 1000024) (nx := 7) (r1 := 0) (r2 := 0) (r3 := 0) rfl rfl ?_
    refine wr_gx (k0 := 1000024) (v := vi 0) (nx := 10) (r1 := 6) (r2 := 0) (r3 := 1) rfl (by decide) (by decide) rfl ?_
    refine wi_if (cd := .ne) (nx := 13) (r1 := 17) (r2 := 0) (r3 := 0) rfl (by omega) (fun (q11 : 0 ≠ 0) => by exfalso; omega) (fun (q11 : ¬ (0 ≠ 0)) => ?_)
    refine wi_iconst (n := 1) (nx := 14) (r1 := 0) (r2 := 0) (r3 := 0) rfl ?_
    refine wi_goto (nx := 17) (r1 := 18) (r2 := 0) (r3 := 0) rfl ?_
    refine wi_zreturn (nx := 19) (r1 := 0) (r2 := 0) (r3 := 0) rfl rfl (by omega) ?_
    refine wk_i ?_
    refine wi_if (cd := .eq) (nx := 7) (r1 := 16) (r2 := 0) (r3 := 0) rfl (by omega) (fun (q12 : 1 = 0) => by exfalso; omega) (fun (q12 : ¬ (1 = 0)) => ?_)
    refine wi_aload_n (i := 0) (x := 1000024) (nx := 8) (r1 := 0) (r2 := 0) (r3 := 0) rfl rfl ?_
    refine wr_gx (k0 := 1000024) (v := .ref 1000026) (nx := 11) (r1 := 5) (r2 := 0) (r3 := 1) rfl (by decide) (by decide) rfl ?_
    refine wi_iload_n (i := 1) (e := 0) (nx := 12) (r1 := 0) (r2 := 0) (r3 := 0) rfl rfl ?_
    refine wi_S (rest := []) (as := [.ref 1000026, vi 0]) (nx := 15) (r1 := 364) (r2 := 18) (r3 := 0) rfl rfl rfl (of_decide_eq_true rfl) rfl rfl (of_decide_eq_true rfl) (of_decide_eq_true rfl) ?_
    refine wi_iload_n (i := 1) (e := 0) (nx := 1) (r1 := 0) (r2 := 0) (r3 := 0) rfl rfl ?_
    refine wi_aload_n (i := 0) (x := 1000026) (nx := 2) (r1 := 0) (r2 := 0) (r3 := 0) rfl rfl ?_
    refine wr_xl (k0 := 1000026) (e := 5) (nx := 3) (r1 := 0) (r2 := 0) (r3 := 0) rfl (by decide) rfl rfl ?_
    refine wi_S (rest := []) (as := [vi 0, vi 5]) (nx := 6) (r1 := 365) (r2 := 18) (r3 := 0) rfl rfl rfl (of_decide_eq_true rfl) rfl rfl (of_decide_eq_true rfl) (of_decide_eq_true rfl) ?_
    refine wi_iload_n (i := 0) (e := 0) (nx := 1) (r1 := 0) (r2 := 0) (r3 := 0) rfl rfl ?_
    refine wi_iload_n (i := 1) (e := 5) (nx := 2) (r1 := 0) (r2 := 0) (r3 := 0) rfl rfl ?_
    refine wr_gsx (nx := 5) (r1 := 0) (r2 := 0) (r3 := 1) rfl (by decide) ?_
    refine wi_S (rest := []) (as := [vi 0, vi 5, .retAddr 0]) (nx := 8) (r1 := 366) (r2 := 19) (r3 := 0) rfl rfl rfl (of_decide_eq_true rfl) rfl rfl (of_decide_eq_true rfl) (of_decide_eq_true rfl) ?_
    refine wi_iload_n (i := 0) (e := 0) (nx := 1) (r1 := 0) (r2 := 0) (r3 := 0) rfl rfl ?_
    refine wi_if (cd := .lt) (nx := 4) (r1 := 9) (r2 := 0) (r3 := 0) rfl (by omega) (fun (q13 : 0 < 0) => by exfalso; omega) (fun (q13 : ¬ (0 < 0)) => ?_)
    refine wi_iload_n (i := 0) (e := 0) (nx := 5) (r1 := 0) (r2 := 0) (r3 := 0) rfl rfl ?_
    refine wi_iload_n (i := 1) (e := 5) (nx := 6) (r1 := 0) (r2 := 0) (r3 := 0) rfl rfl ?_
    refine wi_icmp (cd := .lt) (nx := 9) (r1 := 16) (r2 := 0) (r3 := 0) rfl (by omega) (by omega) (fun (q14 : 0 < 5) => ?_) (fun (q14 : ¬ (0 < 5)) => by exfalso; omega)
    refine wi_iload_n (i := 0) (e := 0) (nx := 17) (r1 := 0) (r2 := 0) (r3 := 0) rfl rfl ?_
    refine wi_ireturn (nx := 18) (r1 := 0) (r2 := 0) (r3 := 0) rfl rfl ?_
    refine wk_i ?_
    refine wi_pop (nx := 9) (r1 := 0) (r2 := 0) (r3 := 0) rfl rfl ?_
    refine wi_return (nx := 10) (r1 := 0) (r2 := 0) (r3 := 0) rfl rfl ?_
    refine wk_n ?_
    refine wi_aload_n (i := 0) (x := 1000026) (nx := 7) (r1 := 0) (r2 := 0) (r3 := 0) rfl rfl ?_
    refine wi_iload_n (i := 1) (e := 0) (nx := 8) (r1 := 0) (r2 := 0) (r3 := 0) rfl rfl ?_
    refine wr_xa (k0 := 1000026) (a := 0) (f := 0) (v := vi 108) .baload (Or.inr (Or.inl ⟨rfl, Or.inl rfl⟩)) (nx := 9) (r1 := 0) (r2 := 0) (r3 := 0) rfl (by decide) rfl rfl (by decide) (by decide) rfl ?_
    refine wi_sipush (n := 255) (nx := 12) (r1 := 0) (r2 := 0) (r3 := 0) rfl (by decide) ?_
    refine wi_iand (e := 108) (nx := 13) (r1 := 0) (r2 := 0) (r3 := 0) rfl (by decide) ?_
    refine wr_i2cL (e := 108) (nx := 14) (r1 := 0) (r2 := 0) (r3 := 0) rfl (by decide) ?_
    refine wr_xreturn (x := 108) (nx := 15) (r1 := 0) (r2 := 0) (r3 := 0) rfl rfl (by first | rfl | decide) ?_
    refine wk_i ?_
    refine wr_xreturn (x := 108) (nx := 16) (r1 := 0) (r2 := 0) (r3 := 0) rfl rfl (by first | rfl | decide) ?_
    refine wk_i ?_
    refine wr_V (k0 := 208) (rest := []) (as := [.ref 208, vi 108]) (nx := 19) (r1 := 199) (r2 := 1) (r3 := 10) rfl rfl rfl (of_decide_eq_true rfl) rfl rfl (by decide) rfl rfl (of_decide_eq_true rfl) (of_decide_eq_true rfl) ?_
    refine ct_199_208 hcr  g4 108 (by omega)  (fun h15 g15 u15 => ?_)
    have F16 := F5.then (by decide +kernel) u15
    have F17 := u4.then (by decide +kernel) u15
    refine wk_n ?_
    refine wr_iincL (i := 2) (n := 1) (v := 0) (1) ([(2, vi 1), (0, .ref 208), (1, .ref 1000024)]) (nx := 22) (r1 := 0) (r2 := 0) (r3 := 0) rfl rfl (by decide) rfl ?_
    refine wi_goto (nx := 25) (r1 := 2) (r2 := 0) (r3 := 0) rfl ?_
    refine wi_iload_n (i := 2) (e := 1) (nx := 3) (r1 := 0) (r2 := 0) (r3 := 0) rfl rfl ?_
    refine wi_aload_n (i := 1) (x := 1000024) (nx := 4) (r1 := 0) (r2 := 0) (r3 := 0) rfl rfl ?_
    refine wr_VX (k0 := 1000024) (m := 1) (rest := [vi 1]) (as := [.ref 1000024]) (nx := 7) (r1 := 360) (r2 := 0) (r3 := 1001) rfl rfl rfl (of_decide_eq_true rfl) rfl rfl (by decide) rfl rfl (of_decide_eq_true rfl) (of_decide_eq_true rfl) ?_
    refine wi_aload_n (i := 0) (x := 1000024) (nx := 1) (r1 := 0) (r2 := 0) (r3 := 0) rfl rfl ?_
    refine wr_gx (k0 := 1000024) (v := .ref 1000026) (nx := 4) (r1 := 5) (r2 := 0) (r3 := 1) rfl (by decide) (by decide) rfl ?_
    refine wr_xl (k0 := 1000026) (e := 5) (nx := 5) (r1 := 0) (r2 := 0) (r3 := 0) rfl (by decide) rfl rfl ?_
    refine wi_aload_n (i := 0) (x := 1000024) (nx := 6) (r1 := 0) (r2 := 0) (r3 := 0) rfl rfl ?_
    refine wr_VX (k0 := 1000024) (m := 1) (rest := [vi 5]) (as := [.ref 1000024]) (nx := 9) (r1 := 361) (r2 := 0) (r3 := 1001) rfl rfl rfl (of_decide_eq_true rfl) rfl rfl (by decide) rfl rfl (of_decide_eq_true rfl) (of_decide_eq_true rfl) ?_
    refine wr_gst (v := vi 1) (nx := 3) (r1 := 23) (r2 := 0) (r3 := 0) rfl rfl rfl ?_
    refine wi_if (cd := .eq) (nx := 6) (r1 := 13) (r2 := 0) (r3 := 0) rfl (by omega) (fun (q18 : 1 = 0) => by exfalso; omega) (fun (q18 : ¬ (1 = 0)) => ?_)
    refine wi_aload_n (i := 0) (x := 1000024) (nx := 7) (r1 := 0) (r2 := 0) (r3 := 0) rfl rfl ?_
    refine wr_gx (k0 := 1000024) (v := vi 0) (nx := 10) (r1 := 6) (r2 := 0) (r3 := 1) rfl (by decide) (by decide) rfl ?_
    refine wi_goto (nx := 13) (r1 := 14) (r2 := 0) (r3 := 0) rfl ?_
    refine wr_xreturn (x := 0) (nx := 15) (r1 := 0) (r2 := 0) (r3 := 0) rfl rfl (by first | rfl | decide) ?_
    refine wk_i ?_
    refine wi_ishr (e := 5) (nx := 10) (r1 := 0) (r2 := 0) (r3 := 0) rfl (by decide) ?_
    refine wi_ireturn (nx := 11) (r1 := 0) (r2 := 0) (r3 := 0) rfl rfl ?_
    refine wk_i ?_
    refine wi_icmp (cd := .ge) (nx := 10) (r1 := 25) (r2 := 0) (r3 := 0) rfl (by omega) (by omega) (fun (q19 : 5 ≤ 1) => by exfalso; omega) (fun (q19 : ¬ (5 ≤ 1)) => ?_)
    refine wi_aload_n (i := 0) (x := 208) (nx := 11) (r1 := 0) (r2 := 0) (r3 := 0) rfl rfl ?_
    refine wi_aload_n (i := 1) (x := 1000024) (nx := 12) (r1 := 0) (r2 := 0) (r3 := 0) rfl rfl ?_
    refine wi_iload_n (i := 2) (e := 1) (nx := 13) (r1 := 0) (r2 := 0) (r3 := 0) rfl rfl ?_
    refine wr_VX (k0 := 1000024) (m := 1) (rest := [.ref 208]) (as := [.ref 1000024, vi 1]) (nx := 16) (r1 := 362) (r2 := 1) (r3 := 1001) rfl rfl rfl (of_decide_eq_true rfl) rfl rfl (by decide) rfl rfl (of_decide_eq_true rfl) (of_decide_eq_true rfl) ?_
    refine wi_aload_n (i := 0) (x := 1000024) (nx := 1) (r1 := 0) (r2 := 0) (r3 := 0) rfl rfl ?_
    refine wr_VX (k0 := 1000024) (m := 1) (rest := []) (as := [.ref 1000024]) (nx := 4) (r1 := 363) (r2 := 0) (r3 := 1001) rfl rfl rfl (of_decide_eq_true rfl) rfl rfl (by decide) rfl rfl (of_decide_eq_true rfl) (of_decide_eq_true rfl) ?_
    refine wr_gst (v := vi 1) (nx := 3) (r1 := 23) (r2 := 0) (r3 := 0) rfl rfl rfl ?_
    refine wi_if (cd := .eq) (nx := 6) (r1 := 17) (r2 := 0) (r3 := 0) rfl (by omega) (fun (q20 : 1 = 0) => by exfalso; omega) (fun (q20 : ¬ (1 = 0)) => ?_)
    refine wi_aload_n (i := 0) (x := 1000024) (nx := 7) (r1 := 0) (r2 := 0) (r3 := 0) rfl rfl ?_
    refine wr_gx (k0 := 1000024) (v := vi 0) (nx := 10) (r1 := 6) (r2 := 0) (r3 := 1) rfl (by decide) (by decide) rfl ?_
    refine wi_if (cd := .ne) (nx := 13) (r1 := 17) (r2 := 0) (r3 := 0) rfl (by omega) (fun (q21 : 0 ≠ 0) => by exfalso; omega) (fun (q21 : ¬ (0 ≠ 0)) => ?_)
    refine wi_iconst (n := 1) (nx := 14) (r1 := 0) (r2 := 0) (r3 := 0) rfl ?_
    refine wi_goto (nx := 17) (r1 := 18) (r2 := 0) (r3 := 0) rfl ?_
    refine wi_zreturn (nx := 19) (r1 := 0) (r2 := 0) (r3 := 0) rfl rfl (by omega) ?_
    refine wk_i ?_
    refine wi_if (cd := .eq) (nx := 7) (r1 := 16) (r2 := 0) (r3 := 0) rfl (by omega) (fun (q22 : 1 = 0) => by exfalso; omega) (fun (q22 : ¬ (1 = 0)) => ?_)
    refine wi_aload_n (i := 0) (x := 1000024) (nx := 8) (r1 := 0) (r2 := 0) (r3 := 0) rfl rfl ?_
    refine wr_gx (k0 := 1000024) (v := .ref 1000026) (nx := 11) (r1 := 5) (r2 := 0) (r3 := 1) rfl (by decide) (by decide) rfl ?_
    refine wi_iload_n (i := 1) (e := 1) (nx := 12) (r1 := 0) (r2 := 0) (r3 := 0) rfl rfl ?_
    refine wi_S (rest := []) (as := [.ref 1000026, vi 1]) (nx := 15) (r1 := 364) (r2 := 18) (r3 := 0) rfl rfl rfl (of_decide_eq_true rfl) rfl rfl (of_decide_eq_true rfl) (of_decide_eq_true rfl) ?_
    refine wi_iload_n (i := 1) (e := 1) (nx := 1) (r1 := 0) (r2 := 0) (r3 := 0) rfl rfl ?_
    refine wi_aload_n (i := 0) (x := 1000026) (nx := 2) (r1 := 0) (r2 := 0) (r3 := 0) rfl rfl ?_
    refine wr_xl (k0 := 1000026) (e := 5) (nx := 3) (r1 := 0) (r2 := 0) (r3 := 0) rfl (by decide) rfl rfl ?_
    refine wi_S (rest := []) (as := [vi 1, vi 5]) (nx := 6) (r1 := 365) (r2 := 18) (r3 := 0) rfl rfl rfl (of_decide_eq_true rfl) rfl rfl (of_decide_eq_true rfl) (of_decide_eq_true rfl) ?_
    refine wi_iload_n (i := 0) (e := 1) (nx := 1) (r1 := 0) (r2 := 0) (r3 := 0) rfl rfl ?_
    refine wi_iload_n (i := 1) (e := 5) (nx := 2) (r1 := 0) (r2 := 0) (r3 := 0) rfl rfl ?_
    refine wr_gsx (nx := 5) (r1 := 0) (r2 := 0) (r3 := 1) rfl (by decide) ?_
    refine wi_S (rest := []) (as := [vi 1, vi 5, .retAddr 0]) (nx := 8) (r1 := 366) (r2 := 19) (r3 := 0) rfl rfl rfl (of_decide_eq_true rfl) rfl rfl (of_decide_eq_true rfl) (of_decide_eq_true rfl) ?_
    refine wi_iload_n (i := 0) (e := 1) (nx := 1) (r1 := 0) (r2 := 0) (r3 := 0) rfl rfl ?_
    refine wi_if (cd := .lt) (nx := 4) (r1 := 9) (r2 := 0) (r3 := 0) rfl (by omega) (fun (q23 : 1 < 0) => by exfalso; omega) (fun (q23 : ¬ (1 < 0)) => ?_)
    refine wi_iload_n (i := 0) (e := 1) (nx := 5) (r1 := 0) (r2 := 0) (r3 := 0) rfl rfl ?_
    refine wi_iload_n (i := 1) (e := 5) (nx := 6) (r1 := 0) (r2 := 0) (r3 := 0) rfl rfl ?_
    refine wi_icmp (cd := .lt) (nx := 9) (r1 := 16) (r2 := 0) (r3 := 0) rfl (by omega) (by omega) (fun (q24 : 1 < 5) => ?_) (fun (q24 : ¬ (1 < 5)) => by exfalso; omega)
    refine wi_iload_n (i := 0) (e := 1) (nx := 17) (r1 := 0) (r2 := 0) (r3 := 0) rfl rfl ?_
    refine wi_ireturn (nx := 18) (r1 := 0) (r2 := 0) (r3 := 0) rfl rfl ?_
    refine wk_i ?_
    refine wi_pop (nx := 9) (r1 := 0) (r2 := 0) (r3 := 0) rfl rfl ?_
    refine wi_return (nx := 10) (r1 := 0) (r2 := 0) (r3 := 0) rfl rfl ?_
    refine wk_n ?_
    refine wi_aload_n (i := 0) (x := 1000026) (nx := 7) (r1 := 0) (r2 := 0) (r3 := 0) rfl rfl ?_
    refine wi_iload_n (i := 1) (e := 1) (nx := 8) (r1 := 0) (r2 := 0) (r3 := 0) rfl rfl ?_
    refine wr_xa (k0 := 1000026) (a := 1) (f := 1) (v := vi 97) .baload (Or.inr (Or.inl ⟨rfl, Or.inl rfl⟩)) (nx := 9) (r1 := 0) (r2 := 0) (r3 := 0) rfl (by decide) rfl rfl (by decide) (by decide) rfl ?_
    refine wi_sipush (n := 255) (nx := 12) (r1 := 0) (r2 := 0) (r3 := 0) rfl (by decide) ?_
    refine wi_iand (e := 97) (nx := 13) (r1 := 0) (r2 := 0) (r3 := 0) rfl (by decide) ?_
    refine wr_i2cL (e := 97) (nx := 14) (r1 := 0) (r2 := 0) (r3 := 0) rfl (by decide) ?_
    refine wr_xreturn (x := 97) (nx := 15) (r1 := 0) (r2 := 0) (r3 := 0) rfl rfl (by first | rfl | decide) ?_
    refine wk_i ?_
    refine wr_xreturn (x := 97) (nx := 16) (r1 := 0) (r2 := 0) (r3 := 0) rfl rfl (by first | rfl | decide) ?_
    refine wk_i ?_
    refine wr_V (k0 := 208) (rest := []) (as := [.ref 208, vi 97]) (nx := 19) (r1 := 199) (r2 := 1) (r3 := 10) rfl rfl rfl (of_decide_eq_true rfl) rfl rfl (by decide) rfl rfl (of_decide_eq_true rfl) (of_decide_eq_true rfl) ?_
    refine ct_199_208 hcr  g15 97 (by omega)  (fun h25 g25 u25 => ?_)
    have F26 := F16.then (by decide +kernel) u25
    have F27 := F17.then (by decide +kernel) u25
    refine wk_n ?_
    refine wr_iincL (i := 2) (n := 1) (v := 1) (2) ([(2, vi 2), (0, .ref 208), (1, .ref 1000024)]) (nx := 22) (r1 := 0) (r2 := 0) (r3 := 0) rfl rfl (by decide) rfl ?_
    refine wi_goto (nx := 25) (r1 := 2) (r2 := 0) (r3 := 0) rfl ?_
    refine wi_iload_n (i := 2) (e := 2) (nx := 3) (r1 := 0) (r2 := 0) (r3 := 0) rfl rfl ?_
    refine wi_aload_n (i := 1) (x := 1000024) (nx := 4) (r1 := 0) (r2 := 0) (r3 := 0) rfl rfl ?_
    refine wr_VX (k0 := 1000024) (m := 1) (rest := [vi 2]) (as := [.ref 1000024]) (nx := 7) (r1 := 360) (r2 := 0) (r3 := 1001) rfl rfl rfl (of_decide_eq_true rfl) rfl rfl (by decide) rfl rfl (of_decide_eq_true rfl) (of_decide_eq_true rfl) ?_
    refine wi_aload_n (i := 0) (x := 1000024) (nx := 1) (r1 := 0) (r2 := 0) (r3 := 0) rfl rfl ?_
    refine wr_gx (k0 := 1000024) (v := .ref 1000026) (nx := 4) (r1 := 5) (r2 := 0) (r3 := 1) rfl (by decide) (by decide) rfl ?_
    refine wr_xl (k0 := 1000026) (e := 5) (nx := 5) (r1 := 0) (r2 := 0) (r3 := 0) rfl (by decide) rfl rfl ?_
    refine wi_aload_n (i := 0) (x := 1000024) (nx := 6) (r1 := 0) (r2 := 0) (r3 := 0) rfl rfl ?_
    refine wr_VX (k0 := 1000024) (m := 1) (rest := [vi 5]) (as := [.ref 1000024]) (nx := 9) (r1 := 361) (r2 := 0) (r3 := 1001) rfl rfl rfl (of_decide_eq_true rfl) rfl rfl (by decide) rfl rfl (of_decide_eq_true rfl) (of_decide_eq_true rfl) ?_
    refine wr_gst (v := vi 1) (nx := 3) (r1 := 23) (r2 := 0) (r3 := 0) rfl rfl rfl ?_
    refine wi_if (cd := .eq) (nx := 6) (r1 := 13) (r2 := 0) (r3 := 0) rfl (by omega) (fun (q28 : 1 = 0) => by exfalso; omega) (fun (q28 : ¬ (1 = 0)) => ?_)
    refine wi_aload_n (i := 0) (x := 1000024) (nx := 7) (r1 := 0) (r2 := 0) (r3 := 0) rfl rfl ?_
    refine wr_gx (k0 := 1000024) (v := vi 0) (nx := 10) (r1 := 6) (r2 := 0) (r3 := 1) rfl (by decide) (by decide) rfl ?_
    refine wi_goto (nx := 13) (r1 := 14) (r2 := 0) (r3 := 0) rfl ?_
    refine wr_xreturn (x := 0) (nx := 15) (r1 := 0) (r2 := 0) (r3 := 0) rfl rfl (by first | rfl | decide) ?_
    refine wk_i ?_
    refine wi_ishr (e := 5) (nx := 10) (r1 := 0) (r2 := 0) (r3 := 0) rfl (by decide) ?_
    refine wi_ireturn (nx := 11) (r1 := 0) (r2 := 0) (r3 := 0) rfl rfl ?_
    refine wk_i ?_
    refine wi_icmp (cd := .ge) (nx := 10) (r1 := 25) (r2 := 0) (r3 := 0) rfl (by omega) (by omega) (fun (q29 : 5 ≤ 2) => by exfalso; omega) (fun (q29 : ¬ (5 ≤ 2)) => ?_)
    refine wi_aload_n (i := 0) (x := 208) (nx := 11) (r1 := 0) (r2 := 0) (r3 := 0) rfl rfl ?_
    refine wi_aload_n (i := 1) (x := 1000024) (nx := 12) (r1 := 0) (r2 := 0) (r3 := 0) rfl rfl ?_
    refine wi_iload_n (i := 2) (e := 2) (nx := 13) (r1 := 0) (r2 := 0) (r3 := 0) rfl rfl ?_
    refine wr_VX (k0 := 1000024) (m := 1) (rest := [.ref 208]) (as := [.ref 1000024, vi 2]) (nx := 16) (r1 := 362) (r2 := 1) (r3 := 1001) rfl rfl rfl (of_decide_eq_true rfl) rfl rfl (by decide) rfl rfl (of_decide_eq_true rfl) (of_decide_eq_true rfl) ?_
    refine wi_aload_n (i := 0) (x := 1000024) (nx := 1) (r1 := 0) (r2 := 0) (r3 := 0) rfl rfl ?_
    refine wr_VX (k0 := 1000024) (m := 1) (rest := []) (as := [.ref 1000024]) (nx := 4) (r1 := 363) (r2 := 0) (r3 := 1001) rfl rfl rfl (of_decide_eq_true rfl) rfl rfl (by decide) rfl rfl (of_decide_eq_true rfl) (of_decide_eq_true rfl) ?_
    refine wr_gst (v := vi 1) (nx := 3) (r1 := 23) (r2 := 0) (r3 := 0) rfl rfl rfl ?_
    refine wi_if (cd := .eq) (nx := 6) (r1 := 17) (r2 := 0) (r3 := 0) rfl (by omega) (fun (q30 : 1 = 0) => by exfalso; omega) (fun (q30 : ¬ (1 = 0)) => ?_)
    refine wi_aload_n (i := 0) (x := 1000024) (nx := 7) (r1 := 0) (r2 := 0) (r3 := 0) rfl rfl ?_
    refine wr_gx (k0 := 1000024) (v := vi 0) (nx := 10) (r1 := 6) (r2 := 0) (r3 := 1) rfl (by decide) (by decide) rfl ?_
    refine wi_if (cd := .ne) (nx := 13) (r1 := 17) (r2 := 0) (r3 := 0) rfl (by omega) (fun (q31 : 0 ≠ 0) => by exfalso; omega) (fun (q31 : ¬ (0 ≠ 0)) => ?_)
    refine wi_iconst (n := 1) (nx := 14) (r1 := 0) (r2 := 0) (r3 := 0) rfl ?_
    refine wi_goto (nx := 17) (r1 := 18) (r2 := 0) (r3 := 0) rfl ?_
    refine wi_zreturn (nx := 19) (r1 := 0) (r2 := 0) (r3 := 0) rfl rfl (by omega) ?_
    refine wk_i ?_
    refine wi_if (cd := .eq) (nx := 7) (r1 := 16) (r2 := 0) (r3 := 0) rfl (by omega) (fun (q32 : 1 = 0) => by exfalso; omega) (fun (q32 : ¬ (1 = 0)) => ?_)
    refine wi_aload_n (i := 0) (x := 1000024) (nx := 8) (r1 := 0) (r2 := 0) (r3 := 0) rfl rfl ?_
    refine wr_gx (k0 := 1000024) (v := .ref 1000026) (nx := 11) (r1 := 5) (r2 := 0) (r3 := 1) rfl (by decide) (by decide) rfl ?_
    refine wi_iload_n (i := 1) (e := 2) (nx := 12) (r1 := 0) (r2 := 0) (r3 := 0) rfl rfl ?_
    refine wi_S (rest := []) (as := [.ref 1000026, vi 2]) (nx := 15) (r1 := 364) (r2 := 18) (r3 := 0) rfl rfl rfl (of_decide_eq_true rfl) rfl rfl (of_decide_eq_true rfl) (of_decide_eq_true rfl) ?_
    refine wi_iload_n (i := 1) (e := 2) (nx := 1) (r1 := 0) (r2 := 0) (r3 := 0) rfl rfl ?_
    refine wi_aload_n (i := 0) (x := 1000026) (nx := 2) (r1 := 0) (r2 := 0) (r3 := 0) rfl rfl ?_
    refine wr_xl (k0 := 1000026) (e := 5) (nx := 3) (r1 := 0) (r2 := 0) (r3 := 0) rfl (by decide) rfl rfl ?_
    refine wi_S (rest := []) (as := [vi 2, vi 5]) (nx := 6) (r1 := 365) (r2 := 18) (r3 := 0) rfl rfl rfl (of_decide_eq_true rfl) rfl rfl (of_decide_eq_true rfl) (of_decide_eq_true rfl) ?_
    refine wi_iload_n (i := 0) (e := 2) (nx := 1) (r1 := 0) (r2 := 0) (r3 := 0) rfl rfl ?_
    refine wi_iload_n (i := 1) (e := 5) (nx := 2) (r1 := 0) (r2 := 0) (r3 := 0) rfl rfl ?_
    refine wr_gsx (nx := 5) (r1 := 0) (r2 := 0) (r3 := 1) rfl (by decide) ?_
    refine wi_S (rest := []) (as := [vi 2, vi 5, .retAddr 0]) (nx := 8) (r1 := 366) (r2 := 19) (r3 := 0) rfl rfl rfl (of_decide_eq_true rfl) rfl rfl (of_decide_eq_true rfl) (of_decide_eq_true rfl) ?_
    refine wi_iload_n (i := 0) (e := 2) (nx := 1) (r1 := 0) (r2 := 0) (r3 := 0) rfl rfl ?_
    refine wi_if (cd := .lt) (nx := 4) (r1 := 9) (r2 := 0) (r3 := 0) rfl (by omega) (fun (q33 : 2 < 0) => by exfalso; omega) (fun (q33 : ¬ (2 < 0)) => ?_)
    refine wi_iload_n (i := 0) (e := 2) (nx := 5) (r1 := 0) (r2 := 0) (r3 := 0) rfl rfl ?_
    refine wi_iload_n (i := 1) (e := 5) (nx := 6) (r1 := 0) (r2 := 0) (r3 := 0) rfl rfl ?_
    refine wi_icmp (cd := .lt) (nx := 9) (r1 := 16) (r2 := 0) (r3 := 0) rfl (by omega) (by omega) (fun (q34 : 2 < 5) => ?_) (fun (q34 : ¬ (2 < 5)) => by exfalso; omega)
    refine wi_iload_n (i := 0) (e := 2) (nx := 17) (r1 := 0) (r2 := 0) (r3 := 0) rfl rfl ?_
    refine wi_ireturn (nx := 18) (r1 := 0) (r2 := 0) (r3 := 0) rfl rfl ?_
    refine wk_i ?_
    refine wi_pop (nx := 9) (r1 := 0) (r2 := 0) (r3 := 0) rfl rfl ?_
    refine wi_return (nx := 10) (r1 := 0) (r2 := 0) (r3 := 0) rfl rfl ?_
    refine wk_n ?_
    refine wi_aload_n (i := 0) (x := 1000026) (nx := 7) (r1 := 0) (r2 := 0) (r3 := 0) rfl rfl ?_
    refine wi_iload_n (i := 1) (e := 2) (nx := 8) (r1 := 0) (r2 := 0) (r3 := 0) rfl rfl ?_
    refine wr_xa (k0 := 1000026) (a := 2) (f := 2) (v := vi 110) .baload (Or.inr (Or.inl ⟨rfl, Or.inl rfl⟩)) (nx := 9) (r1 := 0) (r2 := 0) (r3 := 0) rfl (by decide) rfl rfl (by decide) (by decide) rfl ?_
    refine wi_sipush (n := 255) (nx := 12) (r1 := 0) (r2 := 0) (r3 := 0) rfl (by decide) ?_
    refine wi_iand (e := 110) (nx := 13) (r1 := 0) (r2 := 0) (r3 := 0) rfl (by decide) ?_
    refine wr_i2cL (e := 110) (nx := 14) (r1 := 0) (r2 := 0) (r3 := 0) rfl (by decide) ?_
    refine wr_xreturn (x := 110) (nx := 15) (r1 := 0) (r2 := 0) (r3 := 0) rfl rfl (by first | rfl | decide) ?_
    refine wk_i ?_
    refine wr_xreturn (x := 110) (nx := 16) (r1 := 0) (r2 := 0) (r3 := 0) rfl rfl (by first | rfl | decide) ?_
    refine wk_i ?_
    refine wr_V (k0 := 208) (rest := []) (as := [.ref 208, vi 110]) (nx := 19) (r1 := 199) (r2 := 1) (r3 := 10) rfl rfl rfl (of_decide_eq_true rfl) rfl rfl (by decide) rfl rfl (of_decide_eq_true rfl) (of_decide_eq_true rfl) ?_
    refine ct_199_208 hcr  g25 110 (by omega)  (fun h35 g35 u35 => ?_)
    have F36 := F26.then (by decide +kernel) u35
    have F37 := F27.then (by decide +kernel) u35
    refine wk_n ?_
    refine wr_iincL (i := 2) (n := 1) (v := 2) (3) ([(2, vi 3), (0, .ref 208), (1, .ref 1000024)]) (nx := 22) (r1 := 0) (r2 := 0) (r3 := 0) rfl rfl (by decide) rfl ?_
    refine wi_goto (nx := 25) (r1 := 2) (r2 := 0) (r3 := 0) rfl ?_
    refine wi_iload_n (i := 2) (e := 3) (nx := 3) (r1 := 0) (r2 := 0) (r3 := 0) rfl rfl ?_
    refine wi_aload_n (i := 1) (x := 1000024) (nx := 4) (r1 := 0) (r2 := 0) (r3 := 0) rfl rfl ?_
    refine wr_VX (k0 := 1000024) (m := 1) (rest := [vi 3]) (as := [.ref 1000024]) (nx := 7) (r1 := 360) (r2 := 0) (r3 := 1001) rfl rfl rfl (of_decide_eq_true rfl) rfl rfl (by decide) rfl rfl (of_decide_eq_true rfl) (of_decide_eq_true rfl) ?_
    refine wi_aload_n (i := 0) (x := 1000024) (nx := 1) (r1 := 0) (r2 := 0) (r3 := 0) rfl rfl ?_
    refine wr_gx (k0 := 1000024) (v := .ref 1000026) (nx := 4) (r1 := 5) (r2 := 0) (r3 := 1) rfl (by decide) (by decide) rfl ?_
    refine wr_xl (k0 := 1000026) (e := 5) (nx := 5) (r1 := 0) (r2 := 0) (r3 := 0) rfl (by decide) rfl rfl ?_
    refine wi_aload_n (i := 0) (x := 1000024) (nx := 6) (r1 := 0) (r2 := 0) (r3 := 0) rfl rfl ?_
    refine wr_VX (k0 := 1000024) (m := 1) (rest := [vi 5]) (as := [.ref 1000024]) (nx := 9) (r1 := 361) (r2 := 0) (r3 := 1001) rfl rfl rfl (of_decide_eq_true rfl) rfl rfl (by decide) rfl rfl (of_decide_eq_true rfl) (of_decide_eq_true rfl) ?_
    refine wr_gst (v := vi 1) (nx := 3) (r1 := 23) (r2 := 0) (r3 := 0) rfl rfl rfl ?_
    refine wi_if (cd := .eq) (nx := 6) (r1 := 13) (r2 := 0) (r3 := 0) rfl (by omega) (fun (q38 : 1 = 0) => by exfalso; omega) (fun (q38 : ¬ (1 = 0)) => ?_)
    refine wi_aload_n (i := 0) (x := 1000024) (nx := 7) (r1 := 0) (r2 := 0) (r3 := 0) rfl rfl ?_
    refine wr_gx (k0 := 1000024) (v := vi 0) (nx := 10) (r1 := 6) (r2 := 0) (r3 := 1) rfl (by decide) (by decide) rfl ?_
    refine wi_goto (nx := 13) (r1 := 14) (r2 := 0) (r3 := 0) rfl ?_
    refine wr_xreturn (x := 0) (nx := 15) (r1 := 0) (r2 := 0) (r3 := 0) rfl rfl (by first | rfl | decide) ?_
    refine wk_i ?_
    refine wi_ishr (e := 5) (nx := 10) (r1 := 0) (r2 := 0) (r3 := 0) rfl (by decide) ?_
    refine wi_ireturn (nx := 11) (r1 := 0) (r2 := 0) (r3 := 0) rfl rfl ?_
    refine wk_i ?_
    refine wi_icmp (cd := .ge) (nx := 10) (r1 := 25) (r2 := 0) (r3 := 0) rfl (by omega) (by omega) (fun (q39 : 5 ≤ 3) => by exfalso; omega) (fun (q39 : ¬ (5 ≤ 3)) => ?_)
    refine wi_aload_n (i := 0) (x := 208) (nx := 11) (r1 := 0) (r2 := 0) (r3 := 0) rfl rfl ?_
    refine wi_aload_n (i := 1) (x := 1000024) (nx := 12) (r1 := 0) (r2 := 0) (r3 := 0) rfl rfl ?_
    refine wi_iload_n (i := 2) (e := 3) (nx := 13) (r1 := 0) (r2 := 0) (r3 := 0) rfl rfl ?_
    refine wr_VX (k0 := 1000024) (m := 1) (rest := [.ref 208]) (as := [.ref 1000024, vi 3]) (nx := 16) (r1 := 362) (r2 := 1) (r3 := 1001) rfl rfl rfl (of_decide_eq_true rfl) rfl rfl (by decide) rfl rfl (of_decide_eq_true rfl) (of_decide_eq_true rfl) ?_
    refine wi_aload_n (i := 0) (x := 1000024) (nx := 1) (r1 := 0) (r2 := 0) (r3 := 0) rfl rfl ?_
    refine wr_VX (k0 := 1000024) (m := 1) (rest := []) (as := [.ref 1000024]) (nx := 4) (r1 := 363) (r2 := 0) (r3 := 1001) rfl rfl rfl (of_decide_eq_true rfl) rfl rfl (by decide) rfl rfl (of_decide_eq_true rfl) (of_decide_eq_true rfl) ?_
    refine wr_gst (v := vi 1) (nx := 3) (r1 := 23) (r2 := 0) (r3 := 0) rfl rfl rfl ?_
    refine wi_if (cd := .eq) (nx := 6) (r1 := 17) (r2 := 0) (r3 := 0) rfl (by omega) (fun (q40 : 1 = 0) => by exfalso; omega) (fun (q40 : ¬ (1 = 0)) => ?_)
    refine wi_aload_n (i := 0) (x := 1000024) (nx := 7) (r1 := 0) (r2 := 0) (r3 := 0) rfl rfl ?_
    refine wr_gx (k0 := 1000024) (v := vi 0) (nx := 10) (r1 := 6) (r2 := 0) (r3 := 1) rfl (by decide) (by decide) rfl ?_
    refine wi_if (cd := .ne) (nx := 13) (r1 := 17) (r2 := 0) (r3 := 0) rfl (by omega) (fun (q41 : 0 ≠ 0) => by exfalso; omega) (fun (q41 : ¬ (0 ≠ 0)) => ?_)
    refine wi_iconst (n := 1) (nx := 14) (r1 := 0) (r2 := 0) (r3 := 0) rfl ?_
    refine wi_goto (nx := 17) (r1 := 18) (r2 := 0) (r3 := 0) rfl ?_
    refine wi_zreturn (nx := 19) (r1 := 0) (r2 := 0) (r3 := 0) rfl rfl (by omega) ?_
    refine wk_i ?_
    refine wi_if (cd := .eq) (nx := 7) (r1 := 16) (r2 := 0) (r3 := 0) rfl (by omega) (fun (q42 : 1 = 0) => by exfalso; omega) (fun (q42 : ¬ (1 = 0)) => ?_)
    refine wi_aload_n (i := 0) (x := 1000024) (nx := 8) (r1 := 0) (r2 := 0) (r3 := 0) rfl rfl ?_
    refine wr_gx (k0 := 1000024) (v := .ref 1000026) (nx := 11) (r1 := 5) (r2 := 0) (r3 := 1) rfl (by decide) (by decide) rfl ?_
    refine wi_iload_n (i := 1) (e := 3) (nx := 12) (r1 := 0) (r2 := 0) (r3 := 0) rfl rfl ?_
    refine wi_S (rest := []) (as := [.ref 1000026, vi 3]) (nx := 15) (r1 := 364) (r2 := 18) (r3 := 0) rfl rfl rfl (of_decide_eq_true rfl) rfl rfl (of_decide_eq_true rfl) (of_decide_eq_true rfl) ?_
    refine wi_iload_n (i := 1) (e := 3) (nx := 1) (r1 := 0) (r2 := 0) (r3 := 0) rfl rfl ?_
    refine wi_aload_n (i := 0) (x := 1000026) (nx := 2) (r1 := 0) (r2 := 0) (r3 := 0) rfl rfl ?_
    refine wr_xl (k0 := 1000026) (e := 5) (nx := 3) (r1 := 0) (r2 := 0) (r3 := 0) rfl (by decide) rfl rfl ?_
    refine wi_S (rest := []) (as := [vi 3, vi 5]) (nx := 6) (r1 := 365) (r2 := 18) (r3 := 0) rfl rfl rfl (of_decide_eq_true rfl) rfl rfl (of_decide_eq_true rfl) (of_decide_eq_true rfl) ?_
    refine wi_iload_n (i := 0) (e := 3) (nx := 1) (r1 := 0) (r2 := 0) (r3 := 0) rfl rfl ?_
    refine wi_iload_n (i := 1) (e := 5) (nx := 2) (r1 := 0) (r2 := 0) (r3 := 0) rfl rfl ?_
    refine wr_gsx (nx := 5) (r1 := 0) (r2 := 0) (r3 := 1) rfl (by decide) ?_
    refine wi_S (rest := []) (as := [vi 3, vi 5, .retAddr 0]) (nx := 8) (r1 := 366) (r2 := 19) (r3 := 0) rfl rfl rfl (of_decide_eq_true rfl) rfl rfl (of_decide_eq_true rfl) (of_decide_eq_true rfl) ?_
    refine wi_iload_n (i := 0) (e := 3) (nx := 1) (r1 := 0) (r2 := 0) (r3 := 0) rfl rfl ?_
    refine wi_if (cd := .lt) (nx := 4) (r1 := 9) (r2 := 0) (r3 := 0) rfl (by omega) (fun (q43 : 3 < 0) => by exfalso; omega) (fun (q43 : ¬ (3 < 0)) => ?_)
    refine wi_iload_n (i := 0) (e := 3) (nx := 5) (r1 := 0) (r2 := 0) (r3 := 0) rfl rfl ?_
    refine wi_iload_n (i := 1) (e := 5) (nx := 6) (r1 := 0) (r2 := 0) (r3 := 0) rfl rfl ?_
    refine wi_icmp (cd := .lt) (nx := 9) (r1 := 16) (r2 := 0) (r3 := 0) rfl (by omega) (by omega) (fun (q44 : 3 < 5) => ?_) (fun (q44 : ¬ (3 < 5)) => by exfalso; omega)
    refine wi_iload_n (i := 0) (e := 3) (nx := 17) (r1 := 0) (r2 := 0) (r3 := 0) rfl rfl ?_
    refine wi_ireturn (nx := 18) (r1 := 0) (r2 := 0) (r3 := 0) rfl rfl ?_
    refine wk_i ?_
    refine wi_pop (nx := 9) (r1 := 0) (r2 := 0) (r3 := 0) rfl rfl ?_
    refine wi_return (nx := 10) (r1 := 0) (r2 := 0) (r3 := 0) rfl rfl ?_
    refine wk_n ?_
    refine wi_aload_n (i := 0) (x := 1000026) (nx := 7) (r1 := 0) (r2 := 0) (r3 := 0) rfl rfl ?_
    refine wi_iload_n (i := 1) (e := 3) (nx := 8) (r1 := 0) (r2 := 0) (r3 := 0) rfl rfl ?_
    refine wr_xa (k0 := 1000026) (a := 3) (f := 3) (v := vi 101) .baload (Or.inr (Or.inl ⟨rfl, Or.inl rfl⟩)) (nx := 9) (r1 := 0) (r2 := 0) (r3 := 0) rfl (by decide) rfl rfl (by decide) (by decide) rfl ?_
    refine wi_sipush (n := 255) (nx := 12) (r1 := 0) (r2 := 0) (r3 := 0) rfl (by decide) ?_
    refine wi_iand (e := 101) (nx := 13) (r1 := 0) (r2 := 0) (r3 := 0) rfl (by decide) ?_
    refine wr_i2cL (e := 101) (nx := 14) (r1 := 0) (r2 := 0) (r3 := 0) rfl (by decide) ?_
    refine wr_xreturn (x := 101) (nx := 15) (r1 := 0) (r2 := 0) (r3 := 0) rfl rfl (by first | rfl | decide) ?_
    refine wk_i ?_
    refine wr_xreturn (x := 101) (nx := 16) (r1 := 0) (r2 := 0) (r3 := 0) rfl rfl (by first | rfl | decide) ?_
    refine wk_i ?_
    refine wr_V (k0 := 208) (rest := []) (as := [.ref 208, vi 101]) (nx := 19) (r1 := 199) (r2 := 1) (r3 := 10) rfl rfl rfl (of_decide_eq_true rfl) rfl rfl (by decide) rfl rfl (of_decide_eq_true rfl) (of_decide_eq_true rfl) ?_
    refine ct_199_208 hcr  g35 101 (by omega)  (fun h45 g45 u45 => ?_)
    have F46 := F36.then (by decide +kernel) u45
    have F47 := F37.then (by decide +kernel) u45
    refine wk_n ?_
    refine wr_iincL (i := 2) (n := 1) (v := 3) (4) ([(2, vi 4), (0, .ref 208), (1, .ref 1000024)]) (nx := 22) (r1 := 0) (r2 := 0) (r3 := 0) rfl rfl (by decide) rfl ?_
    refine wi_goto (nx := 25) (r1 := 2) (r2 := 0) (r3 := 0) rfl ?_
    refine wi_iload_n (i := 2) (e := 4) (nx := 3) (r1 := 0) (r2 := 0) (r3 := 0) rfl rfl ?_
    refine wi_aload_n (i := 1) (x := 1000024) (nx := 4) (r1 := 0) (r2 := 0) (r3 := 0) rfl rfl ?_
    refine wr_VX (k0 := 1000024) (m := 1) (rest := [vi 4]) (as := [.ref 1000024]) (nx := 7) (r1 := 360) (r2 := 0) (r3 := 1001) rfl rfl rfl (of_decide_eq_true rfl) rfl rfl (by decide) rfl rfl (of_decide_eq_true rfl) (of_decide_eq_true rfl) ?_
    refine wi_aload_n (i := 0) (x := 1000024) (nx := 1) (r1 := 0) (r2 := 0) (r3 := 0) rfl rfl ?_
    refine wr_gx (k0 := 1000024) (v := .ref 1000026) (nx := 4) (r1 := 5) (r2 := 0) (r3 := 1) rfl (by decide) (by decide) rfl ?_
    refine wr_xl (k0 := 1000026) (e := 5) (nx := 5) (r1 := 0) (r2 := 0) (r3 := 0) rfl (by decide) rfl rfl ?_
    refine wi_aload_n (i := 0) (x := 1000024) (nx := 6) (r1 := 0) (r2 := 0) (r3 := 0) rfl rfl ?_
    refine wr_VX (k0 := 1000024) (m := 1) (rest := [vi 5]) (as := [.ref 1000024]) (nx := 9) (r1 := 361) (r2 := 0) (r3 := 1001) rfl rfl rfl (of_decide_eq_true rfl) rfl rfl (by decide) rfl rfl (of_decide_eq_true rfl) (of_decide_eq_true rfl) ?_
    refine wr_gst (v := vi 1) (nx := 3) (r1 := 23) (r2 := 0) (r3 := 0) rfl rfl rfl ?_
    refine wi_if (cd := .eq) (nx := 6) (r1 := 13) (r2 := 0) (r3 := 0) rfl (by omega) (fun (q48 : 1 = 0) => by exfalso; omega) (fun (q48 : ¬ (1 = 0)) => ?_)
    refine wi_aload_n (i := 0) (x := 1000024) (nx := 7) (r1 := 0) (r2 := 0) (r3 := 0) rfl rfl ?_
    refine wr_gx (k0 := 1000024) (v := vi 0) (nx := 10) (r1 := 6) (r2 := 0) (r3 := 1) rfl (by decide) (by decide) rfl ?_
    refine wi_goto (nx := 13) (r1 := 14) (r2 := 0) (r3 := 0) rfl ?_
    refine wr_xreturn (x := 0) (nx := 15) (r1 := 0) (r2 := 0) (r3 := 0) rfl rfl (by first | rfl | decide) ?_
    refine wk_i ?_
    refine wi_ishr (e := 5) (nx := 10) (r1 := 0) (r2 := 0) (r3 := 0) rfl (by decide) ?_
    refine wi_ireturn (nx := 11) (r1 := 0) (r2 := 0) (r3 := 0) rfl rfl ?_
    refine wk_i ?_
    refine wi_icmp (cd := .ge) (nx := 10) (r1 := 25) (r2 := 0) (r3 := 0) rfl (by omega) (by omega) (fun (q49 : 5 ≤ 4) => by exfalso; omega) (fun (q49 : ¬ (5 ≤ 4)) => ?_)
    refine wi_aload_n (i := 0) (x := 208) (nx := 11) (r1 := 0) (r2 := 0) (r3 := 0) rfl rfl ?_
    refine wi_aload_n (i := 1) (x := 1000024) (nx := 12) (r1 := 0) (r2 := 0) (r3 := 0) rfl rfl ?_
    refine wi_iload_n (i := 2) (e := 4) (nx := 13) (r1 := 0) (r2 := 0) (r3 := 0) rfl rfl ?_
    refine wr_VX (k0 := 1000024) (m := 1) (rest := [.ref 208]) (as := [.ref 1000024, vi 4]) (nx := 16) (r1 := 362) (r2 := 1) (r3 := 1001) rfl rfl rfl (of_decide_eq_true rfl) rfl rfl (by decide) rfl rfl (of_decide_eq_true rfl) (of_decide_eq_true rfl) ?_
    refine wi_aload_n (i := 0) (x := 1000024) (nx := 1) (r1 := 0) (r2 := 0) (r3 := 0) rfl rfl ?_
    refine wr_VX (k0 := 1000024) (m := 1) (rest := []) (as := [.ref 1000024]) (nx := 4) (r1 := 363) (r2 := 0) (r3 := 1001) rfl rfl rfl (of_decide_eq_true rfl) rfl rfl (by decide) rfl rfl (of_decide_eq_true rfl) (of_decide_eq_true rfl) ?_
    refine wr_gst (v := vi 1) (nx := 3) (r1 := 23) (r2 := 0) (r3 := 0) rfl rfl rfl ?_
    refine wi_if (cd := .eq) (nx := 6) (r1 := 17) (r2 := 0) (r3 := 0) rfl (by omega) (fun (q50 : 1 = 0) => by exfalso; omega) (fun (q50 : ¬ (1 = 0)) => ?_)
    refine wi_aload_n (i := 0) (x := 1000024) (nx := 7) (r1 := 0) (r2 := 0) (r3 := 0) rfl rfl ?_
    refine wr_gx (k0 := 1000024) (v := vi 0) (nx := 10) (r1 := 6) (r2 := 0) (r3 := 1) rfl (by decide) (by decide) rfl ?_
    refine wi_if (cd := .ne) (nx := 13) (r1 := 17) (r2 := 0) (r3 := 0) rfl (by omega) (fun (q51 : 0 ≠ 0) => by exfalso; omega) (fun (q51 : ¬ (0 ≠ 0)) => ?_)
    refine wi_iconst (n := 1) (nx := 14) (r1 := 0) (r2 := 0) (r3 := 0) rfl ?_
    refine wi_goto (nx := 17) (r1 := 18) (r2 := 0) (r3 := 0) rfl ?_
    refine wi_zreturn (nx := 19) (r1 := 0) (r2 := 0) (r3 := 0) rfl rfl (by omega) ?_
    refine wk_i ?_
    refine wi_if (cd := .eq) (nx := 7) (r1 := 16) (r2 := 0) (r3 := 0) rfl (by omega) (fun (q52 : 1 = 0) => by exfalso; omega) (fun (q52 : ¬ (1 = 0)) => ?_)
    refine wi_aload_n (i := 0) (x := 1000024) (nx := 8) (r1 := 0) (r2 := 0) (r3 := 0) rfl rfl ?_
    refine wr_gx (k0 := 1000024) (v := .ref 1000026) (nx := 11) (r1 := 5) (r2 := 0) (r3 := 1) rfl (by decide) (by decide) rfl ?_
    refine wi_iload_n (i := 1) (e := 4) (nx := 12) (r1 := 0) (r2 := 0) (r3 := 0) rfl rfl ?_
    refine wi_S (rest := []) (as := [.ref 1000026, vi 4]) (nx := 15) (r1 := 364) (r2 := 18) (r3 := 0) rfl rfl rfl (of_decide_eq_true rfl) rfl rfl (of_decide_eq_true rfl) (of_decide_eq_true rfl) ?_
    refine wi_iload_n (i := 1) (e := 4) (nx := 1) (r1 := 0) (r2 := 0) (r3 := 0) rfl rfl ?_
    refine wi_aload_n (i := 0) (x := 1000026) (nx := 2) (r1 := 0) (r2 := 0) (r3 := 0) rfl rfl ?_
    refine wr_xl (k0 := 1000026) (e := 5) (nx := 3) (r1 := 0) (r2 := 0) (r3 := 0) rfl (by decide) rfl rfl ?_
    refine wi_S (rest := []) (as := [vi 4, vi 5]) (nx := 6) (r1 := 365) (r2 := 18) (r3 := 0) rfl rfl rfl (of_decide_eq_true rfl) rfl rfl (of_decide_eq_true rfl) (of_decide_eq_true rfl) ?_
    refine wi_iload_n (i := 0) (e := 4) (nx := 1) (r1 := 0) (r2 := 0) (r3 := 0) rfl rfl ?_
    refine wi_iload_n (i := 1) (e := 5) (nx := 2) (r1 := 0) (r2 := 0) (r3 := 0) rfl rfl ?_
    refine wr_gsx (nx := 5) (r1 := 0) (r2 := 0) (r3 := 1) rfl (by decide) ?_
    refine wi_S (rest := []) (as := [vi 4, vi 5, .retAddr 0]) (nx := 8) (r1 := 366) (r2 := 19) (r3 := 0) rfl rfl rfl (of_decide_eq_true rfl) rfl rfl (of_decide_eq_true rfl) (of_decide_eq_true rfl) ?_
    refine wi_iload_n (i := 0) (e := 4) (nx := 1) (r1 := 0) (r2 := 0) (r3 := 0) rfl rfl ?_
    refine wi_if (cd := .lt) (nx := 4) (r1 := 9) (r2 := 0) (r3 := 0) rfl (by omega) (fun (q53 : 4 < 0) => by exfalso; omega) (fun (q53 : ¬ (4 < 0)) => ?_)
    refine wi_iload_n (i := 0) (e := 4) (nx := 5) (r1 := 0) (r2 := 0) (r3 := 0) rfl rfl ?_
    refine wi_iload_n (i := 1) (e := 5) (nx := 6) (r1 := 0) (r2 := 0) (r3 := 0) rfl rfl ?_
    refine wi_icmp (cd := .lt) (nx := 9) (r1 := 16) (r2 := 0) (r3 := 0) rfl (by omega) (by omega) (fun (q54 : 4 < 5) => ?_) (fun (q54 : ¬ (4 < 5)) => by exfalso; omega)
    refine wi_iload_n (i := 0) (e := 4) (nx := 17) (r1 := 0) (r2 := 0) (r3 := 0) rfl rfl ?_
    refine wi_ireturn (nx := 18) (r1 := 0) (r2 := 0) (r3 := 0) rfl rfl ?_
    refine wk_i ?_
    refine wi_pop (nx := 9) (r1 := 0) (r2 := 0) (r3 := 0) rfl rfl ?_
    refine wi_return (nx := 10) (r1 := 0) (r2 := 0) (r3 := 0) rfl rfl ?_
    refine wk_n ?_
    refine wi_aload_n (i := 0) (x := 1000026) (nx := 7) (r1 := 0) (r2 := 0) (r3 := 0) rfl rfl ?_
    refine wi_iload_n (i := 1) (e := 4) (nx := 8) (r1 := 0) (r2 := 0) (r3 := 0) rfl rfl ?_
    refine wr_xa (k0 := 1000026) (a := 4) (f := 4) (v := vi 32) .baload (Or.inr (Or.inl ⟨rfl, Or.inl rfl⟩)) (nx := 9) (r1 := 0) (r2 := 0) (r3 := 0) rfl (by decide) rfl rfl (by decide) (by decide) rfl ?_
    refine wi_sipush (n := 255) (nx := 12) (r1 := 0) (r2 := 0) (r3 := 0) rfl (by decide) ?_
    refine wi_iand (e := 32) (nx := 13) (r1 := 0) (r2 := 0) (r3 := 0) rfl (by decide) ?_
    refine wr_i2cL (e := 32) (nx := 14) (r1 := 0) (r2 := 0) (r3 := 0) rfl (by decide) ?_
    refine wr_xreturn (x := 32) (nx := 15) (r1 := 0) (r2 := 0) (r3 := 0) rfl rfl (by first | rfl | decide) ?_
    refine wk_i ?_
    refine wr_xreturn (x := 32) (nx := 16) (r1 := 0) (r2 := 0) (r3 := 0) rfl rfl (by first | rfl | decide) ?_
    refine wk_i ?_
    refine wr_V (k0 := 208) (rest := []) (as := [.ref 208, vi 32]) (nx := 19) (r1 := 199) (r2 := 1) (r3 := 10) rfl rfl rfl (of_decide_eq_true rfl) rfl rfl (by decide) rfl rfl (of_decide_eq_true rfl) (of_decide_eq_true rfl) ?_
    refine ct_199_208 hcr  g45 32 (by omega)  (fun h55 g55 u55 => ?_)
    have F56 := F46.then (by decide +kernel) u55
    have F57 := F47.then (by decide +kernel) u55
    refine wk_n ?_
    refine wr_iincL (i := 2) (n := 1) (v := 4) (5) ([(2, vi 5), (0, .ref 208), (1, .ref 1000024)]) (nx := 22) (r1 := 0) (r2 := 0) (r3 := 0) rfl rfl (by decide) rfl ?_
    refine wi_goto (nx := 25) (r1 := 2) (r2 := 0) (r3 := 0) rfl ?_
    refine wi_iload_n (i := 2) (e := 5) (nx := 3) (r1 := 0) (r2 := 0) (r3 := 0) rfl rfl ?_
    refine wi_aload_n (i := 1) (x := 1000024) (nx := 4) (r1 := 0) (r2 := 0) (r3 := 0) rfl rfl ?_
    refine wr_VX (k0 := 1000024) (m := 1) (rest := [vi 5]) (as := [.ref 1000024]) (nx := 7) (r1 := 360) (r2 := 0) (r3 := 1001) rfl rfl rfl (of_decide_eq_true rfl) rfl rfl (by decide) rfl rfl (of_decide_eq_true rfl) (of_decide_eq_true rfl) ?_
    refine wi_aload_n (i := 0) (x := 1000024) (nx := 1) (r1 := 0) (r2 := 0) (r3 := 0) rfl rfl ?_
    refine wr_gx (k0 := 1000024) (v := .ref 1000026) (nx := 4) (r1 := 5) (r2 := 0) (r3 := 1) rfl (by decide) (by decide) rfl ?_
    refine wr_xl (k0 := 1000026) (e := 5) (nx := 5) (r1 := 0) (r2 := 0) (r3 := 0) rfl (by decide) rfl rfl ?_
    refine wi_aload_n (i := 0) (x := 1000024) (nx := 6) (r1 := 0) (r2 := 0) (r3 := 0) rfl rfl ?_
    refine wr_VX (k0 := 1000024) (m := 1) (rest := [vi 5]) (as := [.ref 1000024]) (nx := 9) (r1 := 361) (r2 := 0) (r3 := 1001) rfl rfl rfl (of_decide_eq_true rfl) rfl rfl (by decide) rfl rfl (of_decide_eq_true rfl) (of_decide_eq_true rfl) ?_
    refine wr_gst (v := vi 1) (nx := 3) (r1 := 23) (r2 := 0) (r3 := 0) rfl rfl rfl ?_
    refine wi_if (cd := .eq) (nx := 6) (r1 := 13) (r2 := 0) (r3 := 0) rfl (by omega) (fun (q58 : 1 = 0) => by exfalso; omega) (fun (q58 : ¬ (1 = 0)) => ?_)
    refine wi_aload_n (i := 0) (x := 1000024) (nx := 7) (r1 := 0) (r2 := 0) (r3 := 0) rfl rfl ?_
    refine wr_gx (k0 := 1000024) (v := vi 0) (nx := 10) (r1 := 6) (r2 := 0) (r3 := 1) rfl (by decide) (by decide) rfl ?_
    refine wi_goto (nx := 13) (r1 := 14) (r2 := 0) (r3 := 0) rfl ?_
    refine wr_xreturn (x := 0) (nx := 15) (r1 := 0) (r2 := 0) (r3 := 0) rfl rfl (by first | rfl | decide) ?_
    refine wk_i ?_
    refine wi_ishr (e := 5) (nx := 10) (r1 := 0) (r2 := 0) (r3 := 0) rfl (by decide) ?_
    refine wi_ireturn (nx := 11) (r1 := 0) (r2 := 0) (r3 := 0) rfl rfl ?_
    refine wk_i ?_
    refine wi_icmp (cd := .ge) (nx := 10) (r1 := 25) (r2 := 0) (r3 := 0) rfl (by omega) (by omega) (fun (q59 : 5 ≤ 5) => ?_) (fun (q59 : ¬ (5 ≤ 5)) => by exfalso; omega)
    refine wi_return (nx := 26) (r1 := 0) (r2 := 0) (r3 := 0) rfl rfl ?_
    refine wk_n ?_
    refine wi_aload_n (i := 0) (x := 208) (nx := 22) (r1 := 0) (r2 := 0) (r3 := 0) rfl rfl ?_
    refine wi_bipush (n := 48) (nx := 24) (r1 := 0) (r2 := 0) (r3 := 0) rfl (by decide) ?_
    refine wi_iload_n (i := 3) (e := x3) (nx := 25) (r1 := 0) (r2 := 0) (r3 := 0) rfl rfl ?_
    refine wr_add (nx := 26) (r1 := 0) (r2 := 0) (r3 := 0) rfl (fun e60 (fe60 : e60 = 48 + x3) => ?_)
    refine wr_V (k0 := 208) (rest := []) (as := [.ref 208, vi e60]) (nx := 29) (r1 := 199) (r2 := 1) (r3 := 10) rfl rfl rfl (of_decide_eq_true rfl) rfl rfl (by decide) rfl rfl (of_decide_eq_true rfl) (of_decide_eq_true rfl) ?_
    refine ct_199_208 hcr  g55 e60 (by omega)  (fun h61 g61 u61 => ?_)
    have F62 := F56.then (by decide +kernel) u61
    have F63 := F57.then (by decide +kernel) u61
    refine wk_n ?_
    refine wi_aload_n (i := 0) (x := 208) (nx := 30) (r1 := 0) (r2 := 0) (r3 := 0) rfl rfl ?_
    refine wi_aload_n (i := 1) (x := 3) (nx := 31) (r1 := 0) (r2 := 0) (r3 := 0) rfl rfl ?_
    refine wi_aload_n (i := 2) (x := 18) (nx := 32) (r1 := 0) (r2 := 0) (r3 := 0) rfl rfl ?_
    refine wi_aload_n (i := 2) (x := 18) (nx := 33) (r1 := 0) (r2 := 0) (r3 := 0) rfl rfl ?_
    refine wr_gr (k0 := 18) (x := 21) (nx := 36) (r1 := 4) (r2 := 3) (r3 := 0) rfl rfl (by decide) rfl ⟨rfl, rfl⟩ rfl ?_
    refine wi_iload_n (i := 3) (e := x3) (nx := 37) (r1 := 0) (r2 := 0) (r3 := 0) rfl rfl ?_
    obtain ⟨i64, ei64⟩ : ∃ q : Nat, x3 = (q : Int) := ⟨(x3).toNat, by omega⟩
    refine wr_aa (k0 := 21) (a := x3) (f := i64) (x := 21 + 8 + 2 * i64) (nx := 38) (r1 := 0) (r2 := 0) (r3 := 0) rfl (by decide) rfl (Or.inl rfl) (by omega) (by omega) (by decide) (hcr.1 21 (by decide) i64 (by omega)) ?_
    obtain ⟨k65, kk65, mk65⟩ : ∃ q, Rw q ∧ q = 21 + 8 + 2 * i64 := ⟨_, rw_lane 21 (by decide) i64 (by omega), rfl⟩
    rw [← mk65]
    refine wr_V (k0 := 208) (rest := []) (as := [.ref 208, .ref 3, .ref 18, .ref k65]) (nx := 41) (r1 := 200) (r2 := 3) (r3 := 10) rfl rfl rfl (of_decide_eq_true rfl) rfl rfl (by decide) rfl rfl (of_decide_eq_true rfl) (of_decide_eq_true rfl) ?_
    refine ct_200_208_3_18_R hcr kk65 g61    (fun h66 g66 u66 => ?_)
    have F67 := F62.then (by decide +kernel) u66
    have F68 := F63.then (by decide +kernel) u66
    refine wk_n ?_
    refine wr_iinc (i := 3) (n := 1) (v := x3) (fun e69 => [(3, vi e69), (0, .ref 208), (1, .ref 3), (2, .ref 18)]) (nx := 44) (r1 := 0) (r2 := 0) (r3 := 0) rfl rfl (fun _ => rfl) (fun e69 (fe69 : e69 = x3 + 1) => ?_)
    refine wi_goto (nx := 47) (r1 := 7) (r2 := 0) (r3 := 0) rfl ?_
    refine wp.lo (lo := [(0, .ref 208), (1, .ref 3), (2, .ref 18), (3, vi e69)]) ⟨rfl, rfl, rfl, rfl, trivial⟩ rfl ?_
    exact I4 e69 h66 ⟨g66, F67, F68, (show (0 ≤ e69 ∧ e69 ≤ 4) by omega)⟩ (show ((4 : Int) + 1 - e69).toNat < ((4 : Int) + 1 - x3).toNat by omega)
-- method 58: Bank.report()I
set_option maxRecDepth 100000 in
set_option maxHeartbeats 100000000 in
theorem ct_58_0 {L : Nat} {xs : Nat → Int32} {d b c : Nat} {h : hp} {cr : Nat → Nat → Option Nat} {Q : hp_Q} (hcr : CR cr)  (g : GI h)    (k : ∀ (h2 : hp) (z0 : Int) , GI h2 → FR [(209, 209, none), (208, 208, some (1, 1))] h h2 → (0 ≤ z0 ∧ z0 ≤ 152) → Q (.inl (some (vi z0))) (hp_w h2 cr) b c) : wp (md_xa (L, xs)) (d + 6) 58 (0, [(0, .ref 0)], [], hp_w h cr, b, c) Q := by
  have F0 : FR [(209, 209, none), (208, 208, some (1, 1))] h h := FR.refl
  refine wi_aload_n (i := 0) (x := 0) (nx := 1) (r1 := 0) (r2 := 0) (r3 := 0) rfl rfl ?_
  refine wr_gr (k0 := 0) (x := 208) (nx := 4) (r1 := 0) (r2 := 9) (r3 := 0) rfl rfl (by decide) rfl ⟨rfl, rfl⟩ rfl ?_
  refine wi_aload_n (i := 0) (x := 0) (nx := 5) (r1 := 0) (r2 := 0) (r3 := 0) rfl rfl ?_
  refine wr_gr (k0 := 0) (x := 3) (nx := 8) (r1 := 0) (r2 := 1) (r3 := 0) rfl rfl (by decide) rfl ⟨rfl, rfl⟩ rfl ?_
  refine wi_aload_n (i := 0) (x := 0) (nx := 9) (r1 := 0) (r2 := 0) (r3 := 0) rfl rfl ?_
  refine wr_gr (k0 := 0) (x := 18) (nx := 12) (r1 := 0) (r2 := 3) (r3 := 0) rfl rfl (by decide) rfl ⟨rfl, rfl⟩ rfl ?_
  refine wr_V (k0 := 208) (rest := []) (as := [.ref 208, .ref 3, .ref 18]) (nx := 15) (r1 := 197) (r2 := 2) (r3 := 10) rfl rfl rfl (of_decide_eq_true rfl) rfl rfl (by decide) rfl rfl (of_decide_eq_true rfl) (of_decide_eq_true rfl) ?_
  refine ct_197_208_3_18 hcr  g    (fun h1 z2 g1 u1 (fz2 : 0 ≤ z2 ∧ z2 ≤ 152) => ?_)
  have F3 := F0.then (by decide +kernel) u1
  refine wk_i ?_
  refine wi_ireturn (nx := 16) (r1 := 0) (r2 := 0) (r3 := 0) rfl rfl ?_
  exact k h1 z2 g1 F3 (by omega)
-- method 88: Bank.reportByte(I)I
set_option maxRecDepth 100000 in
set_option maxHeartbeats 100000000 in
theorem ct_88_0 {L : Nat} {xs : Nat → Int32} {d b c : Nat} {h : hp} {cr : Nat → Nat → Option Nat} {Q : hp_Q} (hcr : CR cr) (hr : 1 ≤ b ∧ 6 ≤ c)  (g : GI h) (a0 : Int) (q0_ : -2147483648 ≤ a0 ∧ a0 ≤ 2147483647)  (k : ∀ (z0 : Int), (-128 ≤ z0 ∧ z0 ≤ 127) → Q (.inl (some (vi z0))) (hp_w h cr) b c) (kx2 : Q (.inr 2) (hp_w h cr) (b - 1) (c - 6)) : wp (md_xa (L, xs)) d 88 (0, [(0, .ref 0), (1, vi a0)], [], hp_w h cr, b, c) Q := by
  have F0 : FR [] h h := FR.refl
  refine wi_iload_n (i := 1) (e := a0) (nx := 1) (r1 := 0) (r2 := 0) (r3 := 0) rfl rfl ?_
  refine wi_if (cd := .lt) (nx := 4) (r1 := 15) (r2 := 0) (r3 := 0) rfl (by omega) (fun (q1 : a0 < 0) => ?_) (fun (q1 : ¬ (a0 < 0)) => ?_)
  ·
    refine wr_throw (Ex := 2) (nx := 18) (r1 := 2) (r2 := 0) (r3 := 1) rfl (by decide) rfl hr (by decide) ?_
    exact kx2
  ·
    refine wi_iload_n (i := 1) (e := a0) (nx := 5) (r1 := 0) (r2 := 0) (r3 := 0) rfl rfl ?_
    refine wi_aload_n (i := 0) (x := 0) (nx := 6) (r1 := 0) (r2 := 0) (r3 := 0) rfl rfl ?_
    refine wr_gr (k0 := 0) (x := 208) (nx := 9) (r1 := 0) (r2 := 9) (r3 := 0) rfl rfl (by decide) rfl ⟨rfl, rfl⟩ rfl ?_
    have b2 := gi_b (lo := 0) (hi := 152) g 208 1 rfl
    refine wr_gi0 (k0 := 208) (x := h 208 1) (nx := 12) (r1 := 10) (r2 := 1) (r3 := 0) rfl rfl (by decide) rfl ⟨rfl, rfl⟩ rfl rfl ?_
    refine wi_icmp (cd := .lt) (nx := 15) (r1 := 26) (r2 := 0) (r3 := 0) rfl (by omega) (by omega) (fun (q3 : a0 < (h 208 1)) => ?_) (fun (q3 : ¬ (a0 < (h 208 1))) => ?_)
    ·
      refine wi_aload_n (i := 0) (x := 0) (nx := 27) (r1 := 0) (r2 := 0) (r3 := 0) rfl rfl ?_
      refine wr_gr (k0 := 0) (x := 208) (nx := 30) (r1 := 0) (r2 := 9) (r3 := 0) rfl rfl (by decide) rfl ⟨rfl, rfl⟩ rfl ?_
      refine wr_gr (k0 := 208) (x := 209) (nx := 33) (r1 := 10) (r2 := 0) (r3 := 0) rfl rfl (by decide) rfl ⟨rfl, rfl⟩ rfl ?_
      refine wi_iload_n (i := 1) (e := a0) (nx := 34) (r1 := 0) (r2 := 0) (r3 := 0) rfl rfl ?_
      obtain ⟨i4, ei4⟩ : ∃ q : Nat, a0 = (q : Int) := ⟨(a0).toNat, by omega⟩
      have b5 := gi_b (lo := -128) (hi := 127) g 209 i4 rfl
      refine wr_ba (k0 := 209) (a := a0) (f := i4) (x := h 209 i4) (nx := 35) (r1 := 0) (r2 := 0) (r3 := 0) rfl (by decide) rfl (by decide) (by omega) (by omega) (by decide) rfl ?_
      refine wi_ireturn (nx := 36) (r1 := 0) (r2 := 0) (r3 := 0) rfl rfl ?_
      exact k (h 209 i4) (by omega)
    ·
      refine wr_throw (Ex := 2) (nx := 18) (r1 := 2) (r2 := 0) (r3 := 1) rfl (by decide) rfl hr (by decide) ?_
      exact kx2
-- method 114: Setup.copyFrom(LPaintBank$Setup;)V
set_option maxRecDepth 100000 in
set_option maxHeartbeats 100000000 in
theorem ct_114_3_210 {L : Nat} {xs : Nat → Int32} {d b c : Nat} {h : hp} {cr : Nat → Nat → Option Nat} {Q : hp_Q} (hcr : CR cr)  (g : GI h)    (k : ∀ (h2 : hp) , GI h2 → FR [(4, 4, none), (5, 5, none), (6, 6, none), (7, 7, none), (8, 8, none), (9, 9, none), (3, 3, some (0, 0)), (3, 3, some (1, 1)), (3, 3, some (2, 2)), (3, 3, some (3, 3)), (3, 3, some (4, 4)), (3, 3, some (5, 5)), (3, 3, some (6, 6)), (3, 3, some (7, 7)), (3, 3, some (8, 8)), (3, 3, some (9, 9))] h h2 → (CPs h h2 3 210) → Q (.inl none) (hp_w h2 cr) b c) : wp (md_xa (L, xs)) d 114 (0, [(0, .ref 3), (1, .ref 210)], [], hp_w h cr, b, c) Q := by
  have F0 : FR [(4, 4, none), (5, 5, none), (6, 6, none), (7, 7, none), (8, 8, none), (9, 9, none), (3, 3, some (0, 0)), (3, 3, some (1, 1)), (3, 3, some (2, 2)), (3, 3, some (3, 3)), (3, 3, some (4, 4)), (3, 3, some (5, 5)), (3, 3, some (6, 6)), (3, 3, some (7, 7)), (3, 3, some (8, 8)), (3, 3, some (9, 9))] h h := FR.refl
  refine wi_aload_n (i := 0) (x := 3) (nx := 1) (r1 := 0) (r2 := 0) (r3 := 0) rfl rfl ?_
  refine wi_aload_n (i := 1) (x := 210) (nx := 2) (r1 := 0) (r2 := 0) (r3 := 0) rfl rfl ?_
  have b1 := gi_b (lo := 0) (hi := 5) g 210 0 rfl
  refine wr_gi0 (k0 := 210) (x := h 210 0) (nx := 5) (r1 := 2) (r2 := 0) (r3 := 0) rfl rfl (by decide) rfl ⟨rfl, rfl⟩ rfl rfl ?_
  refine wr_pf0 (k0 := 3) (x := h 210 0) (bl := 0) (bh := 5) (nx := 8) (r1 := 2) (r2 := 0) (r3 := 0) rfl (by decide) rfl ⟨rfl, rfl⟩ rfl rfl g rfl (by omega) (fun h2 g2 w2 u2 => ?_)
  have F3 := F0.then rfl u2
  refine wi_aload_n (i := 0) (x := 3) (nx := 9) (r1 := 0) (r2 := 0) (r3 := 0) rfl rfl ?_
  refine wi_aload_n (i := 1) (x := 210) (nx := 10) (r1 := 0) (r2 := 0) (r3 := 0) rfl rfl ?_
  have b4 := gi_b (lo := 0) (hi := 4) g 210 1 rfl
  refine wr_gi0 (k0 := 210) (x := h 210 1) (nx := 13) (r1 := 2) (r2 := 1) (r3 := 0) rfl rfl (by decide) rfl ⟨rfl, rfl⟩ rfl (u2 210 1 rfl) ?_
  refine wr_pf0 (k0 := 3) (x := h 210 1) (bl := 0) (bh := 4) (nx := 16) (r1 := 2) (r2 := 1) (r3 := 0) rfl (by decide) rfl ⟨rfl, rfl⟩ rfl rfl g2 rfl (by omega) (fun h5 g5 w5 u5 => ?_)
  have F6 := F3.then rfl u5
  refine wi_aload_n (i := 0) (x := 3) (nx := 17) (r1 := 0) (r2 := 0) (r3 := 0) rfl rfl ?_
  refine wi_aload_n (i := 1) (x := 210) (nx := 18) (r1 := 0) (r2 := 0) (r3 := 0) rfl rfl ?_
  have b7 := gi_b (lo := 0) (hi := 12) g 210 2 rfl
  refine wr_gi0 (k0 := 210) (x := h 210 2) (nx := 21) (r1 := 2) (r2 := 2) (r3 := 0) rfl rfl (by decide) rfl ⟨rfl, rfl⟩ rfl ((u5 210 2 rfl).trans (u2 210 2 rfl)) ?_
  refine wr_pf0 (k0 := 3) (x := h 210 2) (bl := 0) (bh := 12) (nx := 24) (r1 := 2) (r2 := 2) (r3 := 0) rfl (by decide) rfl ⟨rfl, rfl⟩ rfl rfl g5 rfl (by omega) (fun h8 g8 w8 u8 => ?_)
  have F9 := F6.then rfl u8
  refine wi_aload_n (i := 0) (x := 3) (nx := 25) (r1 := 0) (r2 := 0) (r3 := 0) rfl rfl ?_
  refine wi_aload_n (i := 1) (x := 210) (nx := 26) (r1 := 0) (r2 := 0) (r3 := 0) rfl rfl ?_
  have b10 := gi_b (lo := -2147483648) (hi := 2147483647) g 210 3 rfl
  refine wr_gi0 (k0 := 210) (x := h 210 3) (nx := 29) (r1 := 2) (r2 := 3) (r3 := 0) rfl rfl (by decide) rfl ⟨rfl, rfl⟩ rfl ((u8 210 3 rfl).trans ((u5 210 3 rfl).trans (u2 210 3 rfl))) ?_
  refine wr_pf0 (k0 := 3) (x := h 210 3) (bl := -2147483648) (bh := 2147483647) (nx := 32) (r1 := 2) (r2 := 3) (r3 := 0) rfl (by decide) rfl ⟨rfl, rfl⟩ rfl rfl g8 rfl (by omega) (fun h11 g11 w11 u11 => ?_)
  have F12 := F9.then rfl u11
  refine wi_aload_n (i := 0) (x := 3) (nx := 33) (r1 := 0) (r2 := 0) (r3 := 0) rfl rfl ?_
  refine wi_aload_n (i := 1) (x := 210) (nx := 34) (r1 := 0) (r2 := 0) (r3 := 0) rfl rfl ?_
  have b13 := gi_b (lo := -2147483648) (hi := 2147483647) g 210 4 rfl
  refine wr_gi0 (k0 := 210) (x := h 210 4) (nx := 37) (r1 := 2) (r2 := 4) (r3 := 0) rfl rfl (by decide) rfl ⟨rfl, rfl⟩ rfl ((u11 210 4 rfl).trans ((u8 210 4 rfl).trans ((u5 210 4 rfl).trans (u2 210 4 rfl)))) ?_
  refine wr_pf0 (k0 := 3) (x := h 210 4) (bl := -2147483648) (bh := 2147483647) (nx := 40) (r1 := 2) (r2 := 4) (r3 := 0) rfl (by decide) rfl ⟨rfl, rfl⟩ rfl rfl g11 rfl (by omega) (fun h14 g14 w14 u14 => ?_)
  have F15 := F12.then rfl u14
  refine wi_aload_n (i := 0) (x := 3) (nx := 41) (r1 := 0) (r2 := 0) (r3 := 0) rfl rfl ?_
  refine wi_aload_n (i := 1) (x := 210) (nx := 42) (r1 := 0) (r2 := 0) (r3 := 0) rfl rfl ?_
  have b16 := gi_b (lo := -2147483648) (hi := 2147483647) g 210 5 rfl
  refine wr_gi0 (k0 := 210) (x := h 210 5) (nx := 45) (r1 := 2) (r2 := 5) (r3 := 0) rfl rfl (by decide) rfl ⟨rfl, rfl⟩ rfl ((u14 210 5 rfl).trans ((u11 210 5 rfl).trans ((u8 210 5 rfl).trans ((u5 210 5 rfl).trans (u2 210 5 rfl))))) ?_
  refine wr_pf0 (k0 := 3) (x := h 210 5) (bl := -2147483648) (bh := 2147483647) (nx := 48) (r1 := 2) (r2 := 5) (r3 := 0) rfl (by decide) rfl ⟨rfl, rfl⟩ rfl rfl g14 rfl (by omega) (fun h17 g17 w17 u17 => ?_)
  have F18 := F15.then rfl u17
  refine wi_aload_n (i := 0) (x := 3) (nx := 49) (r1 := 0) (r2 := 0) (r3 := 0) rfl rfl ?_
  refine wi_aload_n (i := 1) (x := 210) (nx := 50) (r1 := 0) (r2 := 0) (r3 := 0) rfl rfl ?_
  have b19 := gi_b (lo := -2147483648) (hi := 2147483647) g 210 6 rfl
  refine wr_gi0 (k0 := 210) (x := h 210 6) (nx := 53) (r1 := 2) (r2 := 6) (r3 := 0) rfl rfl (by decide) rfl ⟨rfl, rfl⟩ rfl ((u17 210 6 rfl).trans ((u14 210 6 rfl).trans ((u11 210 6 rfl).trans ((u8 210 6 rfl).trans ((u5 210 6 rfl).trans (u2 210 6 rfl)))))) ?_
  refine wr_pf0 (k0 := 3) (x := h 210 6) (bl := -2147483648) (bh := 2147483647) (nx := 56) (r1 := 2) (r2 := 6) (r3 := 0) rfl (by decide) rfl ⟨rfl, rfl⟩ rfl rfl g17 rfl (by omega) (fun h20 g20 w20 u20 => ?_)
  have F21 := F18.then rfl u20
  refine wi_aload_n (i := 0) (x := 3) (nx := 57) (r1 := 0) (r2 := 0) (r3 := 0) rfl rfl ?_
  refine wi_aload_n (i := 1) (x := 210) (nx := 58) (r1 := 0) (r2 := 0) (r3 := 0) rfl rfl ?_
  have b22 := gi_b (lo := -2147483648) (hi := 2147483647) g 210 7 rfl
  refine wr_gi0 (k0 := 210) (x := h 210 7) (nx := 61) (r1 := 2) (r2 := 7) (r3 := 0) rfl rfl (by decide) rfl ⟨rfl, rfl⟩ rfl ((u20 210 7 rfl).trans ((u17 210 7 rfl).trans ((u14 210 7 rfl).trans ((u11 210 7 rfl).trans ((u8 210 7 rfl).trans ((u5 210 7 rfl).trans (u2 210 7 rfl))))))) ?_
  refine wr_pf0 (k0 := 3) (x := h 210 7) (bl := -2147483648) (bh := 2147483647) (nx := 64) (r1 := 2) (r2 := 7) (r3 := 0) rfl (by decide) rfl ⟨rfl, rfl⟩ rfl rfl g20 rfl (by omega) (fun h23 g23 w23 u23 => ?_)
  have F24 := F21.then rfl u23
  refine wi_aload_n (i := 0) (x := 3) (nx := 65) (r1 := 0) (r2 := 0) (r3 := 0) rfl rfl ?_
  refine wi_aload_n (i := 1) (x := 210) (nx := 66) (r1 := 0) (r2 := 0) (r3 := 0) rfl rfl ?_
  have b25 := gi_b (lo := -2147483648) (hi := 2147483647) g 210 8 rfl
  refine wr_gi0 (k0 := 210) (x := h 210 8) (nx := 69) (r1 := 2) (r2 := 8) (r3 := 0) rfl rfl (by decide) rfl ⟨rfl, rfl⟩ rfl ((u23 210 8 rfl).trans ((u20 210 8 rfl).trans ((u17 210 8 rfl).trans ((u14 210 8 rfl).trans ((u11 210 8 rfl).trans ((u8 210 8 rfl).trans ((u5 210 8 rfl).trans (u2 210 8 rfl)))))))) ?_
  refine wr_pf0 (k0 := 3) (x := h 210 8) (bl := -2147483648) (bh := 2147483647) (nx := 72) (r1 := 2) (r2 := 8) (r3 := 0) rfl (by decide) rfl ⟨rfl, rfl⟩ rfl rfl g23 rfl (by omega) (fun h26 g26 w26 u26 => ?_)
  have F27 := F24.then rfl u26
  refine wi_aload_n (i := 0) (x := 3) (nx := 73) (r1 := 0) (r2 := 0) (r3 := 0) rfl rfl ?_
  refine wi_aload_n (i := 1) (x := 210) (nx := 74) (r1 := 0) (r2 := 0) (r3 := 0) rfl rfl ?_
  have b28 := gi_b (lo := -2147483648) (hi := 2147483647) g 210 9 rfl
  refine wr_gi0 (k0 := 210) (x := h 210 9) (nx := 77) (r1 := 2) (r2 := 9) (r3 := 0) rfl rfl (by decide) rfl ⟨rfl, rfl⟩ rfl ((u26 210 9 rfl).trans ((u23 210 9 rfl).trans ((u20 210 9 rfl).trans ((u17 210 9 rfl).trans ((u14 210 9 rfl).trans ((u11 210 9 rfl).trans ((u8 210 9 rfl).trans ((u5 210 9 rfl).trans (u2 210 9 rfl))))))))) ?_
  refine wr_pf0 (k0 := 3) (x := h 210 9) (bl := -2147483648) (bh := 2147483647) (nx := 80) (r1 := 2) (r2 := 9) (r3 := 0) rfl (by decide) rfl ⟨rfl, rfl⟩ rfl rfl g26 rfl (by omega) (fun h29 g29 w29 u29 => ?_)
  have F30 := F27.then rfl u29
  refine wi_aload_n (i := 1) (x := 210) (nx := 81) (r1 := 0) (r2 := 0) (r3 := 0) rfl rfl ?_
  refine wr_gr (k0 := 210) (x := 211) (nx := 84) (r1 := 2) (r2 := 10) (r3 := 0) rfl rfl (by decide) rfl ⟨rfl, rfl⟩ rfl ?_
  refine wi_iconst (n := 0) (nx := 85) (r1 := 0) (r2 := 0) (r3 := 0) rfl ?_
  refine wi_aload_n (i := 0) (x := 3) (nx := 86) (r1 := 0) (r2 := 0) (r3 := 0) rfl rfl ?_
  refine wr_gr (k0 := 3) (x := 4) (nx := 89) (r1 := 2) (r2 := 10) (r3 := 0) rfl rfl (by decide) rfl ⟨rfl, rfl⟩ rfl ?_
  refine wi_iconst (n := 0) (nx := 90) (r1 := 0) (r2 := 0) (r3 := 0) rfl ?_
  refine wi_iconst (n := 5) (nx := 91) (r1 := 0) (r2 := 0) (r3 := 0) rfl ?_
  refine wr_cpyl (s0 := 211) (d0 := 4) (n0 := 5) (n1 := 5) (sp := 0) (dp := 0) (n := 5) (sl := -9223372036854775808) (sh := 9223372036854775807) (dl := -9223372036854775808) (dh := 9223372036854775807) (nx := 94) (r1 := 0) (r2 := 101) (r3 := 0) rfl rfl (of_decide_eq_true rfl) (by decide) (by decide) rfl rfl (by omega) (fun _ => rfl) (fun _ => rfl) (by omega) g29 (fun h31 g31 y31 u31 => ?_)
  have F32 := F30.then rfl u31
  refine wi_aload_n (i := 1) (x := 210) (nx := 95) (r1 := 0) (r2 := 0) (r3 := 0) rfl rfl ?_
  refine wr_gr (k0 := 210) (x := 212) (nx := 98) (r1 := 2) (r2 := 11) (r3 := 0) rfl rfl (by decide) rfl ⟨rfl, rfl⟩ rfl ?_
  refine wi_iconst (n := 0) (nx := 99) (r1 := 0) (r2 := 0) (r3 := 0) rfl ?_
  refine wi_aload_n (i := 0) (x := 3) (nx := 100) (r1 := 0) (r2 := 0) (r3 := 0) rfl rfl ?_
  refine wr_gr (k0 := 3) (x := 5) (nx := 103) (r1 := 2) (r2 := 11) (r3 := 0) rfl rfl (by decide) rfl ⟨rfl, rfl⟩ rfl ?_
  refine wi_iconst (n := 0) (nx := 104) (r1 := 0) (r2 := 0) (r3 := 0) rfl ?_
  refine wi_iconst (n := 5) (nx := 105) (r1 := 0) (r2 := 0) (r3 := 0) rfl ?_
  refine wr_cpy (s0 := 212) (d0 := 5) (n0 := 5) (n1 := 5) (sp := 0) (dp := 0) (n := 5) (sl := -2147483648) (sh := 2147483647) (dl := -2147483648) (dh := 2147483647) (nx := 108) (r1 := 0) (r2 := 101) (r3 := 0) rfl rfl (of_decide_eq_true rfl) (by decide) (by decide) rfl rfl (by omega) (fun _ => rfl) (fun _ => rfl) (by omega) g31 (fun h33 g33 y33 u33 => ?_)
  have F34 := F32.then rfl u33
  refine wi_aload_n (i := 1) (x := 210) (nx := 109) (r1 := 0) (r2 := 0) (r3 := 0) rfl rfl ?_
  refine wr_gr (k0 := 210) (x := 213) (nx := 112) (r1 := 2) (r2 := 12) (r3 := 0) rfl rfl (by decide) rfl ⟨rfl, rfl⟩ rfl ?_
  refine wi_iconst (n := 0) (nx := 113) (r1 := 0) (r2 := 0) (r3 := 0) rfl ?_
  refine wi_aload_n (i := 0) (x := 3) (nx := 114) (r1 := 0) (r2 := 0) (r3 := 0) rfl rfl ?_
  refine wr_gr (k0 := 3) (x := 6) (nx := 117) (r1 := 2) (r2 := 12) (r3 := 0) rfl rfl (by decide) rfl ⟨rfl, rfl⟩ rfl ?_
  refine wi_iconst (n := 0) (nx := 118) (r1 := 0) (r2 := 0) (r3 := 0) rfl ?_
  refine wi_iconst (n := 4) (nx := 119) (r1 := 0) (r2 := 0) (r3 := 0) rfl ?_
  refine wr_cpy (s0 := 213) (d0 := 6) (n0 := 4) (n1 := 4) (sp := 0) (dp := 0) (n := 4) (sl := -2147483648) (sh := 2147483647) (dl := -2147483648) (dh := 2147483647) (nx := 122) (r1 := 0) (r2 := 101) (r3 := 0) rfl rfl (of_decide_eq_true rfl) (by decide) (by decide) rfl rfl (by omega) (fun _ => rfl) (fun _ => rfl) (by omega) g33 (fun h35 g35 y35 u35 => ?_)
  have F36 := F34.then rfl u35
  refine wi_aload_n (i := 1) (x := 210) (nx := 123) (r1 := 0) (r2 := 0) (r3 := 0) rfl rfl ?_
  refine wr_gr (k0 := 210) (x := 214) (nx := 126) (r1 := 2) (r2 := 13) (r3 := 0) rfl rfl (by decide) rfl ⟨rfl, rfl⟩ rfl ?_
  refine wi_iconst (n := 0) (nx := 127) (r1 := 0) (r2 := 0) (r3 := 0) rfl ?_
  refine wi_aload_n (i := 0) (x := 3) (nx := 128) (r1 := 0) (r2 := 0) (r3 := 0) rfl rfl ?_
  refine wr_gr (k0 := 3) (x := 7) (nx := 131) (r1 := 2) (r2 := 13) (r3 := 0) rfl rfl (by decide) rfl ⟨rfl, rfl⟩ rfl ?_
  refine wi_iconst (n := 0) (nx := 132) (r1 := 0) (r2 := 0) (r3 := 0) rfl ?_
  refine wi_bipush (n := 12) (nx := 134) (r1 := 0) (r2 := 0) (r3 := 0) rfl (by decide) ?_
  refine wr_cpy (s0 := 214) (d0 := 7) (n0 := 12) (n1 := 12) (sp := 0) (dp := 0) (n := 12) (sl := -2147483648) (sh := 2147483647) (dl := -2147483648) (dh := 2147483647) (nx := 137) (r1 := 0) (r2 := 101) (r3 := 0) rfl rfl (of_decide_eq_true rfl) (by decide) (by decide) rfl rfl (by omega) (fun _ => rfl) (fun _ => rfl) (by omega) g35 (fun h37 g37 y37 u37 => ?_)
  have F38 := F36.then rfl u37
  refine wi_aload_n (i := 1) (x := 210) (nx := 138) (r1 := 0) (r2 := 0) (r3 := 0) rfl rfl ?_
  refine wr_gr (k0 := 210) (x := 215) (nx := 141) (r1 := 2) (r2 := 14) (r3 := 0) rfl rfl (by decide) rfl ⟨rfl, rfl⟩ rfl ?_
  refine wi_iconst (n := 0) (nx := 142) (r1 := 0) (r2 := 0) (r3 := 0) rfl ?_
  refine wi_aload_n (i := 0) (x := 3) (nx := 143) (r1 := 0) (r2 := 0) (r3 := 0) rfl rfl ?_
  refine wr_gr (k0 := 3) (x := 8) (nx := 146) (r1 := 2) (r2 := 14) (r3 := 0) rfl rfl (by decide) rfl ⟨rfl, rfl⟩ rfl ?_
  refine wi_iconst (n := 0) (nx := 147) (r1 := 0) (r2 := 0) (r3 := 0) rfl ?_
  refine wi_bipush (n := 12) (nx := 149) (r1 := 0) (r2 := 0) (r3 := 0) rfl (by decide) ?_
  refine wr_cpy (s0 := 215) (d0 := 8) (n0 := 12) (n1 := 12) (sp := 0) (dp := 0) (n := 12) (sl := -2147483648) (sh := 2147483647) (dl := -2147483648) (dh := 2147483647) (nx := 152) (r1 := 0) (r2 := 101) (r3 := 0) rfl rfl (of_decide_eq_true rfl) (by decide) (by decide) rfl rfl (by omega) (fun _ => rfl) (fun _ => rfl) (by omega) g37 (fun h39 g39 y39 u39 => ?_)
  have F40 := F38.then rfl u39
  refine wi_aload_n (i := 1) (x := 210) (nx := 153) (r1 := 0) (r2 := 0) (r3 := 0) rfl rfl ?_
  refine wr_gr (k0 := 210) (x := 216) (nx := 156) (r1 := 2) (r2 := 15) (r3 := 0) rfl rfl (by decide) rfl ⟨rfl, rfl⟩ rfl ?_
  refine wi_iconst (n := 0) (nx := 157) (r1 := 0) (r2 := 0) (r3 := 0) rfl ?_
  refine wi_aload_n (i := 0) (x := 3) (nx := 158) (r1 := 0) (r2 := 0) (r3 := 0) rfl rfl ?_
  refine wr_gr (k0 := 3) (x := 9) (nx := 161) (r1 := 2) (r2 := 15) (r3 := 0) rfl rfl (by decide) rfl ⟨rfl, rfl⟩ rfl ?_
  refine wi_iconst (n := 0) (nx := 162) (r1 := 0) (r2 := 0) (r3 := 0) rfl ?_
  refine wi_bipush (n := 12) (nx := 164) (r1 := 0) (r2 := 0) (r3 := 0) rfl (by decide) ?_
  refine wr_cpy (s0 := 216) (d0 := 9) (n0 := 12) (n1 := 12) (sp := 0) (dp := 0) (n := 12) (sl := -2147483648) (sh := 2147483647) (dl := -2147483648) (dh := 2147483647) (nx := 167) (r1 := 0) (r2 := 101) (r3 := 0) rfl rfl (of_decide_eq_true rfl) (by decide) (by decide) rfl rfl (by omega) (fun _ => rfl) (fun _ => rfl) (by omega) g39 (fun h41 g41 y41 u41 => ?_)
  have F42 := F40.then rfl u41
  refine wi_return (nx := 168) (r1 := 0) (r2 := 0) (r3 := 0) rfl rfl ?_
  exact k h41 g41 F42 ⟨sv_ten (P := fun i => h41 3 i = h 210 i) ((u41 3 0 rfl).trans ((u39 3 0 rfl).trans ((u37 3 0 rfl).trans ((u35 3 0 rfl).trans ((u33 3 0 rfl).trans ((u31 3 0 rfl).trans ((u29 3 0 rfl).trans ((u26 3 0 rfl).trans ((u23 3 0 rfl).trans ((u20 3 0 rfl).trans ((u17 3 0 rfl).trans ((u14 3 0 rfl).trans ((u11 3 0 rfl).trans ((u8 3 0 rfl).trans ((u5 3 0 rfl).trans w2))))))))))))))) ((u41 3 1 rfl).trans ((u39 3 1 rfl).trans ((u37 3 1 rfl).trans ((u35 3 1 rfl).trans ((u33 3 1 rfl).trans ((u31 3 1 rfl).trans ((u29 3 1 rfl).trans ((u26 3 1 rfl).trans ((u23 3 1 rfl).trans ((u20 3 1 rfl).trans ((u17 3 1 rfl).trans ((u14 3 1 rfl).trans ((u11 3 1 rfl).trans ((u8 3 1 rfl).trans w5)))))))))))))) ((u41 3 2 rfl).trans ((u39 3 2 rfl).trans ((u37 3 2 rfl).trans ((u35 3 2 rfl).trans ((u33 3 2 rfl).trans ((u31 3 2 rfl).trans ((u29 3 2 rfl).trans ((u26 3 2 rfl).trans ((u23 3 2 rfl).trans ((u20 3 2 rfl).trans ((u17 3 2 rfl).trans ((u14 3 2 rfl).trans ((u11 3 2 rfl).trans w8))))))))))))) ((u41 3 3 rfl).trans ((u39 3 3 rfl).trans ((u37 3 3 rfl).trans ((u35 3 3 rfl).trans ((u33 3 3 rfl).trans ((u31 3 3 rfl).trans ((u29 3 3 rfl).trans ((u26 3 3 rfl).trans ((u23 3 3 rfl).trans ((u20 3 3 rfl).trans ((u17 3 3 rfl).trans ((u14 3 3 rfl).trans w11)))))))))))) ((u41 3 4 rfl).trans ((u39 3 4 rfl).trans ((u37 3 4 rfl).trans ((u35 3 4 rfl).trans ((u33 3 4 rfl).trans ((u31 3 4 rfl).trans ((u29 3 4 rfl).trans ((u26 3 4 rfl).trans ((u23 3 4 rfl).trans ((u20 3 4 rfl).trans ((u17 3 4 rfl).trans w14))))))))))) ((u41 3 5 rfl).trans ((u39 3 5 rfl).trans ((u37 3 5 rfl).trans ((u35 3 5 rfl).trans ((u33 3 5 rfl).trans ((u31 3 5 rfl).trans ((u29 3 5 rfl).trans ((u26 3 5 rfl).trans ((u23 3 5 rfl).trans ((u20 3 5 rfl).trans w17)))))))))) ((u41 3 6 rfl).trans ((u39 3 6 rfl).trans ((u37 3 6 rfl).trans ((u35 3 6 rfl).trans ((u33 3 6 rfl).trans ((u31 3 6 rfl).trans ((u29 3 6 rfl).trans ((u26 3 6 rfl).trans ((u23 3 6 rfl).trans w20))))))))) ((u41 3 7 rfl).trans ((u39 3 7 rfl).trans ((u37 3 7 rfl).trans ((u35 3 7 rfl).trans ((u33 3 7 rfl).trans ((u31 3 7 rfl).trans ((u29 3 7 rfl).trans ((u26 3 7 rfl).trans w23)))))))) ((u41 3 8 rfl).trans ((u39 3 8 rfl).trans ((u37 3 8 rfl).trans ((u35 3 8 rfl).trans ((u33 3 8 rfl).trans ((u31 3 8 rfl).trans ((u29 3 8 rfl).trans w26))))))) ((u41 3 9 rfl).trans ((u39 3 9 rfl).trans ((u37 3 9 rfl).trans ((u35 3 9 rfl).trans ((u33 3 9 rfl).trans ((u31 3 9 rfl).trans w29)))))), (fun q e => (((u41 5 q (fn_a (by omega) fn_0)).trans ((u39 5 q (fn_a (by omega) fn_0)).trans ((u37 5 q (fn_a (by omega) fn_0)).trans (u35 5 q (fn_a (by omega) fn_0))))).trans ((cy_0 y33 (by omega)).trans ((u31 212 q (fn_a (by omega) fn_0)).trans ((u29 212 q (fn_a (by omega) fn_0)).trans ((u26 212 q (fn_a (by omega) fn_0)).trans ((u23 212 q (fn_a (by omega) fn_0)).trans ((u20 212 q (fn_a (by omega) fn_0)).trans ((u17 212 q (fn_a (by omega) fn_0)).trans ((u14 212 q (fn_a (by omega) fn_0)).trans ((u11 212 q (fn_a (by omega) fn_0)).trans ((u8 212 q (fn_a (by omega) fn_0)).trans ((u5 212 q (fn_a (by omega) fn_0)).trans (u2 212 q (fn_a (by omega) fn_0))))))))))))))), (fun q e => (((u41 6 q (fn_a (by omega) fn_0)).trans ((u39 6 q (fn_a (by omega) fn_0)).trans (u37 6 q (fn_a (by omega) fn_0)))).trans ((cy_0 y35 (by omega)).trans ((u33 213 q (fn_a (by omega) fn_0)).trans ((u31 213 q (fn_a (by omega) fn_0)).trans ((u29 213 q (fn_a (by omega) fn_0)).trans ((u26 213 q (fn_a (by omega) fn_0)).trans ((u23 213 q (fn_a (by omega) fn_0)).trans ((u20 213 q (fn_a (by omega) fn_0)).trans ((u17 213 q (fn_a (by omega) fn_0)).trans ((u14 213 q (fn_a (by omega) fn_0)).trans ((u11 213 q (fn_a (by omega) fn_0)).trans ((u8 213 q (fn_a (by omega) fn_0)).trans ((u5 213 q (fn_a (by omega) fn_0)).trans (u2 213 q (fn_a (by omega) fn_0)))))))))))))))), (fun q e => ((u41 8 q (fn_a (by omega) fn_0)).trans ((cy_0 y39 (by omega)).trans ((u37 215 q (fn_a (by omega) fn_0)).trans ((u35 215 q (fn_a (by omega) fn_0)).trans ((u33 215 q (fn_a (by omega) fn_0)).trans ((u31 215 q (fn_a (by omega) fn_0)).trans ((u29 215 q (fn_a (by omega) fn_0)).trans ((u26 215 q (fn_a (by omega) fn_0)).trans ((u23 215 q (fn_a (by omega) fn_0)).trans ((u20 215 q (fn_a (by omega) fn_0)).trans ((u17 215 q (fn_a (by omega) fn_0)).trans ((u14 215 q (fn_a (by omega) fn_0)).trans ((u11 215 q (fn_a (by omega) fn_0)).trans ((u8 215 q (fn_a (by omega) fn_0)).trans ((u5 215 q (fn_a (by omega) fn_0)).trans (u2 215 q (fn_a (by omega) fn_0))))))))))))))))))⟩
-- method 132: Line.copyFrom(LPaintBank$Line;)V
set_option maxRecDepth 100000 in
set_option maxHeartbeats 100000000 in
theorem ct_132_18_217 {L : Nat} {xs : Nat → Int32} {d b c : Nat} {h : hp} {cr : Nat → Nat → Option Nat} {Q : hp_Q} (hcr : CR cr)  (g : GI h)    (k : ∀ (h2 : hp) , GI h2 → FR [(18, 36, none)] h h2 → Q (.inl none) (hp_w h2 cr) b c) : wp (md_xa (L, xs)) (d + 1) 132 (0, [(0, .ref 18), (1, .ref 217)], [], hp_w h cr, b, c) Q := by
  have F0 : FR [(18, 36, none)] h h := FR.refl
  refine wi_aload_n (i := 1) (x := 217) (nx := 1) (r1 := 0) (r2 := 0) (r3 := 0) rfl rfl ?_
  refine wr_gr (k0 := 217) (x := 218) (nx := 4) (r1 := 4) (r2 := 1) (r3 := 0) rfl rfl (by decide) rfl ⟨rfl, rfl⟩ rfl ?_
  refine wi_iconst (n := 0) (nx := 5) (r1 := 0) (r2 := 0) (r3 := 0) rfl ?_
  refine wi_aload_n (i := 0) (x := 18) (nx := 6) (r1 := 0) (r2 := 0) (r3 := 0) rfl rfl ?_
  refine wr_gr (k0 := 18) (x := 19) (nx := 9) (r1 := 4) (r2 := 1) (r3 := 0) rfl rfl (by decide) rfl ⟨rfl, rfl⟩ rfl ?_
  refine wi_iconst (n := 0) (nx := 10) (r1 := 0) (r2 := 0) (r3 := 0) rfl ?_
  refine wi_bipush (n := 12) (nx := 12) (r1 := 0) (r2 := 0) (r3 := 0) rfl (by decide) ?_
  refine wr_cpy (s0 := 218) (d0 := 19) (n0 := 12) (n1 := 12) (sp := 0) (dp := 0) (n := 12) (sl := -2147483648) (sh := 2147483647) (dl := -2147483648) (dh := 2147483647) (nx := 15) (r1 := 0) (r2 := 101) (r3 := 0) rfl rfl (of_decide_eq_true rfl) (by decide) (by decide) rfl rfl (by omega) (fun _ => rfl) (fun _ => rfl) (by omega) g (fun h1 g1 y1 u1 => ?_)
  have F2 := F0.then rfl u1
  refine wi_aload_n (i := 1) (x := 217) (nx := 16) (r1 := 0) (r2 := 0) (r3 := 0) rfl rfl ?_
  refine wr_gr (k0 := 217) (x := 219) (nx := 19) (r1 := 4) (r2 := 2) (r3 := 0) rfl rfl (by decide) rfl ⟨rfl, rfl⟩ rfl ?_
  refine wi_iconst (n := 0) (nx := 20) (r1 := 0) (r2 := 0) (r3 := 0) rfl ?_
  refine wi_aload_n (i := 0) (x := 18) (nx := 21) (r1 := 0) (r2 := 0) (r3 := 0) rfl rfl ?_
  refine wr_gr (k0 := 18) (x := 20) (nx := 24) (r1 := 4) (r2 := 2) (r3 := 0) rfl rfl (by decide) rfl ⟨rfl, rfl⟩ rfl ?_
  refine wi_iconst (n := 0) (nx := 25) (r1 := 0) (r2 := 0) (r3 := 0) rfl ?_
  refine wi_bipush (n := 12) (nx := 27) (r1 := 0) (r2 := 0) (r3 := 0) rfl (by decide) ?_
  refine wr_cpy (s0 := 219) (d0 := 20) (n0 := 12) (n1 := 12) (sp := 0) (dp := 0) (n := 12) (sl := -2147483648) (sh := 2147483647) (dl := -2147483648) (dh := 2147483647) (nx := 30) (r1 := 0) (r2 := 101) (r3 := 0) rfl rfl (of_decide_eq_true rfl) (by decide) (by decide) rfl rfl (by omega) (fun _ => rfl) (fun _ => rfl) (by omega) g1 (fun h3 g3 y3 u3 => ?_)
  have F4 := F2.then rfl u3
  refine wi_iconst (n := 0) (nx := 31) (r1 := 0) (r2 := 0) (r3 := 0) rfl ?_
  refine wi_istore_n (i := 2) (e := 0) (lo2 := [(2, vi 0), (0, .ref 18), (1, .ref 217)]) (nx := 32) (r1 := 0) (r2 := 0) (r3 := 0) rfl rfl ?_
  refine wp.lo (lo := [(0, .ref 18), (1, .ref 217), (2, vi 0)]) ⟨rfl, rfl, rfl, trivial⟩ rfl ?_
  refine wl_1 (fun x5 h6 => GI h6 ∧ FR [(18, 36, none)] h h6 ∧ FR [(29, 36, none)] h3 h6 ∧ ((0 ≤ x5 ∧ x5 ≤ 4))) (fun x5 h6 => ((4 : Int) + 1 - x5).toNat) (fun x5 h6 => (32, [(0, .ref 18), (1, .ref 217), (2, vi x5)], [], hp_w h6 cr, b, c)) ?_ 0 h3 ⟨g3, F4, FR.refl, (show (0 ≤ 0 ∧ 0 ≤ 4) by omega)⟩
  intro x5 h6 ⟨g6, F7, u6, f6⟩ I6
  refine wi_iload_n (i := 2) (e := x5) (nx := 33) (r1 := 0) (r2 := 0) (r3 := 0) rfl rfl ?_
  refine wi_iconst (n := 4) (nx := 34) (r1 := 0) (r2 := 0) (r3 := 0) rfl ?_
  refine wi_icmp (cd := .ge) (nx := 37) (r1 := 58) (r2 := 0) (r3 := 0) rfl (by omega) (by omega) (fun (q8 : 4 ≤ x5) => ?_) (fun (q8 : ¬ (4 ≤ x5)) => ?_)
  ·
    refine wi_aload_n (i := 0) (x := 18) (nx := 59) (r1 := 0) (r2 := 0) (r3 := 0) rfl rfl ?_
    refine wr_gr (k0 := 18) (x := 22) (nx := 62) (r1 := 4) (r2 := 4) (r3 := 0) rfl rfl (by decide) rfl ⟨rfl, rfl⟩ rfl ?_
    refine wi_aload_n (i := 1) (x := 217) (nx := 63) (r1 := 0) (r2 := 0) (r3 := 0) rfl rfl ?_
    refine wr_gr (k0 := 217) (x := 221) (nx := 66) (r1 := 4) (r2 := 4) (r3 := 0) rfl rfl (by decide) rfl ⟨rfl, rfl⟩ rfl ?_
    refine wr_V (k0 := 22) (rest := []) (as := [.ref 22, .ref 221]) (nx := 69) (r1 := 155) (r2 := 1) (r3 := 5) rfl rfl rfl (of_decide_eq_true rfl) rfl rfl (by decide) rfl rfl (of_decide_eq_true rfl) (of_decide_eq_true rfl) ?_
    refine ct_155_R_R hcr rw_22 rw_221 g6    (fun h9 g9 u9 => ?_)
    have F10 := F7.then rfl u9
    refine wk_n ?_
    refine wi_aload_n (i := 0) (x := 18) (nx := 70) (r1 := 0) (r2 := 0) (r3 := 0) rfl rfl ?_
    refine wr_gr (k0 := 18) (x := 24) (nx := 73) (r1 := 4) (r2 := 5) (r3 := 0) rfl rfl (by decide) rfl ⟨rfl, rfl⟩ rfl ?_
    refine wi_aload_n (i := 1) (x := 217) (nx := 74) (r1 := 0) (r2 := 0) (r3 := 0) rfl rfl ?_
    refine wr_gr (k0 := 217) (x := 223) (nx := 77) (r1 := 4) (r2 := 5) (r3 := 0) rfl rfl (by decide) rfl ⟨rfl, rfl⟩ rfl ?_
    refine wr_V (k0 := 24) (rest := []) (as := [.ref 24, .ref 223]) (nx := 80) (r1 := 155) (r2 := 1) (r3 := 5) rfl rfl rfl (of_decide_eq_true rfl) rfl rfl (by decide) rfl rfl (of_decide_eq_true rfl) (of_decide_eq_true rfl) ?_
    refine ct_155_R_R hcr rw_24 rw_223 g9    (fun h11 g11 u11 => ?_)
    have F12 := F10.then rfl u11
    refine wk_n ?_
    refine wi_aload_n (i := 0) (x := 18) (nx := 81) (r1 := 0) (r2 := 0) (r3 := 0) rfl rfl ?_
    refine wr_gr (k0 := 18) (x := 26) (nx := 84) (r1 := 4) (r2 := 6) (r3 := 0) rfl rfl (by decide) rfl ⟨rfl, rfl⟩ rfl ?_
    refine wi_aload_n (i := 1) (x := 217) (nx := 85) (r1 := 0) (r2 := 0) (r3 := 0) rfl rfl ?_
    refine wr_gr (k0 := 217) (x := 225) (nx := 88) (r1 := 4) (r2 := 6) (r3 := 0) rfl rfl (by decide) rfl ⟨rfl, rfl⟩ rfl ?_
    refine wr_V (k0 := 26) (rest := []) (as := [.ref 26, .ref 225]) (nx := 91) (r1 := 155) (r2 := 1) (r3 := 5) rfl rfl rfl (of_decide_eq_true rfl) rfl rfl (by decide) rfl rfl (of_decide_eq_true rfl) (of_decide_eq_true rfl) ?_
    refine ct_155_R_R hcr rw_26 rw_225 g11    (fun h13 g13 u13 => ?_)
    have F14 := F12.then rfl u13
    refine wk_n ?_
    refine wi_aload_n (i := 0) (x := 18) (nx := 92) (r1 := 0) (r2 := 0) (r3 := 0) rfl rfl ?_
    refine wi_aload_n (i := 1) (x := 217) (nx := 93) (r1 := 0) (r2 := 0) (r3 := 0) rfl rfl ?_
    have b15 := gi_b (lo := 0) (hi := 12) g 217 7 rfl
    refine wr_gi0 (k0 := 217) (x := h 217 7) (nx := 96) (r1 := 4) (r2 := 7) (r3 := 0) rfl rfl (by decide) rfl ⟨rfl, rfl⟩ rfl ((u13 217 7 rfl).trans ((u11 217 7 rfl).trans ((u9 217 7 rfl).trans ((u6 217 7 rfl).trans ((u3 217 7 rfl).trans (u1 217 7 rfl)))))) ?_
    refine wr_pf0 (k0 := 18) (x := h 217 7) (bl := 0) (bh := 12) (nx := 99) (r1 := 4) (r2 := 7) (r3 := 0) rfl (by decide) rfl ⟨rfl, rfl⟩ rfl rfl g13 rfl (by omega) (fun h16 g16 w16 u16 => ?_)
    have F17 := F14.then rfl u16
    refine wi_aload_n (i := 0) (x := 18) (nx := 100) (r1 := 0) (r2 := 0) (r3 := 0) rfl rfl ?_
    refine wi_aload_n (i := 1) (x := 217) (nx := 101) (r1 := 0) (r2 := 0) (r3 := 0) rfl rfl ?_
    have b18 := gi_b (lo := -2147483648) (hi := 2147483647) g 217 8 rfl
    refine wr_gi0 (k0 := 217) (x := h 217 8) (nx := 104) (r1 := 4) (r2 := 8) (r3 := 0) rfl rfl (by decide) rfl ⟨rfl, rfl⟩ rfl ((u16 217 8 rfl).trans ((u13 217 8 rfl).trans ((u11 217 8 rfl).trans ((u9 217 8 rfl).trans ((u6 217 8 rfl).trans ((u3 217 8 rfl).trans (u1 217 8 rfl))))))) ?_
    refine wr_pf0 (k0 := 18) (x := h 217 8) (bl := -2147483648) (bh := 2147483647) (nx := 107) (r1 := 4) (r2 := 8) (r3 := 0) rfl (by decide) rfl ⟨rfl, rfl⟩ rfl rfl g16 rfl (by omega) (fun h19 g19 w19 u19 => ?_)
    have F20 := F17.then rfl u19
    refine wi_aload_n (i := 0) (x := 18) (nx := 108) (r1 := 0) (r2 := 0) (r3 := 0) rfl rfl ?_
    refine wi_aload_n (i := 1) (x := 217) (nx := 109) (r1 := 0) (r2 := 0) (r3 := 0) rfl rfl ?_
    have b21 := gi_b (lo := -2147483648) (hi := 2147483647) g 217 9 rfl
    refine wr_gi0 (k0 := 217) (x := h 217 9) (nx := 112) (r1 := 4) (r2 := 9) (r3 := 0) rfl rfl (by decide) rfl ⟨rfl, rfl⟩ rfl ((u19 217 9 rfl).trans ((u16 217 9 rfl).trans ((u13 217 9 rfl).trans ((u11 217 9 rfl).trans ((u9 217 9 rfl).trans ((u6 217 9 rfl).trans ((u3 217 9 rfl).trans (u1 217 9 rfl)))))))) ?_
    refine wr_pf0 (k0 := 18) (x := h 217 9) (bl := -2147483648) (bh := 2147483647) (nx := 115) (r1 := 4) (r2 := 9) (r3 := 0) rfl (by decide) rfl ⟨rfl, rfl⟩ rfl rfl g19 rfl (by omega) (fun h22 g22 w22 u22 => ?_)
    have F23 := F20.then rfl u22
    refine wi_aload_n (i := 0) (x := 18) (nx := 116) (r1 := 0) (r2 := 0) (r3 := 0) rfl rfl ?_
    refine wi_aload_n (i := 1) (x := 217) (nx := 117) (r1 := 0) (r2 := 0) (r3 := 0) rfl rfl ?_
    have b24 := gi_b (lo := -2147483648) (hi := 2147483647) g 217 10 rfl
    refine wr_gi0 (k0 := 217) (x := h 217 10) (nx := 120) (r1 := 4) (r2 := 10) (r3 := 0) rfl rfl (by decide) rfl ⟨rfl, rfl⟩ rfl ((u22 217 10 rfl).trans ((u19 217 10 rfl).trans ((u16 217 10 rfl).trans ((u13 217 10 rfl).trans ((u11 217 10 rfl).trans ((u9 217 10 rfl).trans ((u6 217 10 rfl).trans ((u3 217 10 rfl).trans (u1 217 10 rfl))))))))) ?_
    refine wr_pf0 (k0 := 18) (x := h 217 10) (bl := -2147483648) (bh := 2147483647) (nx := 123) (r1 := 4) (r2 := 10) (r3 := 0) rfl (by decide) rfl ⟨rfl, rfl⟩ rfl rfl g22 rfl (by omega) (fun h25 g25 w25 u25 => ?_)
    have F26 := F23.then rfl u25
    refine wi_aload_n (i := 0) (x := 18) (nx := 124) (r1 := 0) (r2 := 0) (r3 := 0) rfl rfl ?_
    refine wi_aload_n (i := 1) (x := 217) (nx := 125) (r1 := 0) (r2 := 0) (r3 := 0) rfl rfl ?_
    have b27 := gi_b (lo := -2147483648) (hi := 2147483647) g 217 11 rfl
    refine wr_gi0 (k0 := 217) (x := h 217 11) (nx := 128) (r1 := 4) (r2 := 11) (r3 := 0) rfl rfl (by decide) rfl ⟨rfl, rfl⟩ rfl ((u25 217 11 rfl).trans ((u22 217 11 rfl).trans ((u19 217 11 rfl).trans ((u16 217 11 rfl).trans ((u13 217 11 rfl).trans ((u11 217 11 rfl).trans ((u9 217 11 rfl).trans ((u6 217 11 rfl).trans ((u3 217 11 rfl).trans (u1 217 11 rfl)))))))))) ?_
    refine wr_pf0 (k0 := 18) (x := h 217 11) (bl := -2147483648) (bh := 2147483647) (nx := 131) (r1 := 4) (r2 := 11) (r3 := 0) rfl (by decide) rfl ⟨rfl, rfl⟩ rfl rfl g25 rfl (by omega) (fun h28 g28 w28 u28 => ?_)
    have F29 := F26.then rfl u28
    refine wi_aload_n (i := 0) (x := 18) (nx := 132) (r1 := 0) (r2 := 0) (r3 := 0) rfl rfl ?_
    refine wi_aload_n (i := 1) (x := 217) (nx := 133) (r1 := 0) (r2 := 0) (r3 := 0) rfl rfl ?_
    have b30 := gi_b (lo := -2147483648) (hi := 2147483647) g 217 12 rfl
    refine wr_gi0 (k0 := 217) (x := h 217 12) (nx := 136) (r1 := 4) (r2 := 12) (r3 := 0) rfl rfl (by decide) rfl ⟨rfl, rfl⟩ rfl ((u28 217 12 rfl).trans ((u25 217 12 rfl).trans ((u22 217 12 rfl).trans ((u19 217 12 rfl).trans ((u16 217 12 rfl).trans ((u13 217 12 rfl).trans ((u11 217 12 rfl).trans ((u9 217 12 rfl).trans ((u6 217 12 rfl).trans ((u3 217 12 rfl).trans (u1 217 12 rfl))))))))))) ?_
    refine wr_pf0 (k0 := 18) (x := h 217 12) (bl := -2147483648) (bh := 2147483647) (nx := 139) (r1 := 4) (r2 := 12) (r3 := 0) rfl (by decide) rfl ⟨rfl, rfl⟩ rfl rfl g28 rfl (by omega) (fun h31 g31 w31 u31 => ?_)
    have F32 := F29.then rfl u31
    refine wi_aload_n (i := 0) (x := 18) (nx := 140) (r1 := 0) (r2 := 0) (r3 := 0) rfl rfl ?_
    refine wi_aload_n (i := 1) (x := 217) (nx := 141) (r1 := 0) (r2 := 0) (r3 := 0) rfl rfl ?_
    have b33 := gi_b (lo := -2147483648) (hi := 2147483647) g 217 13 rfl
    refine wr_gi0 (k0 := 217) (x := h 217 13) (nx := 144) (r1 := 4) (r2 := 13) (r3 := 0) rfl rfl (by decide) rfl ⟨rfl, rfl⟩ rfl ((u31 217 13 rfl).trans ((u28 217 13 rfl).trans ((u25 217 13 rfl).trans ((u22 217 13 rfl).trans ((u19 217 13 rfl).trans ((u16 217 13 rfl).trans ((u13 217 13 rfl).trans ((u11 217 13 rfl).trans ((u9 217 13 rfl).trans ((u6 217 13 rfl).trans ((u3 217 13 rfl).trans (u1 217 13 rfl)))))))))))) ?_
    refine wr_pf0 (k0 := 18) (x := h 217 13) (bl := -2147483648) (bh := 2147483647) (nx := 147) (r1 := 4) (r2 := 13) (r3 := 0) rfl (by decide) rfl ⟨rfl, rfl⟩ rfl rfl g31 rfl (by omega) (fun h34 g34 w34 u34 => ?_)
    have F35 := F32.then rfl u34
    refine wi_aload_n (i := 1) (x := 217) (nx := 148) (r1 := 0) (r2 := 0) (r3 := 0) rfl rfl ?_
    refine wr_gr (k0 := 217) (x := 227) (nx := 151) (r1 := 4) (r2 := 14) (r3 := 0) rfl rfl (by decide) rfl ⟨rfl, rfl⟩ rfl ?_
    refine wi_iconst (n := 0) (nx := 152) (r1 := 0) (r2 := 0) (r3 := 0) rfl ?_
    refine wi_aload_n (i := 0) (x := 18) (nx := 153) (r1 := 0) (r2 := 0) (r3 := 0) rfl rfl ?_
    refine wr_gr (k0 := 18) (x := 28) (nx := 156) (r1 := 4) (r2 := 14) (r3 := 0) rfl rfl (by decide) rfl ⟨rfl, rfl⟩ rfl ?_
    refine wi_iconst (n := 0) (nx := 157) (r1 := 0) (r2 := 0) (r3 := 0) rfl ?_
    refine wi_aload_n (i := 0) (x := 18) (nx := 158) (r1 := 0) (r2 := 0) (r3 := 0) rfl rfl ?_
    refine wr_gr (k0 := 18) (x := 28) (nx := 161) (r1 := 4) (r2 := 14) (r3 := 0) rfl rfl (by decide) rfl ⟨rfl, rfl⟩ rfl ?_
    refine wr_al (k0 := 28) (e := 144) (nx := 162) (r1 := 0) (r2 := 0) (r3 := 0) rfl (by decide) rfl rfl ?_
    refine wr_cpy (s0 := 227) (d0 := 28) (n0 := 144) (n1 := 144) (sp := 0) (dp := 0) (n := 144) (sl := -2147483648) (sh := 2147483647) (dl := -2147483648) (dh := 2147483647) (nx := 165) (r1 := 0) (r2 := 101) (r3 := 0) rfl rfl (of_decide_eq_true rfl) (by decide) (by decide) rfl rfl (by omega) (fun _ => rfl) (fun _ => rfl) (by omega) g34 (fun h36 g36 y36 u36 => ?_)
    have F37 := F35.then rfl u36
    refine wi_aload_n (i := 0) (x := 18) (nx := 166) (r1 := 0) (r2 := 0) (r3 := 0) rfl rfl ?_
    refine wi_aload_n (i := 1) (x := 217) (nx := 167) (r1 := 0) (r2 := 0) (r3 := 0) rfl rfl ?_
    have b38 := gi_b (lo := 0) (hi := 36) g 217 15 rfl
    refine wr_gi0 (k0 := 217) (x := h 217 15) (nx := 170) (r1 := 4) (r2 := 15) (r3 := 0) rfl rfl (by decide) rfl ⟨rfl, rfl⟩ rfl ((u36 217 15 rfl).trans ((u34 217 15 rfl).trans ((u31 217 15 rfl).trans ((u28 217 15 rfl).trans ((u25 217 15 rfl).trans ((u22 217 15 rfl).trans ((u19 217 15 rfl).trans ((u16 217 15 rfl).trans ((u13 217 15 rfl).trans ((u11 217 15 rfl).trans ((u9 217 15 rfl).trans ((u6 217 15 rfl).trans ((u3 217 15 rfl).trans (u1 217 15 rfl)))))))))))))) ?_
    refine wr_pf0 (k0 := 18) (x := h 217 15) (bl := 0) (bh := 36) (nx := 173) (r1 := 4) (r2 := 15) (r3 := 0) rfl (by decide) rfl ⟨rfl, rfl⟩ rfl rfl g36 rfl (by omega) (fun h39 g39 w39 u39 => ?_)
    have F40 := F37.then rfl u39
    refine wi_aload_n (i := 0) (x := 18) (nx := 174) (r1 := 0) (r2 := 0) (r3 := 0) rfl rfl ?_
    refine wi_dup (nx := 175) (r1 := 0) (r2 := 0) (r3 := 0) rfl rfl ?_
    have b41 := gi_b (lo := -2147483648) (hi := 2147483647) g 18 16 rfl
    refine wr_gi0 (k0 := 18) (x := h 18 16) (nx := 178) (r1 := 4) (r2 := 16) (r3 := 0) rfl rfl (by decide) rfl ⟨rfl, rfl⟩ rfl ((u39 18 16 rfl).trans ((u36 18 16 rfl).trans ((u34 18 16 rfl).trans ((u31 18 16 rfl).trans ((u28 18 16 rfl).trans ((u25 18 16 rfl).trans ((u22 18 16 rfl).trans ((u19 18 16 rfl).trans ((u16 18 16 rfl).trans ((u13 18 16 rfl).trans ((u11 18 16 rfl).trans ((u9 18 16 rfl).trans ((u6 18 16 rfl).trans ((u3 18 16 rfl).trans (u1 18 16 rfl))))))))))))))) ?_
    refine wi_iconst (n := 1) (nx := 179) (r1 := 0) (r2 := 0) (r3 := 0) rfl ?_
    refine wr_addW (nx := 180) (r1 := 0) (r2 := 0) (r3 := 0) rfl (fun e42 (fe42 : -2147483648 ≤ e42 ∧ e42 ≤ 2147483647) => ?_)
    refine wr_pf0 (k0 := 18) (x := e42) (bl := -2147483648) (bh := 2147483647) (nx := 183) (r1 := 4) (r2 := 16) (r3 := 0) rfl (by decide) rfl ⟨rfl, rfl⟩ rfl rfl g39 rfl (by omega) (fun h43 g43 w43 u43 => ?_)
    have F44 := F40.then rfl u43
    refine wi_return (nx := 184) (r1 := 0) (r2 := 0) (r3 := 0) rfl rfl ?_
    exact k h43 g43 F44
  ·
    refine wi_aload_n (i := 0) (x := 18) (nx := 38) (r1 := 0) (r2 := 0) (r3 := 0) rfl rfl ?_
    refine wr_gr (k0 := 18) (x := 21) (nx := 41) (r1 := 4) (r2 := 3) (r3 := 0) rfl rfl (by decide) rfl ⟨rfl, rfl⟩ rfl ?_
    refine wi_iload_n (i := 2) (e := x5) (nx := 42) (r1 := 0) (r2 := 0) (r3 := 0) rfl rfl ?_
    obtain ⟨i9, ei9⟩ : ∃ q : Nat, x5 = (q : Int) := ⟨(x5).toNat, by omega⟩
    refine wr_aa (k0 := 21) (a := x5) (f := i9) (x := 21 + 8 + 2 * i9) (nx := 43) (r1 := 0) (r2 := 0) (r3 := 0) rfl (by decide) rfl (Or.inl rfl) (by omega) (by omega) (by decide) (hcr.1 21 (by decide) i9 (by omega)) ?_
    obtain ⟨k10, kk10, mk10⟩ : ∃ q, Rw q ∧ q = 21 + 8 + 2 * i9 := ⟨_, rw_lane 21 (by decide) i9 (by omega), rfl⟩
    rw [← mk10]
    refine wi_aload_n (i := 1) (x := 217) (nx := 44) (r1 := 0) (r2 := 0) (r3 := 0) rfl rfl ?_
    refine wr_gr (k0 := 217) (x := 220) (nx := 47) (r1 := 4) (r2 := 3) (r3 := 0) rfl rfl (by decide) rfl ⟨rfl, rfl⟩ rfl ?_
    refine wi_iload_n (i := 2) (e := x5) (nx := 48) (r1 := 0) (r2 := 0) (r3 := 0) rfl rfl ?_
    refine wr_aa (k0 := 220) (a := x5) (f := i9) (x := 220 + 8 + 2 * i9) (nx := 49) (r1 := 0) (r2 := 0) (r3 := 0) rfl (by decide) rfl (Or.inl rfl) (by omega) (by omega) (by decide) (hcr.1 220 (by decide) i9 (by omega)) ?_
    obtain ⟨k11, kk11, mk11⟩ : ∃ q, Rw q ∧ q = 220 + 8 + 2 * i9 := ⟨_, rw_lane 220 (by decide) i9 (by omega), rfl⟩
    rw [← mk11]
    refine wr_V (k0 := k10) (rest := []) (as := [.ref k10, .ref k11]) (nx := 52) (r1 := 155) (r2 := 1) (r3 := 5) rfl rfl rfl (of_decide_eq_true rfl) rfl rfl kk10.k kk10.1 rfl (of_decide_eq_true rfl) (of_decide_eq_true rfl) ?_
    refine ct_155_R_R hcr kk10 kk11 g6    (fun h12 g12 u12 => ?_)
    have v12 := FR.rngp (lo := 29) (hi := 36) u12 (by omega)
    have F13 := F7.then rfl (FR.rngp (lo := 29) (hi := 36) u12 (by omega))
    have F14 := u6.then rfl (FR.rngp (lo := 29) (hi := 36) u12 (by omega))
    refine wk_n ?_
    refine wr_iinc (i := 2) (n := 1) (v := x5) (fun e15 => [(2, vi e15), (0, .ref 18), (1, .ref 217)]) (nx := 55) (r1 := 0) (r2 := 0) (r3 := 0) rfl rfl (fun _ => rfl) (fun e15 (fe15 : e15 = x5 + 1) => ?_)
    refine wi_goto (nx := 58) (r1 := 32) (r2 := 0) (r3 := 0) rfl ?_
    refine wp.lo (lo := [(0, .ref 18), (1, .ref 217), (2, vi e15)]) ⟨rfl, rfl, rfl, trivial⟩ rfl ?_
    exact I6 e15 h12 ⟨g12, F13, F14, (show (0 ≤ e15 ∧ e15 ≤ 4) by omega)⟩ (show ((4 : Int) + 1 - e15).toNat < ((4 : Int) + 1 - x5).toNat by omega)
-- method 89: Bank.restore()I
set_option maxRecDepth 100000 in
set_option maxHeartbeats 100000000 in
theorem ct_89_0 {L : Nat} {xs : Nat → Int32} {d b c : Nat} {h : hp} {cr : Nat → Nat → Option Nat} {Q : hp_Q} (hcr : CR cr) (hr : 1 ≤ b ∧ 6 ≤ c)  (g : GI h)    (k : ∀ (h2 : hp) (z0 : Int) , GI h2 → FR [(4, 4, none), (5, 5, none), (6, 6, none), (7, 7, none), (8, 8, none), (9, 9, none), (18, 36, none), (3, 3, some (0, 0)), (3, 3, some (1, 1)), (3, 3, some (2, 2)), (3, 3, some (3, 3)), (3, 3, some (4, 4)), (3, 3, some (5, 5)), (3, 3, some (6, 6)), (3, 3, some (7, 7)), (3, 3, some (8, 8)), (3, 3, some (9, 9)), (73, 73, some (2, 2))] h h2 → (-2147483648 ≤ z0 ∧ z0 ≤ 2147483647) → (h 0 12 = 1) → (CPs h h2 3 210) → Q (.inl (some (vi z0))) (hp_w h2 cr) b c) (kx0 : ∀ (h2 : hp), GI h2 → FR [(4, 4, none), (5, 5, none), (6, 6, none), (7, 7, none), (8, 8, none), (9, 9, none), (18, 36, none), (3, 3, some (0, 0)), (3, 3, some (1, 1)), (3, 3, some (2, 2)), (3, 3, some (3, 3)), (3, 3, some (4, 4)), (3, 3, some (5, 5)), (3, 3, some (6, 6)), (3, 3, some (7, 7)), (3, 3, some (8, 8)), (3, 3, some (9, 9)), (73, 73, some (2, 2))] h h2 → (h 0 12 = 0) → (KSc h h2) → Q (.inr 0) (hp_w h2 cr) (b - 1) (c - 6)) : wp (md_xa (L, xs)) (d + 2) 89 (0, [(0, .ref 0)], [], hp_w h cr, b, c) Q := by
  have F0 : FR [(4, 4, none), (5, 5, none), (6, 6, none), (7, 7, none), (8, 8, none), (9, 9, none), (18, 36, none), (3, 3, some (0, 0)), (3, 3, some (1, 1)), (3, 3, some (2, 2)), (3, 3, some (3, 3)), (3, 3, some (4, 4)), (3, 3, some (5, 5)), (3, 3, some (6, 6)), (3, 3, some (7, 7)), (3, 3, some (8, 8)), (3, 3, some (9, 9)), (73, 73, some (2, 2))] h h := FR.refl
  refine wi_aload_n (i := 0) (x := 0) (nx := 1) (r1 := 0) (r2 := 0) (r3 := 0) rfl rfl ?_
  have b1 := gi_b (lo := 0) (hi := 1) g 0 12 rfl
  refine wr_gi2 (k0 := 0) (x := h 0 12) (nx := 4) (r1 := 0) (r2 := 12) (r3 := 0) rfl rfl (by decide) rfl ⟨rfl, rfl⟩ rfl rfl ?_
  refine wi_if (cd := .ne) (nx := 7) (r1 := 18) (r2 := 0) (r3 := 0) rfl (by omega) (fun (q2 : (h 0 12) ≠ 0) => ?_) (fun (q2 : ¬ ((h 0 12) ≠ 0)) => ?_)
  ·
    refine wi_aload_n (i := 0) (x := 0) (nx := 19) (r1 := 0) (r2 := 0) (r3 := 0) rfl rfl ?_
    refine wr_gr (k0 := 0) (x := 3) (nx := 22) (r1 := 0) (r2 := 1) (r3 := 0) rfl rfl (by decide) rfl ⟨rfl, rfl⟩ rfl ?_
    refine wi_aload_n (i := 0) (x := 0) (nx := 23) (r1 := 0) (r2 := 0) (r3 := 0) rfl rfl ?_
    refine wr_gr (k0 := 0) (x := 210) (nx := 26) (r1 := 0) (r2 := 10) (r3 := 0) rfl rfl (by decide) rfl ⟨rfl, rfl⟩ rfl ?_
    refine wr_V (k0 := 3) (rest := []) (as := [.ref 3, .ref 210]) (nx := 29) (r1 := 114) (r2 := 1) (r3 := 2) rfl rfl rfl (of_decide_eq_true rfl) rfl rfl (by decide) rfl rfl (of_decide_eq_true rfl) (of_decide_eq_true rfl) ?_
    refine ct_114_3_210 hcr  g    (fun h3 g3 u3 y3_0 => ?_)
    have F4 := F0.then (by decide +kernel) u3
    refine wk_n ?_
    refine wi_aload_n (i := 0) (x := 0) (nx := 30) (r1 := 0) (r2 := 0) (r3 := 0) rfl rfl ?_
    refine wr_gr (k0 := 0) (x := 18) (nx := 33) (r1 := 0) (r2 := 3) (r3 := 0) rfl rfl (by decide) rfl ⟨rfl, rfl⟩ rfl ?_
    refine wi_aload_n (i := 0) (x := 0) (nx := 34) (r1 := 0) (r2 := 0) (r3 := 0) rfl rfl ?_
    refine wr_gr (k0 := 0) (x := 217) (nx := 37) (r1 := 0) (r2 := 11) (r3 := 0) rfl rfl (by decide) rfl ⟨rfl, rfl⟩ rfl ?_
    refine wr_V (k0 := 18) (rest := []) (as := [.ref 18, .ref 217]) (nx := 40) (r1 := 132) (r2 := 1) (r3 := 4) rfl rfl rfl (of_decide_eq_true rfl) rfl rfl (by decide) rfl rfl (of_decide_eq_true rfl) (of_decide_eq_true rfl) ?_
    refine ct_132_18_217 hcr  g3    (fun h5 g5 u5 => ?_)
    have F6 := F4.then (by decide +kernel) u5
    refine wk_n ?_
    refine wi_aload_n (i := 0) (x := 0) (nx := 41) (r1 := 0) (r2 := 0) (r3 := 0) rfl rfl ?_
    refine wr_gr (k0 := 0) (x := 73) (nx := 44) (r1 := 0) (r2 := 8) (r3 := 0) rfl rfl (by decide) rfl ⟨rfl, rfl⟩ rfl ?_
    refine wr_V (k0 := 73) (rest := []) (as := [.ref 73]) (nx := 47) (r1 := 195) (r2 := 0) (r3 := 9) rfl rfl rfl (of_decide_eq_true rfl) rfl rfl (by decide) rfl rfl (of_decide_eq_true rfl) (of_decide_eq_true rfl) ?_
    refine ct_195_73 hcr  g5    (fun h7 g7 u7 => ?_)
    have F8 := F6.then (by decide +kernel) u7
    refine wk_n ?_
    refine wi_aload_n (i := 0) (x := 0) (nx := 48) (r1 := 0) (r2 := 0) (r3 := 0) rfl rfl ?_
    refine wr_gr (k0 := 0) (x := 18) (nx := 51) (r1 := 0) (r2 := 3) (r3 := 0) rfl rfl (by decide) rfl ⟨rfl, rfl⟩ rfl ?_
    have b9 := gi_b (lo := -2147483648) (hi := 2147483647) g5 18 10 rfl
    refine wr_gi0 (k0 := 18) (x := h5 18 10) (nx := 54) (r1 := 4) (r2 := 10) (r3 := 0) rfl rfl (by decide) rfl ⟨rfl, rfl⟩ rfl (u7 18 10 rfl) ?_
    refine wi_ireturn (nx := 55) (r1 := 0) (r2 := 0) (r3 := 0) rfl rfl ?_
    exact k h7 (h5 18 10) g7 F8 (by omega) (show (h 0 12) = 1 by omega) ⟨(fun i e => (((u7 3 i (fn_a (by omega) fn_0)).trans (u5 3 i (fn_a (by omega) fn_0))).trans (y3_0.1 i e))), (fun i e => (((u7 5 i (fn_a (by omega) fn_0)).trans (u5 5 i (fn_a (by omega) fn_0))).trans (y3_0.2.1 i e))), (fun i e => (((u7 6 i (fn_a (by omega) fn_0)).trans (u5 6 i (fn_a (by omega) fn_0))).trans (y3_0.2.2.1 i e))), (fun i e => (((u7 8 i (fn_a (by omega) fn_0)).trans (u5 8 i (fn_a (by omega) fn_0))).trans (y3_0.2.2.2 i e)))⟩
  ·
    refine wr_throw (Ex := 0) (nx := 10) (r1 := 0) (r2 := 0) (r3 := 1) rfl (by decide) rfl hr (by decide) ?_
    exact kx0 h g F0 (show (h 0 12) = 0 by omega) ⟨(fun i => rfl), (fun i => rfl), (fun i => rfl), (fun i => rfl)⟩
-- method 67: Bank.room(I)I
set_option maxRecDepth 100000 in
set_option maxHeartbeats 100000000 in
theorem ct_67_0 {L : Nat} {xs : Nat → Int32} {d b c : Nat} {h : hp} {cr : Nat → Nat → Option Nat} {Q : hp_Q} (hcr : CR cr) (hr : 1 ≤ b ∧ 6 ≤ c)  (g : GI h) (a0 : Int) (q0_ : -2147483648 ≤ a0 ∧ a0 ≤ 2147483647)  (k : ∀ (z0 : Int), (-2147483648 ≤ z0 ∧ z0 ≤ 2147483647) → (0 ≤ a0 ∧ a0 < h 3 1) → (z0 = h 6 a0.toNat) → Q (.inl (some (vi z0))) (hp_w h cr) b c) (kx2 : (a0 < 0 ∨ h 3 1 ≤ a0) → Q (.inr 2) (hp_w h cr) (b - 1) (c - 6)) : wp (md_xa (L, xs)) (d + 1) 67 (0, [(0, .ref 0), (1, vi a0)], [], hp_w h cr, b, c) Q := by
  have F0 : FR [] h h := FR.refl
  refine wi_aload_n (i := 0) (x := 0) (nx := 1) (r1 := 0) (r2 := 0) (r3 := 0) rfl rfl ?_
  refine wi_iload_n (i := 1) (e := a0) (nx := 2) (r1 := 0) (r2 := 0) (r3 := 0) rfl rfl ?_
  refine wr_V (k0 := 0) (rest := []) (as := [.ref 0, vi a0]) (nx := 5) (r1 := 68) (r2 := 1) (r3 := 0) rfl rfl rfl (of_decide_eq_true rfl) rfl rfl (by decide) rfl rfl (of_decide_eq_true rfl) (of_decide_eq_true rfl) ?_
  refine wi_iload_n (i := 1) (e := a0) (nx := 1) (r1 := 0) (r2 := 0) (r3 := 0) rfl rfl ?_
  refine wi_if (cd := .lt) (nx := 4) (r1 := 15) (r2 := 0) (r3 := 0) rfl (by omega) (fun (q1 : a0 < 0) => ?_) (fun (q1 : ¬ (a0 < 0)) => ?_)
  ·
    refine wr_throw (Ex := 2) (nx := 18) (r1 := 2) (r2 := 0) (r3 := 1) rfl (by decide) rfl hr (by decide) ?_
    refine wk_x rfl ?_
    have b2 := gi_b (lo := 0) (hi := 4) g 3 1 rfl
    exact kx2 (show a0 < 0 ∨ (h 3 1) ≤ a0 by omega)
  ·
    refine wi_iload_n (i := 1) (e := a0) (nx := 5) (r1 := 0) (r2 := 0) (r3 := 0) rfl rfl ?_
    refine wi_aload_n (i := 0) (x := 0) (nx := 6) (r1 := 0) (r2 := 0) (r3 := 0) rfl rfl ?_
    refine wr_gr (k0 := 0) (x := 3) (nx := 9) (r1 := 0) (r2 := 1) (r3 := 0) rfl rfl (by decide) rfl ⟨rfl, rfl⟩ rfl ?_
    have b2 := gi_b (lo := 0) (hi := 4) g 3 1 rfl
    refine wr_gi0 (k0 := 3) (x := h 3 1) (nx := 12) (r1 := 2) (r2 := 1) (r3 := 0) rfl rfl (by decide) rfl ⟨rfl, rfl⟩ rfl rfl ?_
    refine wi_icmp (cd := .lt) (nx := 15) (r1 := 26) (r2 := 0) (r3 := 0) rfl (by omega) (by omega) (fun (q3 : a0 < (h 3 1)) => ?_) (fun (q3 : ¬ (a0 < (h 3 1))) => ?_)
    ·
      refine wi_return (nx := 27) (r1 := 0) (r2 := 0) (r3 := 0) rfl rfl ?_
      refine wk_n ?_
      refine wi_aload_n (i := 0) (x := 0) (nx := 6) (r1 := 0) (r2 := 0) (r3 := 0) rfl rfl ?_
      refine wr_gr (k0 := 0) (x := 3) (nx := 9) (r1 := 0) (r2 := 1) (r3 := 0) rfl rfl (by decide) rfl ⟨rfl, rfl⟩ rfl ?_
      refine wr_gr (k0 := 3) (x := 6) (nx := 12) (r1 := 2) (r2 := 12) (r3 := 0) rfl rfl (by decide) rfl ⟨rfl, rfl⟩ rfl ?_
      refine wi_iload_n (i := 1) (e := a0) (nx := 13) (r1 := 0) (r2 := 0) (r3 := 0) rfl rfl ?_
      obtain ⟨i4, ei4⟩ : ∃ q : Nat, a0 = (q : Int) := ⟨(a0).toNat, by omega⟩
      have b5 := gi_b (lo := -2147483648) (hi := 2147483647) g 6 i4 rfl
      refine wr_ia (k0 := 6) (a := a0) (f := i4) (x := h 6 i4) (nx := 14) (r1 := 0) (r2 := 0) (r3 := 0) rfl (by decide) rfl (by omega) (by omega) (by decide) rfl ?_
      refine wi_ireturn (nx := 15) (r1 := 0) (r2 := 0) (r3 := 0) rfl rfl ?_
      exact k (h 6 i4) (by omega) (show 0 ≤ a0 ∧ a0 < (h 3 1) by omega) (show h 6 i4 = h 6 a0.toNat by rw [show a0.toNat = i4 by omega])
    ·
      refine wr_throw (Ex := 2) (nx := 18) (r1 := 2) (r2 := 0) (r3 := 1) rfl (by decide) rfl hr (by decide) ?_
      refine wk_x rfl ?_
      exact kx2 (show a0 < 0 ∨ (h 3 1) ≤ a0 by omega)
-- method 132: Line.copyFrom(LPaintBank$Line;)V
set_option maxRecDepth 100000 in
set_option maxHeartbeats 100000000 in
theorem ct_132_37_18 {L : Nat} {xs : Nat → Int32} {d b c : Nat} {h : hp} {cr : Nat → Nat → Option Nat} {Q : hp_Q} (hcr : CR cr)  (g : GI h)    (k : ∀ (h2 : hp) , GI h2 → FR [(37, 55, none)] h h2 → Q (.inl none) (hp_w h2 cr) b c) : wp (md_xa (L, xs)) (d + 1) 132 (0, [(0, .ref 37), (1, .ref 18)], [], hp_w h cr, b, c) Q := by
  have F0 : FR [(37, 55, none)] h h := FR.refl
  refine wi_aload_n (i := 1) (x := 18) (nx := 1) (r1 := 0) (r2 := 0) (r3 := 0) rfl rfl ?_
  refine wr_gr (k0 := 18) (x := 19) (nx := 4) (r1 := 4) (r2 := 1) (r3 := 0) rfl rfl (by decide) rfl ⟨rfl, rfl⟩ rfl ?_
  refine wi_iconst (n := 0) (nx := 5) (r1 := 0) (r2 := 0) (r3 := 0) rfl ?_
  refine wi_aload_n (i := 0) (x := 37) (nx := 6) (r1 := 0) (r2 := 0) (r3 := 0) rfl rfl ?_
  refine wr_gr (k0 := 37) (x := 38) (nx := 9) (r1 := 4) (r2 := 1) (r3 := 0) rfl rfl (by decide) rfl ⟨rfl, rfl⟩ rfl ?_
  refine wi_iconst (n := 0) (nx := 10) (r1 := 0) (r2 := 0) (r3 := 0) rfl ?_
  refine wi_bipush (n := 12) (nx := 12) (r1 := 0) (r2 := 0) (r3 := 0) rfl (by decide) ?_
  refine wr_cpy (s0 := 19) (d0 := 38) (n0 := 12) (n1 := 12) (sp := 0) (dp := 0) (n := 12) (sl := -2147483648) (sh := 2147483647) (dl := -2147483648) (dh := 2147483647) (nx := 15) (r1 := 0) (r2 := 101) (r3 := 0) rfl rfl (of_decide_eq_true rfl) (by decide) (by decide) rfl rfl (by omega) (fun _ => rfl) (fun _ => rfl) (by omega) g (fun h1 g1 y1 u1 => ?_)
  have F2 := F0.then rfl u1
  refine wi_aload_n (i := 1) (x := 18) (nx := 16) (r1 := 0) (r2 := 0) (r3 := 0) rfl rfl ?_
  refine wr_gr (k0 := 18) (x := 20) (nx := 19) (r1 := 4) (r2 := 2) (r3 := 0) rfl rfl (by decide) rfl ⟨rfl, rfl⟩ rfl ?_
  refine wi_iconst (n := 0) (nx := 20) (r1 := 0) (r2 := 0) (r3 := 0) rfl ?_
  refine wi_aload_n (i := 0) (x := 37) (nx := 21) (r1 := 0) (r2 := 0) (r3 := 0) rfl rfl ?_
  refine wr_gr (k0 := 37) (x := 39) (nx := 24) (r1 := 4) (r2 := 2) (r3 := 0) rfl rfl (by decide) rfl ⟨rfl, rfl⟩ rfl ?_
  refine wi_iconst (n := 0) (nx := 25) (r1 := 0) (r2 := 0) (r3 := 0) rfl ?_
  refine wi_bipush (n := 12) (nx := 27) (r1 := 0) (r2 := 0) (r3 := 0) rfl (by decide) ?_
  refine wr_cpy (s0 := 20) (d0 := 39) (n0 := 12) (n1 := 12) (sp := 0) (dp := 0) (n := 12) (sl := -2147483648) (sh := 2147483647) (dl := -2147483648) (dh := 2147483647) (nx := 30) (r1 := 0) (r2 := 101) (r3 := 0) rfl rfl (of_decide_eq_true rfl) (by decide) (by decide) rfl rfl (by omega) (fun _ => rfl) (fun _ => rfl) (by omega) g1 (fun h3 g3 y3 u3 => ?_)
  have F4 := F2.then rfl u3
  refine wi_iconst (n := 0) (nx := 31) (r1 := 0) (r2 := 0) (r3 := 0) rfl ?_
  refine wi_istore_n (i := 2) (e := 0) (lo2 := [(2, vi 0), (0, .ref 37), (1, .ref 18)]) (nx := 32) (r1 := 0) (r2 := 0) (r3 := 0) rfl rfl ?_
  refine wp.lo (lo := [(0, .ref 37), (1, .ref 18), (2, vi 0)]) ⟨rfl, rfl, rfl, trivial⟩ rfl ?_
  refine wl_1 (fun x5 h6 => GI h6 ∧ FR [(37, 55, none)] h h6 ∧ FR [(48, 55, none)] h3 h6 ∧ ((0 ≤ x5 ∧ x5 ≤ 4))) (fun x5 h6 => ((4 : Int) + 1 - x5).toNat) (fun x5 h6 => (32, [(0, .ref 37), (1, .ref 18), (2, vi x5)], [], hp_w h6 cr, b, c)) ?_ 0 h3 ⟨g3, F4, FR.refl, (show (0 ≤ 0 ∧ 0 ≤ 4) by omega)⟩
  intro x5 h6 ⟨g6, F7, u6, f6⟩ I6
  refine wi_iload_n (i := 2) (e := x5) (nx := 33) (r1 := 0) (r2 := 0) (r3 := 0) rfl rfl ?_
  refine wi_iconst (n := 4) (nx := 34) (r1 := 0) (r2 := 0) (r3 := 0) rfl ?_
  refine wi_icmp (cd := .ge) (nx := 37) (r1 := 58) (r2 := 0) (r3 := 0) rfl (by omega) (by omega) (fun (q8 : 4 ≤ x5) => ?_) (fun (q8 : ¬ (4 ≤ x5)) => ?_)
  ·
    refine wi_aload_n (i := 0) (x := 37) (nx := 59) (r1 := 0) (r2 := 0) (r3 := 0) rfl rfl ?_
    refine wr_gr (k0 := 37) (x := 41) (nx := 62) (r1 := 4) (r2 := 4) (r3 := 0) rfl rfl (by decide) rfl ⟨rfl, rfl⟩ rfl ?_
    refine wi_aload_n (i := 1) (x := 18) (nx := 63) (r1 := 0) (r2 := 0) (r3 := 0) rfl rfl ?_
    refine wr_gr (k0 := 18) (x := 22) (nx := 66) (r1 := 4) (r2 := 4) (r3 := 0) rfl rfl (by decide) rfl ⟨rfl, rfl⟩ rfl ?_
    refine wr_V (k0 := 41) (rest := []) (as := [.ref 41, .ref 22]) (nx := 69) (r1 := 155) (r2 := 1) (r3 := 5) rfl rfl rfl (of_decide_eq_true rfl) rfl rfl (by decide) rfl rfl (of_decide_eq_true rfl) (of_decide_eq_true rfl) ?_
    refine ct_155_R_R hcr rw_41 rw_22 g6    (fun h9 g9 u9 => ?_)
    have F10 := F7.then rfl u9
    refine wk_n ?_
    refine wi_aload_n (i := 0) (x := 37) (nx := 70) (r1 := 0) (r2 := 0) (r3 := 0) rfl rfl ?_
    refine wr_gr (k0 := 37) (x := 43) (nx := 73) (r1 := 4) (r2 := 5) (r3 := 0) rfl rfl (by decide) rfl ⟨rfl, rfl⟩ rfl ?_
    refine wi_aload_n (i := 1) (x := 18) (nx := 74) (r1 := 0) (r2 := 0) (r3 := 0) rfl rfl ?_
    refine wr_gr (k0 := 18) (x := 24) (nx := 77) (r1 := 4) (r2 := 5) (r3 := 0) rfl rfl (by decide) rfl ⟨rfl, rfl⟩ rfl ?_
    refine wr_V (k0 := 43) (rest := []) (as := [.ref 43, .ref 24]) (nx := 80) (r1 := 155) (r2 := 1) (r3 := 5) rfl rfl rfl (of_decide_eq_true rfl) rfl rfl (by decide) rfl rfl (of_decide_eq_true rfl) (of_decide_eq_true rfl) ?_
    refine ct_155_R_R hcr rw_43 rw_24 g9    (fun h11 g11 u11 => ?_)
    have F12 := F10.then rfl u11
    refine wk_n ?_
    refine wi_aload_n (i := 0) (x := 37) (nx := 81) (r1 := 0) (r2 := 0) (r3 := 0) rfl rfl ?_
    refine wr_gr (k0 := 37) (x := 45) (nx := 84) (r1 := 4) (r2 := 6) (r3 := 0) rfl rfl (by decide) rfl ⟨rfl, rfl⟩ rfl ?_
    refine wi_aload_n (i := 1) (x := 18) (nx := 85) (r1 := 0) (r2 := 0) (r3 := 0) rfl rfl ?_
    refine wr_gr (k0 := 18) (x := 26) (nx := 88) (r1 := 4) (r2 := 6) (r3 := 0) rfl rfl (by decide) rfl ⟨rfl, rfl⟩ rfl ?_
    refine wr_V (k0 := 45) (rest := []) (as := [.ref 45, .ref 26]) (nx := 91) (r1 := 155) (r2 := 1) (r3 := 5) rfl rfl rfl (of_decide_eq_true rfl) rfl rfl (by decide) rfl rfl (of_decide_eq_true rfl) (of_decide_eq_true rfl) ?_
    refine ct_155_R_R hcr rw_45 rw_26 g11    (fun h13 g13 u13 => ?_)
    have F14 := F12.then rfl u13
    refine wk_n ?_
    refine wi_aload_n (i := 0) (x := 37) (nx := 92) (r1 := 0) (r2 := 0) (r3 := 0) rfl rfl ?_
    refine wi_aload_n (i := 1) (x := 18) (nx := 93) (r1 := 0) (r2 := 0) (r3 := 0) rfl rfl ?_
    have b15 := gi_b (lo := 0) (hi := 12) g 18 7 rfl
    refine wr_gi0 (k0 := 18) (x := h 18 7) (nx := 96) (r1 := 4) (r2 := 7) (r3 := 0) rfl rfl (by decide) rfl ⟨rfl, rfl⟩ rfl ((u13 18 7 rfl).trans ((u11 18 7 rfl).trans ((u9 18 7 rfl).trans ((u6 18 7 rfl).trans ((u3 18 7 rfl).trans (u1 18 7 rfl)))))) ?_
    refine wr_pf0 (k0 := 37) (x := h 18 7) (bl := 0) (bh := 12) (nx := 99) (r1 := 4) (r2 := 7) (r3 := 0) rfl (by decide) rfl ⟨rfl, rfl⟩ rfl rfl g13 rfl (by omega) (fun h16 g16 w16 u16 => ?_)
    have F17 := F14.then rfl u16
    refine wi_aload_n (i := 0) (x := 37) (nx := 100) (r1 := 0) (r2 := 0) (r3 := 0) rfl rfl ?_
    refine wi_aload_n (i := 1) (x := 18) (nx := 101) (r1 := 0) (r2 := 0) (r3 := 0) rfl rfl ?_
    have b18 := gi_b (lo := -2147483648) (hi := 2147483647) g 18 8 rfl
    refine wr_gi0 (k0 := 18) (x := h 18 8) (nx := 104) (r1 := 4) (r2 := 8) (r3 := 0) rfl rfl (by decide) rfl ⟨rfl, rfl⟩ rfl ((u16 18 8 rfl).trans ((u13 18 8 rfl).trans ((u11 18 8 rfl).trans ((u9 18 8 rfl).trans ((u6 18 8 rfl).trans ((u3 18 8 rfl).trans (u1 18 8 rfl))))))) ?_
    refine wr_pf0 (k0 := 37) (x := h 18 8) (bl := -2147483648) (bh := 2147483647) (nx := 107) (r1 := 4) (r2 := 8) (r3 := 0) rfl (by decide) rfl ⟨rfl, rfl⟩ rfl rfl g16 rfl (by omega) (fun h19 g19 w19 u19 => ?_)
    have F20 := F17.then rfl u19
    refine wi_aload_n (i := 0) (x := 37) (nx := 108) (r1 := 0) (r2 := 0) (r3 := 0) rfl rfl ?_
    refine wi_aload_n (i := 1) (x := 18) (nx := 109) (r1 := 0) (r2 := 0) (r3 := 0) rfl rfl ?_
    have b21 := gi_b (lo := -2147483648) (hi := 2147483647) g 18 9 rfl
    refine wr_gi0 (k0 := 18) (x := h 18 9) (nx := 112) (r1 := 4) (r2 := 9) (r3 := 0) rfl rfl (by decide) rfl ⟨rfl, rfl⟩ rfl ((u19 18 9 rfl).trans ((u16 18 9 rfl).trans ((u13 18 9 rfl).trans ((u11 18 9 rfl).trans ((u9 18 9 rfl).trans ((u6 18 9 rfl).trans ((u3 18 9 rfl).trans (u1 18 9 rfl)))))))) ?_
    refine wr_pf0 (k0 := 37) (x := h 18 9) (bl := -2147483648) (bh := 2147483647) (nx := 115) (r1 := 4) (r2 := 9) (r3 := 0) rfl (by decide) rfl ⟨rfl, rfl⟩ rfl rfl g19 rfl (by omega) (fun h22 g22 w22 u22 => ?_)
    have F23 := F20.then rfl u22
    refine wi_aload_n (i := 0) (x := 37) (nx := 116) (r1 := 0) (r2 := 0) (r3 := 0) rfl rfl ?_
    refine wi_aload_n (i := 1) (x := 18) (nx := 117) (r1 := 0) (r2 := 0) (r3 := 0) rfl rfl ?_
    have b24 := gi_b (lo := -2147483648) (hi := 2147483647) g 18 10 rfl
    refine wr_gi0 (k0 := 18) (x := h 18 10) (nx := 120) (r1 := 4) (r2 := 10) (r3 := 0) rfl rfl (by decide) rfl ⟨rfl, rfl⟩ rfl ((u22 18 10 rfl).trans ((u19 18 10 rfl).trans ((u16 18 10 rfl).trans ((u13 18 10 rfl).trans ((u11 18 10 rfl).trans ((u9 18 10 rfl).trans ((u6 18 10 rfl).trans ((u3 18 10 rfl).trans (u1 18 10 rfl))))))))) ?_
    refine wr_pf0 (k0 := 37) (x := h 18 10) (bl := -2147483648) (bh := 2147483647) (nx := 123) (r1 := 4) (r2 := 10) (r3 := 0) rfl (by decide) rfl ⟨rfl, rfl⟩ rfl rfl g22 rfl (by omega) (fun h25 g25 w25 u25 => ?_)
    have F26 := F23.then rfl u25
    refine wi_aload_n (i := 0) (x := 37) (nx := 124) (r1 := 0) (r2 := 0) (r3 := 0) rfl rfl ?_
    refine wi_aload_n (i := 1) (x := 18) (nx := 125) (r1 := 0) (r2 := 0) (r3 := 0) rfl rfl ?_
    have b27 := gi_b (lo := -2147483648) (hi := 2147483647) g 18 11 rfl
    refine wr_gi0 (k0 := 18) (x := h 18 11) (nx := 128) (r1 := 4) (r2 := 11) (r3 := 0) rfl rfl (by decide) rfl ⟨rfl, rfl⟩ rfl ((u25 18 11 rfl).trans ((u22 18 11 rfl).trans ((u19 18 11 rfl).trans ((u16 18 11 rfl).trans ((u13 18 11 rfl).trans ((u11 18 11 rfl).trans ((u9 18 11 rfl).trans ((u6 18 11 rfl).trans ((u3 18 11 rfl).trans (u1 18 11 rfl)))))))))) ?_
    refine wr_pf0 (k0 := 37) (x := h 18 11) (bl := -2147483648) (bh := 2147483647) (nx := 131) (r1 := 4) (r2 := 11) (r3 := 0) rfl (by decide) rfl ⟨rfl, rfl⟩ rfl rfl g25 rfl (by omega) (fun h28 g28 w28 u28 => ?_)
    have F29 := F26.then rfl u28
    refine wi_aload_n (i := 0) (x := 37) (nx := 132) (r1 := 0) (r2 := 0) (r3 := 0) rfl rfl ?_
    refine wi_aload_n (i := 1) (x := 18) (nx := 133) (r1 := 0) (r2 := 0) (r3 := 0) rfl rfl ?_
    have b30 := gi_b (lo := -2147483648) (hi := 2147483647) g 18 12 rfl
    refine wr_gi0 (k0 := 18) (x := h 18 12) (nx := 136) (r1 := 4) (r2 := 12) (r3 := 0) rfl rfl (by decide) rfl ⟨rfl, rfl⟩ rfl ((u28 18 12 rfl).trans ((u25 18 12 rfl).trans ((u22 18 12 rfl).trans ((u19 18 12 rfl).trans ((u16 18 12 rfl).trans ((u13 18 12 rfl).trans ((u11 18 12 rfl).trans ((u9 18 12 rfl).trans ((u6 18 12 rfl).trans ((u3 18 12 rfl).trans (u1 18 12 rfl))))))))))) ?_
    refine wr_pf0 (k0 := 37) (x := h 18 12) (bl := -2147483648) (bh := 2147483647) (nx := 139) (r1 := 4) (r2 := 12) (r3 := 0) rfl (by decide) rfl ⟨rfl, rfl⟩ rfl rfl g28 rfl (by omega) (fun h31 g31 w31 u31 => ?_)
    have F32 := F29.then rfl u31
    refine wi_aload_n (i := 0) (x := 37) (nx := 140) (r1 := 0) (r2 := 0) (r3 := 0) rfl rfl ?_
    refine wi_aload_n (i := 1) (x := 18) (nx := 141) (r1 := 0) (r2 := 0) (r3 := 0) rfl rfl ?_
    have b33 := gi_b (lo := -2147483648) (hi := 2147483647) g 18 13 rfl
    refine wr_gi0 (k0 := 18) (x := h 18 13) (nx := 144) (r1 := 4) (r2 := 13) (r3 := 0) rfl rfl (by decide) rfl ⟨rfl, rfl⟩ rfl ((u31 18 13 rfl).trans ((u28 18 13 rfl).trans ((u25 18 13 rfl).trans ((u22 18 13 rfl).trans ((u19 18 13 rfl).trans ((u16 18 13 rfl).trans ((u13 18 13 rfl).trans ((u11 18 13 rfl).trans ((u9 18 13 rfl).trans ((u6 18 13 rfl).trans ((u3 18 13 rfl).trans (u1 18 13 rfl)))))))))))) ?_
    refine wr_pf0 (k0 := 37) (x := h 18 13) (bl := -2147483648) (bh := 2147483647) (nx := 147) (r1 := 4) (r2 := 13) (r3 := 0) rfl (by decide) rfl ⟨rfl, rfl⟩ rfl rfl g31 rfl (by omega) (fun h34 g34 w34 u34 => ?_)
    have F35 := F32.then rfl u34
    refine wi_aload_n (i := 1) (x := 18) (nx := 148) (r1 := 0) (r2 := 0) (r3 := 0) rfl rfl ?_
    refine wr_gr (k0 := 18) (x := 28) (nx := 151) (r1 := 4) (r2 := 14) (r3 := 0) rfl rfl (by decide) rfl ⟨rfl, rfl⟩ rfl ?_
    refine wi_iconst (n := 0) (nx := 152) (r1 := 0) (r2 := 0) (r3 := 0) rfl ?_
    refine wi_aload_n (i := 0) (x := 37) (nx := 153) (r1 := 0) (r2 := 0) (r3 := 0) rfl rfl ?_
    refine wr_gr (k0 := 37) (x := 47) (nx := 156) (r1 := 4) (r2 := 14) (r3 := 0) rfl rfl (by decide) rfl ⟨rfl, rfl⟩ rfl ?_
    refine wi_iconst (n := 0) (nx := 157) (r1 := 0) (r2 := 0) (r3 := 0) rfl ?_
    refine wi_aload_n (i := 0) (x := 37) (nx := 158) (r1 := 0) (r2 := 0) (r3 := 0) rfl rfl ?_
    refine wr_gr (k0 := 37) (x := 47) (nx := 161) (r1 := 4) (r2 := 14) (r3 := 0) rfl rfl (by decide) rfl ⟨rfl, rfl⟩ rfl ?_
    refine wr_al (k0 := 47) (e := 144) (nx := 162) (r1 := 0) (r2 := 0) (r3 := 0) rfl (by decide) rfl rfl ?_
    refine wr_cpy (s0 := 28) (d0 := 47) (n0 := 144) (n1 := 144) (sp := 0) (dp := 0) (n := 144) (sl := -2147483648) (sh := 2147483647) (dl := -2147483648) (dh := 2147483647) (nx := 165) (r1 := 0) (r2 := 101) (r3 := 0) rfl rfl (of_decide_eq_true rfl) (by decide) (by decide) rfl rfl (by omega) (fun _ => rfl) (fun _ => rfl) (by omega) g34 (fun h36 g36 y36 u36 => ?_)
    have F37 := F35.then rfl u36
    refine wi_aload_n (i := 0) (x := 37) (nx := 166) (r1 := 0) (r2 := 0) (r3 := 0) rfl rfl ?_
    refine wi_aload_n (i := 1) (x := 18) (nx := 167) (r1 := 0) (r2 := 0) (r3 := 0) rfl rfl ?_
    have b38 := gi_b (lo := 0) (hi := 36) g 18 15 rfl
    refine wr_gi0 (k0 := 18) (x := h 18 15) (nx := 170) (r1 := 4) (r2 := 15) (r3 := 0) rfl rfl (by decide) rfl ⟨rfl, rfl⟩ rfl ((u36 18 15 rfl).trans ((u34 18 15 rfl).trans ((u31 18 15 rfl).trans ((u28 18 15 rfl).trans ((u25 18 15 rfl).trans ((u22 18 15 rfl).trans ((u19 18 15 rfl).trans ((u16 18 15 rfl).trans ((u13 18 15 rfl).trans ((u11 18 15 rfl).trans ((u9 18 15 rfl).trans ((u6 18 15 rfl).trans ((u3 18 15 rfl).trans (u1 18 15 rfl)))))))))))))) ?_
    refine wr_pf0 (k0 := 37) (x := h 18 15) (bl := 0) (bh := 36) (nx := 173) (r1 := 4) (r2 := 15) (r3 := 0) rfl (by decide) rfl ⟨rfl, rfl⟩ rfl rfl g36 rfl (by omega) (fun h39 g39 w39 u39 => ?_)
    have F40 := F37.then rfl u39
    refine wi_aload_n (i := 0) (x := 37) (nx := 174) (r1 := 0) (r2 := 0) (r3 := 0) rfl rfl ?_
    refine wi_dup (nx := 175) (r1 := 0) (r2 := 0) (r3 := 0) rfl rfl ?_
    have b41 := gi_b (lo := -2147483648) (hi := 2147483647) g 37 16 rfl
    refine wr_gi0 (k0 := 37) (x := h 37 16) (nx := 178) (r1 := 4) (r2 := 16) (r3 := 0) rfl rfl (by decide) rfl ⟨rfl, rfl⟩ rfl ((u39 37 16 rfl).trans ((u36 37 16 rfl).trans ((u34 37 16 rfl).trans ((u31 37 16 rfl).trans ((u28 37 16 rfl).trans ((u25 37 16 rfl).trans ((u22 37 16 rfl).trans ((u19 37 16 rfl).trans ((u16 37 16 rfl).trans ((u13 37 16 rfl).trans ((u11 37 16 rfl).trans ((u9 37 16 rfl).trans ((u6 37 16 rfl).trans ((u3 37 16 rfl).trans (u1 37 16 rfl))))))))))))))) ?_
    refine wi_iconst (n := 1) (nx := 179) (r1 := 0) (r2 := 0) (r3 := 0) rfl ?_
    refine wr_addW (nx := 180) (r1 := 0) (r2 := 0) (r3 := 0) rfl (fun e42 (fe42 : -2147483648 ≤ e42 ∧ e42 ≤ 2147483647) => ?_)
    refine wr_pf0 (k0 := 37) (x := e42) (bl := -2147483648) (bh := 2147483647) (nx := 183) (r1 := 4) (r2 := 16) (r3 := 0) rfl (by decide) rfl ⟨rfl, rfl⟩ rfl rfl g39 rfl (by omega) (fun h43 g43 w43 u43 => ?_)
    have F44 := F40.then rfl u43
    refine wi_return (nx := 184) (r1 := 0) (r2 := 0) (r3 := 0) rfl rfl ?_
    exact k h43 g43 F44
  ·
    refine wi_aload_n (i := 0) (x := 37) (nx := 38) (r1 := 0) (r2 := 0) (r3 := 0) rfl rfl ?_
    refine wr_gr (k0 := 37) (x := 40) (nx := 41) (r1 := 4) (r2 := 3) (r3 := 0) rfl rfl (by decide) rfl ⟨rfl, rfl⟩ rfl ?_
    refine wi_iload_n (i := 2) (e := x5) (nx := 42) (r1 := 0) (r2 := 0) (r3 := 0) rfl rfl ?_
    obtain ⟨i9, ei9⟩ : ∃ q : Nat, x5 = (q : Int) := ⟨(x5).toNat, by omega⟩
    refine wr_aa (k0 := 40) (a := x5) (f := i9) (x := 40 + 8 + 2 * i9) (nx := 43) (r1 := 0) (r2 := 0) (r3 := 0) rfl (by decide) rfl (Or.inl rfl) (by omega) (by omega) (by decide) (hcr.1 40 (by decide) i9 (by omega)) ?_
    obtain ⟨k10, kk10, mk10⟩ : ∃ q, Rw q ∧ q = 40 + 8 + 2 * i9 := ⟨_, rw_lane 40 (by decide) i9 (by omega), rfl⟩
    rw [← mk10]
    refine wi_aload_n (i := 1) (x := 18) (nx := 44) (r1 := 0) (r2 := 0) (r3 := 0) rfl rfl ?_
    refine wr_gr (k0 := 18) (x := 21) (nx := 47) (r1 := 4) (r2 := 3) (r3 := 0) rfl rfl (by decide) rfl ⟨rfl, rfl⟩ rfl ?_
    refine wi_iload_n (i := 2) (e := x5) (nx := 48) (r1 := 0) (r2 := 0) (r3 := 0) rfl rfl ?_
    refine wr_aa (k0 := 21) (a := x5) (f := i9) (x := 21 + 8 + 2 * i9) (nx := 49) (r1 := 0) (r2 := 0) (r3 := 0) rfl (by decide) rfl (Or.inl rfl) (by omega) (by omega) (by decide) (hcr.1 21 (by decide) i9 (by omega)) ?_
    obtain ⟨k11, kk11, mk11⟩ : ∃ q, Rw q ∧ q = 21 + 8 + 2 * i9 := ⟨_, rw_lane 21 (by decide) i9 (by omega), rfl⟩
    rw [← mk11]
    refine wr_V (k0 := k10) (rest := []) (as := [.ref k10, .ref k11]) (nx := 52) (r1 := 155) (r2 := 1) (r3 := 5) rfl rfl rfl (of_decide_eq_true rfl) rfl rfl kk10.k kk10.1 rfl (of_decide_eq_true rfl) (of_decide_eq_true rfl) ?_
    refine ct_155_R_R hcr kk10 kk11 g6    (fun h12 g12 u12 => ?_)
    have v12 := FR.rngp (lo := 48) (hi := 55) u12 (by omega)
    have F13 := F7.then rfl (FR.rngp (lo := 48) (hi := 55) u12 (by omega))
    have F14 := u6.then rfl (FR.rngp (lo := 48) (hi := 55) u12 (by omega))
    refine wk_n ?_
    refine wr_iinc (i := 2) (n := 1) (v := x5) (fun e15 => [(2, vi e15), (0, .ref 37), (1, .ref 18)]) (nx := 55) (r1 := 0) (r2 := 0) (r3 := 0) rfl rfl (fun _ => rfl) (fun e15 (fe15 : e15 = x5 + 1) => ?_)
    refine wi_goto (nx := 58) (r1 := 32) (r2 := 0) (r3 := 0) rfl ?_
    refine wp.lo (lo := [(0, .ref 37), (1, .ref 18), (2, vi e15)]) ⟨rfl, rfl, rfl, trivial⟩ rfl ?_
    exact I6 e15 h12 ⟨g12, F13, F14, (show (0 ≤ e15 ∧ e15 ≤ 4) by omega)⟩ (show ((4 : Int) + 1 - e15).toNat < ((4 : Int) + 1 - x5).toNat by omega)
-- method 135: Line.firstIsReady()Z
set_option maxRecDepth 100000 in
set_option maxHeartbeats 100000000 in
theorem ct_135_37 {L : Nat} {xs : Nat → Int32} {d b c : Nat} {h : hp} {cr : Nat → Nat → Option Nat} {Q : hp_Q} (hcr : CR cr)  (g : GI h)    (k : ∀ (z0 : Int), (0 ≤ z0 ∧ z0 ≤ 1) → Q (.inl (some (vi z0))) (hp_w h cr) b c) : wp (md_xa (L, xs)) (d + 1) 135 (0, [(0, .ref 37)], [], hp_w h cr, b, c) Q := by
  have F0 : FR [] h h := FR.refl
  refine wi_aload_n (i := 0) (x := 37) (nx := 1) (r1 := 0) (r2 := 0) (r3 := 0) rfl rfl ?_
  refine wr_gr (k0 := 37) (x := 41) (nx := 4) (r1 := 4) (r2 := 4) (r3 := 0) rfl rfl (by decide) rfl ⟨rfl, rfl⟩ rfl ?_
  have b1 := gi_b (lo := 0) (hi := 12) g 41 1 rfl
  refine wr_gi0 (k0 := 41) (x := h 41 1) (nx := 7) (r1 := 5) (r2 := 1) (r3 := 0) rfl rfl (by decide) rfl ⟨rfl, rfl⟩ rfl rfl ?_
  refine wi_if (cd := .le) (nx := 10) (r1 := 29) (r2 := 0) (r3 := 0) rfl (by omega) (fun (q2 : (h 41 1) ≤ 0) => ?_) (fun (q2 : ¬ ((h 41 1) ≤ 0)) => ?_)
  ·
    refine wi_iconst (n := 0) (nx := 30) (r1 := 0) (r2 := 0) (r3 := 0) rfl ?_
    refine wi_zreturn (nx := 31) (r1 := 0) (r2 := 0) (r3 := 0) rfl rfl (by omega) ?_
    exact k 0 (by omega)
  ·
    refine wi_aload_n (i := 0) (x := 37) (nx := 11) (r1 := 0) (r2 := 0) (r3 := 0) rfl rfl ?_
    have b3 := gi_b (lo := -2147483648) (hi := 2147483647) g 37 10 rfl
    refine wr_gi0 (k0 := 37) (x := h 37 10) (nx := 14) (r1 := 4) (r2 := 10) (r3 := 0) rfl rfl (by decide) rfl ⟨rfl, rfl⟩ rfl rfl ?_
    refine wi_aload_n (i := 0) (x := 37) (nx := 15) (r1 := 0) (r2 := 0) (r3 := 0) rfl rfl ?_
    refine wr_gr (k0 := 37) (x := 43) (nx := 18) (r1 := 4) (r2 := 5) (r3 := 0) rfl rfl (by decide) rfl ⟨rfl, rfl⟩ rfl ?_
    refine wi_iconst (n := 0) (nx := 19) (r1 := 0) (r2 := 0) (r3 := 0) rfl ?_
    refine wr_V (k0 := 43) (rest := [vi (h 37 10)]) (as := [.ref 43, vi 0]) (nx := 22) (r1 := 154) (r2 := 1) (r3 := 5) rfl rfl rfl (of_decide_eq_true rfl) rfl rfl (by decide) rfl rfl (of_decide_eq_true rfl) (of_decide_eq_true rfl) ?_
    refine ct_154_R hcr rw_43 g 0 (by omega)  (fun z5  (fz5 : -2147483648 ≤ z5 ∧ z5 ≤ 2147483647) => ?_)
    refine wk_i ?_
    refine wi_icmp (cd := .lt) (nx := 25) (r1 := 29) (r2 := 0) (r3 := 0) rfl (by omega) (by omega) (fun (q6 : (h 37 10) < z5) => ?_) (fun (q6 : ¬ ((h 37 10) < z5)) => ?_)
    ·
      refine wi_iconst (n := 0) (nx := 30) (r1 := 0) (r2 := 0) (r3 := 0) rfl ?_
      refine wi_zreturn (nx := 31) (r1 := 0) (r2 := 0) (r3 := 0) rfl rfl (by omega) ?_
      exact k 0 (by omega)
    ·
      refine wi_iconst (n := 1) (nx := 26) (r1 := 0) (r2 := 0) (r3 := 0) rfl ?_
      refine wi_goto (nx := 29) (r1 := 30) (r2 := 0) (r3 := 0) rfl ?_
      refine wi_zreturn (nx := 31) (r1 := 0) (r2 := 0) (r3 := 0) rfl rfl (by omega) ?_
      exact k 1 (by omega)
-- method 141: Line.mayLeave(I)Z
set_option maxRecDepth 100000 in
set_option maxHeartbeats 100000000 in
theorem ct_141_37 {L : Nat} {xs : Nat → Int32} {d b c : Nat} {h : hp} {cr : Nat → Nat → Option Nat} {Q : hp_Q} (hcr : CR cr)  (g : GI h) (a0 : Int) (q0_ : -2147483648 ≤ a0 ∧ a0 ≤ 2147483647)  (k : ∀ (z0 : Int), (0 ≤ z0 ∧ z0 ≤ 1) → (z0 = 1 → 0 ≤ a0 ∧ a0 ≤ 3) → Q (.inl (some (vi z0))) (hp_w h cr) b c) : wp (md_xa (L, xs)) (d + 1) 141 (0, [(0, .ref 37), (1, vi a0)], [], hp_w h cr, b, c) Q := by
  have F0 : FR [] h h := FR.refl
  refine wi_iload_n (i := 1) (e := a0) (nx := 1) (r1 := 0) (r2 := 0) (r3 := 0) rfl rfl ?_
  refine wi_if (cd := .lt) (nx := 4) (r1 := 25) (r2 := 0) (r3 := 0) rfl (by omega) (fun (q1 : a0 < 0) => ?_) (fun (q1 : ¬ (a0 < 0)) => ?_)
  ·
    refine wi_iconst (n := 0) (nx := 26) (r1 := 0) (r2 := 0) (r3 := 0) rfl ?_
    refine wi_zreturn (nx := 27) (r1 := 0) (r2 := 0) (r3 := 0) rfl rfl (by omega) ?_
    exact k 0 (by omega) (fun _ => by omega)
  ·
    refine wi_iload_n (i := 1) (e := a0) (nx := 5) (r1 := 0) (r2 := 0) (r3 := 0) rfl rfl ?_
    refine wi_aload_n (i := 0) (x := 37) (nx := 6) (r1 := 0) (r2 := 0) (r3 := 0) rfl rfl ?_
    refine wr_gr (k0 := 37) (x := 3) (nx := 9) (r1 := 4) (r2 := 0) (r3 := 0) rfl rfl (by decide) rfl ⟨rfl, rfl⟩ rfl ?_
    have b2 := gi_b (lo := 0) (hi := 4) g 3 1 rfl
    refine wr_gi0 (k0 := 3) (x := h 3 1) (nx := 12) (r1 := 2) (r2 := 1) (r3 := 0) rfl rfl (by decide) rfl ⟨rfl, rfl⟩ rfl rfl ?_
    refine wi_icmp (cd := .ge) (nx := 15) (r1 := 25) (r2 := 0) (r3 := 0) rfl (by omega) (by omega) (fun (q3 : (h 3 1) ≤ a0) => ?_) (fun (q3 : ¬ ((h 3 1) ≤ a0)) => ?_)
    ·
      refine wi_iconst (n := 0) (nx := 26) (r1 := 0) (r2 := 0) (r3 := 0) rfl ?_
      refine wi_zreturn (nx := 27) (r1 := 0) (r2 := 0) (r3 := 0) rfl rfl (by omega) ?_
      exact k 0 (by omega) (fun _ => by omega)
    ·
      refine wi_aload_n (i := 0) (x := 37) (nx := 16) (r1 := 0) (r2 := 0) (r3 := 0) rfl rfl ?_
      have b4 := gi_b (lo := -2147483648) (hi := 2147483647) g 37 10 rfl
      refine wr_gi0 (k0 := 37) (x := h 37 10) (nx := 19) (r1 := 4) (r2 := 10) (r3 := 0) rfl rfl (by decide) rfl ⟨rfl, rfl⟩ rfl rfl ?_
      refine wi_sipush (n := 9999) (nx := 22) (r1 := 0) (r2 := 0) (r3 := 0) rfl (by decide) ?_
      refine wi_icmp (cd := .lt) (nx := 25) (r1 := 27) (r2 := 0) (r3 := 0) rfl (by omega) (by omega) (fun (q5 : (h 37 10) < 9999) => ?_) (fun (q5 : ¬ ((h 37 10) < 9999)) => ?_)
      ·
        refine wi_aload_n (i := 0) (x := 37) (nx := 28) (r1 := 0) (r2 := 0) (r3 := 0) rfl rfl ?_
        refine wr_gr (k0 := 37) (x := 40) (nx := 31) (r1 := 4) (r2 := 3) (r3 := 0) rfl rfl (by decide) rfl ⟨rfl, rfl⟩ rfl ?_
        refine wi_iload_n (i := 1) (e := a0) (nx := 32) (r1 := 0) (r2 := 0) (r3 := 0) rfl rfl ?_
        obtain ⟨i6, ei6⟩ : ∃ q : Nat, a0 = (q : Int) := ⟨(a0).toNat, by omega⟩
        refine wr_aa (k0 := 40) (a := a0) (f := i6) (x := 40 + 8 + 2 * i6) (nx := 33) (r1 := 0) (r2 := 0) (r3 := 0) rfl (by decide) rfl (Or.inl rfl) (by omega) (by omega) (by decide) (hcr.1 40 (by decide) i6 (by omega)) ?_
        obtain ⟨k7, kk7, mk7⟩ : ∃ q, Rw q ∧ q = 40 + 8 + 2 * i6 := ⟨_, rw_lane 40 (by decide) i6 (by omega), rfl⟩
        rw [← mk7]
        refine wi_iconst (n := 0) (nx := 34) (r1 := 0) (r2 := 0) (r3 := 0) rfl ?_
        refine wr_V (k0 := k7) (rest := []) (as := [.ref k7, vi 0]) (nx := 37) (r1 := 154) (r2 := 1) (r3 := 5) rfl rfl rfl (of_decide_eq_true rfl) rfl rfl kk7.k kk7.1 rfl (of_decide_eq_true rfl) (of_decide_eq_true rfl) ?_
        refine ct_154_R hcr kk7 g 0 (by omega)  (fun z9  (fz9 : -2147483648 ≤ z9 ∧ z9 ≤ 2147483647) => ?_)
        refine wk_i ?_
        refine wi_istore_n (i := 2) (e := z9) (lo2 := [(2, vi z9), (0, .ref 37), (1, vi a0)]) (nx := 38) (r1 := 0) (r2 := 0) (r3 := 0) rfl rfl ?_
        refine wi_iload_n (i := 2) (e := z9) (nx := 39) (r1 := 0) (r2 := 0) (r3 := 0) rfl rfl ?_
        refine wi_if (cd := .lt) (nx := 42) (r1 := 48) (r2 := 0) (r3 := 0) rfl (by omega) (fun (q10 : z9 < 0) => ?_) (fun (q10 : ¬ (z9 < 0)) => ?_)
        ·
          refine wi_iconst (n := 0) (nx := 49) (r1 := 0) (r2 := 0) (r3 := 0) rfl ?_
          refine wi_zreturn (nx := 50) (r1 := 0) (r2 := 0) (r3 := 0) rfl rfl (by omega) ?_
          exact k 0 (by omega) (fun _ => by omega)
        ·
          refine wi_iload_n (i := 2) (e := z9) (nx := 43) (r1 := 0) (r2 := 0) (r3 := 0) rfl rfl ?_
          refine wi_bipush (n := 12) (nx := 45) (r1 := 0) (r2 := 0) (r3 := 0) rfl (by decide) ?_
          refine wi_icmp (cd := .lt) (nx := 48) (r1 := 50) (r2 := 0) (r3 := 0) rfl (by omega) (by omega) (fun (q11 : z9 < 12) => ?_) (fun (q11 : ¬ (z9 < 12)) => ?_)
          ·
            refine wi_aload_n (i := 0) (x := 37) (nx := 51) (r1 := 0) (r2 := 0) (r3 := 0) rfl rfl ?_
            refine wr_gr (k0 := 37) (x := 39) (nx := 54) (r1 := 4) (r2 := 2) (r3 := 0) rfl rfl (by decide) rfl ⟨rfl, rfl⟩ rfl ?_
            refine wi_iload_n (i := 2) (e := z9) (nx := 55) (r1 := 0) (r2 := 0) (r3 := 0) rfl rfl ?_
            obtain ⟨i12, ei12⟩ : ∃ q : Nat, z9 = (q : Int) := ⟨(z9).toNat, by omega⟩
            have b13 := gi_b (lo := -2147483648) (hi := 2147483647) g 39 i12 rfl
            refine wr_ia (k0 := 39) (a := z9) (f := i12) (x := h 39 i12) (nx := 56) (r1 := 0) (r2 := 0) (r3 := 0) rfl (by decide) rfl (by omega) (by omega) (by decide) rfl ?_
            refine wi_if (cd := .le) (nx := 59) (r1 := 82) (r2 := 0) (r3 := 0) rfl (by omega) (fun (q14 : (h 39 i12) ≤ 0) => ?_) (fun (q14 : ¬ ((h 39 i12) ≤ 0)) => ?_)
            ·
              refine wi_iload_n (i := 2) (e := z9) (nx := 83) (r1 := 0) (r2 := 0) (r3 := 0) rfl rfl ?_
              refine wi_aload_n (i := 0) (x := 37) (nx := 84) (r1 := 0) (r2 := 0) (r3 := 0) rfl rfl ?_
              refine wr_gr (k0 := 37) (x := 45) (nx := 87) (r1 := 4) (r2 := 6) (r3 := 0) rfl rfl (by decide) rfl ⟨rfl, rfl⟩ rfl ?_
              have b15 := gi_b (lo := 0) (hi := 12) g 45 1 rfl
              refine wr_gi0 (k0 := 45) (x := h 45 1) (nx := 90) (r1 := 5) (r2 := 1) (r3 := 0) rfl rfl (by decide) rfl ⟨rfl, rfl⟩ rfl rfl ?_
              refine wr_sub (nx := 91) (r1 := 0) (r2 := 0) (r3 := 0) rfl (fun e16 (fe16 : e16 = z9 - (h 45 1)) => ?_)
              refine wi_aload_n (i := 0) (x := 37) (nx := 92) (r1 := 0) (r2 := 0) (r3 := 0) rfl rfl ?_
              refine wr_gr (k0 := 37) (x := 3) (nx := 95) (r1 := 4) (r2 := 0) (r3 := 0) rfl rfl (by decide) rfl ⟨rfl, rfl⟩ rfl ?_
              have b17 := gi_b (lo := -2147483648) (hi := 2147483647) g 3 3 rfl
              refine wr_gi0 (k0 := 3) (x := h 3 3) (nx := 98) (r1 := 2) (r2 := 3) (r3 := 0) rfl rfl (by decide) rfl ⟨rfl, rfl⟩ rfl rfl ?_
              refine wi_icmp (cd := .gt) (nx := 101) (r1 := 105) (r2 := 0) (r3 := 0) rfl (by omega) (by omega) (fun (q18 : (h 3 3) < e16) => ?_) (fun (q18 : ¬ ((h 3 3) < e16)) => ?_)
              ·
                refine wi_iconst (n := 0) (nx := 106) (r1 := 0) (r2 := 0) (r3 := 0) rfl ?_
                refine wi_zreturn (nx := 107) (r1 := 0) (r2 := 0) (r3 := 0) rfl rfl (by omega) ?_
                exact k 0 (by omega) (fun _ => by omega)
              ·
                refine wi_iconst (n := 1) (nx := 102) (r1 := 0) (r2 := 0) (r3 := 0) rfl ?_
                refine wi_goto (nx := 105) (r1 := 106) (r2 := 0) (r3 := 0) rfl ?_
                refine wi_zreturn (nx := 107) (r1 := 0) (r2 := 0) (r3 := 0) rfl rfl (by omega) ?_
                exact k 1 (by omega) (fun _ => by omega)
            ·
              refine wi_aload_n (i := 0) (x := 37) (nx := 60) (r1 := 0) (r2 := 0) (r3 := 0) rfl rfl ?_
              refine wr_gr (k0 := 37) (x := 41) (nx := 63) (r1 := 4) (r2 := 4) (r3 := 0) rfl rfl (by decide) rfl ⟨rfl, rfl⟩ rfl ?_
              have b15 := gi_b (lo := 0) (hi := 12) g 41 1 rfl
              refine wr_gi0 (k0 := 41) (x := h 41 1) (nx := 66) (r1 := 5) (r2 := 1) (r3 := 0) rfl rfl (by decide) rfl ⟨rfl, rfl⟩ rfl rfl ?_
              refine wi_aload_n (i := 0) (x := 37) (nx := 67) (r1 := 0) (r2 := 0) (r3 := 0) rfl rfl ?_
              refine wr_gr (k0 := 37) (x := 3) (nx := 70) (r1 := 4) (r2 := 0) (r3 := 0) rfl rfl (by decide) rfl ⟨rfl, rfl⟩ rfl ?_
              have b16 := gi_b (lo := -2147483648) (hi := 2147483647) g 3 7 rfl
              refine wr_gi0 (k0 := 3) (x := h 3 7) (nx := 73) (r1 := 2) (r2 := 7) (r3 := 0) rfl rfl (by decide) rfl ⟨rfl, rfl⟩ rfl rfl ?_
              refine wi_icmp (cd := .ge) (nx := 76) (r1 := 80) (r2 := 0) (r3 := 0) rfl (by omega) (by omega) (fun (q17 : (h 3 7) ≤ (h 41 1)) => ?_) (fun (q17 : ¬ ((h 3 7) ≤ (h 41 1))) => ?_)
              ·
                refine wi_iconst (n := 0) (nx := 81) (r1 := 0) (r2 := 0) (r3 := 0) rfl ?_
                refine wi_zreturn (nx := 82) (r1 := 0) (r2 := 0) (r3 := 0) rfl rfl (by omega) ?_
                exact k 0 (by omega) (fun _ => by omega)
              ·
                refine wi_iconst (n := 1) (nx := 77) (r1 := 0) (r2 := 0) (r3 := 0) rfl ?_
                refine wi_goto (nx := 80) (r1 := 81) (r2 := 0) (r3 := 0) rfl ?_
                refine wi_zreturn (nx := 82) (r1 := 0) (r2 := 0) (r3 := 0) rfl rfl (by omega) ?_
                exact k 1 (by omega) (fun _ => by omega)
          ·
            refine wi_iconst (n := 0) (nx := 49) (r1 := 0) (r2 := 0) (r3 := 0) rfl ?_
            refine wi_zreturn (nx := 50) (r1 := 0) (r2 := 0) (r3 := 0) rfl rfl (by omega) ?_
            exact k 0 (by omega) (fun _ => by omega)
      ·
        refine wi_iconst (n := 0) (nx := 26) (r1 := 0) (r2 := 0) (r3 := 0) rfl ?_
        refine wi_zreturn (nx := 27) (r1 := 0) (r2 := 0) (r3 := 0) rfl rfl (by omega) ?_
        exact k 0 (by omega) (fun _ => by omega)
-- method 131: Line.colorOfCar(I)I
set_option maxRecDepth 100000 in
set_option maxHeartbeats 100000000 in
theorem ct_131_37 {L : Nat} {xs : Nat → Int32} {d b c : Nat} {h : hp} {cr : Nat → Nat → Option Nat} {Q : hp_Q} (hcr : CR cr)  (g : GI h) (a0 : Int) (q0_ : -2147483648 ≤ a0 ∧ a0 ≤ 2147483647)  (k : ∀ (z0 : Int), (-2147483648 ≤ z0 ∧ z0 ≤ 2147483647) → Q (.inl (some (vi z0))) (hp_w h cr) b c) : wp (md_xa (L, xs)) d 131 (0, [(0, .ref 37), (1, vi a0)], [], hp_w h cr, b, c) Q := by
  have F0 : FR [] h h := FR.refl
  refine wi_iload_n (i := 1) (e := a0) (nx := 1) (r1 := 0) (r2 := 0) (r3 := 0) rfl rfl ?_
  refine wi_if (cd := .lt) (nx := 4) (r1 := 10) (r2 := 0) (r3 := 0) rfl (by omega) (fun (q1 : a0 < 0) => ?_) (fun (q1 : ¬ (a0 < 0)) => ?_)
  ·
    refine wi_iconst (n := (-1)) (nx := 11) (r1 := 0) (r2 := 0) (r3 := 0) rfl ?_
    refine wi_goto (nx := 14) (r1 := 20) (r2 := 0) (r3 := 0) rfl ?_
    refine wi_ireturn (nx := 21) (r1 := 0) (r2 := 0) (r3 := 0) rfl rfl ?_
    exact k (-1) (by omega)
  ·
    refine wi_iload_n (i := 1) (e := a0) (nx := 5) (r1 := 0) (r2 := 0) (r3 := 0) rfl rfl ?_
    refine wi_bipush (n := 12) (nx := 7) (r1 := 0) (r2 := 0) (r3 := 0) rfl (by decide) ?_
    refine wi_icmp (cd := .lt) (nx := 10) (r1 := 14) (r2 := 0) (r3 := 0) rfl (by omega) (by omega) (fun (q2 : a0 < 12) => ?_) (fun (q2 : ¬ (a0 < 12)) => ?_)
    ·
      refine wi_aload_n (i := 0) (x := 37) (nx := 15) (r1 := 0) (r2 := 0) (r3 := 0) rfl rfl ?_
      refine wr_gr (k0 := 37) (x := 38) (nx := 18) (r1 := 4) (r2 := 1) (r3 := 0) rfl rfl (by decide) rfl ⟨rfl, rfl⟩ rfl ?_
      refine wi_iload_n (i := 1) (e := a0) (nx := 19) (r1 := 0) (r2 := 0) (r3 := 0) rfl rfl ?_
      obtain ⟨i3, ei3⟩ : ∃ q : Nat, a0 = (q : Int) := ⟨(a0).toNat, by omega⟩
      have b4 := gi_b (lo := -2147483648) (hi := 2147483647) g 38 i3 rfl
      refine wr_ia (k0 := 38) (a := a0) (f := i3) (x := h 38 i3) (nx := 20) (r1 := 0) (r2 := 0) (r3 := 0) rfl (by decide) rfl (by omega) (by omega) (by decide) rfl ?_
      refine wi_ireturn (nx := 21) (r1 := 0) (r2 := 0) (r3 := 0) rfl rfl ?_
      exact k (h 38 i3) (by omega)
    ·
      refine wi_iconst (n := (-1)) (nx := 11) (r1 := 0) (r2 := 0) (r3 := 0) rfl ?_
      refine wi_goto (nx := 14) (r1 := 20) (r2 := 0) (r3 := 0) rfl ?_
      refine wi_ireturn (nx := 21) (r1 := 0) (r2 := 0) (r3 := 0) rfl rfl ?_
      exact k (-1) (by omega)
-- method 140: Line.chosenToLeave()I
set_option maxRecDepth 100000 in
set_option maxHeartbeats 100000000 in
theorem ct_140_37 {L : Nat} {xs : Nat → Int32} {d b c : Nat} {h : hp} {cr : Nat → Nat → Option Nat} {Q : hp_Q} (hcr : CR cr)  (g : GI h)    (k : ∀ (z0 : Int), (-1 ≤ z0 ∧ z0 ≤ 3) → Q (.inl (some (vi z0))) (hp_w h cr) b c) : wp (md_xa (L, xs)) (d + 2) 140 (0, [(0, .ref 37)], [], hp_w h cr, b, c) Q := by
  have F0 : FR [] h h := FR.refl
  refine wi_iconst (n := (-1)) (nx := 1) (r1 := 0) (r2 := 0) (r3 := 0) rfl ?_
  refine wi_istore_n (i := 1) (e := -1) (lo2 := [(1, vi (-1)), (0, .ref 37)]) (nx := 2) (r1 := 0) (r2 := 0) (r3 := 0) rfl rfl ?_
  refine wi_bipush (n := 12) (nx := 4) (r1 := 0) (r2 := 0) (r3 := 0) rfl (by decide) ?_
  refine wi_istore_n (i := 2) (e := 12) (lo2 := [(2, vi 12), (1, vi (-1)), (0, .ref 37)]) (nx := 5) (r1 := 0) (r2 := 0) (r3 := 0) rfl rfl ?_
  refine wi_iconst (n := 0) (nx := 6) (r1 := 0) (r2 := 0) (r3 := 0) rfl ?_
  refine wi_istore_n (i := 3) (e := 0) (lo2 := [(3, vi 0), (2, vi 12), (1, vi (-1)), (0, .ref 37)]) (nx := 7) (r1 := 0) (r2 := 0) (r3 := 0) rfl rfl ?_
  refine wp.lo (lo := [(0, .ref 37), (1, vi (-1)), (2, vi 12), (3, vi 0)]) ⟨rfl, rfl, rfl, rfl, trivial⟩ rfl ?_
  refine wl_3 (fun x1 x2 x3 h4 => h = h4 ∧ ((-1 ≤ x1 ∧ x1 ≤ 3) ∧ (-2147483648 ≤ x2 ∧ x2 ≤ 12) ∧ (0 ≤ x3 ∧ x3 ≤ 4))) (fun x1 x2 x3 h4 => ((4 : Int) + 1 - x3).toNat) (fun x1 x2 x3 h4 => (7, [(0, .ref 37), (1, vi x1), (2, vi x2), (3, vi x3)], [], hp_w h4 cr, b, c)) ?_ (-1) 12 0 h ⟨rfl, (show (-1 ≤ (-1) ∧ (-1) ≤ 3) ∧ (-2147483648 ≤ 12 ∧ 12 ≤ 12) ∧ (0 ≤ 0 ∧ 0 ≤ 4) by omega)⟩
  intro x1 x2 x3 h4 ⟨e4, f4⟩ I4
  subst e4
  refine wi_iload_n (i := 3) (e := x3) (nx := 8) (r1 := 0) (r2 := 0) (r3 := 0) rfl rfl ?_
  refine wi_aload_n (i := 0) (x := 37) (nx := 9) (r1 := 0) (r2 := 0) (r3 := 0) rfl rfl ?_
  refine wr_gr (k0 := 37) (x := 3) (nx := 12) (r1 := 4) (r2 := 0) (r3 := 0) rfl rfl (by decide) rfl ⟨rfl, rfl⟩ rfl ?_
  have b6 := gi_b (lo := 0) (hi := 4) g 3 1 rfl
  refine wr_gi0 (k0 := 3) (x := h 3 1) (nx := 15) (r1 := 2) (r2 := 1) (r3 := 0) rfl rfl (by decide) rfl ⟨rfl, rfl⟩ rfl rfl ?_
  refine wi_icmp (cd := .ge) (nx := 18) (r1 := 70) (r2 := 0) (r3 := 0) rfl (by omega) (by omega) (fun (q7 : (h 3 1) ≤ x3) => ?_) (fun (q7 : ¬ ((h 3 1) ≤ x3)) => ?_)
  ·
    refine wi_iload_n (i := 1) (e := x1) (nx := 71) (r1 := 0) (r2 := 0) (r3 := 0) rfl rfl ?_
    refine wi_ireturn (nx := 72) (r1 := 0) (r2 := 0) (r3 := 0) rfl rfl ?_
    exact k x1 (by omega)
  ·
    refine wi_aload_n (i := 0) (x := 37) (nx := 19) (r1 := 0) (r2 := 0) (r3 := 0) rfl rfl ?_
    refine wi_iload_n (i := 3) (e := x3) (nx := 20) (r1 := 0) (r2 := 0) (r3 := 0) rfl rfl ?_
    refine wr_V (k0 := 37) (rest := []) (as := [.ref 37, vi x3]) (nx := 23) (r1 := 141) (r2 := 1) (r3 := 4) rfl rfl rfl (of_decide_eq_true rfl) rfl rfl (by decide) rfl rfl (of_decide_eq_true rfl) (of_decide_eq_true rfl) ?_
    refine ct_141_37 hcr  g x3 (by omega)  (fun z9  (fz9 : 0 ≤ z9 ∧ z9 ≤ 1) m8_0 => ?_)
    refine wk_i ?_
    refine wi_if (cd := .eq) (nx := 26) (r1 := 64) (r2 := 0) (r3 := 0) rfl (by omega) (fun (q10 : z9 = 0) => ?_) (fun (q10 : ¬ (z9 = 0)) => ?_)
    ·
      refine wr_iinc (i := 3) (n := 1) (v := x3) (fun e11 => [(3, vi e11), (0, .ref 37), (1, vi x1), (2, vi x2)]) (nx := 67) (r1 := 0) (r2 := 0) (r3 := 0) rfl rfl (fun _ => rfl) (fun e11 (fe11 : e11 = x3 + 1) => ?_)
      refine wi_goto (nx := 70) (r1 := 7) (r2 := 0) (r3 := 0) rfl ?_
      refine wp.lo (lo := [(0, .ref 37), (1, vi x1), (2, vi x2), (3, vi e11)]) ⟨rfl, rfl, rfl, rfl, trivial⟩ rfl ?_
      exact I4 x1 x2 e11 h ⟨rfl, (show (-1 ≤ x1 ∧ x1 ≤ 3) ∧ (-2147483648 ≤ x2 ∧ x2 ≤ 12) ∧ (0 ≤ e11 ∧ e11 ≤ 4) by omega)⟩ (show ((4 : Int) + 1 - e11).toNat < ((4 : Int) + 1 - x3).toNat by omega)
    ·
      have f11 : 0 ≤ x3 ∧ x3 ≤ 3 := m8_0 (by omega)
      refine wi_aload_n (i := 0) (x := 37) (nx := 27) (r1 := 0) (r2 := 0) (r3 := 0) rfl rfl ?_
      refine wr_gr (k0 := 37) (x := 40) (nx := 30) (r1 := 4) (r2 := 3) (r3 := 0) rfl rfl (by decide) rfl ⟨rfl, rfl⟩ rfl ?_
      refine wi_iload_n (i := 3) (e := x3) (nx := 31) (r1 := 0) (r2 := 0) (r3 := 0) rfl rfl ?_
      obtain ⟨i12, ei12⟩ : ∃ q : Nat, x3 = (q : Int) := ⟨(x3).toNat, by omega⟩
      refine wr_aa (k0 := 40) (a := x3) (f := i12) (x := 40 + 8 + 2 * i12) (nx := 32) (r1 := 0) (r2 := 0) (r3 := 0) rfl (by decide) rfl (Or.inl rfl) (by omega) (by omega) (by decide) (hcr.1 40 (by decide) i12 (by omega)) ?_
      obtain ⟨k13, kk13, mk13⟩ : ∃ q, Rw q ∧ q = 40 + 8 + 2 * i12 := ⟨_, rw_lane 40 (by decide) i12 (by omega), rfl⟩
      rw [← mk13]
      refine wi_iconst (n := 0) (nx := 33) (r1 := 0) (r2 := 0) (r3 := 0) rfl ?_
      refine wr_V (k0 := k13) (rest := []) (as := [.ref k13, vi 0]) (nx := 36) (r1 := 154) (r2 := 1) (r3 := 5) rfl rfl rfl (of_decide_eq_true rfl) rfl rfl kk13.k kk13.1 rfl (of_decide_eq_true rfl) (of_decide_eq_true rfl) ?_
      refine ct_154_R hcr kk13 g 0 (by omega)  (fun z15  (fz15 : -2147483648 ≤ z15 ∧ z15 ≤ 2147483647) => ?_)
      refine wk_i ?_
      refine wi_istore (i := 4) (e := z15) (lo2 := [(4, vi z15), (0, .ref 37), (1, vi x1), (2, vi x2), (3, vi x3)]) (nx := 38) (r1 := 0) (r2 := 0) (r3 := 0) rfl rfl ?_
      refine wi_aload_n (i := 0) (x := 37) (nx := 39) (r1 := 0) (r2 := 0) (r3 := 0) rfl rfl ?_
      refine wi_iload (i := 4) (e := z15) (nx := 41) (r1 := 0) (r2 := 0) (r3 := 0) rfl rfl ?_
      refine wr_V (k0 := 37) (rest := []) (as := [.ref 37, vi z15]) (nx := 44) (r1 := 131) (r2 := 1) (r3 := 4) rfl rfl rfl (of_decide_eq_true rfl) rfl rfl (by decide) rfl rfl (of_decide_eq_true rfl) (of_decide_eq_true rfl) ?_
      refine ct_131_37 hcr  g z15 (by omega)  (fun z17  (fz17 : -2147483648 ≤ z17 ∧ z17 ≤ 2147483647) => ?_)
      refine wk_i ?_
      refine wi_aload_n (i := 0) (x := 37) (nx := 45) (r1 := 0) (r2 := 0) (r3 := 0) rfl rfl ?_
      have b18 := gi_b (lo := -2147483648) (hi := 2147483647) g 37 8 rfl
      refine wr_gi0 (k0 := 37) (x := h 37 8) (nx := 48) (r1 := 4) (r2 := 8) (r3 := 0) rfl rfl (by decide) rfl ⟨rfl, rfl⟩ rfl rfl ?_
      refine wi_icmp (cd := .ne) (nx := 51) (r1 := 53) (r2 := 0) (r3 := 0) rfl (by omega) (by omega) (fun (q19 : z17 ≠ (h 37 8)) => ?_) (fun (q19 : ¬ (z17 ≠ (h 37 8))) => ?_)
      ·
        refine wi_iload (i := 4) (e := z15) (nx := 55) (r1 := 0) (r2 := 0) (r3 := 0) rfl rfl ?_
        refine wi_iload_n (i := 2) (e := x2) (nx := 56) (r1 := 0) (r2 := 0) (r3 := 0) rfl rfl ?_
        refine wi_icmp (cd := .ge) (nx := 59) (r1 := 64) (r2 := 0) (r3 := 0) rfl (by omega) (by omega) (fun (q20 : x2 ≤ z15) => ?_) (fun (q20 : ¬ (x2 ≤ z15)) => ?_)
        ·
          refine wr_iinc (i := 3) (n := 1) (v := x3) (fun e21 => [(3, vi e21), (4, vi z15), (0, .ref 37), (1, vi x1), (2, vi x2)]) (nx := 67) (r1 := 0) (r2 := 0) (r3 := 0) rfl rfl (fun _ => rfl) (fun e21 (fe21 : e21 = x3 + 1) => ?_)
          refine wi_goto (nx := 70) (r1 := 7) (r2 := 0) (r3 := 0) rfl ?_
          refine wp.lo (lo := [(0, .ref 37), (1, vi x1), (2, vi x2), (3, vi e21)]) ⟨rfl, rfl, rfl, rfl, trivial⟩ rfl ?_
          exact I4 x1 x2 e21 h ⟨rfl, (show (-1 ≤ x1 ∧ x1 ≤ 3) ∧ (-2147483648 ≤ x2 ∧ x2 ≤ 12) ∧ (0 ≤ e21 ∧ e21 ≤ 4) by omega)⟩ (show ((4 : Int) + 1 - e21).toNat < ((4 : Int) + 1 - x3).toNat by omega)
        ·
          refine wi_iload (i := 4) (e := z15) (nx := 61) (r1 := 0) (r2 := 0) (r3 := 0) rfl rfl ?_
          refine wi_istore_n (i := 2) (e := z15) (lo2 := [(2, vi z15), (4, vi z15), (0, .ref 37), (1, vi x1), (3, vi x3)]) (nx := 62) (r1 := 0) (r2 := 0) (r3 := 0) rfl rfl ?_
          refine wi_iload_n (i := 3) (e := x3) (nx := 63) (r1 := 0) (r2 := 0) (r3 := 0) rfl rfl ?_
          refine wi_istore_n (i := 1) (e := x3) (lo2 := [(1, vi x3), (2, vi z15), (4, vi z15), (0, .ref 37), (3, vi x3)]) (nx := 64) (r1 := 0) (r2 := 0) (r3 := 0) rfl rfl ?_
          refine wr_iinc (i := 3) (n := 1) (v := x3) (fun e21 => [(3, vi e21), (1, vi x3), (2, vi z15), (4, vi z15), (0, .ref 37)]) (nx := 67) (r1 := 0) (r2 := 0) (r3 := 0) rfl rfl (fun _ => rfl) (fun e21 (fe21 : e21 = x3 + 1) => ?_)
          refine wi_goto (nx := 70) (r1 := 7) (r2 := 0) (r3 := 0) rfl ?_
          refine wp.lo (lo := [(0, .ref 37), (1, vi x3), (2, vi z15), (3, vi e21)]) ⟨rfl, rfl, rfl, rfl, trivial⟩ rfl ?_
          exact I4 x3 z15 e21 h ⟨rfl, (show (-1 ≤ x3 ∧ x3 ≤ 3) ∧ (-2147483648 ≤ z15 ∧ z15 ≤ 12) ∧ (0 ≤ e21 ∧ e21 ≤ 4) by omega)⟩ (show ((4 : Int) + 1 - e21).toNat < ((4 : Int) + 1 - x3).toNat by omega)
      ·
        refine wi_iload_n (i := 3) (e := x3) (nx := 52) (r1 := 0) (r2 := 0) (r3 := 0) rfl rfl ?_
        refine wi_ireturn (nx := 53) (r1 := 0) (r2 := 0) (r3 := 0) rfl rfl ?_
        exact k x3 (by omega)
-- method 144: Line.note(III)V
set_option maxRecDepth 100000 in
set_option maxHeartbeats 100000000 in
theorem ct_144_37 {L : Nat} {xs : Nat → Int32} {d b c : Nat} {h : hp} {cr : Nat → Nat → Option Nat} {Q : hp_Q} (hcr : CR cr)  (g : GI h) (a0 : Int) (a1 : Int) (a2 : Int) (q0_ : 0 ≤ a0 ∧ a0 ≤ 11) (q1_ : -2147483648 ≤ a1 ∧ a1 ≤ 2147483647) (q2_ : -2147483648 ≤ a2 ∧ a2 ≤ 2147483647)  (k : ∀ (h2 : hp) , GI h2 → FR [(47, 47, none), (37, 37, some (15, 15))] h h2 → Q (.inl none) (hp_w h2 cr) b c) : wp (md_xa (L, xs)) d 144 (0, [(0, .ref 37), (1, vi a0), (2, vi a1), (3, vi a2)], [], hp_w h cr, b, c) Q := by
  have F0 : FR [(47, 47, none), (37, 37, some (15, 15))] h h := FR.refl
  refine wi_aload_n (i := 0) (x := 37) (nx := 1) (r1 := 0) (r2 := 0) (r3 := 0) rfl rfl ?_
  have b1 := gi_b (lo := 0) (hi := 36) g 37 15 rfl
  refine wr_gi0 (k0 := 37) (x := h 37 15) (nx := 4) (r1 := 4) (r2 := 15) (r3 := 0) rfl rfl (by decide) rfl ⟨rfl, rfl⟩ rfl rfl ?_
  refine wi_bipush (n := 36) (nx := 6) (r1 := 0) (r2 := 0) (r3 := 0) rfl (by decide) ?_
  refine wi_icmp (cd := .lt) (nx := 9) (r1 := 10) (r2 := 0) (r3 := 0) rfl (by omega) (by omega) (fun (q2 : (h 37 15) < 36) => ?_) (fun (q2 : ¬ ((h 37 15) < 36)) => ?_)
  ·
    refine wi_aload_n (i := 0) (x := 37) (nx := 11) (r1 := 0) (r2 := 0) (r3 := 0) rfl rfl ?_
    refine wr_gi0 (k0 := 37) (x := h 37 15) (nx := 14) (r1 := 4) (r2 := 15) (r3 := 0) rfl rfl (by decide) rfl ⟨rfl, rfl⟩ rfl rfl ?_
    refine wi_iconst (n := 4) (nx := 15) (r1 := 0) (r2 := 0) (r3 := 0) rfl ?_
    refine wr_mul (nx := 16) (r1 := 0) (r2 := 0) (r3 := 0) rfl (fun e3 (fe3 : e3 = (h 37 15) * 4) => ?_)
    refine wi_istore (i := 4) (e := e3) (lo2 := [(4, vi e3), (0, .ref 37), (1, vi a0), (2, vi a1), (3, vi a2)]) (nx := 18) (r1 := 0) (r2 := 0) (r3 := 0) rfl rfl ?_
    refine wi_aload_n (i := 0) (x := 37) (nx := 19) (r1 := 0) (r2 := 0) (r3 := 0) rfl rfl ?_
    refine wr_gr (k0 := 37) (x := 47) (nx := 22) (r1 := 4) (r2 := 14) (r3 := 0) rfl rfl (by decide) rfl ⟨rfl, rfl⟩ rfl ?_
    refine wi_iload (i := 4) (e := e3) (nx := 24) (r1 := 0) (r2 := 0) (r3 := 0) rfl rfl ?_
    refine wi_iconst (n := 0) (nx := 25) (r1 := 0) (r2 := 0) (r3 := 0) rfl ?_
    refine wr_add (nx := 26) (r1 := 0) (r2 := 0) (r3 := 0) rfl (fun e4 (fe4 : e4 = e3 + 0) => ?_)
    refine wi_iload_n (i := 1) (e := a0) (nx := 27) (r1 := 0) (r2 := 0) (r3 := 0) rfl rfl ?_
    obtain ⟨i5, ei5⟩ : ∃ q : Nat, e4 = (q : Int) := ⟨(e4).toNat, by omega⟩
    refine wr_is (k0 := 47) (a := e4) (f := i5) (x := a0) (bl := -2147483648) (bh := 2147483647) (nx := 28) (r1 := 0) (r2 := 0) (r3 := 0) rfl (by decide) rfl (by omega) (by omega) (by decide) g rfl (by omega) (fun h6 g6 w6 u6 => ?_)
    have F7 := F0.then rfl (FR.rngp (lo := 47) (hi := 47) u6 (by decide))
    refine wi_aload_n (i := 0) (x := 37) (nx := 29) (r1 := 0) (r2 := 0) (r3 := 0) rfl rfl ?_
    refine wr_gr (k0 := 37) (x := 47) (nx := 32) (r1 := 4) (r2 := 14) (r3 := 0) rfl rfl (by decide) rfl ⟨rfl, rfl⟩ rfl ?_
    refine wi_iload (i := 4) (e := e3) (nx := 34) (r1 := 0) (r2 := 0) (r3 := 0) rfl rfl ?_
    refine wi_iconst (n := 1) (nx := 35) (r1 := 0) (r2 := 0) (r3 := 0) rfl ?_
    refine wr_add (nx := 36) (r1 := 0) (r2 := 0) (r3 := 0) rfl (fun e8 (fe8 : e8 = e3 + 1) => ?_)
    refine wi_aload_n (i := 0) (x := 37) (nx := 37) (r1 := 0) (r2 := 0) (r3 := 0) rfl rfl ?_
    refine wr_gr (k0 := 37) (x := 38) (nx := 40) (r1 := 4) (r2 := 1) (r3 := 0) rfl rfl (by decide) rfl ⟨rfl, rfl⟩ rfl ?_
    refine wi_iload_n (i := 1) (e := a0) (nx := 41) (r1 := 0) (r2 := 0) (r3 := 0) rfl rfl ?_
    obtain ⟨i9, ei9⟩ : ∃ q : Nat, a0 = (q : Int) := ⟨(a0).toNat, by omega⟩
    have b10 := gi_b (lo := -2147483648) (hi := 2147483647) g 38 i9 rfl
    refine wr_ia (k0 := 38) (a := a0) (f := i9) (x := h 38 i9) (nx := 42) (r1 := 0) (r2 := 0) (r3 := 0) rfl (by decide) rfl (by omega) (by omega) (by decide) (u6 38 i9 (fn_a (by omega) fn_0)) ?_
    obtain ⟨i11, ei11⟩ : ∃ q : Nat, e8 = (q : Int) := ⟨(e8).toNat, by omega⟩
    refine wr_is (k0 := 47) (a := e8) (f := i11) (x := h 38 i9) (bl := -2147483648) (bh := 2147483647) (nx := 43) (r1 := 0) (r2 := 0) (r3 := 0) rfl (by decide) rfl (by omega) (by omega) (by decide) g6 rfl (by omega) (fun h12 g12 w12 u12 => ?_)
    have F13 := F7.then rfl (FR.rngp (lo := 47) (hi := 47) u12 (by decide))
    refine wi_aload_n (i := 0) (x := 37) (nx := 44) (r1 := 0) (r2 := 0) (r3 := 0) rfl rfl ?_
    refine wr_gr (k0 := 37) (x := 47) (nx := 47) (r1 := 4) (r2 := 14) (r3 := 0) rfl rfl (by decide) rfl ⟨rfl, rfl⟩ rfl ?_
    refine wi_iload (i := 4) (e := e3) (nx := 49) (r1 := 0) (r2 := 0) (r3 := 0) rfl rfl ?_
    refine wi_iconst (n := 2) (nx := 50) (r1 := 0) (r2 := 0) (r3 := 0) rfl ?_
    refine wr_add (nx := 51) (r1 := 0) (r2 := 0) (r3 := 0) rfl (fun e14 (fe14 : e14 = e3 + 2) => ?_)
    refine wi_iload_n (i := 2) (e := a1) (nx := 52) (r1 := 0) (r2 := 0) (r3 := 0) rfl rfl ?_
    obtain ⟨i15, ei15⟩ : ∃ q : Nat, e14 = (q : Int) := ⟨(e14).toNat, by omega⟩
    refine wr_is (k0 := 47) (a := e14) (f := i15) (x := a1) (bl := -2147483648) (bh := 2147483647) (nx := 53) (r1 := 0) (r2 := 0) (r3 := 0) rfl (by decide) rfl (by omega) (by omega) (by decide) g12 rfl (by omega) (fun h16 g16 w16 u16 => ?_)
    have F17 := F13.then rfl (FR.rngp (lo := 47) (hi := 47) u16 (by decide))
    refine wi_aload_n (i := 0) (x := 37) (nx := 54) (r1 := 0) (r2 := 0) (r3 := 0) rfl rfl ?_
    refine wr_gr (k0 := 37) (x := 47) (nx := 57) (r1 := 4) (r2 := 14) (r3 := 0) rfl rfl (by decide) rfl ⟨rfl, rfl⟩ rfl ?_
    refine wi_iload (i := 4) (e := e3) (nx := 59) (r1 := 0) (r2 := 0) (r3 := 0) rfl rfl ?_
    refine wi_iconst (n := 3) (nx := 60) (r1 := 0) (r2 := 0) (r3 := 0) rfl ?_
    refine wr_add (nx := 61) (r1 := 0) (r2 := 0) (r3 := 0) rfl (fun e18 (fe18 : e18 = e3 + 3) => ?_)
    refine wi_iload_n (i := 3) (e := a2) (nx := 62) (r1 := 0) (r2 := 0) (r3 := 0) rfl rfl ?_
    obtain ⟨i19, ei19⟩ : ∃ q : Nat, e18 = (q : Int) := ⟨(e18).toNat, by omega⟩
    refine wr_is (k0 := 47) (a := e18) (f := i19) (x := a2) (bl := -2147483648) (bh := 2147483647) (nx := 63) (r1 := 0) (r2 := 0) (r3 := 0) rfl (by decide) rfl (by omega) (by omega) (by decide) g16 rfl (by omega) (fun h20 g20 w20 u20 => ?_)
    have F21 := F17.then rfl (FR.rngp (lo := 47) (hi := 47) u20 (by decide))
    refine wi_aload_n (i := 0) (x := 37) (nx := 64) (r1 := 0) (r2 := 0) (r3 := 0) rfl rfl ?_
    refine wi_dup (nx := 65) (r1 := 0) (r2 := 0) (r3 := 0) rfl rfl ?_
    refine wr_gi0 (k0 := 37) (x := h 37 15) (nx := 68) (r1 := 4) (r2 := 15) (r3 := 0) rfl rfl (by decide) rfl ⟨rfl, rfl⟩ rfl ((u20 37 15 (fn_a (by omega) fn_0)).trans ((u16 37 15 (fn_a (by omega) fn_0)).trans ((u12 37 15 (fn_a (by omega) fn_0)).trans (u6 37 15 (fn_a (by omega) fn_0))))) ?_
    refine wi_iconst (n := 1) (nx := 69) (r1 := 0) (r2 := 0) (r3 := 0) rfl ?_
    refine wr_add (nx := 70) (r1 := 0) (r2 := 0) (r3 := 0) rfl (fun e22 (fe22 : e22 = (h 37 15) + 1) => ?_)
    refine wr_pf0 (k0 := 37) (x := e22) (bl := 0) (bh := 36) (nx := 73) (r1 := 4) (r2 := 15) (r3 := 0) rfl (by decide) rfl ⟨rfl, rfl⟩ rfl rfl g20 rfl (by omega) (fun h23 g23 w23 u23 => ?_)
    have F24 := F21.then rfl u23
    refine wi_return (nx := 74) (r1 := 0) (r2 := 0) (r3 := 0) rfl rfl ?_
    exact k h23 g23 F24
  ·
    refine wi_return (nx := 10) (r1 := 0) (r2 := 0) (r3 := 0) rfl rfl ?_
    exact k h g F0
-- method 143: Line.paint(IZ)V
set_option maxRecDepth 100000 in
set_option maxHeartbeats 100000000 in
theorem ct_143_37 {L : Nat} {xs : Nat → Int32} {d b c : Nat} {h : hp} {cr : Nat → Nat → Option Nat} {Q : hp_Q} (hcr : CR cr)  (g : GI h) (a0 : Int) (a1 : Int) (q0_ : 0 ≤ a0 ∧ a0 ≤ 11) (q1_ : 0 ≤ a1 ∧ a1 ≤ 1)  (k : ∀ (h2 : hp) , GI h2 → FR [(37, 55, none)] h h2 → Q (.inl none) (hp_w h2 cr) b c) : wp (md_xa (L, xs)) (d + 1) 143 (0, [(0, .ref 37), (1, vi a0), (2, vi a1)], [], hp_w h cr, b, c) Q := by
  have F0 : FR [(37, 55, none)] h h := FR.refl
  refine wi_aload_n (i := 0) (x := 37) (nx := 1) (r1 := 0) (r2 := 0) (r3 := 0) rfl rfl ?_
  refine wr_gr (k0 := 37) (x := 3) (nx := 4) (r1 := 4) (r2 := 0) (r3 := 0) rfl rfl (by decide) rfl ⟨rfl, rfl⟩ rfl ?_
  refine wi_aload_n (i := 0) (x := 37) (nx := 5) (r1 := 0) (r2 := 0) (r3 := 0) rfl rfl ?_
  have b1 := gi_b (lo := -2147483648) (hi := 2147483647) g 37 8 rfl
  refine wr_gi0 (k0 := 37) (x := h 37 8) (nx := 8) (r1 := 4) (r2 := 8) (r3 := 0) rfl rfl (by decide) rfl ⟨rfl, rfl⟩ rfl rfl ?_
  refine wi_aload_n (i := 0) (x := 37) (nx := 9) (r1 := 0) (r2 := 0) (r3 := 0) rfl rfl ?_
  have b2 := gi_b (lo := -2147483648) (hi := 2147483647) g 37 9 rfl
  refine wr_gi0 (k0 := 37) (x := h 37 9) (nx := 12) (r1 := 4) (r2 := 9) (r3 := 0) rfl rfl (by decide) rfl ⟨rfl, rfl⟩ rfl rfl ?_
  refine wi_aload_n (i := 0) (x := 37) (nx := 13) (r1 := 0) (r2 := 0) (r3 := 0) rfl rfl ?_
  refine wr_gr (k0 := 37) (x := 38) (nx := 16) (r1 := 4) (r2 := 1) (r3 := 0) rfl rfl (by decide) rfl ⟨rfl, rfl⟩ rfl ?_
  refine wi_iload_n (i := 1) (e := a0) (nx := 17) (r1 := 0) (r2 := 0) (r3 := 0) rfl rfl ?_
  obtain ⟨i3, ei3⟩ : ∃ q : Nat, a0 = (q : Int) := ⟨(a0).toNat, by omega⟩
  have b4 := gi_b (lo := -2147483648) (hi := 2147483647) g 38 i3 rfl
  refine wr_ia (k0 := 38) (a := a0) (f := i3) (x := h 38 i3) (nx := 18) (r1 := 0) (r2 := 0) (r3 := 0) rfl (by decide) rfl (by omega) (by omega) (by decide) rfl ?_
  refine wr_V (k0 := 3) (rest := []) (as := [.ref 3, vi (h 37 8), vi (h 37 9), vi (h 38 i3)]) (nx := 21) (r1 := 109) (r2 := 3) (r3 := 2) rfl rfl rfl (of_decide_eq_true rfl) rfl rfl (by decide) rfl rfl (of_decide_eq_true rfl) (of_decide_eq_true rfl) ?_
  refine wi_iload_n (i := 1) (e := h 37 8) (nx := 1) (r1 := 0) (r2 := 0) (r3 := 0) rfl rfl ?_
  refine wi_iconst (n := (-1)) (nx := 2) (r1 := 0) (r2 := 0) (r3 := 0) rfl ?_
  refine wi_icmp (cd := .ne) (nx := 5) (r1 := 7) (r2 := 0) (r3 := 0) rfl (by omega) (by omega) (fun (q5 : (h 37 8) ≠ (-1)) => ?_) (fun (q5 : ¬ ((h 37 8) ≠ (-1))) => ?_)
  ·
    refine wi_iload_n (i := 1) (e := h 37 8) (nx := 8) (r1 := 0) (r2 := 0) (r3 := 0) rfl rfl ?_
    refine wi_iload_n (i := 3) (e := h 38 i3) (nx := 9) (r1 := 0) (r2 := 0) (r3 := 0) rfl rfl ?_
    refine wi_icmp (cd := .eq) (nx := 12) (r1 := 14) (r2 := 0) (r3 := 0) rfl (by omega) (by omega) (fun (q6 : (h 37 8) = (h 38 i3)) => ?_) (fun (q6 : ¬ ((h 37 8) = (h 38 i3))) => ?_)
    ·
      refine wi_iload_n (i := 2) (e := h 37 9) (nx := 15) (r1 := 0) (r2 := 0) (r3 := 0) rfl rfl ?_
      refine wi_aload_n (i := 0) (x := 3) (nx := 16) (r1 := 0) (r2 := 0) (r3 := 0) rfl rfl ?_
      have b7 := gi_b (lo := -2147483648) (hi := 2147483647) g 3 5 rfl
      refine wr_gi0 (k0 := 3) (x := h 3 5) (nx := 19) (r1 := 2) (r2 := 5) (r3 := 0) rfl rfl (by decide) rfl ⟨rfl, rfl⟩ rfl rfl ?_
      refine wi_icmp (cd := .lt) (nx := 22) (r1 := 26) (r2 := 0) (r3 := 0) rfl (by omega) (by omega) (fun (q8 : (h 37 9) < (h 3 5)) => ?_) (fun (q8 : ¬ ((h 37 9) < (h 3 5))) => ?_)
      ·
        refine wi_iconst (n := 0) (nx := 27) (r1 := 0) (r2 := 0) (r3 := 0) rfl ?_
        refine wi_ireturn (nx := 28) (r1 := 0) (r2 := 0) (r3 := 0) rfl rfl ?_
        refine wk_i ?_
        refine wi_istore_n (i := 3) (e := 0) (lo2 := [(3, vi 0), (0, .ref 37), (1, vi a0), (2, vi a1)]) (nx := 22) (r1 := 0) (r2 := 0) (r3 := 0) rfl rfl ?_
        refine wi_aload_n (i := 0) (x := 37) (nx := 23) (r1 := 0) (r2 := 0) (r3 := 0) rfl rfl ?_
        refine wr_gr (k0 := 37) (x := 3) (nx := 26) (r1 := 4) (r2 := 0) (r3 := 0) rfl rfl (by decide) rfl ⟨rfl, rfl⟩ rfl ?_
        refine wi_iload_n (i := 3) (e := 0) (nx := 27) (r1 := 0) (r2 := 0) (r3 := 0) rfl rfl ?_
        refine wi_aload_n (i := 0) (x := 37) (nx := 28) (r1 := 0) (r2 := 0) (r3 := 0) rfl rfl ?_
        refine wr_gr (k0 := 37) (x := 38) (nx := 31) (r1 := 4) (r2 := 1) (r3 := 0) rfl rfl (by decide) rfl ⟨rfl, rfl⟩ rfl ?_
        refine wi_iload_n (i := 1) (e := a0) (nx := 32) (r1 := 0) (r2 := 0) (r3 := 0) rfl rfl ?_
        refine wr_ia (k0 := 38) (a := a0) (f := i3) (x := h 38 i3) (nx := 33) (r1 := 0) (r2 := 0) (r3 := 0) rfl (by decide) rfl (by omega) (by omega) (by decide) rfl ?_
        refine wr_V (k0 := 3) (rest := []) (as := [.ref 3, vi 0, vi (h 38 i3)]) (nx := 36) (r1 := 110) (r2 := 2) (r3 := 2) rfl rfl rfl (of_decide_eq_true rfl) rfl rfl (by decide) rfl rfl (of_decide_eq_true rfl) (of_decide_eq_true rfl) ?_
        refine ct_110_3 hcr  g 0 (h 38 i3) (by omega) (by omega)  (fun z10  (fz10 : -2147483648 ≤ z10 ∧ z10 ≤ 2147483647) => ?_)
        refine wk_i ?_
        refine wi_istore (i := 4) (e := z10) (lo2 := [(4, vi z10), (3, vi 0), (0, .ref 37), (1, vi a0), (2, vi a1)]) (nx := 38) (r1 := 0) (r2 := 0) (r3 := 0) rfl rfl ?_
        refine wi_aload_n (i := 0) (x := 37) (nx := 39) (r1 := 0) (r2 := 0) (r3 := 0) rfl rfl ?_
        refine wi_aload_n (i := 0) (x := 37) (nx := 40) (r1 := 0) (r2 := 0) (r3 := 0) rfl rfl ?_
        refine wr_gr (k0 := 37) (x := 38) (nx := 43) (r1 := 4) (r2 := 1) (r3 := 0) rfl rfl (by decide) rfl ⟨rfl, rfl⟩ rfl ?_
        refine wi_iload_n (i := 1) (e := a0) (nx := 44) (r1 := 0) (r2 := 0) (r3 := 0) rfl rfl ?_
        refine wr_ia (k0 := 38) (a := a0) (f := i3) (x := h 38 i3) (nx := 45) (r1 := 0) (r2 := 0) (r3 := 0) rfl (by decide) rfl (by omega) (by omega) (by decide) rfl ?_
        refine wr_pf0 (k0 := 37) (x := h 38 i3) (bl := -2147483648) (bh := 2147483647) (nx := 48) (r1 := 4) (r2 := 8) (r3 := 0) rfl (by decide) rfl ⟨rfl, rfl⟩ rfl rfl g rfl (by omega) (fun h11 g11 w11 u11 => ?_)
        have F12 := F0.then rfl u11
        refine wi_aload_n (i := 0) (x := 37) (nx := 49) (r1 := 0) (r2 := 0) (r3 := 0) rfl rfl ?_
        refine wi_iload_n (i := 3) (e := 0) (nx := 50) (r1 := 0) (r2 := 0) (r3 := 0) rfl rfl ?_
        refine wi_aload_n (i := 0) (x := 37) (nx := 51) (r1 := 0) (r2 := 0) (r3 := 0) rfl rfl ?_
        refine wr_gi0 (k0 := 37) (x := h 37 9) (nx := 54) (r1 := 4) (r2 := 9) (r3 := 0) rfl rfl (by decide) rfl ⟨rfl, rfl⟩ rfl (u11 37 9 rfl) ?_
        refine wi_S (rest := [.ref 37]) (as := [vi 0, vi (h 37 9)]) (nx := 57) (r1 := 111) (r2 := 18) (r3 := 0) rfl rfl rfl (of_decide_eq_true rfl) rfl rfl (of_decide_eq_true rfl) (of_decide_eq_true rfl) ?_
        refine wi_iload_n (i := 0) (e := 0) (nx := 1) (r1 := 0) (r2 := 0) (r3 := 0) rfl rfl ?_
        refine wi_if (cd := .ne) (nx := 4) (r1 := 10) (r2 := 0) (r3 := 0) rfl (by omega) (fun (q13 : 0 ≠ 0) => by exfalso; omega) (fun (q13 : ¬ (0 ≠ 0)) => ?_)
        refine wi_iload_n (i := 1) (e := h 37 9) (nx := 5) (r1 := 0) (r2 := 0) (r3 := 0) rfl rfl ?_
        refine wi_iconst (n := 1) (nx := 6) (r1 := 0) (r2 := 0) (r3 := 0) rfl ?_
        refine wr_add (nx := 7) (r1 := 0) (r2 := 0) (r3 := 0) rfl (fun e14 (fe14 : e14 = (h 37 9) + 1) => ?_)
        refine wi_goto (nx := 10) (r1 := 11) (r2 := 0) (r3 := 0) rfl ?_
        refine wi_ireturn (nx := 12) (r1 := 0) (r2 := 0) (r3 := 0) rfl rfl ?_
        refine wk_i ?_
        refine wr_pf0 (k0 := 37) (x := e14) (bl := -2147483648) (bh := 2147483647) (nx := 60) (r1 := 4) (r2 := 9) (r3 := 0) rfl (by decide) rfl ⟨rfl, rfl⟩ rfl rfl g11 rfl (by omega) (fun h15 g15 w15 u15 => ?_)
        have F16 := F12.then rfl u15
        refine wi_aload_n (i := 0) (x := 37) (nx := 61) (r1 := 0) (r2 := 0) (r3 := 0) rfl rfl ?_
        refine wi_dup (nx := 62) (r1 := 0) (r2 := 0) (r3 := 0) rfl rfl ?_
        have b17 := gi_b (lo := -2147483648) (hi := 2147483647) g 37 13 rfl
        refine wr_gi0 (k0 := 37) (x := h 37 13) (nx := 65) (r1 := 4) (r2 := 13) (r3 := 0) rfl rfl (by decide) rfl ⟨rfl, rfl⟩ rfl ((u15 37 13 rfl).trans (u11 37 13 rfl)) ?_
        refine wi_iload (i := 4) (e := z10) (nx := 67) (r1 := 0) (r2 := 0) (r3 := 0) rfl rfl ?_
        refine wr_addW (nx := 68) (r1 := 0) (r2 := 0) (r3 := 0) rfl (fun e18 (fe18 : -2147483648 ≤ e18 ∧ e18 ≤ 2147483647) => ?_)
        refine wr_pf0 (k0 := 37) (x := e18) (bl := -2147483648) (bh := 2147483647) (nx := 71) (r1 := 4) (r2 := 13) (r3 := 0) rfl (by decide) rfl ⟨rfl, rfl⟩ rfl rfl g15 rfl (by omega) (fun h19 g19 w19 u19 => ?_)
        have F20 := F16.then rfl u19
        refine wi_iload_n (i := 3) (e := 0) (nx := 72) (r1 := 0) (r2 := 0) (r3 := 0) rfl rfl ?_
        refine wi_iconst (n := 1) (nx := 73) (r1 := 0) (r2 := 0) (r3 := 0) rfl ?_
        refine wi_iand (e := 0) (nx := 74) (r1 := 0) (r2 := 0) (r3 := 0) rfl (by decide) ?_
        refine wi_if (cd := .eq) (nx := 77) (r1 := 87) (r2 := 0) (r3 := 0) rfl (by omega) (fun (q21 : 0 = 0) => ?_) (fun (q21 : ¬ (0 = 0)) => by exfalso; omega)
        refine wi_iload_n (i := 3) (e := 0) (nx := 88) (r1 := 0) (r2 := 0) (r3 := 0) rfl rfl ?_
        refine wi_iconst (n := 2) (nx := 89) (r1 := 0) (r2 := 0) (r3 := 0) rfl ?_
        refine wi_iand (e := 0) (nx := 90) (r1 := 0) (r2 := 0) (r3 := 0) rfl (by decide) ?_
        refine wi_if (cd := .eq) (nx := 93) (r1 := 103) (r2 := 0) (r3 := 0) rfl (by omega) (fun (q22 : 0 = 0) => ?_) (fun (q22 : ¬ (0 = 0)) => by exfalso; omega)
        refine wi_aload_n (i := 0) (x := 37) (nx := 104) (r1 := 0) (r2 := 0) (r3 := 0) rfl rfl ?_
        refine wi_dup (nx := 105) (r1 := 0) (r2 := 0) (r3 := 0) rfl rfl ?_
        have b23 := gi_b (lo := -2147483648) (hi := 2147483647) g 37 10 rfl
        refine wr_gi0 (k0 := 37) (x := h 37 10) (nx := 108) (r1 := 4) (r2 := 10) (r3 := 0) rfl rfl (by decide) rfl ⟨rfl, rfl⟩ rfl ((u19 37 10 rfl).trans ((u15 37 10 rfl).trans (u11 37 10 rfl))) ?_
        refine wi_iconst (n := 1) (nx := 109) (r1 := 0) (r2 := 0) (r3 := 0) rfl ?_
        refine wr_addW (nx := 110) (r1 := 0) (r2 := 0) (r3 := 0) rfl (fun e24 (fe24 : -2147483648 ≤ e24 ∧ e24 ≤ 2147483647) => ?_)
        refine wr_pf0 (k0 := 37) (x := e24) (bl := -2147483648) (bh := 2147483647) (nx := 113) (r1 := 4) (r2 := 10) (r3 := 0) rfl (by decide) rfl ⟨rfl, rfl⟩ rfl rfl g19 rfl (by omega) (fun h25 g25 w25 u25 => ?_)
        have F26 := F20.then rfl u25
        refine wi_aload_n (i := 0) (x := 37) (nx := 114) (r1 := 0) (r2 := 0) (r3 := 0) rfl rfl ?_
        refine wi_iload_n (i := 1) (e := a0) (nx := 115) (r1 := 0) (r2 := 0) (r3 := 0) rfl rfl ?_
        refine wi_iload (i := 4) (e := z10) (nx := 117) (r1 := 0) (r2 := 0) (r3 := 0) rfl rfl ?_
        refine wi_iload_n (i := 2) (e := a1) (nx := 118) (r1 := 0) (r2 := 0) (r3 := 0) rfl rfl ?_
        refine wi_if (cd := .eq) (nx := 121) (r1 := 127) (r2 := 0) (r3 := 0) rfl (by omega) (fun (q27 : a1 = 0) => ?_) (fun (q27 : ¬ (a1 = 0)) => ?_)
        ·
          refine wi_iload_n (i := 3) (e := 0) (nx := 128) (r1 := 0) (r2 := 0) (r3 := 0) rfl rfl ?_
          refine wr_V (k0 := 37) (rest := []) (as := [.ref 37, vi a0, vi z10, vi 0]) (nx := 131) (r1 := 144) (r2 := 3) (r3 := 4) rfl rfl rfl (of_decide_eq_true rfl) rfl rfl (by decide) rfl rfl (of_decide_eq_true rfl) (of_decide_eq_true rfl) ?_
          refine ct_144_37 hcr  g25 a0 z10 0 (by omega) (by omega) (by omega)  (fun h28 g28 u28 => ?_)
          have F29 := F26.then (by decide +kernel) u28
          refine wk_n ?_
          refine wi_return (nx := 132) (r1 := 0) (r2 := 0) (r3 := 0) rfl rfl ?_
          exact k h28 g28 F29
        ·
          refine wi_iload_n (i := 3) (e := 0) (nx := 122) (r1 := 0) (r2 := 0) (r3 := 0) rfl rfl ?_
          refine wi_iconst (n := 4) (nx := 123) (r1 := 0) (r2 := 0) (r3 := 0) rfl ?_
          refine wi_ior (e := 4) (nx := 124) (r1 := 0) (r2 := 0) (r3 := 0) rfl (by decide) ?_
          refine wi_goto (nx := 127) (r1 := 128) (r2 := 0) (r3 := 0) rfl ?_
          refine wr_V (k0 := 37) (rest := []) (as := [.ref 37, vi a0, vi z10, vi 4]) (nx := 131) (r1 := 144) (r2 := 3) (r3 := 4) rfl rfl rfl (of_decide_eq_true rfl) rfl rfl (by decide) rfl rfl (of_decide_eq_true rfl) (of_decide_eq_true rfl) ?_
          refine ct_144_37 hcr  g25 a0 z10 4 (by omega) (by omega) (by omega)  (fun h28 g28 u28 => ?_)
          have F29 := F26.then (by decide +kernel) u28
          refine wk_n ?_
          refine wi_return (nx := 132) (r1 := 0) (r2 := 0) (r3 := 0) rfl rfl ?_
          exact k h28 g28 F29
      ·
        refine wi_iconst (n := 2) (nx := 23) (r1 := 0) (r2 := 0) (r3 := 0) rfl ?_
        refine wi_goto (nx := 26) (r1 := 27) (r2 := 0) (r3 := 0) rfl ?_
        refine wi_ireturn (nx := 28) (r1 := 0) (r2 := 0) (r3 := 0) rfl rfl ?_
        refine wk_i ?_
        refine wi_istore_n (i := 3) (e := 2) (lo2 := [(3, vi 2), (0, .ref 37), (1, vi a0), (2, vi a1)]) (nx := 22) (r1 := 0) (r2 := 0) (r3 := 0) rfl rfl ?_
        refine wi_aload_n (i := 0) (x := 37) (nx := 23) (r1 := 0) (r2 := 0) (r3 := 0) rfl rfl ?_
        refine wr_gr (k0 := 37) (x := 3) (nx := 26) (r1 := 4) (r2 := 0) (r3 := 0) rfl rfl (by decide) rfl ⟨rfl, rfl⟩ rfl ?_
        refine wi_iload_n (i := 3) (e := 2) (nx := 27) (r1 := 0) (r2 := 0) (r3 := 0) rfl rfl ?_
        refine wi_aload_n (i := 0) (x := 37) (nx := 28) (r1 := 0) (r2 := 0) (r3 := 0) rfl rfl ?_
        refine wr_gr (k0 := 37) (x := 38) (nx := 31) (r1 := 4) (r2 := 1) (r3 := 0) rfl rfl (by decide) rfl ⟨rfl, rfl⟩ rfl ?_
        refine wi_iload_n (i := 1) (e := a0) (nx := 32) (r1 := 0) (r2 := 0) (r3 := 0) rfl rfl ?_
        refine wr_ia (k0 := 38) (a := a0) (f := i3) (x := h 38 i3) (nx := 33) (r1 := 0) (r2 := 0) (r3 := 0) rfl (by decide) rfl (by omega) (by omega) (by decide) rfl ?_
        refine wr_V (k0 := 3) (rest := []) (as := [.ref 3, vi 2, vi (h 38 i3)]) (nx := 36) (r1 := 110) (r2 := 2) (r3 := 2) rfl rfl rfl (of_decide_eq_true rfl) rfl rfl (by decide) rfl rfl (of_decide_eq_true rfl) (of_decide_eq_true rfl) ?_
        refine ct_110_3 hcr  g 2 (h 38 i3) (by omega) (by omega)  (fun z10  (fz10 : -2147483648 ≤ z10 ∧ z10 ≤ 2147483647) => ?_)
        refine wk_i ?_
        refine wi_istore (i := 4) (e := z10) (lo2 := [(4, vi z10), (3, vi 2), (0, .ref 37), (1, vi a0), (2, vi a1)]) (nx := 38) (r1 := 0) (r2 := 0) (r3 := 0) rfl rfl ?_
        refine wi_aload_n (i := 0) (x := 37) (nx := 39) (r1 := 0) (r2 := 0) (r3 := 0) rfl rfl ?_
        refine wi_aload_n (i := 0) (x := 37) (nx := 40) (r1 := 0) (r2 := 0) (r3 := 0) rfl rfl ?_
        refine wr_gr (k0 := 37) (x := 38) (nx := 43) (r1 := 4) (r2 := 1) (r3 := 0) rfl rfl (by decide) rfl ⟨rfl, rfl⟩ rfl ?_
        refine wi_iload_n (i := 1) (e := a0) (nx := 44) (r1 := 0) (r2 := 0) (r3 := 0) rfl rfl ?_
        refine wr_ia (k0 := 38) (a := a0) (f := i3) (x := h 38 i3) (nx := 45) (r1 := 0) (r2 := 0) (r3 := 0) rfl (by decide) rfl (by omega) (by omega) (by decide) rfl ?_
        refine wr_pf0 (k0 := 37) (x := h 38 i3) (bl := -2147483648) (bh := 2147483647) (nx := 48) (r1 := 4) (r2 := 8) (r3 := 0) rfl (by decide) rfl ⟨rfl, rfl⟩ rfl rfl g rfl (by omega) (fun h11 g11 w11 u11 => ?_)
        have F12 := F0.then rfl u11
        refine wi_aload_n (i := 0) (x := 37) (nx := 49) (r1 := 0) (r2 := 0) (r3 := 0) rfl rfl ?_
        refine wi_iload_n (i := 3) (e := 2) (nx := 50) (r1 := 0) (r2 := 0) (r3 := 0) rfl rfl ?_
        refine wi_aload_n (i := 0) (x := 37) (nx := 51) (r1 := 0) (r2 := 0) (r3 := 0) rfl rfl ?_
        refine wr_gi0 (k0 := 37) (x := h 37 9) (nx := 54) (r1 := 4) (r2 := 9) (r3 := 0) rfl rfl (by decide) rfl ⟨rfl, rfl⟩ rfl (u11 37 9 rfl) ?_
        refine wi_S (rest := [.ref 37]) (as := [vi 2, vi (h 37 9)]) (nx := 57) (r1 := 111) (r2 := 18) (r3 := 0) rfl rfl rfl (of_decide_eq_true rfl) rfl rfl (of_decide_eq_true rfl) (of_decide_eq_true rfl) ?_
        refine wi_iload_n (i := 0) (e := 2) (nx := 1) (r1 := 0) (r2 := 0) (r3 := 0) rfl rfl ?_
        refine wi_if (cd := .ne) (nx := 4) (r1 := 10) (r2 := 0) (r3 := 0) rfl (by omega) (fun (q13 : 2 ≠ 0) => ?_) (fun (q13 : ¬ (2 ≠ 0)) => by exfalso; omega)
        refine wi_iconst (n := 1) (nx := 11) (r1 := 0) (r2 := 0) (r3 := 0) rfl ?_
        refine wi_ireturn (nx := 12) (r1 := 0) (r2 := 0) (r3 := 0) rfl rfl ?_
        refine wk_i ?_
        refine wr_pf0 (k0 := 37) (x := 1) (bl := -2147483648) (bh := 2147483647) (nx := 60) (r1 := 4) (r2 := 9) (r3 := 0) rfl (by decide) rfl ⟨rfl, rfl⟩ rfl rfl g11 rfl (by omega) (fun h14 g14 w14 u14 => ?_)
        have F15 := F12.then rfl u14
        refine wi_aload_n (i := 0) (x := 37) (nx := 61) (r1 := 0) (r2 := 0) (r3 := 0) rfl rfl ?_
        refine wi_dup (nx := 62) (r1 := 0) (r2 := 0) (r3 := 0) rfl rfl ?_
        have b16 := gi_b (lo := -2147483648) (hi := 2147483647) g 37 13 rfl
        refine wr_gi0 (k0 := 37) (x := h 37 13) (nx := 65) (r1 := 4) (r2 := 13) (r3 := 0) rfl rfl (by decide) rfl ⟨rfl, rfl⟩ rfl ((u14 37 13 rfl).trans (u11 37 13 rfl)) ?_
        refine wi_iload (i := 4) (e := z10) (nx := 67) (r1 := 0) (r2 := 0) (r3 := 0) rfl rfl ?_
        refine wr_addW (nx := 68) (r1 := 0) (r2 := 0) (r3 := 0) rfl (fun e17 (fe17 : -2147483648 ≤ e17 ∧ e17 ≤ 2147483647) => ?_)
        refine wr_pf0 (k0 := 37) (x := e17) (bl := -2147483648) (bh := 2147483647) (nx := 71) (r1 := 4) (r2 := 13) (r3 := 0) rfl (by decide) rfl ⟨rfl, rfl⟩ rfl rfl g14 rfl (by omega) (fun h18 g18 w18 u18 => ?_)
        have F19 := F15.then rfl u18
        refine wi_iload_n (i := 3) (e := 2) (nx := 72) (r1 := 0) (r2 := 0) (r3 := 0) rfl rfl ?_
        refine wi_iconst (n := 1) (nx := 73) (r1 := 0) (r2 := 0) (r3 := 0) rfl ?_
        refine wi_iand (e := 0) (nx := 74) (r1 := 0) (r2 := 0) (r3 := 0) rfl (by decide) ?_
        refine wi_if (cd := .eq) (nx := 77) (r1 := 87) (r2 := 0) (r3 := 0) rfl (by omega) (fun (q20 : 0 = 0) => ?_) (fun (q20 : ¬ (0 = 0)) => by exfalso; omega)
        refine wi_iload_n (i := 3) (e := 2) (nx := 88) (r1 := 0) (r2 := 0) (r3 := 0) rfl rfl ?_
        refine wi_iconst (n := 2) (nx := 89) (r1 := 0) (r2 := 0) (r3 := 0) rfl ?_
        refine wi_iand (e := 2) (nx := 90) (r1 := 0) (r2 := 0) (r3 := 0) rfl (by decide) ?_
        refine wi_if (cd := .eq) (nx := 93) (r1 := 103) (r2 := 0) (r3 := 0) rfl (by omega) (fun (q21 : 2 = 0) => by exfalso; omega) (fun (q21 : ¬ (2 = 0)) => ?_)
        refine wi_aload_n (i := 0) (x := 37) (nx := 94) (r1 := 0) (r2 := 0) (r3 := 0) rfl rfl ?_
        refine wi_dup (nx := 95) (r1 := 0) (r2 := 0) (r3 := 0) rfl rfl ?_
        have b22 := gi_b (lo := -2147483648) (hi := 2147483647) g 37 12 rfl
        refine wr_gi0 (k0 := 37) (x := h 37 12) (nx := 98) (r1 := 4) (r2 := 12) (r3 := 0) rfl rfl (by decide) rfl ⟨rfl, rfl⟩ rfl ((u18 37 12 rfl).trans ((u14 37 12 rfl).trans (u11 37 12 rfl))) ?_
        refine wi_iconst (n := 1) (nx := 99) (r1 := 0) (r2 := 0) (r3 := 0) rfl ?_
        refine wr_addW (nx := 100) (r1 := 0) (r2 := 0) (r3 := 0) rfl (fun e23 (fe23 : -2147483648 ≤ e23 ∧ e23 ≤ 2147483647) => ?_)
        refine wr_pf0 (k0 := 37) (x := e23) (bl := -2147483648) (bh := 2147483647) (nx := 103) (r1 := 4) (r2 := 12) (r3 := 0) rfl (by decide) rfl ⟨rfl, rfl⟩ rfl rfl g18 rfl (by omega) (fun h24 g24 w24 u24 => ?_)
        have F25 := F19.then rfl u24
        refine wi_aload_n (i := 0) (x := 37) (nx := 104) (r1 := 0) (r2 := 0) (r3 := 0) rfl rfl ?_
        refine wi_dup (nx := 105) (r1 := 0) (r2 := 0) (r3 := 0) rfl rfl ?_
        have b26 := gi_b (lo := -2147483648) (hi := 2147483647) g 37 10 rfl
        refine wr_gi0 (k0 := 37) (x := h 37 10) (nx := 108) (r1 := 4) (r2 := 10) (r3 := 0) rfl rfl (by decide) rfl ⟨rfl, rfl⟩ rfl ((u24 37 10 rfl).trans ((u18 37 10 rfl).trans ((u14 37 10 rfl).trans (u11 37 10 rfl)))) ?_
        refine wi_iconst (n := 1) (nx := 109) (r1 := 0) (r2 := 0) (r3 := 0) rfl ?_
        refine wr_addW (nx := 110) (r1 := 0) (r2 := 0) (r3 := 0) rfl (fun e27 (fe27 : -2147483648 ≤ e27 ∧ e27 ≤ 2147483647) => ?_)
        refine wr_pf0 (k0 := 37) (x := e27) (bl := -2147483648) (bh := 2147483647) (nx := 113) (r1 := 4) (r2 := 10) (r3 := 0) rfl (by decide) rfl ⟨rfl, rfl⟩ rfl rfl g24 rfl (by omega) (fun h28 g28 w28 u28 => ?_)
        have F29 := F25.then rfl u28
        refine wi_aload_n (i := 0) (x := 37) (nx := 114) (r1 := 0) (r2 := 0) (r3 := 0) rfl rfl ?_
        refine wi_iload_n (i := 1) (e := a0) (nx := 115) (r1 := 0) (r2 := 0) (r3 := 0) rfl rfl ?_
        refine wi_iload (i := 4) (e := z10) (nx := 117) (r1 := 0) (r2 := 0) (r3 := 0) rfl rfl ?_
        refine wi_iload_n (i := 2) (e := a1) (nx := 118) (r1 := 0) (r2 := 0) (r3 := 0) rfl rfl ?_
        refine wi_if (cd := .eq) (nx := 121) (r1 := 127) (r2 := 0) (r3 := 0) rfl (by omega) (fun (q30 : a1 = 0) => ?_) (fun (q30 : ¬ (a1 = 0)) => ?_)
        ·
          refine wi_iload_n (i := 3) (e := 2) (nx := 128) (r1 := 0) (r2 := 0) (r3 := 0) rfl rfl ?_
          refine wr_V (k0 := 37) (rest := []) (as := [.ref 37, vi a0, vi z10, vi 2]) (nx := 131) (r1 := 144) (r2 := 3) (r3 := 4) rfl rfl rfl (of_decide_eq_true rfl) rfl rfl (by decide) rfl rfl (of_decide_eq_true rfl) (of_decide_eq_true rfl) ?_
          refine ct_144_37 hcr  g28 a0 z10 2 (by omega) (by omega) (by omega)  (fun h31 g31 u31 => ?_)
          have F32 := F29.then (by decide +kernel) u31
          refine wk_n ?_
          refine wi_return (nx := 132) (r1 := 0) (r2 := 0) (r3 := 0) rfl rfl ?_
          exact k h31 g31 F32
        ·
          refine wi_iload_n (i := 3) (e := 2) (nx := 122) (r1 := 0) (r2 := 0) (r3 := 0) rfl rfl ?_
          refine wi_iconst (n := 4) (nx := 123) (r1 := 0) (r2 := 0) (r3 := 0) rfl ?_
          refine wi_ior (e := 6) (nx := 124) (r1 := 0) (r2 := 0) (r3 := 0) rfl (by decide) ?_
          refine wi_goto (nx := 127) (r1 := 128) (r2 := 0) (r3 := 0) rfl ?_
          refine wr_V (k0 := 37) (rest := []) (as := [.ref 37, vi a0, vi z10, vi 6]) (nx := 131) (r1 := 144) (r2 := 3) (r3 := 4) rfl rfl rfl (of_decide_eq_true rfl) rfl rfl (by decide) rfl rfl (of_decide_eq_true rfl) (of_decide_eq_true rfl) ?_
          refine ct_144_37 hcr  g28 a0 z10 6 (by omega) (by omega) (by omega)  (fun h31 g31 u31 => ?_)
          have F32 := F29.then (by decide +kernel) u31
          refine wk_n ?_
          refine wi_return (nx := 132) (r1 := 0) (r2 := 0) (r3 := 0) rfl rfl ?_
          exact k h31 g31 F32
    ·
      refine wi_iconst (n := 1) (nx := 13) (r1 := 0) (r2 := 0) (r3 := 0) rfl ?_
      refine wi_ireturn (nx := 14) (r1 := 0) (r2 := 0) (r3 := 0) rfl rfl ?_
      refine wk_i ?_
      refine wi_istore_n (i := 3) (e := 1) (lo2 := [(3, vi 1), (0, .ref 37), (1, vi a0), (2, vi a1)]) (nx := 22) (r1 := 0) (r2 := 0) (r3 := 0) rfl rfl ?_
      refine wi_aload_n (i := 0) (x := 37) (nx := 23) (r1 := 0) (r2 := 0) (r3 := 0) rfl rfl ?_
      refine wr_gr (k0 := 37) (x := 3) (nx := 26) (r1 := 4) (r2 := 0) (r3 := 0) rfl rfl (by decide) rfl ⟨rfl, rfl⟩ rfl ?_
      refine wi_iload_n (i := 3) (e := 1) (nx := 27) (r1 := 0) (r2 := 0) (r3 := 0) rfl rfl ?_
      refine wi_aload_n (i := 0) (x := 37) (nx := 28) (r1 := 0) (r2 := 0) (r3 := 0) rfl rfl ?_
      refine wr_gr (k0 := 37) (x := 38) (nx := 31) (r1 := 4) (r2 := 1) (r3 := 0) rfl rfl (by decide) rfl ⟨rfl, rfl⟩ rfl ?_
      refine wi_iload_n (i := 1) (e := a0) (nx := 32) (r1 := 0) (r2 := 0) (r3 := 0) rfl rfl ?_
      refine wr_ia (k0 := 38) (a := a0) (f := i3) (x := h 38 i3) (nx := 33) (r1 := 0) (r2 := 0) (r3 := 0) rfl (by decide) rfl (by omega) (by omega) (by decide) rfl ?_
      refine wr_V (k0 := 3) (rest := []) (as := [.ref 3, vi 1, vi (h 38 i3)]) (nx := 36) (r1 := 110) (r2 := 2) (r3 := 2) rfl rfl rfl (of_decide_eq_true rfl) rfl rfl (by decide) rfl rfl (of_decide_eq_true rfl) (of_decide_eq_true rfl) ?_
      refine ct_110_3 hcr  g 1 (h 38 i3) (by omega) (by omega)  (fun z8  (fz8 : -2147483648 ≤ z8 ∧ z8 ≤ 2147483647) => ?_)
      refine wk_i ?_
      refine wi_istore (i := 4) (e := z8) (lo2 := [(4, vi z8), (3, vi 1), (0, .ref 37), (1, vi a0), (2, vi a1)]) (nx := 38) (r1 := 0) (r2 := 0) (r3 := 0) rfl rfl ?_
      refine wi_aload_n (i := 0) (x := 37) (nx := 39) (r1 := 0) (r2 := 0) (r3 := 0) rfl rfl ?_
      refine wi_aload_n (i := 0) (x := 37) (nx := 40) (r1 := 0) (r2 := 0) (r3 := 0) rfl rfl ?_
      refine wr_gr (k0 := 37) (x := 38) (nx := 43) (r1 := 4) (r2 := 1) (r3 := 0) rfl rfl (by decide) rfl ⟨rfl, rfl⟩ rfl ?_
      refine wi_iload_n (i := 1) (e := a0) (nx := 44) (r1 := 0) (r2 := 0) (r3 := 0) rfl rfl ?_
      refine wr_ia (k0 := 38) (a := a0) (f := i3) (x := h 38 i3) (nx := 45) (r1 := 0) (r2 := 0) (r3 := 0) rfl (by decide) rfl (by omega) (by omega) (by decide) rfl ?_
      refine wr_pf0 (k0 := 37) (x := h 38 i3) (bl := -2147483648) (bh := 2147483647) (nx := 48) (r1 := 4) (r2 := 8) (r3 := 0) rfl (by decide) rfl ⟨rfl, rfl⟩ rfl rfl g rfl (by omega) (fun h9 g9 w9 u9 => ?_)
      have F10 := F0.then rfl u9
      refine wi_aload_n (i := 0) (x := 37) (nx := 49) (r1 := 0) (r2 := 0) (r3 := 0) rfl rfl ?_
      refine wi_iload_n (i := 3) (e := 1) (nx := 50) (r1 := 0) (r2 := 0) (r3 := 0) rfl rfl ?_
      refine wi_aload_n (i := 0) (x := 37) (nx := 51) (r1 := 0) (r2 := 0) (r3 := 0) rfl rfl ?_
      refine wr_gi0 (k0 := 37) (x := h 37 9) (nx := 54) (r1 := 4) (r2 := 9) (r3 := 0) rfl rfl (by decide) rfl ⟨rfl, rfl⟩ rfl (u9 37 9 rfl) ?_
      refine wi_S (rest := [.ref 37]) (as := [vi 1, vi (h 37 9)]) (nx := 57) (r1 := 111) (r2 := 18) (r3 := 0) rfl rfl rfl (of_decide_eq_true rfl) rfl rfl (of_decide_eq_true rfl) (of_decide_eq_true rfl) ?_
      refine wi_iload_n (i := 0) (e := 1) (nx := 1) (r1 := 0) (r2 := 0) (r3 := 0) rfl rfl ?_
      refine wi_if (cd := .ne) (nx := 4) (r1 := 10) (r2 := 0) (r3 := 0) rfl (by omega) (fun (q11 : 1 ≠ 0) => ?_) (fun (q11 : ¬ (1 ≠ 0)) => by exfalso; omega)
      refine wi_iconst (n := 1) (nx := 11) (r1 := 0) (r2 := 0) (r3 := 0) rfl ?_
      refine wi_ireturn (nx := 12) (r1 := 0) (r2 := 0) (r3 := 0) rfl rfl ?_
      refine wk_i ?_
      refine wr_pf0 (k0 := 37) (x := 1) (bl := -2147483648) (bh := 2147483647) (nx := 60) (r1 := 4) (r2 := 9) (r3 := 0) rfl (by decide) rfl ⟨rfl, rfl⟩ rfl rfl g9 rfl (by omega) (fun h12 g12 w12 u12 => ?_)
      have F13 := F10.then rfl u12
      refine wi_aload_n (i := 0) (x := 37) (nx := 61) (r1 := 0) (r2 := 0) (r3 := 0) rfl rfl ?_
      refine wi_dup (nx := 62) (r1 := 0) (r2 := 0) (r3 := 0) rfl rfl ?_
      have b14 := gi_b (lo := -2147483648) (hi := 2147483647) g 37 13 rfl
      refine wr_gi0 (k0 := 37) (x := h 37 13) (nx := 65) (r1 := 4) (r2 := 13) (r3 := 0) rfl rfl (by decide) rfl ⟨rfl, rfl⟩ rfl ((u12 37 13 rfl).trans (u9 37 13 rfl)) ?_
      refine wi_iload (i := 4) (e := z8) (nx := 67) (r1 := 0) (r2 := 0) (r3 := 0) rfl rfl ?_
      refine wr_addW (nx := 68) (r1 := 0) (r2 := 0) (r3 := 0) rfl (fun e15 (fe15 : -2147483648 ≤ e15 ∧ e15 ≤ 2147483647) => ?_)
      refine wr_pf0 (k0 := 37) (x := e15) (bl := -2147483648) (bh := 2147483647) (nx := 71) (r1 := 4) (r2 := 13) (r3 := 0) rfl (by decide) rfl ⟨rfl, rfl⟩ rfl rfl g12 rfl (by omega) (fun h16 g16 w16 u16 => ?_)
      have F17 := F13.then rfl u16
      refine wi_iload_n (i := 3) (e := 1) (nx := 72) (r1 := 0) (r2 := 0) (r3 := 0) rfl rfl ?_
      refine wi_iconst (n := 1) (nx := 73) (r1 := 0) (r2 := 0) (r3 := 0) rfl ?_
      refine wi_iand (e := 1) (nx := 74) (r1 := 0) (r2 := 0) (r3 := 0) rfl (by decide) ?_
      refine wi_if (cd := .eq) (nx := 77) (r1 := 87) (r2 := 0) (r3 := 0) rfl (by omega) (fun (q18 : 1 = 0) => by exfalso; omega) (fun (q18 : ¬ (1 = 0)) => ?_)
      refine wi_aload_n (i := 0) (x := 37) (nx := 78) (r1 := 0) (r2 := 0) (r3 := 0) rfl rfl ?_
      refine wi_dup (nx := 79) (r1 := 0) (r2 := 0) (r3 := 0) rfl rfl ?_
      have b19 := gi_b (lo := -2147483648) (hi := 2147483647) g 37 11 rfl
      refine wr_gi0 (k0 := 37) (x := h 37 11) (nx := 82) (r1 := 4) (r2 := 11) (r3 := 0) rfl rfl (by decide) rfl ⟨rfl, rfl⟩ rfl ((u16 37 11 rfl).trans ((u12 37 11 rfl).trans (u9 37 11 rfl))) ?_
      refine wi_iconst (n := 1) (nx := 83) (r1 := 0) (r2 := 0) (r3 := 0) rfl ?_
      refine wr_addW (nx := 84) (r1 := 0) (r2 := 0) (r3 := 0) rfl (fun e20 (fe20 : -2147483648 ≤ e20 ∧ e20 ≤ 2147483647) => ?_)
      refine wr_pf0 (k0 := 37) (x := e20) (bl := -2147483648) (bh := 2147483647) (nx := 87) (r1 := 4) (r2 := 11) (r3 := 0) rfl (by decide) rfl ⟨rfl, rfl⟩ rfl rfl g16 rfl (by omega) (fun h21 g21 w21 u21 => ?_)
      have F22 := F17.then rfl u21
      refine wi_iload_n (i := 3) (e := 1) (nx := 88) (r1 := 0) (r2 := 0) (r3 := 0) rfl rfl ?_
      refine wi_iconst (n := 2) (nx := 89) (r1 := 0) (r2 := 0) (r3 := 0) rfl ?_
      refine wi_iand (e := 0) (nx := 90) (r1 := 0) (r2 := 0) (r3 := 0) rfl (by decide) ?_
      refine wi_if (cd := .eq) (nx := 93) (r1 := 103) (r2 := 0) (r3 := 0) rfl (by omega) (fun (q23 : 0 = 0) => ?_) (fun (q23 : ¬ (0 = 0)) => by exfalso; omega)
      refine wi_aload_n (i := 0) (x := 37) (nx := 104) (r1 := 0) (r2 := 0) (r3 := 0) rfl rfl ?_
      refine wi_dup (nx := 105) (r1 := 0) (r2 := 0) (r3 := 0) rfl rfl ?_
      have b24 := gi_b (lo := -2147483648) (hi := 2147483647) g 37 10 rfl
      refine wr_gi0 (k0 := 37) (x := h 37 10) (nx := 108) (r1 := 4) (r2 := 10) (r3 := 0) rfl rfl (by decide) rfl ⟨rfl, rfl⟩ rfl ((u21 37 10 rfl).trans ((u16 37 10 rfl).trans ((u12 37 10 rfl).trans (u9 37 10 rfl)))) ?_
      refine wi_iconst (n := 1) (nx := 109) (r1 := 0) (r2 := 0) (r3 := 0) rfl ?_
      refine wr_addW (nx := 110) (r1 := 0) (r2 := 0) (r3 := 0) rfl (fun e25 (fe25 : -2147483648 ≤ e25 ∧ e25 ≤ 2147483647) => ?_)
      refine wr_pf0 (k0 := 37) (x := e25) (bl := -2147483648) (bh := 2147483647) (nx := 113) (r1 := 4) (r2 := 10) (r3 := 0) rfl (by decide) rfl ⟨rfl, rfl⟩ rfl rfl g21 rfl (by omega) (fun h26 g26 w26 u26 => ?_)
      have F27 := F22.then rfl u26
      refine wi_aload_n (i := 0) (x := 37) (nx := 114) (r1 := 0) (r2 := 0) (r3 := 0) rfl rfl ?_
      refine wi_iload_n (i := 1) (e := a0) (nx := 115) (r1 := 0) (r2 := 0) (r3 := 0) rfl rfl ?_
      refine wi_iload (i := 4) (e := z8) (nx := 117) (r1 := 0) (r2 := 0) (r3 := 0) rfl rfl ?_
      refine wi_iload_n (i := 2) (e := a1) (nx := 118) (r1 := 0) (r2 := 0) (r3 := 0) rfl rfl ?_
      refine wi_if (cd := .eq) (nx := 121) (r1 := 127) (r2 := 0) (r3 := 0) rfl (by omega) (fun (q28 : a1 = 0) => ?_) (fun (q28 : ¬ (a1 = 0)) => ?_)
      ·
        refine wi_iload_n (i := 3) (e := 1) (nx := 128) (r1 := 0) (r2 := 0) (r3 := 0) rfl rfl ?_
        refine wr_V (k0 := 37) (rest := []) (as := [.ref 37, vi a0, vi z8, vi 1]) (nx := 131) (r1 := 144) (r2 := 3) (r3 := 4) rfl rfl rfl (of_decide_eq_true rfl) rfl rfl (by decide) rfl rfl (of_decide_eq_true rfl) (of_decide_eq_true rfl) ?_
        refine ct_144_37 hcr  g26 a0 z8 1 (by omega) (by omega) (by omega)  (fun h29 g29 u29 => ?_)
        have F30 := F27.then (by decide +kernel) u29
        refine wk_n ?_
        refine wi_return (nx := 132) (r1 := 0) (r2 := 0) (r3 := 0) rfl rfl ?_
        exact k h29 g29 F30
      ·
        refine wi_iload_n (i := 3) (e := 1) (nx := 122) (r1 := 0) (r2 := 0) (r3 := 0) rfl rfl ?_
        refine wi_iconst (n := 4) (nx := 123) (r1 := 0) (r2 := 0) (r3 := 0) rfl ?_
        refine wi_ior (e := 5) (nx := 124) (r1 := 0) (r2 := 0) (r3 := 0) rfl (by decide) ?_
        refine wi_goto (nx := 127) (r1 := 128) (r2 := 0) (r3 := 0) rfl ?_
        refine wr_V (k0 := 37) (rest := []) (as := [.ref 37, vi a0, vi z8, vi 5]) (nx := 131) (r1 := 144) (r2 := 3) (r3 := 4) rfl rfl rfl (of_decide_eq_true rfl) rfl rfl (by decide) rfl rfl (of_decide_eq_true rfl) (of_decide_eq_true rfl) ?_
        refine ct_144_37 hcr  g26 a0 z8 5 (by omega) (by omega) (by omega)  (fun h29 g29 u29 => ?_)
        have F30 := F27.then (by decide +kernel) u29
        refine wk_n ?_
        refine wi_return (nx := 132) (r1 := 0) (r2 := 0) (r3 := 0) rfl rfl ?_
        exact k h29 g29 F30
  ·
    refine wi_iconst (n := 0) (nx := 6) (r1 := 0) (r2 := 0) (r3 := 0) rfl ?_
    refine wi_ireturn (nx := 7) (r1 := 0) (r2 := 0) (r3 := 0) rfl rfl ?_
    refine wk_i ?_
    refine wi_istore_n (i := 3) (e := 0) (lo2 := [(3, vi 0), (0, .ref 37), (1, vi a0), (2, vi a1)]) (nx := 22) (r1 := 0) (r2 := 0) (r3 := 0) rfl rfl ?_
    refine wi_aload_n (i := 0) (x := 37) (nx := 23) (r1 := 0) (r2 := 0) (r3 := 0) rfl rfl ?_
    refine wr_gr (k0 := 37) (x := 3) (nx := 26) (r1 := 4) (r2 := 0) (r3 := 0) rfl rfl (by decide) rfl ⟨rfl, rfl⟩ rfl ?_
    refine wi_iload_n (i := 3) (e := 0) (nx := 27) (r1 := 0) (r2 := 0) (r3 := 0) rfl rfl ?_
    refine wi_aload_n (i := 0) (x := 37) (nx := 28) (r1 := 0) (r2 := 0) (r3 := 0) rfl rfl ?_
    refine wr_gr (k0 := 37) (x := 38) (nx := 31) (r1 := 4) (r2 := 1) (r3 := 0) rfl rfl (by decide) rfl ⟨rfl, rfl⟩ rfl ?_
    refine wi_iload_n (i := 1) (e := a0) (nx := 32) (r1 := 0) (r2 := 0) (r3 := 0) rfl rfl ?_
    refine wr_ia (k0 := 38) (a := a0) (f := i3) (x := h 38 i3) (nx := 33) (r1 := 0) (r2 := 0) (r3 := 0) rfl (by decide) rfl (by omega) (by omega) (by decide) rfl ?_
    refine wr_V (k0 := 3) (rest := []) (as := [.ref 3, vi 0, vi (h 38 i3)]) (nx := 36) (r1 := 110) (r2 := 2) (r3 := 2) rfl rfl rfl (of_decide_eq_true rfl) rfl rfl (by decide) rfl rfl (of_decide_eq_true rfl) (of_decide_eq_true rfl) ?_
    refine ct_110_3 hcr  g 0 (h 38 i3) (by omega) (by omega)  (fun z7  (fz7 : -2147483648 ≤ z7 ∧ z7 ≤ 2147483647) => ?_)
    refine wk_i ?_
    refine wi_istore (i := 4) (e := z7) (lo2 := [(4, vi z7), (3, vi 0), (0, .ref 37), (1, vi a0), (2, vi a1)]) (nx := 38) (r1 := 0) (r2 := 0) (r3 := 0) rfl rfl ?_
    refine wi_aload_n (i := 0) (x := 37) (nx := 39) (r1 := 0) (r2 := 0) (r3 := 0) rfl rfl ?_
    refine wi_aload_n (i := 0) (x := 37) (nx := 40) (r1 := 0) (r2 := 0) (r3 := 0) rfl rfl ?_
    refine wr_gr (k0 := 37) (x := 38) (nx := 43) (r1 := 4) (r2 := 1) (r3 := 0) rfl rfl (by decide) rfl ⟨rfl, rfl⟩ rfl ?_
    refine wi_iload_n (i := 1) (e := a0) (nx := 44) (r1 := 0) (r2 := 0) (r3 := 0) rfl rfl ?_
    refine wr_ia (k0 := 38) (a := a0) (f := i3) (x := h 38 i3) (nx := 45) (r1 := 0) (r2 := 0) (r3 := 0) rfl (by decide) rfl (by omega) (by omega) (by decide) rfl ?_
    refine wr_pf0 (k0 := 37) (x := h 38 i3) (bl := -2147483648) (bh := 2147483647) (nx := 48) (r1 := 4) (r2 := 8) (r3 := 0) rfl (by decide) rfl ⟨rfl, rfl⟩ rfl rfl g rfl (by omega) (fun h8 g8 w8 u8 => ?_)
    have F9 := F0.then rfl u8
    refine wi_aload_n (i := 0) (x := 37) (nx := 49) (r1 := 0) (r2 := 0) (r3 := 0) rfl rfl ?_
    refine wi_iload_n (i := 3) (e := 0) (nx := 50) (r1 := 0) (r2 := 0) (r3 := 0) rfl rfl ?_
    refine wi_aload_n (i := 0) (x := 37) (nx := 51) (r1 := 0) (r2 := 0) (r3 := 0) rfl rfl ?_
    refine wr_gi0 (k0 := 37) (x := h 37 9) (nx := 54) (r1 := 4) (r2 := 9) (r3 := 0) rfl rfl (by decide) rfl ⟨rfl, rfl⟩ rfl (u8 37 9 rfl) ?_
    refine wi_S (rest := [.ref 37]) (as := [vi 0, vi (h 37 9)]) (nx := 57) (r1 := 111) (r2 := 18) (r3 := 0) rfl rfl rfl (of_decide_eq_true rfl) rfl rfl (of_decide_eq_true rfl) (of_decide_eq_true rfl) ?_
    refine wi_iload_n (i := 0) (e := 0) (nx := 1) (r1 := 0) (r2 := 0) (r3 := 0) rfl rfl ?_
    refine wi_if (cd := .ne) (nx := 4) (r1 := 10) (r2 := 0) (r3 := 0) rfl (by omega) (fun (q10 : 0 ≠ 0) => by exfalso; omega) (fun (q10 : ¬ (0 ≠ 0)) => ?_)
    refine wi_iload_n (i := 1) (e := h 37 9) (nx := 5) (r1 := 0) (r2 := 0) (r3 := 0) rfl rfl ?_
    refine wi_iconst (n := 1) (nx := 6) (r1 := 0) (r2 := 0) (r3 := 0) rfl ?_
    refine wr_addW (nx := 7) (r1 := 0) (r2 := 0) (r3 := 0) rfl (fun e11 (fe11 : -2147483648 ≤ e11 ∧ e11 ≤ 2147483647) => ?_)
    refine wi_goto (nx := 10) (r1 := 11) (r2 := 0) (r3 := 0) rfl ?_
    refine wi_ireturn (nx := 12) (r1 := 0) (r2 := 0) (r3 := 0) rfl rfl ?_
    refine wk_i ?_
    refine wr_pf0 (k0 := 37) (x := e11) (bl := -2147483648) (bh := 2147483647) (nx := 60) (r1 := 4) (r2 := 9) (r3 := 0) rfl (by decide) rfl ⟨rfl, rfl⟩ rfl rfl g8 rfl (by omega) (fun h12 g12 w12 u12 => ?_)
    have F13 := F9.then rfl u12
    refine wi_aload_n (i := 0) (x := 37) (nx := 61) (r1 := 0) (r2 := 0) (r3 := 0) rfl rfl ?_
    refine wi_dup (nx := 62) (r1 := 0) (r2 := 0) (r3 := 0) rfl rfl ?_
    have b14 := gi_b (lo := -2147483648) (hi := 2147483647) g 37 13 rfl
    refine wr_gi0 (k0 := 37) (x := h 37 13) (nx := 65) (r1 := 4) (r2 := 13) (r3 := 0) rfl rfl (by decide) rfl ⟨rfl, rfl⟩ rfl ((u12 37 13 rfl).trans (u8 37 13 rfl)) ?_
    refine wi_iload (i := 4) (e := z7) (nx := 67) (r1 := 0) (r2 := 0) (r3 := 0) rfl rfl ?_
    refine wr_addW (nx := 68) (r1 := 0) (r2 := 0) (r3 := 0) rfl (fun e15 (fe15 : -2147483648 ≤ e15 ∧ e15 ≤ 2147483647) => ?_)
    refine wr_pf0 (k0 := 37) (x := e15) (bl := -2147483648) (bh := 2147483647) (nx := 71) (r1 := 4) (r2 := 13) (r3 := 0) rfl (by decide) rfl ⟨rfl, rfl⟩ rfl rfl g12 rfl (by omega) (fun h16 g16 w16 u16 => ?_)
    have F17 := F13.then rfl u16
    refine wi_iload_n (i := 3) (e := 0) (nx := 72) (r1 := 0) (r2 := 0) (r3 := 0) rfl rfl ?_
    refine wi_iconst (n := 1) (nx := 73) (r1 := 0) (r2 := 0) (r3 := 0) rfl ?_
    refine wi_iand (e := 0) (nx := 74) (r1 := 0) (r2 := 0) (r3 := 0) rfl (by decide) ?_
    refine wi_if (cd := .eq) (nx := 77) (r1 := 87) (r2 := 0) (r3 := 0) rfl (by omega) (fun (q18 : 0 = 0) => ?_) (fun (q18 : ¬ (0 = 0)) => by exfalso; omega)
    refine wi_iload_n (i := 3) (e := 0) (nx := 88) (r1 := 0) (r2 := 0) (r3 := 0) rfl rfl ?_
    refine wi_iconst (n := 2) (nx := 89) (r1 := 0) (r2 := 0) (r3 := 0) rfl ?_
    refine wi_iand (e := 0) (nx := 90) (r1 := 0) (r2 := 0) (r3 := 0) rfl (by decide) ?_
    refine wi_if (cd := .eq) (nx := 93) (r1 := 103) (r2 := 0) (r3 := 0) rfl (by omega) (fun (q19 : 0 = 0) => ?_) (fun (q19 : ¬ (0 = 0)) => by exfalso; omega)
    refine wi_aload_n (i := 0) (x := 37) (nx := 104) (r1 := 0) (r2 := 0) (r3 := 0) rfl rfl ?_
    refine wi_dup (nx := 105) (r1 := 0) (r2 := 0) (r3 := 0) rfl rfl ?_
    have b20 := gi_b (lo := -2147483648) (hi := 2147483647) g 37 10 rfl
    refine wr_gi0 (k0 := 37) (x := h 37 10) (nx := 108) (r1 := 4) (r2 := 10) (r3 := 0) rfl rfl (by decide) rfl ⟨rfl, rfl⟩ rfl ((u16 37 10 rfl).trans ((u12 37 10 rfl).trans (u8 37 10 rfl))) ?_
    refine wi_iconst (n := 1) (nx := 109) (r1 := 0) (r2 := 0) (r3 := 0) rfl ?_
    refine wr_addW (nx := 110) (r1 := 0) (r2 := 0) (r3 := 0) rfl (fun e21 (fe21 : -2147483648 ≤ e21 ∧ e21 ≤ 2147483647) => ?_)
    refine wr_pf0 (k0 := 37) (x := e21) (bl := -2147483648) (bh := 2147483647) (nx := 113) (r1 := 4) (r2 := 10) (r3 := 0) rfl (by decide) rfl ⟨rfl, rfl⟩ rfl rfl g16 rfl (by omega) (fun h22 g22 w22 u22 => ?_)
    have F23 := F17.then rfl u22
    refine wi_aload_n (i := 0) (x := 37) (nx := 114) (r1 := 0) (r2 := 0) (r3 := 0) rfl rfl ?_
    refine wi_iload_n (i := 1) (e := a0) (nx := 115) (r1 := 0) (r2 := 0) (r3 := 0) rfl rfl ?_
    refine wi_iload (i := 4) (e := z7) (nx := 117) (r1 := 0) (r2 := 0) (r3 := 0) rfl rfl ?_
    refine wi_iload_n (i := 2) (e := a1) (nx := 118) (r1 := 0) (r2 := 0) (r3 := 0) rfl rfl ?_
    refine wi_if (cd := .eq) (nx := 121) (r1 := 127) (r2 := 0) (r3 := 0) rfl (by omega) (fun (q24 : a1 = 0) => ?_) (fun (q24 : ¬ (a1 = 0)) => ?_)
    ·
      refine wi_iload_n (i := 3) (e := 0) (nx := 128) (r1 := 0) (r2 := 0) (r3 := 0) rfl rfl ?_
      refine wr_V (k0 := 37) (rest := []) (as := [.ref 37, vi a0, vi z7, vi 0]) (nx := 131) (r1 := 144) (r2 := 3) (r3 := 4) rfl rfl rfl (of_decide_eq_true rfl) rfl rfl (by decide) rfl rfl (of_decide_eq_true rfl) (of_decide_eq_true rfl) ?_
      refine ct_144_37 hcr  g22 a0 z7 0 (by omega) (by omega) (by omega)  (fun h25 g25 u25 => ?_)
      have F26 := F23.then (by decide +kernel) u25
      refine wk_n ?_
      refine wi_return (nx := 132) (r1 := 0) (r2 := 0) (r3 := 0) rfl rfl ?_
      exact k h25 g25 F26
    ·
      refine wi_iload_n (i := 3) (e := 0) (nx := 122) (r1 := 0) (r2 := 0) (r3 := 0) rfl rfl ?_
      refine wi_iconst (n := 4) (nx := 123) (r1 := 0) (r2 := 0) (r3 := 0) rfl ?_
      refine wi_ior (e := 4) (nx := 124) (r1 := 0) (r2 := 0) (r3 := 0) rfl (by decide) ?_
      refine wi_goto (nx := 127) (r1 := 128) (r2 := 0) (r3 := 0) rfl ?_
      refine wr_V (k0 := 37) (rest := []) (as := [.ref 37, vi a0, vi z7, vi 4]) (nx := 131) (r1 := 144) (r2 := 3) (r3 := 4) rfl rfl rfl (of_decide_eq_true rfl) rfl rfl (by decide) rfl rfl (of_decide_eq_true rfl) (of_decide_eq_true rfl) ?_
      refine ct_144_37 hcr  g22 a0 z7 4 (by omega) (by omega) (by omega)  (fun h25 g25 u25 => ?_)
      have F26 := F23.then (by decide +kernel) u25
      refine wk_n ?_
      refine wi_return (nx := 132) (r1 := 0) (r2 := 0) (r3 := 0) rfl rfl ?_
      exact k h25 g25 F26
-- method 142: Line.paintFrom(I)I
set_option maxRecDepth 100000 in
set_option maxHeartbeats 100000000 in
theorem ct_142_37 {L : Nat} {xs : Nat → Int32} {d b c : Nat} {h : hp} {cr : Nat → Nat → Option Nat} {Q : hp_Q} (hcr : CR cr)  (g : GI h) (a0 : Int) (q0_ : -2147483648 ≤ a0 ∧ a0 ≤ 2147483647)  (k : ∀ (h2 : hp) (z0 : Int) , GI h2 → FR [(37, 55, none)] h h2 → (-1 ≤ z0 ∧ z0 ≤ 11) → Q (.inl (some (vi z0))) (hp_w h2 cr) b c) : wp (md_xa (L, xs)) (d + 2) 142 (0, [(0, .ref 37), (1, vi a0)], [], hp_w h cr, b, c) Q := by
  have F0 : FR [(37, 55, none)] h h := FR.refl
  refine wi_aload_n (i := 0) (x := 37) (nx := 1) (r1 := 0) (r2 := 0) (r3 := 0) rfl rfl ?_
  refine wi_iload_n (i := 1) (e := a0) (nx := 2) (r1 := 0) (r2 := 0) (r3 := 0) rfl rfl ?_
  refine wr_V (k0 := 37) (rest := []) (as := [.ref 37, vi a0]) (nx := 5) (r1 := 141) (r2 := 1) (r3 := 4) rfl rfl rfl (of_decide_eq_true rfl) rfl rfl (by decide) rfl rfl (of_decide_eq_true rfl) (of_decide_eq_true rfl) ?_
  refine ct_141_37 hcr  g a0 (by omega)  (fun z2  (fz2 : 0 ≤ z2 ∧ z2 ≤ 1) m1_0 => ?_)
  refine wk_i ?_
  refine wi_if (cd := .ne) (nx := 8) (r1 := 10) (r2 := 0) (r3 := 0) rfl (by omega) (fun (q3 : z2 ≠ 0) => ?_) (fun (q3 : ¬ (z2 ≠ 0)) => ?_)
  ·
    have f4 : 0 ≤ a0 ∧ a0 ≤ 3 := m1_0 (by omega)
    refine wi_aload_n (i := 0) (x := 37) (nx := 11) (r1 := 0) (r2 := 0) (r3 := 0) rfl rfl ?_
    refine wr_gr (k0 := 37) (x := 40) (nx := 14) (r1 := 4) (r2 := 3) (r3 := 0) rfl rfl (by decide) rfl ⟨rfl, rfl⟩ rfl ?_
    refine wi_iload_n (i := 1) (e := a0) (nx := 15) (r1 := 0) (r2 := 0) (r3 := 0) rfl rfl ?_
    obtain ⟨i5, ei5⟩ : ∃ q : Nat, a0 = (q : Int) := ⟨(a0).toNat, by omega⟩
    refine wr_aa (k0 := 40) (a := a0) (f := i5) (x := 40 + 8 + 2 * i5) (nx := 16) (r1 := 0) (r2 := 0) (r3 := 0) rfl (by decide) rfl (Or.inl rfl) (by omega) (by omega) (by decide) (hcr.1 40 (by decide) i5 (by omega)) ?_
    obtain ⟨k6, kk6, mk6⟩ : ∃ q, Rw q ∧ q = 40 + 8 + 2 * i5 := ⟨_, rw_lane 40 (by decide) i5 (by omega), rfl⟩
    rw [← mk6]
    refine wi_iconst (n := 0) (nx := 17) (r1 := 0) (r2 := 0) (r3 := 0) rfl ?_
    refine wr_V (k0 := k6) (rest := []) (as := [.ref k6, vi 0]) (nx := 20) (r1 := 154) (r2 := 1) (r3 := 5) rfl rfl rfl (of_decide_eq_true rfl) rfl rfl kk6.k kk6.1 rfl (of_decide_eq_true rfl) (of_decide_eq_true rfl) ?_
    refine ct_154_R hcr kk6 g 0 (by omega)  (fun z8  (fz8 : -2147483648 ≤ z8 ∧ z8 ≤ 2147483647) => ?_)
    refine wk_i ?_
    refine wi_istore_n (i := 2) (e := z8) (lo2 := [(2, vi z8), (0, .ref 37), (1, vi a0)]) (nx := 21) (r1 := 0) (r2 := 0) (r3 := 0) rfl rfl ?_
    refine wi_iload_n (i := 2) (e := z8) (nx := 22) (r1 := 0) (r2 := 0) (r3 := 0) rfl rfl ?_
    refine wi_if (cd := .lt) (nx := 25) (r1 := 31) (r2 := 0) (r3 := 0) rfl (by omega) (fun (q9 : z8 < 0) => ?_) (fun (q9 : ¬ (z8 < 0)) => ?_)
    ·
      refine wi_iconst (n := (-1)) (nx := 32) (r1 := 0) (r2 := 0) (r3 := 0) rfl ?_
      refine wi_ireturn (nx := 33) (r1 := 0) (r2 := 0) (r3 := 0) rfl rfl ?_
      exact k h (-1) g F0 (by omega)
    ·
      refine wi_iload_n (i := 2) (e := z8) (nx := 26) (r1 := 0) (r2 := 0) (r3 := 0) rfl rfl ?_
      refine wi_bipush (n := 12) (nx := 28) (r1 := 0) (r2 := 0) (r3 := 0) rfl (by decide) ?_
      refine wi_icmp (cd := .lt) (nx := 31) (r1 := 33) (r2 := 0) (r3 := 0) rfl (by omega) (by omega) (fun (q10 : z8 < 12) => ?_) (fun (q10 : ¬ (z8 < 12)) => ?_)
      ·
        refine wi_aload_n (i := 0) (x := 37) (nx := 34) (r1 := 0) (r2 := 0) (r3 := 0) rfl rfl ?_
        refine wr_gr (k0 := 37) (x := 40) (nx := 37) (r1 := 4) (r2 := 3) (r3 := 0) rfl rfl (by decide) rfl ⟨rfl, rfl⟩ rfl ?_
        refine wi_iload_n (i := 1) (e := a0) (nx := 38) (r1 := 0) (r2 := 0) (r3 := 0) rfl rfl ?_
        refine wr_aa (k0 := 40) (a := a0) (f := i5) (x := 40 + 8 + 2 * i5) (nx := 39) (r1 := 0) (r2 := 0) (r3 := 0) rfl (by decide) rfl (Or.inl rfl) (by omega) (by omega) (by decide) (hcr.1 40 (by decide) i5 (by omega)) ?_
        obtain ⟨k11, kk11, mk11⟩ : ∃ q, Rw q ∧ q = 40 + 8 + 2 * i5 := ⟨_, rw_lane 40 (by decide) i5 (by omega), rfl⟩
        rw [← mk11]
        refine wr_V (k0 := k11) (rest := []) (as := [.ref k11]) (nx := 42) (r1 := 157) (r2 := 0) (r3 := 5) rfl rfl rfl (of_decide_eq_true rfl) rfl rfl kk11.k kk11.1 rfl (of_decide_eq_true rfl) (of_decide_eq_true rfl) ?_
        refine ct_157_R hcr kk11 g    (fun h12 g12 u12 => ?_)
        have v12 := FR.rngp (lo := 48) (hi := 55) u12 (by omega)
        have F13 := F0.then rfl (FR.rngp (lo := 48) (hi := 55) u12 (by omega))
        refine wk_n ?_
        refine wi_aload_n (i := 0) (x := 37) (nx := 43) (r1 := 0) (r2 := 0) (r3 := 0) rfl rfl ?_
        refine wr_gr (k0 := 37) (x := 39) (nx := 46) (r1 := 4) (r2 := 2) (r3 := 0) rfl rfl (by decide) rfl ⟨rfl, rfl⟩ rfl ?_
        refine wi_iload_n (i := 2) (e := z8) (nx := 47) (r1 := 0) (r2 := 0) (r3 := 0) rfl rfl ?_
        obtain ⟨i14, ei14⟩ : ∃ q : Nat, z8 = (q : Int) := ⟨(z8).toNat, by omega⟩
        have b15 := gi_b (lo := -2147483648) (hi := 2147483647) g 39 i14 rfl
        refine wr_ia (k0 := 39) (a := z8) (f := i14) (x := h 39 i14) (nx := 48) (r1 := 0) (r2 := 0) (r3 := 0) rfl (by decide) rfl (by omega) (by omega) (by decide) (v12 39 i14 (fn_a (by omega) fn_0)) ?_
        refine wi_if (cd := .le) (nx := 51) (r1 := 55) (r2 := 0) (r3 := 0) rfl (by omega) (fun (q16 : (h 39 i14) ≤ 0) => ?_) (fun (q16 : ¬ ((h 39 i14) ≤ 0)) => ?_)
        ·
          refine wi_iconst (n := 0) (nx := 56) (r1 := 0) (r2 := 0) (r3 := 0) rfl ?_
          refine wi_istore_n (i := 3) (e := 0) (lo2 := [(3, vi 0), (2, vi z8), (0, .ref 37), (1, vi a0)]) (nx := 57) (r1 := 0) (r2 := 0) (r3 := 0) rfl rfl ?_
          refine wi_aload_n (i := 0) (x := 37) (nx := 58) (r1 := 0) (r2 := 0) (r3 := 0) rfl rfl ?_
          refine wi_iload_n (i := 2) (e := z8) (nx := 59) (r1 := 0) (r2 := 0) (r3 := 0) rfl rfl ?_
          refine wi_iload_n (i := 3) (e := 0) (nx := 60) (r1 := 0) (r2 := 0) (r3 := 0) rfl rfl ?_
          refine wr_V (k0 := 37) (rest := []) (as := [.ref 37, vi z8, vi 0]) (nx := 63) (r1 := 143) (r2 := 2) (r3 := 4) rfl rfl rfl (of_decide_eq_true rfl) rfl rfl (by decide) rfl rfl (of_decide_eq_true rfl) (of_decide_eq_true rfl) ?_
          refine ct_143_37 hcr  g12 z8 0 (by omega) (by omega)  (fun h17 g17 u17 => ?_)
          have F18 := F13.then (by decide +kernel) u17
          refine wk_n ?_
          refine wi_iload_n (i := 3) (e := 0) (nx := 64) (r1 := 0) (r2 := 0) (r3 := 0) rfl rfl ?_
          refine wi_if (cd := .eq) (nx := 67) (r1 := 107) (r2 := 0) (r3 := 0) rfl (by omega) (fun (q19 : 0 = 0) => ?_) (fun (q19 : ¬ (0 = 0)) => by exfalso; omega)
          refine wi_aload_n (i := 0) (x := 37) (nx := 108) (r1 := 0) (r2 := 0) (r3 := 0) rfl rfl ?_
          refine wr_gr (k0 := 37) (x := 45) (nx := 111) (r1 := 4) (r2 := 6) (r3 := 0) rfl rfl (by decide) rfl ⟨rfl, rfl⟩ rfl ?_
          refine wi_iload_n (i := 2) (e := z8) (nx := 112) (r1 := 0) (r2 := 0) (r3 := 0) rfl rfl ?_
          refine wr_V (k0 := 45) (rest := []) (as := [.ref 45, vi z8]) (nx := 115) (r1 := 158) (r2 := 1) (r3 := 5) rfl rfl rfl (of_decide_eq_true rfl) rfl rfl (by decide) rfl rfl (of_decide_eq_true rfl) (of_decide_eq_true rfl) ?_
          refine ct_158_R hcr rw_45 g17 z8 (by omega)  (fun h20 g20 u20 => ?_)
          have F21 := F18.then rfl u20
          refine wk_n ?_
          refine wi_aload_n (i := 0) (x := 37) (nx := 116) (r1 := 0) (r2 := 0) (r3 := 0) rfl rfl ?_
          refine wi_dup (nx := 117) (r1 := 0) (r2 := 0) (r3 := 0) rfl rfl ?_
          have b22 := gi_b (lo := -2147483648) (hi := 2147483647) g17 37 16 rfl
          refine wr_gi0 (k0 := 37) (x := h17 37 16) (nx := 120) (r1 := 4) (r2 := 16) (r3 := 0) rfl rfl (by decide) rfl ⟨rfl, rfl⟩ rfl (u20 37 16 rfl) ?_
          refine wi_iconst (n := 1) (nx := 121) (r1 := 0) (r2 := 0) (r3 := 0) rfl ?_
          refine wr_addW (nx := 122) (r1 := 0) (r2 := 0) (r3 := 0) rfl (fun e23 (fe23 : -2147483648 ≤ e23 ∧ e23 ≤ 2147483647) => ?_)
          refine wr_pf0 (k0 := 37) (x := e23) (bl := -2147483648) (bh := 2147483647) (nx := 125) (r1 := 4) (r2 := 16) (r3 := 0) rfl (by decide) rfl ⟨rfl, rfl⟩ rfl rfl g20 rfl (by omega) (fun h24 g24 w24 u24 => ?_)
          have F25 := F21.then rfl u24
          refine wi_iload_n (i := 2) (e := z8) (nx := 126) (r1 := 0) (r2 := 0) (r3 := 0) rfl rfl ?_
          refine wi_ireturn (nx := 127) (r1 := 0) (r2 := 0) (r3 := 0) rfl rfl ?_
          exact k h24 z8 g24 F25 (by omega)
        ·
          refine wi_iconst (n := 1) (nx := 52) (r1 := 0) (r2 := 0) (r3 := 0) rfl ?_
          refine wi_goto (nx := 55) (r1 := 56) (r2 := 0) (r3 := 0) rfl ?_
          refine wi_istore_n (i := 3) (e := 1) (lo2 := [(3, vi 1), (2, vi z8), (0, .ref 37), (1, vi a0)]) (nx := 57) (r1 := 0) (r2 := 0) (r3 := 0) rfl rfl ?_
          refine wi_aload_n (i := 0) (x := 37) (nx := 58) (r1 := 0) (r2 := 0) (r3 := 0) rfl rfl ?_
          refine wi_iload_n (i := 2) (e := z8) (nx := 59) (r1 := 0) (r2 := 0) (r3 := 0) rfl rfl ?_
          refine wi_iload_n (i := 3) (e := 1) (nx := 60) (r1 := 0) (r2 := 0) (r3 := 0) rfl rfl ?_
          refine wr_V (k0 := 37) (rest := []) (as := [.ref 37, vi z8, vi 1]) (nx := 63) (r1 := 143) (r2 := 2) (r3 := 4) rfl rfl rfl (of_decide_eq_true rfl) rfl rfl (by decide) rfl rfl (of_decide_eq_true rfl) (of_decide_eq_true rfl) ?_
          refine ct_143_37 hcr  g12 z8 1 (by omega) (by omega)  (fun h17 g17 u17 => ?_)
          have F18 := F13.then (by decide +kernel) u17
          refine wk_n ?_
          refine wi_iload_n (i := 3) (e := 1) (nx := 64) (r1 := 0) (r2 := 0) (r3 := 0) rfl rfl ?_
          refine wi_if (cd := .eq) (nx := 67) (r1 := 107) (r2 := 0) (r3 := 0) rfl (by omega) (fun (q19 : 1 = 0) => by exfalso; omega) (fun (q19 : ¬ (1 = 0)) => ?_)
          refine wi_aload_n (i := 0) (x := 37) (nx := 68) (r1 := 0) (r2 := 0) (r3 := 0) rfl rfl ?_
          refine wr_gr (k0 := 37) (x := 39) (nx := 71) (r1 := 4) (r2 := 2) (r3 := 0) rfl rfl (by decide) rfl ⟨rfl, rfl⟩ rfl ?_
          refine wi_iload_n (i := 2) (e := z8) (nx := 72) (r1 := 0) (r2 := 0) (r3 := 0) rfl rfl ?_
          refine wi_dup2 (nx := 73) (r1 := 0) (r2 := 0) (r3 := 0) rfl rfl rfl ?_
          have b20 := gi_b (lo := -2147483648) (hi := 2147483647) g17 39 i14 rfl
          refine wr_ia (k0 := 39) (a := z8) (f := i14) (x := h17 39 i14) (nx := 74) (r1 := 0) (r2 := 0) (r3 := 0) rfl (by decide) rfl (by omega) (by omega) (by decide) rfl ?_
          refine wi_iconst (n := 1) (nx := 75) (r1 := 0) (r2 := 0) (r3 := 0) rfl ?_
          refine wr_subW (nx := 76) (r1 := 0) (r2 := 0) (r3 := 0) rfl (fun e21 (fe21 : -2147483648 ≤ e21 ∧ e21 ≤ 2147483647) => ?_)
          refine wr_is (k0 := 39) (a := z8) (f := i14) (x := e21) (bl := -2147483648) (bh := 2147483647) (nx := 77) (r1 := 0) (r2 := 0) (r3 := 0) rfl (by decide) rfl (by omega) (by omega) (by decide) g17 rfl (by omega) (fun h22 g22 w22 u22 => ?_)
          have F23 := F18.then rfl (FR.rngp (lo := 39) (hi := 39) u22 (by decide))
          refine wi_aload_n (i := 0) (x := 37) (nx := 78) (r1 := 0) (r2 := 0) (r3 := 0) rfl rfl ?_
          refine wr_gr (k0 := 37) (x := 41) (nx := 81) (r1 := 4) (r2 := 4) (r3 := 0) rfl rfl (by decide) rfl ⟨rfl, rfl⟩ rfl ?_
          refine wi_iload_n (i := 2) (e := z8) (nx := 82) (r1 := 0) (r2 := 0) (r3 := 0) rfl rfl ?_
          refine wr_V (k0 := 41) (rest := []) (as := [.ref 41, vi z8]) (nx := 85) (r1 := 158) (r2 := 1) (r3 := 5) rfl rfl rfl (of_decide_eq_true rfl) rfl rfl (by decide) rfl rfl (of_decide_eq_true rfl) (of_decide_eq_true rfl) ?_
          refine ct_158_R hcr rw_41 g22 z8 (by omega)  (fun h24 g24 u24 => ?_)
          have F25 := F23.then rfl u24
          refine wk_n ?_
          refine wi_aload_n (i := 0) (x := 37) (nx := 86) (r1 := 0) (r2 := 0) (r3 := 0) rfl rfl ?_
          refine wr_gr (k0 := 37) (x := 43) (nx := 89) (r1 := 4) (r2 := 5) (r3 := 0) rfl rfl (by decide) rfl ⟨rfl, rfl⟩ rfl ?_
          refine wi_aload_n (i := 0) (x := 37) (nx := 90) (r1 := 0) (r2 := 0) (r3 := 0) rfl rfl ?_
          have b26 := gi_b (lo := -2147483648) (hi := 2147483647) g17 37 10 rfl
          refine wr_gi0 (k0 := 37) (x := h17 37 10) (nx := 93) (r1 := 4) (r2 := 10) (r3 := 0) rfl rfl (by decide) rfl ⟨rfl, rfl⟩ rfl ((u24 37 10 rfl).trans (u22 37 10 (fn_a (by omega) fn_0))) ?_
          refine wi_aload_n (i := 0) (x := 37) (nx := 94) (r1 := 0) (r2 := 0) (r3 := 0) rfl rfl ?_
          refine wr_gr (k0 := 37) (x := 3) (nx := 97) (r1 := 4) (r2 := 0) (r3 := 0) rfl rfl (by decide) rfl ⟨rfl, rfl⟩ rfl ?_
          have b27 := gi_b (lo := -2147483648) (hi := 2147483647) g 3 8 rfl
          refine wr_gi0 (k0 := 3) (x := h 3 8) (nx := 100) (r1 := 2) (r2 := 8) (r3 := 0) rfl rfl (by decide) rfl ⟨rfl, rfl⟩ rfl ((u24 3 8 rfl).trans ((u22 3 8 (fn_a (by omega) fn_0)).trans ((u17 3 8 rfl).trans (v12 3 8 rfl)))) ?_
          refine wr_addW (nx := 101) (r1 := 0) (r2 := 0) (r3 := 0) rfl (fun e28 (fe28 : -2147483648 ≤ e28 ∧ e28 ≤ 2147483647) => ?_)
          refine wr_V (k0 := 43) (rest := []) (as := [.ref 43, vi e28]) (nx := 104) (r1 := 158) (r2 := 1) (r3 := 5) rfl rfl rfl (of_decide_eq_true rfl) rfl rfl (by decide) rfl rfl (of_decide_eq_true rfl) (of_decide_eq_true rfl) ?_
          refine ct_158_R hcr rw_43 g24 e28 (by omega)  (fun h29 g29 u29 => ?_)
          have F30 := F25.then rfl u29
          refine wk_n ?_
          refine wi_goto (nx := 107) (r1 := 115) (r2 := 0) (r3 := 0) rfl ?_
          refine wi_aload_n (i := 0) (x := 37) (nx := 116) (r1 := 0) (r2 := 0) (r3 := 0) rfl rfl ?_
          refine wi_dup (nx := 117) (r1 := 0) (r2 := 0) (r3 := 0) rfl rfl ?_
          have b31 := gi_b (lo := -2147483648) (hi := 2147483647) g17 37 16 rfl
          refine wr_gi0 (k0 := 37) (x := h17 37 16) (nx := 120) (r1 := 4) (r2 := 16) (r3 := 0) rfl rfl (by decide) rfl ⟨rfl, rfl⟩ rfl ((u29 37 16 rfl).trans ((u24 37 16 rfl).trans (u22 37 16 (fn_a (by omega) fn_0)))) ?_
          refine wi_iconst (n := 1) (nx := 121) (r1 := 0) (r2 := 0) (r3 := 0) rfl ?_
          refine wr_addW (nx := 122) (r1 := 0) (r2 := 0) (r3 := 0) rfl (fun e32 (fe32 : -2147483648 ≤ e32 ∧ e32 ≤ 2147483647) => ?_)
          refine wr_pf0 (k0 := 37) (x := e32) (bl := -2147483648) (bh := 2147483647) (nx := 125) (r1 := 4) (r2 := 16) (r3 := 0) rfl (by decide) rfl ⟨rfl, rfl⟩ rfl rfl g29 rfl (by omega) (fun h33 g33 w33 u33 => ?_)
          have F34 := F30.then rfl u33
          refine wi_iload_n (i := 2) (e := z8) (nx := 126) (r1 := 0) (r2 := 0) (r3 := 0) rfl rfl ?_
          refine wi_ireturn (nx := 127) (r1 := 0) (r2 := 0) (r3 := 0) rfl rfl ?_
          exact k h33 z8 g33 F34 (by omega)
      ·
        refine wi_iconst (n := (-1)) (nx := 32) (r1 := 0) (r2 := 0) (r3 := 0) rfl ?_
        refine wi_ireturn (nx := 33) (r1 := 0) (r2 := 0) (r3 := 0) rfl rfl ?_
        exact k h (-1) g F0 (by omega)
  ·
    refine wi_iconst (n := (-1)) (nx := 9) (r1 := 0) (r2 := 0) (r3 := 0) rfl ?_
    refine wi_ireturn (nx := 10) (r1 := 0) (r2 := 0) (r3 := 0) rfl rfl ?_
    exact k h (-1) g F0 (by omega)
-- method 133: Line.passTime()I
set_option maxRecDepth 100000 in
set_option maxHeartbeats 100000000 in
theorem ct_133_37 {L : Nat} {xs : Nat → Int32} {d b c : Nat} {h : hp} {cr : Nat → Nat → Option Nat} {Q : hp_Q} (hcr : CR cr)  (g : GI h)    (k : ∀ (h2 : hp) (z0 : Int) , GI h2 → FR [(37, 37, some (10, 10)), (37, 37, some (16, 16))] h h2 → (-2147483647 ≤ z0 ∧ z0 ≤ 9999) → Q (.inl (some (vi z0))) (hp_w h2 cr) b c) : wp (md_xa (L, xs)) d 133 (0, [(0, .ref 37)], [], hp_w h cr, b, c) Q := by
  have F0 : FR [(37, 37, some (10, 10)), (37, 37, some (16, 16))] h h := FR.refl
  refine wi_aload_n (i := 0) (x := 37) (nx := 1) (r1 := 0) (r2 := 0) (r3 := 0) rfl rfl ?_
  have b1 := gi_b (lo := -2147483648) (hi := 2147483647) g 37 10 rfl
  refine wr_gi0 (k0 := 37) (x := h 37 10) (nx := 4) (r1 := 4) (r2 := 10) (r3 := 0) rfl rfl (by decide) rfl ⟨rfl, rfl⟩ rfl rfl ?_
  refine wi_sipush (n := 9999) (nx := 7) (r1 := 0) (r2 := 0) (r3 := 0) rfl (by decide) ?_
  refine wi_icmp (cd := .lt) (nx := 10) (r1 := 12) (r2 := 0) (r3 := 0) rfl (by omega) (by omega) (fun (q2 : (h 37 10) < 9999) => ?_) (fun (q2 : ¬ ((h 37 10) < 9999)) => ?_)
  ·
    refine wi_aload_n (i := 0) (x := 37) (nx := 13) (r1 := 0) (r2 := 0) (r3 := 0) rfl rfl ?_
    refine wi_dup (nx := 14) (r1 := 0) (r2 := 0) (r3 := 0) rfl rfl ?_
    refine wr_gi0 (k0 := 37) (x := h 37 10) (nx := 17) (r1 := 4) (r2 := 10) (r3 := 0) rfl rfl (by decide) rfl ⟨rfl, rfl⟩ rfl rfl ?_
    refine wi_iconst (n := 1) (nx := 18) (r1 := 0) (r2 := 0) (r3 := 0) rfl ?_
    refine wr_add (nx := 19) (r1 := 0) (r2 := 0) (r3 := 0) rfl (fun e3 (fe3 : e3 = (h 37 10) + 1) => ?_)
    refine wr_pf0 (k0 := 37) (x := e3) (bl := -2147483648) (bh := 2147483647) (nx := 22) (r1 := 4) (r2 := 10) (r3 := 0) rfl (by decide) rfl ⟨rfl, rfl⟩ rfl rfl g rfl (by omega) (fun h4 g4 w4 u4 => ?_)
    have F5 := F0.then rfl u4
    refine wi_aload_n (i := 0) (x := 37) (nx := 23) (r1 := 0) (r2 := 0) (r3 := 0) rfl rfl ?_
    refine wi_dup (nx := 24) (r1 := 0) (r2 := 0) (r3 := 0) rfl rfl ?_
    have b6 := gi_b (lo := -2147483648) (hi := 2147483647) g 37 16 rfl
    refine wr_gi0 (k0 := 37) (x := h 37 16) (nx := 27) (r1 := 4) (r2 := 16) (r3 := 0) rfl rfl (by decide) rfl ⟨rfl, rfl⟩ rfl (u4 37 16 rfl) ?_
    refine wi_iconst (n := 1) (nx := 28) (r1 := 0) (r2 := 0) (r3 := 0) rfl ?_
    refine wr_addW (nx := 29) (r1 := 0) (r2 := 0) (r3 := 0) rfl (fun e7 (fe7 : -2147483648 ≤ e7 ∧ e7 ≤ 2147483647) => ?_)
    refine wr_pf0 (k0 := 37) (x := e7) (bl := -2147483648) (bh := 2147483647) (nx := 32) (r1 := 4) (r2 := 16) (r3 := 0) rfl (by decide) rfl ⟨rfl, rfl⟩ rfl rfl g4 rfl (by omega) (fun h8 g8 w8 u8 => ?_)
    have F9 := F5.then rfl u8
    refine wi_aload_n (i := 0) (x := 37) (nx := 33) (r1 := 0) (r2 := 0) (r3 := 0) rfl rfl ?_
    refine wr_gi0 (k0 := 37) (x := e3) (nx := 36) (r1 := 4) (r2 := 10) (r3 := 0) rfl rfl (by decide) rfl ⟨rfl, rfl⟩ rfl ((u8 37 10 rfl).trans w4) ?_
    refine wi_ireturn (nx := 37) (r1 := 0) (r2 := 0) (r3 := 0) rfl rfl ?_
    exact k h8 e3 g8 F9 (by omega)
  ·
    refine wi_iconst (n := (-1)) (nx := 11) (r1 := 0) (r2 := 0) (r3 := 0) rfl ?_
    refine wi_ireturn (nx := 12) (r1 := 0) (r2 := 0) (r3 := 0) rfl rfl ?_
    exact k h (-1) g F0 (by omega)
-- method 136: Line.chosenLane(I)I
set_option maxRecDepth 100000 in
set_option maxHeartbeats 100000000 in
theorem ct_136_37 {L : Nat} {xs : Nat → Int32} {d b c : Nat} {h : hp} {cr : Nat → Nat → Option Nat} {Q : hp_Q} (hcr : CR cr)  (g : GI h) (a0 : Int) (q0_ : -2147483648 ≤ a0 ∧ a0 ≤ 2147483647)  (k : ∀ (z0 : Int), (-1 ≤ z0 ∧ z0 ≤ 3) → Q (.inl (some (vi z0))) (hp_w h cr) b c) : wp (md_xa (L, xs)) (d + 1) 136 (0, [(0, .ref 37), (1, vi a0)], [], hp_w h cr, b, c) Q := by
  have F0 : FR [] h h := FR.refl
  refine wi_iconst (n := (-1)) (nx := 1) (r1 := 0) (r2 := 0) (r3 := 0) rfl ?_
  refine wi_istore_n (i := 2) (e := -1) (lo2 := [(2, vi (-1)), (0, .ref 37), (1, vi a0)]) (nx := 2) (r1 := 0) (r2 := 0) (r3 := 0) rfl rfl ?_
  refine wi_bipush (n := 12) (nx := 4) (r1 := 0) (r2 := 0) (r3 := 0) rfl (by decide) ?_
  refine wi_istore_n (i := 3) (e := 12) (lo2 := [(3, vi 12), (2, vi (-1)), (0, .ref 37), (1, vi a0)]) (nx := 5) (r1 := 0) (r2 := 0) (r3 := 0) rfl rfl ?_
  refine wi_iconst (n := 0) (nx := 6) (r1 := 0) (r2 := 0) (r3 := 0) rfl ?_
  refine wi_istore (i := 4) (e := 0) (lo2 := [(4, vi 0), (3, vi 12), (2, vi (-1)), (0, .ref 37), (1, vi a0)]) (nx := 8) (r1 := 0) (r2 := 0) (r3 := 0) rfl rfl ?_
  refine wp.lo (lo := [(0, .ref 37), (1, vi a0), (2, vi (-1)), (3, vi 12), (4, vi 0)]) ⟨rfl, rfl, rfl, rfl, rfl, trivial⟩ rfl ?_
  refine wl_3 (fun x1 x2 x3 h4 => h = h4 ∧ ((-1 ≤ x1 ∧ x1 ≤ 3) ∧ (0 ≤ x2 ∧ x2 ≤ 12) ∧ (0 ≤ x3 ∧ x3 ≤ 4))) (fun x1 x2 x3 h4 => ((4 : Int) + 1 - x3).toNat) (fun x1 x2 x3 h4 => (8, [(0, .ref 37), (1, vi a0), (2, vi x1), (3, vi x2), (4, vi x3)], [], hp_w h4 cr, b, c)) ?_ (-1) 12 0 h ⟨rfl, (show (-1 ≤ (-1) ∧ (-1) ≤ 3) ∧ (0 ≤ 12 ∧ 12 ≤ 12) ∧ (0 ≤ 0 ∧ 0 ≤ 4) by omega)⟩
  intro x1 x2 x3 h4 ⟨e4, f4⟩ I4
  subst e4
  refine wi_iload (i := 4) (e := x3) (nx := 10) (r1 := 0) (r2 := 0) (r3 := 0) rfl rfl ?_
  refine wi_aload_n (i := 0) (x := 37) (nx := 11) (r1 := 0) (r2 := 0) (r3 := 0) rfl rfl ?_
  refine wr_gr (k0 := 37) (x := 3) (nx := 14) (r1 := 4) (r2 := 0) (r3 := 0) rfl rfl (by decide) rfl ⟨rfl, rfl⟩ rfl ?_
  have b6 := gi_b (lo := 0) (hi := 4) g 3 1 rfl
  refine wr_gi0 (k0 := 3) (x := h 3 1) (nx := 17) (r1 := 2) (r2 := 1) (r3 := 0) rfl rfl (by decide) rfl ⟨rfl, rfl⟩ rfl rfl ?_
  refine wi_icmp (cd := .ge) (nx := 20) (r1 := 89) (r2 := 0) (r3 := 0) rfl (by omega) (by omega) (fun (q7 : (h 3 1) ≤ x3) => ?_) (fun (q7 : ¬ ((h 3 1) ≤ x3)) => ?_)
  ·
    refine wi_iload_n (i := 2) (e := x1) (nx := 90) (r1 := 0) (r2 := 0) (r3 := 0) rfl rfl ?_
    refine wi_ireturn (nx := 91) (r1 := 0) (r2 := 0) (r3 := 0) rfl rfl ?_
    exact k x1 (by omega)
  ·
    refine wi_aload_n (i := 0) (x := 37) (nx := 21) (r1 := 0) (r2 := 0) (r3 := 0) rfl rfl ?_
    refine wi_iload (i := 4) (e := x3) (nx := 23) (r1 := 0) (r2 := 0) (r3 := 0) rfl rfl ?_
    refine wr_V (k0 := 37) (rest := []) (as := [.ref 37, vi x3]) (nx := 26) (r1 := 137) (r2 := 1) (r3 := 4) rfl rfl rfl (of_decide_eq_true rfl) rfl rfl (by decide) rfl rfl (of_decide_eq_true rfl) (of_decide_eq_true rfl) ?_
    refine wi_iload_n (i := 1) (e := x3) (nx := 1) (r1 := 0) (r2 := 0) (r3 := 0) rfl rfl ?_
    refine wi_if (cd := .lt) (nx := 4) (r1 := 40) (r2 := 0) (r3 := 0) rfl (by omega) (fun (q8 : x3 < 0) => by exfalso; omega) (fun (q8 : ¬ (x3 < 0)) => ?_)
    refine wi_iload_n (i := 1) (e := x3) (nx := 5) (r1 := 0) (r2 := 0) (r3 := 0) rfl rfl ?_
    refine wi_aload_n (i := 0) (x := 37) (nx := 6) (r1 := 0) (r2 := 0) (r3 := 0) rfl rfl ?_
    refine wr_gr (k0 := 37) (x := 3) (nx := 9) (r1 := 4) (r2 := 0) (r3 := 0) rfl rfl (by decide) rfl ⟨rfl, rfl⟩ rfl ?_
    refine wr_gi0 (k0 := 3) (x := h 3 1) (nx := 12) (r1 := 2) (r2 := 1) (r3 := 0) rfl rfl (by decide) rfl ⟨rfl, rfl⟩ rfl rfl ?_
    refine wi_icmp (cd := .ge) (nx := 15) (r1 := 40) (r2 := 0) (r3 := 0) rfl (by omega) (by omega) (fun (q9 : (h 3 1) ≤ x3) => by exfalso; omega) (fun (q9 : ¬ ((h 3 1) ≤ x3)) => ?_)
    refine wi_aload_n (i := 0) (x := 37) (nx := 16) (r1 := 0) (r2 := 0) (r3 := 0) rfl rfl ?_
    refine wr_gr (k0 := 37) (x := 40) (nx := 19) (r1 := 4) (r2 := 3) (r3 := 0) rfl rfl (by decide) rfl ⟨rfl, rfl⟩ rfl ?_
    refine wi_iload_n (i := 1) (e := x3) (nx := 20) (r1 := 0) (r2 := 0) (r3 := 0) rfl rfl ?_
    obtain ⟨i10, ei10⟩ : ∃ q : Nat, x3 = (q : Int) := ⟨(x3).toNat, by omega⟩
    refine wr_aa (k0 := 40) (a := x3) (f := i10) (x := 40 + 8 + 2 * i10) (nx := 21) (r1 := 0) (r2 := 0) (r3 := 0) rfl (by decide) rfl (Or.inl rfl) (by omega) (by omega) (by decide) (hcr.1 40 (by decide) i10 (by omega)) ?_
    obtain ⟨k11, kk11, mk11⟩ : ∃ q, Rw q ∧ q = 40 + 8 + 2 * i10 := ⟨_, rw_lane 40 (by decide) i10 (by omega), rfl⟩
    rw [← mk11]
    have b12 := gi_b (lo := 0) (hi := 12) g k11 1 kk11.2.2.2.1
    refine wr_gi0 (k0 := k11) (x := h k11 1) (nx := 24) (r1 := 5) (r2 := 1) (r3 := 0) rfl rfl kk11.k kk11.1 ⟨rfl, rfl⟩ rfl rfl ?_
    refine wi_aload_n (i := 0) (x := 37) (nx := 25) (r1 := 0) (r2 := 0) (r3 := 0) rfl rfl ?_
    refine wr_gr (k0 := 37) (x := 3) (nx := 28) (r1 := 4) (r2 := 0) (r3 := 0) rfl rfl (by decide) rfl ⟨rfl, rfl⟩ rfl ?_
    refine wr_gr (k0 := 3) (x := 6) (nx := 31) (r1 := 2) (r2 := 12) (r3 := 0) rfl rfl (by decide) rfl ⟨rfl, rfl⟩ rfl ?_
    refine wi_iload_n (i := 1) (e := x3) (nx := 32) (r1 := 0) (r2 := 0) (r3 := 0) rfl rfl ?_
    have b13 := gi_b (lo := -2147483648) (hi := 2147483647) g 6 i10 rfl
    refine wr_ia (k0 := 6) (a := x3) (f := i10) (x := h 6 i10) (nx := 33) (r1 := 0) (r2 := 0) (r3 := 0) rfl (by decide) rfl (by omega) (by omega) (by decide) rfl ?_
    refine wi_icmp (cd := .ge) (nx := 36) (r1 := 40) (r2 := 0) (r3 := 0) rfl (by omega) (by omega) (fun (q14 : (h 6 i10) ≤ (h k11 1)) => ?_) (fun (q14 : ¬ ((h 6 i10) ≤ (h k11 1))) => ?_)
    ·
      refine wi_iconst (n := 0) (nx := 41) (r1 := 0) (r2 := 0) (r3 := 0) rfl ?_
      refine wi_zreturn (nx := 42) (r1 := 0) (r2 := 0) (r3 := 0) rfl rfl (by omega) ?_
      refine wk_i ?_
      refine wi_if (cd := .eq) (nx := 29) (r1 := 83) (r2 := 0) (r3 := 0) rfl (by omega) (fun (q15 : 0 = 0) => ?_) (fun (q15 : ¬ (0 = 0)) => by exfalso; omega)
      refine wr_iinc (i := 4) (n := 1) (v := x3) (fun e16 => [(4, vi e16), (0, .ref 37), (1, vi a0), (2, vi x1), (3, vi x2)]) (nx := 86) (r1 := 0) (r2 := 0) (r3 := 0) rfl rfl (fun _ => rfl) (fun e16 (fe16 : e16 = x3 + 1) => ?_)
      refine wi_goto (nx := 89) (r1 := 8) (r2 := 0) (r3 := 0) rfl ?_
      refine wp.lo (lo := [(0, .ref 37), (1, vi a0), (2, vi x1), (3, vi x2), (4, vi e16)]) ⟨rfl, rfl, rfl, rfl, rfl, trivial⟩ rfl ?_
      exact I4 x1 x2 e16 h ⟨rfl, (show (-1 ≤ x1 ∧ x1 ≤ 3) ∧ (0 ≤ x2 ∧ x2 ≤ 12) ∧ (0 ≤ e16 ∧ e16 ≤ 4) by omega)⟩ (show ((4 : Int) + 1 - e16).toNat < ((4 : Int) + 1 - x3).toNat by omega)
    ·
      refine wi_iconst (n := 1) (nx := 37) (r1 := 0) (r2 := 0) (r3 := 0) rfl ?_
      refine wi_goto (nx := 40) (r1 := 41) (r2 := 0) (r3 := 0) rfl ?_
      refine wi_zreturn (nx := 42) (r1 := 0) (r2 := 0) (r3 := 0) rfl rfl (by omega) ?_
      refine wk_i ?_
      refine wi_if (cd := .eq) (nx := 29) (r1 := 83) (r2 := 0) (r3 := 0) rfl (by omega) (fun (q15 : 1 = 0) => by exfalso; omega) (fun (q15 : ¬ (1 = 0)) => ?_)
      refine wi_aload_n (i := 0) (x := 37) (nx := 30) (r1 := 0) (r2 := 0) (r3 := 0) rfl rfl ?_
      refine wr_gr (k0 := 37) (x := 40) (nx := 33) (r1 := 4) (r2 := 3) (r3 := 0) rfl rfl (by decide) rfl ⟨rfl, rfl⟩ rfl ?_
      refine wi_iload (i := 4) (e := x3) (nx := 35) (r1 := 0) (r2 := 0) (r3 := 0) rfl rfl ?_
      refine wr_aa (k0 := 40) (a := x3) (f := i10) (x := 40 + 8 + 2 * i10) (nx := 36) (r1 := 0) (r2 := 0) (r3 := 0) rfl (by decide) rfl (Or.inl rfl) (by omega) (by omega) (by decide) (hcr.1 40 (by decide) i10 (by omega)) ?_
      obtain ⟨k16, kk16, mk16⟩ : ∃ q, Rw q ∧ q = 40 + 8 + 2 * i10 := ⟨_, rw_lane 40 (by decide) i10 (by omega), rfl⟩
      rw [← mk16]
      have b17 := gi_b (lo := 0) (hi := 12) g k16 1 kk16.2.2.2.1
      refine wr_gi0 (k0 := k16) (x := h k16 1) (nx := 39) (r1 := 5) (r2 := 1) (r3 := 0) rfl rfl kk16.k kk16.1 ⟨rfl, rfl⟩ rfl rfl ?_
      refine wi_istore (i := 5) (e := h k16 1) (lo2 := [(5, vi (h k16 1)), (0, .ref 37), (1, vi a0), (2, vi x1), (3, vi x2), (4, vi x3)]) (nx := 41) (r1 := 0) (r2 := 0) (r3 := 0) rfl rfl ?_
      refine wi_iload (i := 5) (e := h k16 1) (nx := 43) (r1 := 0) (r2 := 0) (r3 := 0) rfl rfl ?_
      refine wi_if (cd := .le) (nx := 46) (r1 := 71) (r2 := 0) (r3 := 0) rfl (by omega) (fun (q18 : (h k16 1) ≤ 0) => ?_) (fun (q18 : ¬ ((h k16 1) ≤ 0)) => ?_)
      ·
        refine wi_iload (i := 5) (e := h k16 1) (nx := 73) (r1 := 0) (r2 := 0) (r3 := 0) rfl rfl ?_
        refine wi_iload_n (i := 3) (e := x2) (nx := 74) (r1 := 0) (r2 := 0) (r3 := 0) rfl rfl ?_
        refine wi_icmp (cd := .ge) (nx := 77) (r1 := 83) (r2 := 0) (r3 := 0) rfl (by omega) (by omega) (fun (q19 : x2 ≤ (h k16 1)) => ?_) (fun (q19 : ¬ (x2 ≤ (h k16 1))) => ?_)
        ·
          refine wr_iinc (i := 4) (n := 1) (v := x3) (fun e20 => [(4, vi e20), (5, vi (h k16 1)), (0, .ref 37), (1, vi a0), (2, vi x1), (3, vi x2)]) (nx := 86) (r1 := 0) (r2 := 0) (r3 := 0) rfl rfl (fun _ => rfl) (fun e20 (fe20 : e20 = x3 + 1) => ?_)
          refine wi_goto (nx := 89) (r1 := 8) (r2 := 0) (r3 := 0) rfl ?_
          refine wp.lo (lo := [(0, .ref 37), (1, vi a0), (2, vi x1), (3, vi x2), (4, vi e20)]) ⟨rfl, rfl, rfl, rfl, rfl, trivial⟩ rfl ?_
          exact I4 x1 x2 e20 h ⟨rfl, (show (-1 ≤ x1 ∧ x1 ≤ 3) ∧ (0 ≤ x2 ∧ x2 ≤ 12) ∧ (0 ≤ e20 ∧ e20 ≤ 4) by omega)⟩ (show ((4 : Int) + 1 - e20).toNat < ((4 : Int) + 1 - x3).toNat by omega)
        ·
          refine wi_iload (i := 5) (e := h k16 1) (nx := 79) (r1 := 0) (r2 := 0) (r3 := 0) rfl rfl ?_
          refine wi_istore_n (i := 3) (e := h k16 1) (lo2 := [(3, vi (h k16 1)), (5, vi (h k16 1)), (0, .ref 37), (1, vi a0), (2, vi x1), (4, vi x3)]) (nx := 80) (r1 := 0) (r2 := 0) (r3 := 0) rfl rfl ?_
          refine wi_iload (i := 4) (e := x3) (nx := 82) (r1 := 0) (r2 := 0) (r3 := 0) rfl rfl ?_
          refine wi_istore_n (i := 2) (e := x3) (lo2 := [(2, vi x3), (3, vi (h k16 1)), (5, vi (h k16 1)), (0, .ref 37), (1, vi a0), (4, vi x3)]) (nx := 83) (r1 := 0) (r2 := 0) (r3 := 0) rfl rfl ?_
          refine wr_iinc (i := 4) (n := 1) (v := x3) (fun e20 => [(4, vi e20), (2, vi x3), (3, vi (h k16 1)), (5, vi (h k16 1)), (0, .ref 37), (1, vi a0)]) (nx := 86) (r1 := 0) (r2 := 0) (r3 := 0) rfl rfl (fun _ => rfl) (fun e20 (fe20 : e20 = x3 + 1) => ?_)
          refine wi_goto (nx := 89) (r1 := 8) (r2 := 0) (r3 := 0) rfl ?_
          refine wp.lo (lo := [(0, .ref 37), (1, vi a0), (2, vi x3), (3, vi (h k16 1)), (4, vi e20)]) ⟨rfl, rfl, rfl, rfl, rfl, trivial⟩ rfl ?_
          exact I4 x3 (h k16 1) e20 h ⟨rfl, (show (-1 ≤ x3 ∧ x3 ≤ 3) ∧ (0 ≤ (h k16 1) ∧ (h k16 1) ≤ 12) ∧ (0 ≤ e20 ∧ e20 ≤ 4) by omega)⟩ (show ((4 : Int) + 1 - e20).toNat < ((4 : Int) + 1 - x3).toNat by omega)
      ·
        refine wi_aload_n (i := 0) (x := 37) (nx := 47) (r1 := 0) (r2 := 0) (r3 := 0) rfl rfl ?_
        refine wi_aload_n (i := 0) (x := 37) (nx := 48) (r1 := 0) (r2 := 0) (r3 := 0) rfl rfl ?_
        refine wr_gr (k0 := 37) (x := 40) (nx := 51) (r1 := 4) (r2 := 3) (r3 := 0) rfl rfl (by decide) rfl ⟨rfl, rfl⟩ rfl ?_
        refine wi_iload (i := 4) (e := x3) (nx := 53) (r1 := 0) (r2 := 0) (r3 := 0) rfl rfl ?_
        refine wr_aa (k0 := 40) (a := x3) (f := i10) (x := 40 + 8 + 2 * i10) (nx := 54) (r1 := 0) (r2 := 0) (r3 := 0) rfl (by decide) rfl (Or.inl rfl) (by omega) (by omega) (by decide) (hcr.1 40 (by decide) i10 (by omega)) ?_
        obtain ⟨k19, kk19, mk19⟩ : ∃ q, Rw q ∧ q = 40 + 8 + 2 * i10 := ⟨_, rw_lane 40 (by decide) i10 (by omega), rfl⟩
        rw [← mk19]
        refine wr_V (k0 := k19) (rest := [.ref 37]) (as := [.ref k19]) (nx := 57) (r1 := 156) (r2 := 0) (r3 := 5) rfl rfl rfl (of_decide_eq_true rfl) rfl rfl kk19.k kk19.1 rfl (of_decide_eq_true rfl) (of_decide_eq_true rfl) ?_
        refine ct_156_R hcr kk19 g    (fun z21  (fz21 : -2147483648 ≤ z21 ∧ z21 ≤ 2147483647) => ?_)
        refine wk_i ?_
        refine wr_V (k0 := 37) (rest := []) (as := [.ref 37, vi z21]) (nx := 60) (r1 := 131) (r2 := 1) (r3 := 4) rfl rfl rfl (of_decide_eq_true rfl) rfl rfl (by decide) rfl rfl (of_decide_eq_true rfl) (of_decide_eq_true rfl) ?_
        refine ct_131_37 hcr  g z21 (by omega)  (fun z23  (fz23 : -2147483648 ≤ z23 ∧ z23 ≤ 2147483647) => ?_)
        refine wk_i ?_
        refine wi_aload_n (i := 0) (x := 37) (nx := 61) (r1 := 0) (r2 := 0) (r3 := 0) rfl rfl ?_
        refine wi_iload_n (i := 1) (e := a0) (nx := 62) (r1 := 0) (r2 := 0) (r3 := 0) rfl rfl ?_
        refine wr_V (k0 := 37) (rest := [vi z23]) (as := [.ref 37, vi a0]) (nx := 65) (r1 := 131) (r2 := 1) (r3 := 4) rfl rfl rfl (of_decide_eq_true rfl) rfl rfl (by decide) rfl rfl (of_decide_eq_true rfl) (of_decide_eq_true rfl) ?_
        refine ct_131_37 hcr  g a0 (by omega)  (fun z25  (fz25 : -2147483648 ≤ z25 ∧ z25 ≤ 2147483647) => ?_)
        refine wk_i ?_
        refine wi_icmp (cd := .ne) (nx := 68) (r1 := 71) (r2 := 0) (r3 := 0) rfl (by omega) (by omega) (fun (q26 : z23 ≠ z25) => ?_) (fun (q26 : ¬ (z23 ≠ z25)) => ?_)
        ·
          refine wi_iload (i := 5) (e := h k16 1) (nx := 73) (r1 := 0) (r2 := 0) (r3 := 0) rfl rfl ?_
          refine wi_iload_n (i := 3) (e := x2) (nx := 74) (r1 := 0) (r2 := 0) (r3 := 0) rfl rfl ?_
          refine wi_icmp (cd := .ge) (nx := 77) (r1 := 83) (r2 := 0) (r3 := 0) rfl (by omega) (by omega) (fun (q27 : x2 ≤ (h k16 1)) => ?_) (fun (q27 : ¬ (x2 ≤ (h k16 1))) => ?_)
          ·
            refine wr_iinc (i := 4) (n := 1) (v := x3) (fun e28 => [(4, vi e28), (5, vi (h k16 1)), (0, .ref 37), (1, vi a0), (2, vi x1), (3, vi x2)]) (nx := 86) (r1 := 0) (r2 := 0) (r3 := 0) rfl rfl (fun _ => rfl) (fun e28 (fe28 : e28 = x3 + 1) => ?_)
            refine wi_goto (nx := 89) (r1 := 8) (r2 := 0) (r3 := 0) rfl ?_
            refine wp.lo (lo := [(0, .ref 37), (1, vi a0), (2, vi x1), (3, vi x2), (4, vi e28)]) ⟨rfl, rfl, rfl, rfl, rfl, trivial⟩ rfl ?_
            exact I4 x1 x2 e28 h ⟨rfl, (show (-1 ≤ x1 ∧ x1 ≤ 3) ∧ (0 ≤ x2 ∧ x2 ≤ 12) ∧ (0 ≤ e28 ∧ e28 ≤ 4) by omega)⟩ (show ((4 : Int) + 1 - e28).toNat < ((4 : Int) + 1 - x3).toNat by omega)
          ·
            refine wi_iload (i := 5) (e := h k16 1) (nx := 79) (r1 := 0) (r2 := 0) (r3 := 0) rfl rfl ?_
            refine wi_istore_n (i := 3) (e := h k16 1) (lo2 := [(3, vi (h k16 1)), (5, vi (h k16 1)), (0, .ref 37), (1, vi a0), (2, vi x1), (4, vi x3)]) (nx := 80) (r1 := 0) (r2 := 0) (r3 := 0) rfl rfl ?_
            refine wi_iload (i := 4) (e := x3) (nx := 82) (r1 := 0) (r2 := 0) (r3 := 0) rfl rfl ?_
            refine wi_istore_n (i := 2) (e := x3) (lo2 := [(2, vi x3), (3, vi (h k16 1)), (5, vi (h k16 1)), (0, .ref 37), (1, vi a0), (4, vi x3)]) (nx := 83) (r1 := 0) (r2 := 0) (r3 := 0) rfl rfl ?_
            refine wr_iinc (i := 4) (n := 1) (v := x3) (fun e28 => [(4, vi e28), (2, vi x3), (3, vi (h k16 1)), (5, vi (h k16 1)), (0, .ref 37), (1, vi a0)]) (nx := 86) (r1 := 0) (r2 := 0) (r3 := 0) rfl rfl (fun _ => rfl) (fun e28 (fe28 : e28 = x3 + 1) => ?_)
            refine wi_goto (nx := 89) (r1 := 8) (r2 := 0) (r3 := 0) rfl ?_
            refine wp.lo (lo := [(0, .ref 37), (1, vi a0), (2, vi x3), (3, vi (h k16 1)), (4, vi e28)]) ⟨rfl, rfl, rfl, rfl, rfl, trivial⟩ rfl ?_
            exact I4 x3 (h k16 1) e28 h ⟨rfl, (show (-1 ≤ x3 ∧ x3 ≤ 3) ∧ (0 ≤ (h k16 1) ∧ (h k16 1) ≤ 12) ∧ (0 ≤ e28 ∧ e28 ≤ 4) by omega)⟩ (show ((4 : Int) + 1 - e28).toNat < ((4 : Int) + 1 - x3).toNat by omega)
        ·
          refine wi_iload (i := 4) (e := x3) (nx := 70) (r1 := 0) (r2 := 0) (r3 := 0) rfl rfl ?_
          refine wi_ireturn (nx := 71) (r1 := 0) (r2 := 0) (r3 := 0) rfl rfl ?_
          exact k x3 (by omega)
-- method 139: Line.ad-mit(I)I
set_option maxRecDepth 100000 in
set_option maxHeartbeats 100000000 in
theorem ct_139_37 {L : Nat} {xs : Nat → Int32} {d b c : Nat} {h : hp} {cr : Nat → Nat → Option Nat} {Q : hp_Q} (hcr : CR cr)  (g : GI h) (a0 : Int) (q0_ : -2147483648 ≤ a0 ∧ a0 ≤ 2147483647)  (k : ∀ (h2 : hp) (z0 : Int) , GI h2 → FR [(48, 55, none), (37, 37, some (7, 7)), (37, 37, some (16, 16))] h h2 → (-1 ≤ z0 ∧ z0 ≤ 11) → Q (.inl (some (vi z0))) (hp_w h2 cr) b c) : wp (md_xa (L, xs)) (d + 1) 139 (0, [(0, .ref 37), (1, vi a0)], [], hp_w h cr, b, c) Q := by
  have F0 : FR [(48, 55, none), (37, 37, some (7, 7)), (37, 37, some (16, 16))] h h := FR.refl
  refine wi_aload_n (i := 0) (x := 37) (nx := 1) (r1 := 0) (r2 := 0) (r3 := 0) rfl rfl ?_
  have b1 := gi_b (lo := 0) (hi := 12) g 37 7 rfl
  refine wr_gi0 (k0 := 37) (x := h 37 7) (nx := 4) (r1 := 4) (r2 := 7) (r3 := 0) rfl rfl (by decide) rfl ⟨rfl, rfl⟩ rfl rfl ?_
  refine wi_aload_n (i := 0) (x := 37) (nx := 5) (r1 := 0) (r2 := 0) (r3 := 0) rfl rfl ?_
  refine wr_gr (k0 := 37) (x := 3) (nx := 8) (r1 := 4) (r2 := 0) (r3 := 0) rfl rfl (by decide) rfl ⟨rfl, rfl⟩ rfl ?_
  have b2 := gi_b (lo := 0) (hi := 12) g 3 2 rfl
  refine wr_gi0 (k0 := 3) (x := h 3 2) (nx := 11) (r1 := 2) (r2 := 2) (r3 := 0) rfl rfl (by decide) rfl ⟨rfl, rfl⟩ rfl rfl ?_
  refine wi_icmp (cd := .ge) (nx := 14) (r1 := 22) (r2 := 0) (r3 := 0) rfl (by omega) (by omega) (fun (q3 : (h 3 2) ≤ (h 37 7)) => ?_) (fun (q3 : ¬ ((h 3 2) ≤ (h 37 7))) => ?_)
  ·
    refine wi_iconst (n := (-1)) (nx := 23) (r1 := 0) (r2 := 0) (r3 := 0) rfl ?_
    refine wi_ireturn (nx := 24) (r1 := 0) (r2 := 0) (r3 := 0) rfl rfl ?_
    exact k h (-1) g F0 (by omega)
  ·
    refine wi_aload_n (i := 0) (x := 37) (nx := 15) (r1 := 0) (r2 := 0) (r3 := 0) rfl rfl ?_
    refine wi_iload_n (i := 1) (e := a0) (nx := 16) (r1 := 0) (r2 := 0) (r3 := 0) rfl rfl ?_
    refine wr_V (k0 := 37) (rest := []) (as := [.ref 37, vi a0]) (nx := 19) (r1 := 137) (r2 := 1) (r3 := 4) rfl rfl rfl (of_decide_eq_true rfl) rfl rfl (by decide) rfl rfl (of_decide_eq_true rfl) (of_decide_eq_true rfl) ?_
    refine wi_iload_n (i := 1) (e := a0) (nx := 1) (r1 := 0) (r2 := 0) (r3 := 0) rfl rfl ?_
    refine wi_if (cd := .lt) (nx := 4) (r1 := 40) (r2 := 0) (r3 := 0) rfl (by omega) (fun (q4 : a0 < 0) => ?_) (fun (q4 : ¬ (a0 < 0)) => ?_)
    ·
      refine wi_iconst (n := 0) (nx := 41) (r1 := 0) (r2 := 0) (r3 := 0) rfl ?_
      refine wi_zreturn (nx := 42) (r1 := 0) (r2 := 0) (r3 := 0) rfl rfl (by omega) ?_
      refine wk_i ?_
      refine wi_if (cd := .ne) (nx := 22) (r1 := 24) (r2 := 0) (r3 := 0) rfl (by omega) (fun (q5 : 0 ≠ 0) => by exfalso; omega) (fun (q5 : ¬ (0 ≠ 0)) => ?_)
      refine wi_iconst (n := (-1)) (nx := 23) (r1 := 0) (r2 := 0) (r3 := 0) rfl ?_
      refine wi_ireturn (nx := 24) (r1 := 0) (r2 := 0) (r3 := 0) rfl rfl ?_
      exact k h (-1) g F0 (by omega)
    ·
      refine wi_iload_n (i := 1) (e := a0) (nx := 5) (r1 := 0) (r2 := 0) (r3 := 0) rfl rfl ?_
      refine wi_aload_n (i := 0) (x := 37) (nx := 6) (r1 := 0) (r2 := 0) (r3 := 0) rfl rfl ?_
      refine wr_gr (k0 := 37) (x := 3) (nx := 9) (r1 := 4) (r2 := 0) (r3 := 0) rfl rfl (by decide) rfl ⟨rfl, rfl⟩ rfl ?_
      have b5 := gi_b (lo := 0) (hi := 4) g 3 1 rfl
      refine wr_gi0 (k0 := 3) (x := h 3 1) (nx := 12) (r1 := 2) (r2 := 1) (r3 := 0) rfl rfl (by decide) rfl ⟨rfl, rfl⟩ rfl rfl ?_
      refine wi_icmp (cd := .ge) (nx := 15) (r1 := 40) (r2 := 0) (r3 := 0) rfl (by omega) (by omega) (fun (q6 : (h 3 1) ≤ a0) => ?_) (fun (q6 : ¬ ((h 3 1) ≤ a0)) => ?_)
      ·
        refine wi_iconst (n := 0) (nx := 41) (r1 := 0) (r2 := 0) (r3 := 0) rfl ?_
        refine wi_zreturn (nx := 42) (r1 := 0) (r2 := 0) (r3 := 0) rfl rfl (by omega) ?_
        refine wk_i ?_
        refine wi_if (cd := .ne) (nx := 22) (r1 := 24) (r2 := 0) (r3 := 0) rfl (by omega) (fun (q7 : 0 ≠ 0) => by exfalso; omega) (fun (q7 : ¬ (0 ≠ 0)) => ?_)
        refine wi_iconst (n := (-1)) (nx := 23) (r1 := 0) (r2 := 0) (r3 := 0) rfl ?_
        refine wi_ireturn (nx := 24) (r1 := 0) (r2 := 0) (r3 := 0) rfl rfl ?_
        exact k h (-1) g F0 (by omega)
      ·
        refine wi_aload_n (i := 0) (x := 37) (nx := 16) (r1 := 0) (r2 := 0) (r3 := 0) rfl rfl ?_
        refine wr_gr (k0 := 37) (x := 40) (nx := 19) (r1 := 4) (r2 := 3) (r3 := 0) rfl rfl (by decide) rfl ⟨rfl, rfl⟩ rfl ?_
        refine wi_iload_n (i := 1) (e := a0) (nx := 20) (r1 := 0) (r2 := 0) (r3 := 0) rfl rfl ?_
        obtain ⟨i7, ei7⟩ : ∃ q : Nat, a0 = (q : Int) := ⟨(a0).toNat, by omega⟩
        refine wr_aa (k0 := 40) (a := a0) (f := i7) (x := 40 + 8 + 2 * i7) (nx := 21) (r1 := 0) (r2 := 0) (r3 := 0) rfl (by decide) rfl (Or.inl rfl) (by omega) (by omega) (by decide) (hcr.1 40 (by decide) i7 (by omega)) ?_
        obtain ⟨k8, kk8, mk8⟩ : ∃ q, Rw q ∧ q = 40 + 8 + 2 * i7 := ⟨_, rw_lane 40 (by decide) i7 (by omega), rfl⟩
        rw [← mk8]
        have b9 := gi_b (lo := 0) (hi := 12) g k8 1 kk8.2.2.2.1
        refine wr_gi0 (k0 := k8) (x := h k8 1) (nx := 24) (r1 := 5) (r2 := 1) (r3 := 0) rfl rfl kk8.k kk8.1 ⟨rfl, rfl⟩ rfl rfl ?_
        refine wi_aload_n (i := 0) (x := 37) (nx := 25) (r1 := 0) (r2 := 0) (r3 := 0) rfl rfl ?_
        refine wr_gr (k0 := 37) (x := 3) (nx := 28) (r1 := 4) (r2 := 0) (r3 := 0) rfl rfl (by decide) rfl ⟨rfl, rfl⟩ rfl ?_
        refine wr_gr (k0 := 3) (x := 6) (nx := 31) (r1 := 2) (r2 := 12) (r3 := 0) rfl rfl (by decide) rfl ⟨rfl, rfl⟩ rfl ?_
        refine wi_iload_n (i := 1) (e := a0) (nx := 32) (r1 := 0) (r2 := 0) (r3 := 0) rfl rfl ?_
        have b10 := gi_b (lo := -2147483648) (hi := 2147483647) g 6 i7 rfl
        refine wr_ia (k0 := 6) (a := a0) (f := i7) (x := h 6 i7) (nx := 33) (r1 := 0) (r2 := 0) (r3 := 0) rfl (by decide) rfl (by omega) (by omega) (by decide) rfl ?_
        refine wi_icmp (cd := .ge) (nx := 36) (r1 := 40) (r2 := 0) (r3 := 0) rfl (by omega) (by omega) (fun (q11 : (h 6 i7) ≤ (h k8 1)) => ?_) (fun (q11 : ¬ ((h 6 i7) ≤ (h k8 1))) => ?_)
        ·
          refine wi_iconst (n := 0) (nx := 41) (r1 := 0) (r2 := 0) (r3 := 0) rfl ?_
          refine wi_zreturn (nx := 42) (r1 := 0) (r2 := 0) (r3 := 0) rfl rfl (by omega) ?_
          refine wk_i ?_
          refine wi_if (cd := .ne) (nx := 22) (r1 := 24) (r2 := 0) (r3 := 0) rfl (by omega) (fun (q12 : 0 ≠ 0) => by exfalso; omega) (fun (q12 : ¬ (0 ≠ 0)) => ?_)
          refine wi_iconst (n := (-1)) (nx := 23) (r1 := 0) (r2 := 0) (r3 := 0) rfl ?_
          refine wi_ireturn (nx := 24) (r1 := 0) (r2 := 0) (r3 := 0) rfl rfl ?_
          exact k h (-1) g F0 (by omega)
        ·
          refine wi_iconst (n := 1) (nx := 37) (r1 := 0) (r2 := 0) (r3 := 0) rfl ?_
          refine wi_goto (nx := 40) (r1 := 41) (r2 := 0) (r3 := 0) rfl ?_
          refine wi_zreturn (nx := 42) (r1 := 0) (r2 := 0) (r3 := 0) rfl rfl (by omega) ?_
          refine wk_i ?_
          refine wi_if (cd := .ne) (nx := 22) (r1 := 24) (r2 := 0) (r3 := 0) rfl (by omega) (fun (q12 : 1 ≠ 0) => ?_) (fun (q12 : ¬ (1 ≠ 0)) => by exfalso; omega)
          refine wi_aload_n (i := 0) (x := 37) (nx := 25) (r1 := 0) (r2 := 0) (r3 := 0) rfl rfl ?_
          refine wr_gi0 (k0 := 37) (x := h 37 7) (nx := 28) (r1 := 4) (r2 := 7) (r3 := 0) rfl rfl (by decide) rfl ⟨rfl, rfl⟩ rfl rfl ?_
          refine wi_istore_n (i := 2) (e := h 37 7) (lo2 := [(2, vi (h 37 7)), (0, .ref 37), (1, vi a0)]) (nx := 29) (r1 := 0) (r2 := 0) (r3 := 0) rfl rfl ?_
          refine wi_aload_n (i := 0) (x := 37) (nx := 30) (r1 := 0) (r2 := 0) (r3 := 0) rfl rfl ?_
          refine wr_gr (k0 := 37) (x := 40) (nx := 33) (r1 := 4) (r2 := 3) (r3 := 0) rfl rfl (by decide) rfl ⟨rfl, rfl⟩ rfl ?_
          refine wi_iload_n (i := 1) (e := a0) (nx := 34) (r1 := 0) (r2 := 0) (r3 := 0) rfl rfl ?_
          refine wr_aa (k0 := 40) (a := a0) (f := i7) (x := 40 + 8 + 2 * i7) (nx := 35) (r1 := 0) (r2 := 0) (r3 := 0) rfl (by decide) rfl (Or.inl rfl) (by omega) (by omega) (by decide) (hcr.1 40 (by decide) i7 (by omega)) ?_
          obtain ⟨k13, kk13, mk13⟩ : ∃ q, Rw q ∧ q = 40 + 8 + 2 * i7 := ⟨_, rw_lane 40 (by decide) i7 (by omega), rfl⟩
          rw [← mk13]
          refine wi_iload_n (i := 2) (e := h 37 7) (nx := 36) (r1 := 0) (r2 := 0) (r3 := 0) rfl rfl ?_
          refine wr_V (k0 := k13) (rest := []) (as := [.ref k13, vi (h 37 7)]) (nx := 39) (r1 := 158) (r2 := 1) (r3 := 5) rfl rfl rfl (of_decide_eq_true rfl) rfl rfl kk13.k kk13.1 rfl (of_decide_eq_true rfl) (of_decide_eq_true rfl) ?_
          refine ct_158_R hcr kk13 g (h 37 7) (by omega)  (fun h14 g14 u14 => ?_)
          have v14 := FR.rngp (lo := 48) (hi := 55) u14 (by omega)
          have F15 := F0.then rfl (FR.rngp (lo := 48) (hi := 55) u14 (by omega))
          refine wk_n ?_
          refine wi_aload_n (i := 0) (x := 37) (nx := 40) (r1 := 0) (r2 := 0) (r3 := 0) rfl rfl ?_
          refine wi_dup (nx := 41) (r1 := 0) (r2 := 0) (r3 := 0) rfl rfl ?_
          refine wr_gi0 (k0 := 37) (x := h 37 7) (nx := 44) (r1 := 4) (r2 := 7) (r3 := 0) rfl rfl (by decide) rfl ⟨rfl, rfl⟩ rfl (v14 37 7 rfl) ?_
          refine wi_iconst (n := 1) (nx := 45) (r1 := 0) (r2 := 0) (r3 := 0) rfl ?_
          refine wr_add (nx := 46) (r1 := 0) (r2 := 0) (r3 := 0) rfl (fun e16 (fe16 : e16 = (h 37 7) + 1) => ?_)
          refine wr_pf0 (k0 := 37) (x := e16) (bl := 0) (bh := 12) (nx := 49) (r1 := 4) (r2 := 7) (r3 := 0) rfl (by decide) rfl ⟨rfl, rfl⟩ rfl rfl g14 rfl (by omega) (fun h17 g17 w17 u17 => ?_)
          have F18 := F15.then rfl u17
          refine wi_aload_n (i := 0) (x := 37) (nx := 50) (r1 := 0) (r2 := 0) (r3 := 0) rfl rfl ?_
          refine wi_dup (nx := 51) (r1 := 0) (r2 := 0) (r3 := 0) rfl rfl ?_
          have b19 := gi_b (lo := -2147483648) (hi := 2147483647) g 37 16 rfl
          refine wr_gi0 (k0 := 37) (x := h 37 16) (nx := 54) (r1 := 4) (r2 := 16) (r3 := 0) rfl rfl (by decide) rfl ⟨rfl, rfl⟩ rfl ((u17 37 16 rfl).trans (v14 37 16 rfl)) ?_
          refine wi_iconst (n := 1) (nx := 55) (r1 := 0) (r2 := 0) (r3 := 0) rfl ?_
          refine wr_addW (nx := 56) (r1 := 0) (r2 := 0) (r3 := 0) rfl (fun e20 (fe20 : -2147483648 ≤ e20 ∧ e20 ≤ 2147483647) => ?_)
          refine wr_pf0 (k0 := 37) (x := e20) (bl := -2147483648) (bh := 2147483647) (nx := 59) (r1 := 4) (r2 := 16) (r3 := 0) rfl (by decide) rfl ⟨rfl, rfl⟩ rfl rfl g17 rfl (by omega) (fun h21 g21 w21 u21 => ?_)
          have F22 := F18.then rfl u21
          refine wi_iload_n (i := 2) (e := h 37 7) (nx := 60) (r1 := 0) (r2 := 0) (r3 := 0) rfl rfl ?_
          refine wi_ireturn (nx := 61) (r1 := 0) (r2 := 0) (r3 := 0) rfl rfl ?_
          exact k h21 (h 37 7) g21 F22 (by omega)
-- method 138: Line.comeBack(I)I
set_option maxRecDepth 100000 in
set_option maxHeartbeats 100000000 in
theorem ct_138_37 {L : Nat} {xs : Nat → Int32} {d b c : Nat} {h : hp} {cr : Nat → Nat → Option Nat} {Q : hp_Q} (hcr : CR cr)  (g : GI h) (a0 : Int) (q0_ : -2147483648 ≤ a0 ∧ a0 ≤ 2147483647)  (k : ∀ (h2 : hp) (z0 : Int) , GI h2 → FR [(41, 42, none), (43, 44, none), (48, 55, none), (37, 37, some (16, 16))] h h2 → (-2147483648 ≤ z0 ∧ z0 ≤ 2147483647) → Q (.inl (some (vi z0))) (hp_w h2 cr) b c) : wp (md_xa (L, xs)) (d + 2) 138 (0, [(0, .ref 37), (1, vi a0)], [], hp_w h cr, b, c) Q := by
  have F0 : FR [(41, 42, none), (43, 44, none), (48, 55, none), (37, 37, some (16, 16))] h h := FR.refl
  refine wi_aload_n (i := 0) (x := 37) (nx := 1) (r1 := 0) (r2 := 0) (r3 := 0) rfl rfl ?_
  refine wr_V (k0 := 37) (rest := []) (as := [.ref 37]) (nx := 4) (r1 := 135) (r2 := 0) (r3 := 4) rfl rfl rfl (of_decide_eq_true rfl) rfl rfl (by decide) rfl rfl (of_decide_eq_true rfl) (of_decide_eq_true rfl) ?_
  refine ct_135_37 hcr  g    (fun z2  (fz2 : 0 ≤ z2 ∧ z2 ≤ 1) => ?_)
  refine wk_i ?_
  refine wi_if (cd := .eq) (nx := 7) (r1 := 15) (r2 := 0) (r3 := 0) rfl (by omega) (fun (q3 : z2 = 0) => ?_) (fun (q3 : ¬ (z2 = 0)) => ?_)
  ·
    refine wi_iconst (n := (-1)) (nx := 16) (r1 := 0) (r2 := 0) (r3 := 0) rfl ?_
    refine wi_ireturn (nx := 17) (r1 := 0) (r2 := 0) (r3 := 0) rfl rfl ?_
    exact k h (-1) g F0 (by omega)
  ·
    refine wi_aload_n (i := 0) (x := 37) (nx := 8) (r1 := 0) (r2 := 0) (r3 := 0) rfl rfl ?_
    refine wi_iload_n (i := 1) (e := a0) (nx := 9) (r1 := 0) (r2 := 0) (r3 := 0) rfl rfl ?_
    refine wr_V (k0 := 37) (rest := []) (as := [.ref 37, vi a0]) (nx := 12) (r1 := 137) (r2 := 1) (r3 := 4) rfl rfl rfl (of_decide_eq_true rfl) rfl rfl (by decide) rfl rfl (of_decide_eq_true rfl) (of_decide_eq_true rfl) ?_
    refine wi_iload_n (i := 1) (e := a0) (nx := 1) (r1 := 0) (r2 := 0) (r3 := 0) rfl rfl ?_
    refine wi_if (cd := .lt) (nx := 4) (r1 := 40) (r2 := 0) (r3 := 0) rfl (by omega) (fun (q4 : a0 < 0) => ?_) (fun (q4 : ¬ (a0 < 0)) => ?_)
    ·
      refine wi_iconst (n := 0) (nx := 41) (r1 := 0) (r2 := 0) (r3 := 0) rfl ?_
      refine wi_zreturn (nx := 42) (r1 := 0) (r2 := 0) (r3 := 0) rfl rfl (by omega) ?_
      refine wk_i ?_
      refine wi_if (cd := .ne) (nx := 15) (r1 := 17) (r2 := 0) (r3 := 0) rfl (by omega) (fun (q5 : 0 ≠ 0) => by exfalso; omega) (fun (q5 : ¬ (0 ≠ 0)) => ?_)
      refine wi_iconst (n := (-1)) (nx := 16) (r1 := 0) (r2 := 0) (r3 := 0) rfl ?_
      refine wi_ireturn (nx := 17) (r1 := 0) (r2 := 0) (r3 := 0) rfl rfl ?_
      exact k h (-1) g F0 (by omega)
    ·
      refine wi_iload_n (i := 1) (e := a0) (nx := 5) (r1 := 0) (r2 := 0) (r3 := 0) rfl rfl ?_
      refine wi_aload_n (i := 0) (x := 37) (nx := 6) (r1 := 0) (r2 := 0) (r3 := 0) rfl rfl ?_
      refine wr_gr (k0 := 37) (x := 3) (nx := 9) (r1 := 4) (r2 := 0) (r3 := 0) rfl rfl (by decide) rfl ⟨rfl, rfl⟩ rfl ?_
      have b5 := gi_b (lo := 0) (hi := 4) g 3 1 rfl
      refine wr_gi0 (k0 := 3) (x := h 3 1) (nx := 12) (r1 := 2) (r2 := 1) (r3 := 0) rfl rfl (by decide) rfl ⟨rfl, rfl⟩ rfl rfl ?_
      refine wi_icmp (cd := .ge) (nx := 15) (r1 := 40) (r2 := 0) (r3 := 0) rfl (by omega) (by omega) (fun (q6 : (h 3 1) ≤ a0) => ?_) (fun (q6 : ¬ ((h 3 1) ≤ a0)) => ?_)
      ·
        refine wi_iconst (n := 0) (nx := 41) (r1 := 0) (r2 := 0) (r3 := 0) rfl ?_
        refine wi_zreturn (nx := 42) (r1 := 0) (r2 := 0) (r3 := 0) rfl rfl (by omega) ?_
        refine wk_i ?_
        refine wi_if (cd := .ne) (nx := 15) (r1 := 17) (r2 := 0) (r3 := 0) rfl (by omega) (fun (q7 : 0 ≠ 0) => by exfalso; omega) (fun (q7 : ¬ (0 ≠ 0)) => ?_)
        refine wi_iconst (n := (-1)) (nx := 16) (r1 := 0) (r2 := 0) (r3 := 0) rfl ?_
        refine wi_ireturn (nx := 17) (r1 := 0) (r2 := 0) (r3 := 0) rfl rfl ?_
        exact k h (-1) g F0 (by omega)
      ·
        refine wi_aload_n (i := 0) (x := 37) (nx := 16) (r1 := 0) (r2 := 0) (r3 := 0) rfl rfl ?_
        refine wr_gr (k0 := 37) (x := 40) (nx := 19) (r1 := 4) (r2 := 3) (r3 := 0) rfl rfl (by decide) rfl ⟨rfl, rfl⟩ rfl ?_
        refine wi_iload_n (i := 1) (e := a0) (nx := 20) (r1 := 0) (r2 := 0) (r3 := 0) rfl rfl ?_
        obtain ⟨i7, ei7⟩ : ∃ q : Nat, a0 = (q : Int) := ⟨(a0).toNat, by omega⟩
        refine wr_aa (k0 := 40) (a := a0) (f := i7) (x := 40 + 8 + 2 * i7) (nx := 21) (r1 := 0) (r2 := 0) (r3 := 0) rfl (by decide) rfl (Or.inl rfl) (by omega) (by omega) (by decide) (hcr.1 40 (by decide) i7 (by omega)) ?_
        obtain ⟨k8, kk8, mk8⟩ : ∃ q, Rw q ∧ q = 40 + 8 + 2 * i7 := ⟨_, rw_lane 40 (by decide) i7 (by omega), rfl⟩
        rw [← mk8]
        have b9 := gi_b (lo := 0) (hi := 12) g k8 1 kk8.2.2.2.1
        refine wr_gi0 (k0 := k8) (x := h k8 1) (nx := 24) (r1 := 5) (r2 := 1) (r3 := 0) rfl rfl kk8.k kk8.1 ⟨rfl, rfl⟩ rfl rfl ?_
        refine wi_aload_n (i := 0) (x := 37) (nx := 25) (r1 := 0) (r2 := 0) (r3 := 0) rfl rfl ?_
        refine wr_gr (k0 := 37) (x := 3) (nx := 28) (r1 := 4) (r2 := 0) (r3 := 0) rfl rfl (by decide) rfl ⟨rfl, rfl⟩ rfl ?_
        refine wr_gr (k0 := 3) (x := 6) (nx := 31) (r1 := 2) (r2 := 12) (r3 := 0) rfl rfl (by decide) rfl ⟨rfl, rfl⟩ rfl ?_
        refine wi_iload_n (i := 1) (e := a0) (nx := 32) (r1 := 0) (r2 := 0) (r3 := 0) rfl rfl ?_
        have b10 := gi_b (lo := -2147483648) (hi := 2147483647) g 6 i7 rfl
        refine wr_ia (k0 := 6) (a := a0) (f := i7) (x := h 6 i7) (nx := 33) (r1 := 0) (r2 := 0) (r3 := 0) rfl (by decide) rfl (by omega) (by omega) (by decide) rfl ?_
        refine wi_icmp (cd := .ge) (nx := 36) (r1 := 40) (r2 := 0) (r3 := 0) rfl (by omega) (by omega) (fun (q11 : (h 6 i7) ≤ (h k8 1)) => ?_) (fun (q11 : ¬ ((h 6 i7) ≤ (h k8 1))) => ?_)
        ·
          refine wi_iconst (n := 0) (nx := 41) (r1 := 0) (r2 := 0) (r3 := 0) rfl ?_
          refine wi_zreturn (nx := 42) (r1 := 0) (r2 := 0) (r3 := 0) rfl rfl (by omega) ?_
          refine wk_i ?_
          refine wi_if (cd := .ne) (nx := 15) (r1 := 17) (r2 := 0) (r3 := 0) rfl (by omega) (fun (q12 : 0 ≠ 0) => by exfalso; omega) (fun (q12 : ¬ (0 ≠ 0)) => ?_)
          refine wi_iconst (n := (-1)) (nx := 16) (r1 := 0) (r2 := 0) (r3 := 0) rfl ?_
          refine wi_ireturn (nx := 17) (r1 := 0) (r2 := 0) (r3 := 0) rfl rfl ?_
          exact k h (-1) g F0 (by omega)
        ·
          refine wi_iconst (n := 1) (nx := 37) (r1 := 0) (r2 := 0) (r3 := 0) rfl ?_
          refine wi_goto (nx := 40) (r1 := 41) (r2 := 0) (r3 := 0) rfl ?_
          refine wi_zreturn (nx := 42) (r1 := 0) (r2 := 0) (r3 := 0) rfl rfl (by omega) ?_
          refine wk_i ?_
          refine wi_if (cd := .ne) (nx := 15) (r1 := 17) (r2 := 0) (r3 := 0) rfl (by omega) (fun (q12 : 1 ≠ 0) => ?_) (fun (q12 : ¬ (1 ≠ 0)) => by exfalso; omega)
          refine wi_aload_n (i := 0) (x := 37) (nx := 18) (r1 := 0) (r2 := 0) (r3 := 0) rfl rfl ?_
          refine wr_gr (k0 := 37) (x := 41) (nx := 21) (r1 := 4) (r2 := 4) (r3 := 0) rfl rfl (by decide) rfl ⟨rfl, rfl⟩ rfl ?_
          refine wi_iconst (n := 0) (nx := 22) (r1 := 0) (r2 := 0) (r3 := 0) rfl ?_
          refine wr_V (k0 := 41) (rest := []) (as := [.ref 41, vi 0]) (nx := 25) (r1 := 154) (r2 := 1) (r3 := 5) rfl rfl rfl (of_decide_eq_true rfl) rfl rfl (by decide) rfl rfl (of_decide_eq_true rfl) (of_decide_eq_true rfl) ?_
          refine ct_154_R hcr rw_41 g 0 (by omega)  (fun z14  (fz14 : -2147483648 ≤ z14 ∧ z14 ≤ 2147483647) => ?_)
          refine wk_i ?_
          refine wi_istore_n (i := 2) (e := z14) (lo2 := [(2, vi z14), (0, .ref 37), (1, vi a0)]) (nx := 26) (r1 := 0) (r2 := 0) (r3 := 0) rfl rfl ?_
          refine wi_aload_n (i := 0) (x := 37) (nx := 27) (r1 := 0) (r2 := 0) (r3 := 0) rfl rfl ?_
          refine wr_gr (k0 := 37) (x := 41) (nx := 30) (r1 := 4) (r2 := 4) (r3 := 0) rfl rfl (by decide) rfl ⟨rfl, rfl⟩ rfl ?_
          refine wr_V (k0 := 41) (rest := []) (as := [.ref 41]) (nx := 33) (r1 := 157) (r2 := 0) (r3 := 5) rfl rfl rfl (of_decide_eq_true rfl) rfl rfl (by decide) rfl rfl (of_decide_eq_true rfl) (of_decide_eq_true rfl) ?_
          refine ct_157_R hcr rw_41 g    (fun h15 g15 u15 => ?_)
          have F16 := F0.then rfl u15
          refine wk_n ?_
          refine wi_aload_n (i := 0) (x := 37) (nx := 34) (r1 := 0) (r2 := 0) (r3 := 0) rfl rfl ?_
          refine wr_gr (k0 := 37) (x := 43) (nx := 37) (r1 := 4) (r2 := 5) (r3 := 0) rfl rfl (by decide) rfl ⟨rfl, rfl⟩ rfl ?_
          refine wr_V (k0 := 43) (rest := []) (as := [.ref 43]) (nx := 40) (r1 := 157) (r2 := 0) (r3 := 5) rfl rfl rfl (of_decide_eq_true rfl) rfl rfl (by decide) rfl rfl (of_decide_eq_true rfl) (of_decide_eq_true rfl) ?_
          refine ct_157_R hcr rw_43 g15    (fun h17 g17 u17 => ?_)
          have F18 := F16.then rfl u17
          refine wk_n ?_
          refine wi_aload_n (i := 0) (x := 37) (nx := 41) (r1 := 0) (r2 := 0) (r3 := 0) rfl rfl ?_
          refine wr_gr (k0 := 37) (x := 40) (nx := 44) (r1 := 4) (r2 := 3) (r3 := 0) rfl rfl (by decide) rfl ⟨rfl, rfl⟩ rfl ?_
          refine wi_iload_n (i := 1) (e := a0) (nx := 45) (r1 := 0) (r2 := 0) (r3 := 0) rfl rfl ?_
          refine wr_aa (k0 := 40) (a := a0) (f := i7) (x := 40 + 8 + 2 * i7) (nx := 46) (r1 := 0) (r2 := 0) (r3 := 0) rfl (by decide) rfl (Or.inl rfl) (by omega) (by omega) (by decide) (hcr.1 40 (by decide) i7 (by omega)) ?_
          obtain ⟨k19, kk19, mk19⟩ : ∃ q, Rw q ∧ q = 40 + 8 + 2 * i7 := ⟨_, rw_lane 40 (by decide) i7 (by omega), rfl⟩
          rw [← mk19]
          refine wi_iload_n (i := 2) (e := z14) (nx := 47) (r1 := 0) (r2 := 0) (r3 := 0) rfl rfl ?_
          refine wr_V (k0 := k19) (rest := []) (as := [.ref k19, vi z14]) (nx := 50) (r1 := 158) (r2 := 1) (r3 := 5) rfl rfl rfl (of_decide_eq_true rfl) rfl rfl kk19.k kk19.1 rfl (of_decide_eq_true rfl) (of_decide_eq_true rfl) ?_
          refine ct_158_R hcr kk19 g17 z14 (by omega)  (fun h20 g20 u20 => ?_)
          have v20 := FR.rngp (lo := 48) (hi := 55) u20 (by omega)
          have F21 := F18.then rfl (FR.rngp (lo := 48) (hi := 55) u20 (by omega))
          refine wk_n ?_
          refine wi_aload_n (i := 0) (x := 37) (nx := 51) (r1 := 0) (r2 := 0) (r3 := 0) rfl rfl ?_
          refine wi_dup (nx := 52) (r1 := 0) (r2 := 0) (r3 := 0) rfl rfl ?_
          have b22 := gi_b (lo := -2147483648) (hi := 2147483647) g 37 16 rfl
          refine wr_gi0 (k0 := 37) (x := h 37 16) (nx := 55) (r1 := 4) (r2 := 16) (r3 := 0) rfl rfl (by decide) rfl ⟨rfl, rfl⟩ rfl ((v20 37 16 rfl).trans ((u17 37 16 rfl).trans (u15 37 16 rfl))) ?_
          refine wi_iconst (n := 1) (nx := 56) (r1 := 0) (r2 := 0) (r3 := 0) rfl ?_
          refine wr_addW (nx := 57) (r1 := 0) (r2 := 0) (r3 := 0) rfl (fun e23 (fe23 : -2147483648 ≤ e23 ∧ e23 ≤ 2147483647) => ?_)
          refine wr_pf0 (k0 := 37) (x := e23) (bl := -2147483648) (bh := 2147483647) (nx := 60) (r1 := 4) (r2 := 16) (r3 := 0) rfl (by decide) rfl ⟨rfl, rfl⟩ rfl rfl g20 rfl (by omega) (fun h24 g24 w24 u24 => ?_)
          have F25 := F21.then rfl u24
          refine wi_iload_n (i := 2) (e := z14) (nx := 61) (r1 := 0) (r2 := 0) (r3 := 0) rfl rfl ?_
          refine wi_ireturn (nx := 62) (r1 := 0) (r2 := 0) (r3 := 0) rfl rfl ?_
          exact k h24 z14 g24 F25 (by omega)
-- method 134: Line.stepByRule()I
set_option maxRecDepth 100000 in
set_option maxHeartbeats 100000000 in
theorem ct_134_37 {L : Nat} {xs : Nat → Int32} {d b c : Nat} {h : hp} {cr : Nat → Nat → Option Nat} {Q : hp_Q} (hcr : CR cr)  (g : GI h)    (k : ∀ (h2 : hp) (z0 : Int) , GI h2 → FR [(37, 55, none)] h h2 → (-1 ≤ z0 ∧ z0 ≤ 3) → Q (.inl (some (vi z0))) (hp_w h2 cr) b c) : wp (md_xa (L, xs)) (d + 3) 134 (0, [(0, .ref 37)], [], hp_w h cr, b, c) Q := by
  have F0 : FR [(37, 55, none)] h h := FR.refl
  refine wi_aload_n (i := 0) (x := 37) (nx := 1) (r1 := 0) (r2 := 0) (r3 := 0) rfl rfl ?_
  refine wr_V (k0 := 37) (rest := []) (as := [.ref 37]) (nx := 4) (r1 := 135) (r2 := 0) (r3 := 4) rfl rfl rfl (of_decide_eq_true rfl) rfl rfl (by decide) rfl rfl (of_decide_eq_true rfl) (of_decide_eq_true rfl) ?_
  refine ct_135_37 hcr  g    (fun z2  (fz2 : 0 ≤ z2 ∧ z2 ≤ 1) => ?_)
  refine wk_i ?_
  refine wi_if (cd := .eq) (nx := 7) (r1 := 29) (r2 := 0) (r3 := 0) rfl (by omega) (fun (q3 : z2 = 0) => ?_) (fun (q3 : ¬ (z2 = 0)) => ?_)
  ·
    refine wi_aload_n (i := 0) (x := 37) (nx := 30) (r1 := 0) (r2 := 0) (r3 := 0) rfl rfl ?_
    have b4 := gi_b (lo := 0) (hi := 12) g 37 7 rfl
    refine wr_gi0 (k0 := 37) (x := h 37 7) (nx := 33) (r1 := 4) (r2 := 7) (r3 := 0) rfl rfl (by decide) rfl ⟨rfl, rfl⟩ rfl rfl ?_
    refine wi_aload_n (i := 0) (x := 37) (nx := 34) (r1 := 0) (r2 := 0) (r3 := 0) rfl rfl ?_
    refine wr_gr (k0 := 37) (x := 3) (nx := 37) (r1 := 4) (r2 := 0) (r3 := 0) rfl rfl (by decide) rfl ⟨rfl, rfl⟩ rfl ?_
    have b5 := gi_b (lo := 0) (hi := 12) g 3 2 rfl
    refine wr_gi0 (k0 := 3) (x := h 3 2) (nx := 40) (r1 := 2) (r2 := 2) (r3 := 0) rfl rfl (by decide) rfl ⟨rfl, rfl⟩ rfl rfl ?_
    refine wi_icmp (cd := .ge) (nx := 43) (r1 := 61) (r2 := 0) (r3 := 0) rfl (by omega) (by omega) (fun (q6 : (h 3 2) ≤ (h 37 7)) => ?_) (fun (q6 : ¬ ((h 3 2) ≤ (h 37 7))) => ?_)
    ·
      refine wi_aload_n (i := 0) (x := 37) (nx := 62) (r1 := 0) (r2 := 0) (r3 := 0) rfl rfl ?_
      refine wi_aload_n (i := 0) (x := 37) (nx := 63) (r1 := 0) (r2 := 0) (r3 := 0) rfl rfl ?_
      refine wr_V (k0 := 37) (rest := [.ref 37]) (as := [.ref 37]) (nx := 66) (r1 := 140) (r2 := 0) (r3 := 4) rfl rfl rfl (of_decide_eq_true rfl) rfl rfl (by decide) rfl rfl (of_decide_eq_true rfl) (of_decide_eq_true rfl) ?_
      refine ct_140_37 hcr  g    (fun z8  (fz8 : -1 ≤ z8 ∧ z8 ≤ 3) => ?_)
      refine wk_i ?_
      refine wr_V (k0 := 37) (rest := []) (as := [.ref 37, vi z8]) (nx := 69) (r1 := 142) (r2 := 1) (r3 := 4) rfl rfl rfl (of_decide_eq_true rfl) rfl rfl (by decide) rfl rfl (of_decide_eq_true rfl) (of_decide_eq_true rfl) ?_
      refine ct_142_37 hcr  g z8 (by omega)  (fun h9 z10 g9 u9 (fz10 : -1 ≤ z10 ∧ z10 ≤ 11) => ?_)
      have F11 := F0.then (by decide +kernel) u9
      refine wk_i ?_
      refine wi_iconst (n := (-1)) (nx := 70) (r1 := 0) (r2 := 0) (r3 := 0) rfl ?_
      refine wi_icmp (cd := .eq) (nx := 73) (r1 := 75) (r2 := 0) (r3 := 0) rfl (by omega) (by omega) (fun (q12 : z10 = (-1)) => ?_) (fun (q12 : ¬ (z10 = (-1))) => ?_)
      ·
        refine wi_aload_n (i := 0) (x := 37) (nx := 76) (r1 := 0) (r2 := 0) (r3 := 0) rfl rfl ?_
        refine wr_gr (k0 := 37) (x := 41) (nx := 79) (r1 := 4) (r2 := 4) (r3 := 0) rfl rfl (by decide) rfl ⟨rfl, rfl⟩ rfl ?_
        have b13 := gi_b (lo := 0) (hi := 12) g9 41 1 rfl
        refine wr_gi0 (k0 := 41) (x := h9 41 1) (nx := 82) (r1 := 5) (r2 := 1) (r3 := 0) rfl rfl (by decide) rfl ⟨rfl, rfl⟩ rfl rfl ?_
        refine wi_if (cd := .le) (nx := 85) (r1 := 97) (r2 := 0) (r3 := 0) rfl (by omega) (fun (q14 : (h9 41 1) ≤ 0) => ?_) (fun (q14 : ¬ ((h9 41 1) ≤ 0)) => ?_)
        ·
          refine wi_iconst (n := (-1)) (nx := 98) (r1 := 0) (r2 := 0) (r3 := 0) rfl ?_
          refine wi_ireturn (nx := 99) (r1 := 0) (r2 := 0) (r3 := 0) rfl rfl ?_
          exact k h9 (-1) g9 F11 (by omega)
        ·
          refine wi_aload_n (i := 0) (x := 37) (nx := 86) (r1 := 0) (r2 := 0) (r3 := 0) rfl rfl ?_
          refine wr_V (k0 := 37) (rest := []) (as := [.ref 37]) (nx := 89) (r1 := 133) (r2 := 0) (r3 := 4) rfl rfl rfl (of_decide_eq_true rfl) rfl rfl (by decide) rfl rfl (of_decide_eq_true rfl) (of_decide_eq_true rfl) ?_
          refine ct_133_37 hcr  g9    (fun h15 z16 g15 u15 (fz16 : -2147483647 ≤ z16 ∧ z16 ≤ 9999) => ?_)
          have F17 := F11.then (by decide +kernel) u15
          refine wk_i ?_
          refine wi_iconst (n := (-1)) (nx := 90) (r1 := 0) (r2 := 0) (r3 := 0) rfl ?_
          refine wi_icmp (cd := .eq) (nx := 93) (r1 := 97) (r2 := 0) (r3 := 0) rfl (by omega) (by omega) (fun (q18 : z16 = (-1)) => ?_) (fun (q18 : ¬ (z16 = (-1))) => ?_)
          ·
            refine wi_iconst (n := (-1)) (nx := 98) (r1 := 0) (r2 := 0) (r3 := 0) rfl ?_
            refine wi_ireturn (nx := 99) (r1 := 0) (r2 := 0) (r3 := 0) rfl rfl ?_
            exact k h15 (-1) g15 F17 (by omega)
          ·
            refine wi_iconst (n := 3) (nx := 94) (r1 := 0) (r2 := 0) (r3 := 0) rfl ?_
            refine wi_goto (nx := 97) (r1 := 98) (r2 := 0) (r3 := 0) rfl ?_
            refine wi_ireturn (nx := 99) (r1 := 0) (r2 := 0) (r3 := 0) rfl rfl ?_
            exact k h15 3 g15 F17 (by omega)
      ·
        refine wi_iconst (n := 2) (nx := 74) (r1 := 0) (r2 := 0) (r3 := 0) rfl ?_
        refine wi_ireturn (nx := 75) (r1 := 0) (r2 := 0) (r3 := 0) rfl rfl ?_
        exact k h9 2 g9 F11 (by omega)
    ·
      refine wi_aload_n (i := 0) (x := 37) (nx := 44) (r1 := 0) (r2 := 0) (r3 := 0) rfl rfl ?_
      refine wi_aload_n (i := 0) (x := 37) (nx := 45) (r1 := 0) (r2 := 0) (r3 := 0) rfl rfl ?_
      refine wi_aload_n (i := 0) (x := 37) (nx := 46) (r1 := 0) (r2 := 0) (r3 := 0) rfl rfl ?_
      refine wr_gi0 (k0 := 37) (x := h 37 7) (nx := 49) (r1 := 4) (r2 := 7) (r3 := 0) rfl rfl (by decide) rfl ⟨rfl, rfl⟩ rfl rfl ?_
      refine wr_V (k0 := 37) (rest := [.ref 37]) (as := [.ref 37, vi (h 37 7)]) (nx := 52) (r1 := 136) (r2 := 1) (r3 := 4) rfl rfl rfl (of_decide_eq_true rfl) rfl rfl (by decide) rfl rfl (of_decide_eq_true rfl) (of_decide_eq_true rfl) ?_
      refine ct_136_37 hcr  g (h 37 7) (by omega)  (fun z8  (fz8 : -1 ≤ z8 ∧ z8 ≤ 3) => ?_)
      refine wk_i ?_
      refine wr_V (k0 := 37) (rest := []) (as := [.ref 37, vi z8]) (nx := 55) (r1 := 139) (r2 := 1) (r3 := 4) rfl rfl rfl (of_decide_eq_true rfl) rfl rfl (by decide) rfl rfl (of_decide_eq_true rfl) (of_decide_eq_true rfl) ?_
      refine ct_139_37 hcr  g z8 (by omega)  (fun h9 z10 g9 u9 (fz10 : -1 ≤ z10 ∧ z10 ≤ 11) => ?_)
      have F11 := F0.then (by decide +kernel) u9
      refine wk_i ?_
      refine wi_iconst (n := (-1)) (nx := 56) (r1 := 0) (r2 := 0) (r3 := 0) rfl ?_
      refine wi_icmp (cd := .eq) (nx := 59) (r1 := 61) (r2 := 0) (r3 := 0) rfl (by omega) (by omega) (fun (q12 : z10 = (-1)) => ?_) (fun (q12 : ¬ (z10 = (-1))) => ?_)
      ·
        refine wi_aload_n (i := 0) (x := 37) (nx := 62) (r1 := 0) (r2 := 0) (r3 := 0) rfl rfl ?_
        refine wi_aload_n (i := 0) (x := 37) (nx := 63) (r1 := 0) (r2 := 0) (r3 := 0) rfl rfl ?_
        refine wr_V (k0 := 37) (rest := [.ref 37]) (as := [.ref 37]) (nx := 66) (r1 := 140) (r2 := 0) (r3 := 4) rfl rfl rfl (of_decide_eq_true rfl) rfl rfl (by decide) rfl rfl (of_decide_eq_true rfl) (of_decide_eq_true rfl) ?_
        refine ct_140_37 hcr  g9    (fun z14  (fz14 : -1 ≤ z14 ∧ z14 ≤ 3) => ?_)
        refine wk_i ?_
        refine wr_V (k0 := 37) (rest := []) (as := [.ref 37, vi z14]) (nx := 69) (r1 := 142) (r2 := 1) (r3 := 4) rfl rfl rfl (of_decide_eq_true rfl) rfl rfl (by decide) rfl rfl (of_decide_eq_true rfl) (of_decide_eq_true rfl) ?_
        refine ct_142_37 hcr  g9 z14 (by omega)  (fun h15 z16 g15 u15 (fz16 : -1 ≤ z16 ∧ z16 ≤ 11) => ?_)
        have F17 := F11.then (by decide +kernel) u15
        refine wk_i ?_
        refine wi_iconst (n := (-1)) (nx := 70) (r1 := 0) (r2 := 0) (r3 := 0) rfl ?_
        refine wi_icmp (cd := .eq) (nx := 73) (r1 := 75) (r2 := 0) (r3 := 0) rfl (by omega) (by omega) (fun (q18 : z16 = (-1)) => ?_) (fun (q18 : ¬ (z16 = (-1))) => ?_)
        ·
          refine wi_aload_n (i := 0) (x := 37) (nx := 76) (r1 := 0) (r2 := 0) (r3 := 0) rfl rfl ?_
          refine wr_gr (k0 := 37) (x := 41) (nx := 79) (r1 := 4) (r2 := 4) (r3 := 0) rfl rfl (by decide) rfl ⟨rfl, rfl⟩ rfl ?_
          have b19 := gi_b (lo := 0) (hi := 12) g15 41 1 rfl
          refine wr_gi0 (k0 := 41) (x := h15 41 1) (nx := 82) (r1 := 5) (r2 := 1) (r3 := 0) rfl rfl (by decide) rfl ⟨rfl, rfl⟩ rfl rfl ?_
          refine wi_if (cd := .le) (nx := 85) (r1 := 97) (r2 := 0) (r3 := 0) rfl (by omega) (fun (q20 : (h15 41 1) ≤ 0) => ?_) (fun (q20 : ¬ ((h15 41 1) ≤ 0)) => ?_)
          ·
            refine wi_iconst (n := (-1)) (nx := 98) (r1 := 0) (r2 := 0) (r3 := 0) rfl ?_
            refine wi_ireturn (nx := 99) (r1 := 0) (r2 := 0) (r3 := 0) rfl rfl ?_
            exact k h15 (-1) g15 F17 (by omega)
          ·
            refine wi_aload_n (i := 0) (x := 37) (nx := 86) (r1 := 0) (r2 := 0) (r3 := 0) rfl rfl ?_
            refine wr_V (k0 := 37) (rest := []) (as := [.ref 37]) (nx := 89) (r1 := 133) (r2 := 0) (r3 := 4) rfl rfl rfl (of_decide_eq_true rfl) rfl rfl (by decide) rfl rfl (of_decide_eq_true rfl) (of_decide_eq_true rfl) ?_
            refine ct_133_37 hcr  g15    (fun h21 z22 g21 u21 (fz22 : -2147483647 ≤ z22 ∧ z22 ≤ 9999) => ?_)
            have F23 := F17.then (by decide +kernel) u21
            refine wk_i ?_
            refine wi_iconst (n := (-1)) (nx := 90) (r1 := 0) (r2 := 0) (r3 := 0) rfl ?_
            refine wi_icmp (cd := .eq) (nx := 93) (r1 := 97) (r2 := 0) (r3 := 0) rfl (by omega) (by omega) (fun (q24 : z22 = (-1)) => ?_) (fun (q24 : ¬ (z22 = (-1))) => ?_)
            ·
              refine wi_iconst (n := (-1)) (nx := 98) (r1 := 0) (r2 := 0) (r3 := 0) rfl ?_
              refine wi_ireturn (nx := 99) (r1 := 0) (r2 := 0) (r3 := 0) rfl rfl ?_
              exact k h21 (-1) g21 F23 (by omega)
            ·
              refine wi_iconst (n := 3) (nx := 94) (r1 := 0) (r2 := 0) (r3 := 0) rfl ?_
              refine wi_goto (nx := 97) (r1 := 98) (r2 := 0) (r3 := 0) rfl ?_
              refine wi_ireturn (nx := 99) (r1 := 0) (r2 := 0) (r3 := 0) rfl rfl ?_
              exact k h21 3 g21 F23 (by omega)
        ·
          refine wi_iconst (n := 2) (nx := 74) (r1 := 0) (r2 := 0) (r3 := 0) rfl ?_
          refine wi_ireturn (nx := 75) (r1 := 0) (r2 := 0) (r3 := 0) rfl rfl ?_
          exact k h15 2 g15 F17 (by omega)
      ·
        refine wi_iconst (n := 1) (nx := 60) (r1 := 0) (r2 := 0) (r3 := 0) rfl ?_
        refine wi_ireturn (nx := 61) (r1 := 0) (r2 := 0) (r3 := 0) rfl rfl ?_
        exact k h9 1 g9 F11 (by omega)
  ·
    refine wi_aload_n (i := 0) (x := 37) (nx := 8) (r1 := 0) (r2 := 0) (r3 := 0) rfl rfl ?_
    refine wi_aload_n (i := 0) (x := 37) (nx := 9) (r1 := 0) (r2 := 0) (r3 := 0) rfl rfl ?_
    refine wi_aload_n (i := 0) (x := 37) (nx := 10) (r1 := 0) (r2 := 0) (r3 := 0) rfl rfl ?_
    refine wr_gr (k0 := 37) (x := 41) (nx := 13) (r1 := 4) (r2 := 4) (r3 := 0) rfl rfl (by decide) rfl ⟨rfl, rfl⟩ rfl ?_
    refine wi_iconst (n := 0) (nx := 14) (r1 := 0) (r2 := 0) (r3 := 0) rfl ?_
    refine wr_V (k0 := 41) (rest := [.ref 37, .ref 37]) (as := [.ref 41, vi 0]) (nx := 17) (r1 := 154) (r2 := 1) (r3 := 5) rfl rfl rfl (of_decide_eq_true rfl) rfl rfl (by decide) rfl rfl (of_decide_eq_true rfl) (of_decide_eq_true rfl) ?_
    refine ct_154_R hcr rw_41 g 0 (by omega)  (fun z5  (fz5 : -2147483648 ≤ z5 ∧ z5 ≤ 2147483647) => ?_)
    refine wk_i ?_
    refine wr_V (k0 := 37) (rest := [.ref 37]) (as := [.ref 37, vi z5]) (nx := 20) (r1 := 136) (r2 := 1) (r3 := 4) rfl rfl rfl (of_decide_eq_true rfl) rfl rfl (by decide) rfl rfl (of_decide_eq_true rfl) (of_decide_eq_true rfl) ?_
    refine ct_136_37 hcr  g z5 (by omega)  (fun z7  (fz7 : -1 ≤ z7 ∧ z7 ≤ 3) => ?_)
    refine wk_i ?_
    refine wr_V (k0 := 37) (rest := []) (as := [.ref 37, vi z7]) (nx := 23) (r1 := 138) (r2 := 1) (r3 := 4) rfl rfl rfl (of_decide_eq_true rfl) rfl rfl (by decide) rfl rfl (of_decide_eq_true rfl) (of_decide_eq_true rfl) ?_
    refine ct_138_37 hcr  g z7 (by omega)  (fun h8 z9 g8 u8 (fz9 : -2147483648 ≤ z9 ∧ z9 ≤ 2147483647) => ?_)
    have F10 := F0.then (by decide +kernel) u8
    refine wk_i ?_
    refine wi_iconst (n := (-1)) (nx := 24) (r1 := 0) (r2 := 0) (r3 := 0) rfl ?_
    refine wi_icmp (cd := .eq) (nx := 27) (r1 := 29) (r2 := 0) (r3 := 0) rfl (by omega) (by omega) (fun (q11 : z9 = (-1)) => ?_) (fun (q11 : ¬ (z9 = (-1))) => ?_)
    ·
      refine wi_aload_n (i := 0) (x := 37) (nx := 30) (r1 := 0) (r2 := 0) (r3 := 0) rfl rfl ?_
      have b12 := gi_b (lo := 0) (hi := 12) g 37 7 rfl
      refine wr_gi0 (k0 := 37) (x := h 37 7) (nx := 33) (r1 := 4) (r2 := 7) (r3 := 0) rfl rfl (by decide) rfl ⟨rfl, rfl⟩ rfl (u8 37 7 rfl) ?_
      refine wi_aload_n (i := 0) (x := 37) (nx := 34) (r1 := 0) (r2 := 0) (r3 := 0) rfl rfl ?_
      refine wr_gr (k0 := 37) (x := 3) (nx := 37) (r1 := 4) (r2 := 0) (r3 := 0) rfl rfl (by decide) rfl ⟨rfl, rfl⟩ rfl ?_
      have b13 := gi_b (lo := 0) (hi := 12) g 3 2 rfl
      refine wr_gi0 (k0 := 3) (x := h 3 2) (nx := 40) (r1 := 2) (r2 := 2) (r3 := 0) rfl rfl (by decide) rfl ⟨rfl, rfl⟩ rfl (u8 3 2 rfl) ?_
      refine wi_icmp (cd := .ge) (nx := 43) (r1 := 61) (r2 := 0) (r3 := 0) rfl (by omega) (by omega) (fun (q14 : (h 3 2) ≤ (h 37 7)) => ?_) (fun (q14 : ¬ ((h 3 2) ≤ (h 37 7))) => ?_)
      ·
        refine wi_aload_n (i := 0) (x := 37) (nx := 62) (r1 := 0) (r2 := 0) (r3 := 0) rfl rfl ?_
        refine wi_aload_n (i := 0) (x := 37) (nx := 63) (r1 := 0) (r2 := 0) (r3 := 0) rfl rfl ?_
        refine wr_V (k0 := 37) (rest := [.ref 37]) (as := [.ref 37]) (nx := 66) (r1 := 140) (r2 := 0) (r3 := 4) rfl rfl rfl (of_decide_eq_true rfl) rfl rfl (by decide) rfl rfl (of_decide_eq_true rfl) (of_decide_eq_true rfl) ?_
        refine ct_140_37 hcr  g8    (fun z16  (fz16 : -1 ≤ z16 ∧ z16 ≤ 3) => ?_)
        refine wk_i ?_
        refine wr_V (k0 := 37) (rest := []) (as := [.ref 37, vi z16]) (nx := 69) (r1 := 142) (r2 := 1) (r3 := 4) rfl rfl rfl (of_decide_eq_true rfl) rfl rfl (by decide) rfl rfl (of_decide_eq_true rfl) (of_decide_eq_true rfl) ?_
        refine ct_142_37 hcr  g8 z16 (by omega)  (fun h17 z18 g17 u17 (fz18 : -1 ≤ z18 ∧ z18 ≤ 11) => ?_)
        have F19 := F10.then (by decide +kernel) u17
        refine wk_i ?_
        refine wi_iconst (n := (-1)) (nx := 70) (r1 := 0) (r2 := 0) (r3 := 0) rfl ?_
        refine wi_icmp (cd := .eq) (nx := 73) (r1 := 75) (r2 := 0) (r3 := 0) rfl (by omega) (by omega) (fun (q20 : z18 = (-1)) => ?_) (fun (q20 : ¬ (z18 = (-1))) => ?_)
        ·
          refine wi_aload_n (i := 0) (x := 37) (nx := 76) (r1 := 0) (r2 := 0) (r3 := 0) rfl rfl ?_
          refine wr_gr (k0 := 37) (x := 41) (nx := 79) (r1 := 4) (r2 := 4) (r3 := 0) rfl rfl (by decide) rfl ⟨rfl, rfl⟩ rfl ?_
          have b21 := gi_b (lo := 0) (hi := 12) g17 41 1 rfl
          refine wr_gi0 (k0 := 41) (x := h17 41 1) (nx := 82) (r1 := 5) (r2 := 1) (r3 := 0) rfl rfl (by decide) rfl ⟨rfl, rfl⟩ rfl rfl ?_
          refine wi_if (cd := .le) (nx := 85) (r1 := 97) (r2 := 0) (r3 := 0) rfl (by omega) (fun (q22 : (h17 41 1) ≤ 0) => ?_) (fun (q22 : ¬ ((h17 41 1) ≤ 0)) => ?_)
          ·
            refine wi_iconst (n := (-1)) (nx := 98) (r1 := 0) (r2 := 0) (r3 := 0) rfl ?_
            refine wi_ireturn (nx := 99) (r1 := 0) (r2 := 0) (r3 := 0) rfl rfl ?_
            exact k h17 (-1) g17 F19 (by omega)
          ·
            refine wi_aload_n (i := 0) (x := 37) (nx := 86) (r1 := 0) (r2 := 0) (r3 := 0) rfl rfl ?_
            refine wr_V (k0 := 37) (rest := []) (as := [.ref 37]) (nx := 89) (r1 := 133) (r2 := 0) (r3 := 4) rfl rfl rfl (of_decide_eq_true rfl) rfl rfl (by decide) rfl rfl (of_decide_eq_true rfl) (of_decide_eq_true rfl) ?_
            refine ct_133_37 hcr  g17    (fun h23 z24 g23 u23 (fz24 : -2147483647 ≤ z24 ∧ z24 ≤ 9999) => ?_)
            have F25 := F19.then (by decide +kernel) u23
            refine wk_i ?_
            refine wi_iconst (n := (-1)) (nx := 90) (r1 := 0) (r2 := 0) (r3 := 0) rfl ?_
            refine wi_icmp (cd := .eq) (nx := 93) (r1 := 97) (r2 := 0) (r3 := 0) rfl (by omega) (by omega) (fun (q26 : z24 = (-1)) => ?_) (fun (q26 : ¬ (z24 = (-1))) => ?_)
            ·
              refine wi_iconst (n := (-1)) (nx := 98) (r1 := 0) (r2 := 0) (r3 := 0) rfl ?_
              refine wi_ireturn (nx := 99) (r1 := 0) (r2 := 0) (r3 := 0) rfl rfl ?_
              exact k h23 (-1) g23 F25 (by omega)
            ·
              refine wi_iconst (n := 3) (nx := 94) (r1 := 0) (r2 := 0) (r3 := 0) rfl ?_
              refine wi_goto (nx := 97) (r1 := 98) (r2 := 0) (r3 := 0) rfl ?_
              refine wi_ireturn (nx := 99) (r1 := 0) (r2 := 0) (r3 := 0) rfl rfl ?_
              exact k h23 3 g23 F25 (by omega)
        ·
          refine wi_iconst (n := 2) (nx := 74) (r1 := 0) (r2 := 0) (r3 := 0) rfl ?_
          refine wi_ireturn (nx := 75) (r1 := 0) (r2 := 0) (r3 := 0) rfl rfl ?_
          exact k h17 2 g17 F19 (by omega)
      ·
        refine wi_aload_n (i := 0) (x := 37) (nx := 44) (r1 := 0) (r2 := 0) (r3 := 0) rfl rfl ?_
        refine wi_aload_n (i := 0) (x := 37) (nx := 45) (r1 := 0) (r2 := 0) (r3 := 0) rfl rfl ?_
        refine wi_aload_n (i := 0) (x := 37) (nx := 46) (r1 := 0) (r2 := 0) (r3 := 0) rfl rfl ?_
        refine wr_gi0 (k0 := 37) (x := h 37 7) (nx := 49) (r1 := 4) (r2 := 7) (r3 := 0) rfl rfl (by decide) rfl ⟨rfl, rfl⟩ rfl (u8 37 7 rfl) ?_
        refine wr_V (k0 := 37) (rest := [.ref 37]) (as := [.ref 37, vi (h 37 7)]) (nx := 52) (r1 := 136) (r2 := 1) (r3 := 4) rfl rfl rfl (of_decide_eq_true rfl) rfl rfl (by decide) rfl rfl (of_decide_eq_true rfl) (of_decide_eq_true rfl) ?_
        refine ct_136_37 hcr  g8 (h 37 7) (by omega)  (fun z16  (fz16 : -1 ≤ z16 ∧ z16 ≤ 3) => ?_)
        refine wk_i ?_
        refine wr_V (k0 := 37) (rest := []) (as := [.ref 37, vi z16]) (nx := 55) (r1 := 139) (r2 := 1) (r3 := 4) rfl rfl rfl (of_decide_eq_true rfl) rfl rfl (by decide) rfl rfl (of_decide_eq_true rfl) (of_decide_eq_true rfl) ?_
        refine ct_139_37 hcr  g8 z16 (by omega)  (fun h17 z18 g17 u17 (fz18 : -1 ≤ z18 ∧ z18 ≤ 11) => ?_)
        have F19 := F10.then (by decide +kernel) u17
        refine wk_i ?_
        refine wi_iconst (n := (-1)) (nx := 56) (r1 := 0) (r2 := 0) (r3 := 0) rfl ?_
        refine wi_icmp (cd := .eq) (nx := 59) (r1 := 61) (r2 := 0) (r3 := 0) rfl (by omega) (by omega) (fun (q20 : z18 = (-1)) => ?_) (fun (q20 : ¬ (z18 = (-1))) => ?_)
        ·
          refine wi_aload_n (i := 0) (x := 37) (nx := 62) (r1 := 0) (r2 := 0) (r3 := 0) rfl rfl ?_
          refine wi_aload_n (i := 0) (x := 37) (nx := 63) (r1 := 0) (r2 := 0) (r3 := 0) rfl rfl ?_
          refine wr_V (k0 := 37) (rest := [.ref 37]) (as := [.ref 37]) (nx := 66) (r1 := 140) (r2 := 0) (r3 := 4) rfl rfl rfl (of_decide_eq_true rfl) rfl rfl (by decide) rfl rfl (of_decide_eq_true rfl) (of_decide_eq_true rfl) ?_
          refine ct_140_37 hcr  g17    (fun z22  (fz22 : -1 ≤ z22 ∧ z22 ≤ 3) => ?_)
          refine wk_i ?_
          refine wr_V (k0 := 37) (rest := []) (as := [.ref 37, vi z22]) (nx := 69) (r1 := 142) (r2 := 1) (r3 := 4) rfl rfl rfl (of_decide_eq_true rfl) rfl rfl (by decide) rfl rfl (of_decide_eq_true rfl) (of_decide_eq_true rfl) ?_
          refine ct_142_37 hcr  g17 z22 (by omega)  (fun h23 z24 g23 u23 (fz24 : -1 ≤ z24 ∧ z24 ≤ 11) => ?_)
          have F25 := F19.then (by decide +kernel) u23
          refine wk_i ?_
          refine wi_iconst (n := (-1)) (nx := 70) (r1 := 0) (r2 := 0) (r3 := 0) rfl ?_
          refine wi_icmp (cd := .eq) (nx := 73) (r1 := 75) (r2 := 0) (r3 := 0) rfl (by omega) (by omega) (fun (q26 : z24 = (-1)) => ?_) (fun (q26 : ¬ (z24 = (-1))) => ?_)
          ·
            refine wi_aload_n (i := 0) (x := 37) (nx := 76) (r1 := 0) (r2 := 0) (r3 := 0) rfl rfl ?_
            refine wr_gr (k0 := 37) (x := 41) (nx := 79) (r1 := 4) (r2 := 4) (r3 := 0) rfl rfl (by decide) rfl ⟨rfl, rfl⟩ rfl ?_
            have b27 := gi_b (lo := 0) (hi := 12) g23 41 1 rfl
            refine wr_gi0 (k0 := 41) (x := h23 41 1) (nx := 82) (r1 := 5) (r2 := 1) (r3 := 0) rfl rfl (by decide) rfl ⟨rfl, rfl⟩ rfl rfl ?_
            refine wi_if (cd := .le) (nx := 85) (r1 := 97) (r2 := 0) (r3 := 0) rfl (by omega) (fun (q28 : (h23 41 1) ≤ 0) => ?_) (fun (q28 : ¬ ((h23 41 1) ≤ 0)) => ?_)
            ·
              refine wi_iconst (n := (-1)) (nx := 98) (r1 := 0) (r2 := 0) (r3 := 0) rfl ?_
              refine wi_ireturn (nx := 99) (r1 := 0) (r2 := 0) (r3 := 0) rfl rfl ?_
              exact k h23 (-1) g23 F25 (by omega)
            ·
              refine wi_aload_n (i := 0) (x := 37) (nx := 86) (r1 := 0) (r2 := 0) (r3 := 0) rfl rfl ?_
              refine wr_V (k0 := 37) (rest := []) (as := [.ref 37]) (nx := 89) (r1 := 133) (r2 := 0) (r3 := 4) rfl rfl rfl (of_decide_eq_true rfl) rfl rfl (by decide) rfl rfl (of_decide_eq_true rfl) (of_decide_eq_true rfl) ?_
              refine ct_133_37 hcr  g23    (fun h29 z30 g29 u29 (fz30 : -2147483647 ≤ z30 ∧ z30 ≤ 9999) => ?_)
              have F31 := F25.then (by decide +kernel) u29
              refine wk_i ?_
              refine wi_iconst (n := (-1)) (nx := 90) (r1 := 0) (r2 := 0) (r3 := 0) rfl ?_
              refine wi_icmp (cd := .eq) (nx := 93) (r1 := 97) (r2 := 0) (r3 := 0) rfl (by omega) (by omega) (fun (q32 : z30 = (-1)) => ?_) (fun (q32 : ¬ (z30 = (-1))) => ?_)
              ·
                refine wi_iconst (n := (-1)) (nx := 98) (r1 := 0) (r2 := 0) (r3 := 0) rfl ?_
                refine wi_ireturn (nx := 99) (r1 := 0) (r2 := 0) (r3 := 0) rfl rfl ?_
                exact k h29 (-1) g29 F31 (by omega)
              ·
                refine wi_iconst (n := 3) (nx := 94) (r1 := 0) (r2 := 0) (r3 := 0) rfl ?_
                refine wi_goto (nx := 97) (r1 := 98) (r2 := 0) (r3 := 0) rfl ?_
                refine wi_ireturn (nx := 99) (r1 := 0) (r2 := 0) (r3 := 0) rfl rfl ?_
                exact k h29 3 g29 F31 (by omega)
          ·
            refine wi_iconst (n := 2) (nx := 74) (r1 := 0) (r2 := 0) (r3 := 0) rfl ?_
            refine wi_ireturn (nx := 75) (r1 := 0) (r2 := 0) (r3 := 0) rfl rfl ?_
            exact k h23 2 g23 F25 (by omega)
        ·
          refine wi_iconst (n := 1) (nx := 60) (r1 := 0) (r2 := 0) (r3 := 0) rfl ?_
          refine wi_ireturn (nx := 61) (r1 := 0) (r2 := 0) (r3 := 0) rfl rfl ?_
          exact k h17 1 g17 F19 (by omega)
    ·
      refine wi_iconst (n := 0) (nx := 28) (r1 := 0) (r2 := 0) (r3 := 0) rfl ?_
      refine wi_ireturn (nx := 29) (r1 := 0) (r2 := 0) (r3 := 0) rfl rfl ?_
      exact k h8 0 g8 F10 (by omega)
-- method 83: Bank.lookAhead(II)I
set_option maxRecDepth 100000 in
set_option maxHeartbeats 100000000 in
theorem ct_83_0 {L : Nat} {xs : Nat → Int32} {d b c : Nat} {h : hp} {cr : Nat → Nat → Option Nat} {Q : hp_Q} (hcr : CR cr)  (g : GI h) (a0 : Int) (a1 : Int) (q0_ : -2147483648 ≤ a0 ∧ a0 ≤ 2147483647) (q1_ : -2147483648 ≤ a1 ∧ a1 ≤ 2147483647)  (k : ∀ (h2 : hp) (z0 : Int) , GI h2 → FR [(37, 55, none)] h h2 → (-2147483648 ≤ z0 ∧ z0 ≤ 2147483647) → Q (.inl (some (vi z0))) (hp_w h2 cr) b c) : wp (md_xa (L, xs)) (d + 4) 83 (0, [(0, .ref 0), (1, vi a0), (2, vi a1)], [], hp_w h cr, b, c) Q := by
  have F0 : FR [(37, 55, none)] h h := FR.refl
  refine wi_aload_n (i := 0) (x := 0) (nx := 1) (r1 := 0) (r2 := 0) (r3 := 0) rfl rfl ?_
  refine wr_gr (k0 := 0) (x := 37) (nx := 4) (r1 := 0) (r2 := 4) (r3 := 0) rfl rfl (by decide) rfl ⟨rfl, rfl⟩ rfl ?_
  refine wi_aload_n (i := 0) (x := 0) (nx := 5) (r1 := 0) (r2 := 0) (r3 := 0) rfl rfl ?_
  refine wr_gr (k0 := 0) (x := 18) (nx := 8) (r1 := 0) (r2 := 3) (r3 := 0) rfl rfl (by decide) rfl ⟨rfl, rfl⟩ rfl ?_
  refine wr_V (k0 := 37) (rest := []) (as := [.ref 37, .ref 18]) (nx := 11) (r1 := 132) (r2 := 1) (r3 := 4) rfl rfl rfl (of_decide_eq_true rfl) rfl rfl (by decide) rfl rfl (of_decide_eq_true rfl) (of_decide_eq_true rfl) ?_
  refine ct_132_37_18 hcr  g    (fun h1 g1 u1 => ?_)
  have F2 := F0.then (by decide +kernel) u1
  refine wk_n ?_
  refine wi_iconst (n := 0) (nx := 12) (r1 := 0) (r2 := 0) (r3 := 0) rfl ?_
  refine wi_istore_n (i := 3) (e := 0) (lo2 := [(3, vi 0), (0, .ref 0), (1, vi a0), (2, vi a1)]) (nx := 13) (r1 := 0) (r2 := 0) (r3 := 0) rfl rfl ?_
  refine wp.lo (lo := [(0, .ref 0), (1, vi a0), (2, vi a1), (3, vi 0)]) ⟨rfl, rfl, rfl, rfl, trivial⟩ rfl ?_
  refine wl_1 (fun x3 h4 => GI h4 ∧ FR [(37, 55, none)] h h4 ∧ FR [(37, 55, none)] h1 h4 ∧ ((0 ≤ x3 ∧ x3 ≤ 2147483647))) (fun x3 h4 => ((2147483647 : Int) + 1 - x3).toNat) (fun x3 h4 => (13, [(0, .ref 0), (1, vi a0), (2, vi a1), (3, vi x3)], [], hp_w h4 cr, b, c)) ?_ 0 h1 ⟨g1, F2, FR.refl, (show (0 ≤ 0 ∧ 0 ≤ 2147483647) by omega)⟩
  intro x3 h4 ⟨g4, F5, u4, f4⟩ I4
  refine wi_iload_n (i := 3) (e := x3) (nx := 14) (r1 := 0) (r2 := 0) (r3 := 0) rfl rfl ?_
  refine wi_iload_n (i := 1) (e := a0) (nx := 15) (r1 := 0) (r2 := 0) (r3 := 0) rfl rfl ?_
  refine wi_icmp (cd := .ge) (nx := 18) (r1 := 59) (r2 := 0) (r3 := 0) rfl (by omega) (by omega) (fun (q6 : a0 ≤ x3) => ?_) (fun (q6 : ¬ (a0 ≤ x3)) => ?_)
  ·
    refine wi_iload_n (i := 1) (e := a0) (nx := 60) (r1 := 0) (r2 := 0) (r3 := 0) rfl rfl ?_
    refine wi_ireturn (nx := 61) (r1 := 0) (r2 := 0) (r3 := 0) rfl rfl ?_
    exact k h4 a0 g4 F5 (by omega)
  ·
    refine wi_iload_n (i := 2) (e := a1) (nx := 19) (r1 := 0) (r2 := 0) (r3 := 0) rfl rfl ?_
    refine wi_iconst (n := (-1)) (nx := 20) (r1 := 0) (r2 := 0) (r3 := 0) rfl ?_
    refine wi_icmp (cd := .eq) (nx := 23) (r1 := 40) (r2 := 0) (r3 := 0) rfl (by omega) (by omega) (fun (q7 : a1 = (-1)) => ?_) (fun (q7 : ¬ (a1 = (-1))) => ?_)
    ·
      refine wi_aload_n (i := 0) (x := 0) (nx := 41) (r1 := 0) (r2 := 0) (r3 := 0) rfl rfl ?_
      refine wr_gr (k0 := 0) (x := 37) (nx := 44) (r1 := 0) (r2 := 4) (r3 := 0) rfl rfl (by decide) rfl ⟨rfl, rfl⟩ rfl ?_
      refine wr_V (k0 := 37) (rest := []) (as := [.ref 37]) (nx := 47) (r1 := 134) (r2 := 0) (r3 := 4) rfl rfl rfl (of_decide_eq_true rfl) rfl rfl (by decide) rfl rfl (of_decide_eq_true rfl) (of_decide_eq_true rfl) ?_
      refine ct_134_37 hcr  g4    (fun h8 z9 g8 u8 (fz9 : -1 ≤ z9 ∧ z9 ≤ 3) => ?_)
      have F10 := F5.then (by decide +kernel) u8
      have F11 := u4.then (by decide +kernel) u8
      refine wk_i ?_
      refine wi_iconst (n := (-1)) (nx := 48) (r1 := 0) (r2 := 0) (r3 := 0) rfl ?_
      refine wi_icmp (cd := .ne) (nx := 51) (r1 := 53) (r2 := 0) (r3 := 0) rfl (by omega) (by omega) (fun (q12 : z9 ≠ (-1)) => ?_) (fun (q12 : ¬ (z9 ≠ (-1))) => ?_)
      ·
        refine wr_iinc (i := 3) (n := 1) (v := x3) (fun e13 => [(3, vi e13), (0, .ref 0), (1, vi a0), (2, vi a1)]) (nx := 56) (r1 := 0) (r2 := 0) (r3 := 0) rfl rfl (fun _ => rfl) (fun e13 (fe13 : e13 = x3 + 1) => ?_)
        refine wi_goto (nx := 59) (r1 := 13) (r2 := 0) (r3 := 0) rfl ?_
        refine wp.lo (lo := [(0, .ref 0), (1, vi a0), (2, vi a1), (3, vi e13)]) ⟨rfl, rfl, rfl, rfl, trivial⟩ rfl ?_
        exact I4 e13 h8 ⟨g8, F10, F11, (show (0 ≤ e13 ∧ e13 ≤ 2147483647) by omega)⟩ (show ((2147483647 : Int) + 1 - e13).toNat < ((2147483647 : Int) + 1 - x3).toNat by omega)
      ·
        refine wi_iload_n (i := 3) (e := x3) (nx := 52) (r1 := 0) (r2 := 0) (r3 := 0) rfl rfl ?_
        refine wi_ireturn (nx := 53) (r1 := 0) (r2 := 0) (r3 := 0) rfl rfl ?_
        exact k h8 x3 g8 F10 (by omega)
    ·
      refine wi_aload_n (i := 0) (x := 0) (nx := 24) (r1 := 0) (r2 := 0) (r3 := 0) rfl rfl ?_
      refine wr_gr (k0 := 0) (x := 37) (nx := 27) (r1 := 0) (r2 := 4) (r3 := 0) rfl rfl (by decide) rfl ⟨rfl, rfl⟩ rfl ?_
      refine wr_gr (k0 := 37) (x := 45) (nx := 30) (r1 := 4) (r2 := 6) (r3 := 0) rfl rfl (by decide) rfl ⟨rfl, rfl⟩ rfl ?_
      refine wi_iload_n (i := 2) (e := a1) (nx := 31) (r1 := 0) (r2 := 0) (r3 := 0) rfl rfl ?_
      refine wr_V (k0 := 45) (rest := []) (as := [.ref 45, vi a1]) (nx := 34) (r1 := 159) (r2 := 1) (r3 := 5) rfl rfl rfl (of_decide_eq_true rfl) rfl rfl (by decide) rfl rfl (of_decide_eq_true rfl) (of_decide_eq_true rfl) ?_
      refine ct_159_R hcr rw_45 g4 a1 (by omega)  (fun z9  (fz9 : -1 ≤ z9 ∧ z9 ≤ 11) => ?_)
      refine wk_i ?_
      refine wi_iconst (n := (-1)) (nx := 35) (r1 := 0) (r2 := 0) (r3 := 0) rfl ?_
      refine wi_icmp (cd := .eq) (nx := 38) (r1 := 40) (r2 := 0) (r3 := 0) rfl (by omega) (by omega) (fun (q10 : z9 = (-1)) => ?_) (fun (q10 : ¬ (z9 = (-1))) => ?_)
      ·
        refine wi_aload_n (i := 0) (x := 0) (nx := 41) (r1 := 0) (r2 := 0) (r3 := 0) rfl rfl ?_
        refine wr_gr (k0 := 0) (x := 37) (nx := 44) (r1 := 0) (r2 := 4) (r3 := 0) rfl rfl (by decide) rfl ⟨rfl, rfl⟩ rfl ?_
        refine wr_V (k0 := 37) (rest := []) (as := [.ref 37]) (nx := 47) (r1 := 134) (r2 := 0) (r3 := 4) rfl rfl rfl (of_decide_eq_true rfl) rfl rfl (by decide) rfl rfl (of_decide_eq_true rfl) (of_decide_eq_true rfl) ?_
        refine ct_134_37 hcr  g4    (fun h11 z12 g11 u11 (fz12 : -1 ≤ z12 ∧ z12 ≤ 3) => ?_)
        have F13 := F5.then (by decide +kernel) u11
        have F14 := u4.then (by decide +kernel) u11
        refine wk_i ?_
        refine wi_iconst (n := (-1)) (nx := 48) (r1 := 0) (r2 := 0) (r3 := 0) rfl ?_
        refine wi_icmp (cd := .ne) (nx := 51) (r1 := 53) (r2 := 0) (r3 := 0) rfl (by omega) (by omega) (fun (q15 : z12 ≠ (-1)) => ?_) (fun (q15 : ¬ (z12 ≠ (-1))) => ?_)
        ·
          refine wr_iinc (i := 3) (n := 1) (v := x3) (fun e16 => [(3, vi e16), (0, .ref 0), (1, vi a0), (2, vi a1)]) (nx := 56) (r1 := 0) (r2 := 0) (r3 := 0) rfl rfl (fun _ => rfl) (fun e16 (fe16 : e16 = x3 + 1) => ?_)
          refine wi_goto (nx := 59) (r1 := 13) (r2 := 0) (r3 := 0) rfl ?_
          refine wp.lo (lo := [(0, .ref 0), (1, vi a0), (2, vi a1), (3, vi e16)]) ⟨rfl, rfl, rfl, rfl, trivial⟩ rfl ?_
          exact I4 e16 h11 ⟨g11, F13, F14, (show (0 ≤ e16 ∧ e16 ≤ 2147483647) by omega)⟩ (show ((2147483647 : Int) + 1 - e16).toNat < ((2147483647 : Int) + 1 - x3).toNat by omega)
        ·
          refine wi_iload_n (i := 3) (e := x3) (nx := 52) (r1 := 0) (r2 := 0) (r3 := 0) rfl rfl ?_
          refine wi_ireturn (nx := 53) (r1 := 0) (r2 := 0) (r3 := 0) rfl rfl ?_
          exact k h11 x3 g11 F13 (by omega)
      ·
        refine wi_iload_n (i := 3) (e := x3) (nx := 39) (r1 := 0) (r2 := 0) (r3 := 0) rfl rfl ?_
        refine wi_ireturn (nx := 40) (r1 := 0) (r2 := 0) (r3 := 0) rfl rfl ?_
        exact k h4 x3 g4 F5 (by omega)
-- method 81: Bank.ruleCost(I)I
set_option maxRecDepth 100000 in
set_option maxHeartbeats 100000000 in
theorem ct_81_0 {L : Nat} {xs : Nat → Int32} {d b c : Nat} {h : hp} {cr : Nat → Nat → Option Nat} {Q : hp_Q} (hcr : CR cr) (hr : 1 ≤ b ∧ 6 ≤ c)  (g : GI h) (a0 : Int) (q0_ : -2147483648 ≤ a0 ∧ a0 ≤ 2147483647)  (k : ∀ (h2 : hp) (z0 : Int) , GI h2 → FR [(37, 55, none)] h h2 → (-2147483648 ≤ z0 ∧ z0 ≤ 2147483647) → Q (.inl (some (vi z0))) (hp_w h2 cr) b c) (kx1 : ∀ (h2 : hp), GI h2 → FR [(37, 55, none)] h h2 → Q (.inr 1) (hp_w h2 cr) (b - 1) (c - 6)) : wp (md_xa (L, xs)) (d + 5) 81 (0, [(0, .ref 0), (1, vi a0)], [], hp_w h cr, b, c) Q := by
  have F0 : FR [(37, 55, none)] h h := FR.refl
  refine wi_iload_n (i := 1) (e := a0) (nx := 1) (r1 := 0) (r2 := 0) (r3 := 0) rfl rfl ?_
  refine wi_S (rest := []) (as := [vi a0]) (nx := 4) (r1 := 82) (r2 := 17) (r3 := 0) rfl rfl rfl (of_decide_eq_true rfl) rfl rfl (of_decide_eq_true rfl) (of_decide_eq_true rfl) ?_
  refine wi_iload_n (i := 0) (e := a0) (nx := 1) (r1 := 0) (r2 := 0) (r3 := 0) rfl rfl ?_
  refine wi_if (cd := .lt) (nx := 4) (r1 := 11) (r2 := 0) (r3 := 0) rfl (by omega) (fun (q1 : a0 < 0) => ?_) (fun (q1 : ¬ (a0 < 0)) => ?_)
  ·
    refine wr_throw (Ex := 1) (nx := 14) (r1 := 1) (r2 := 0) (r3 := 1) rfl (by decide) rfl hr (by decide) ?_
    refine wk_x rfl ?_
    exact kx1 h g F0
  ·
    refine wi_iload_n (i := 0) (e := a0) (nx := 5) (r1 := 0) (r2 := 0) (r3 := 0) rfl rfl ?_
    refine wi_sipush (n := 300) (nx := 8) (r1 := 0) (r2 := 0) (r3 := 0) rfl (by decide) ?_
    refine wi_icmp (cd := .le) (nx := 11) (r1 := 22) (r2 := 0) (r3 := 0) rfl (by omega) (by omega) (fun (q2 : a0 ≤ 300) => ?_) (fun (q2 : ¬ (a0 ≤ 300)) => ?_)
    ·
      refine wi_return (nx := 23) (r1 := 0) (r2 := 0) (r3 := 0) rfl rfl ?_
      refine wk_n ?_
      refine wi_aload_n (i := 0) (x := 0) (nx := 5) (r1 := 0) (r2 := 0) (r3 := 0) rfl rfl ?_
      refine wi_iload_n (i := 1) (e := a0) (nx := 6) (r1 := 0) (r2 := 0) (r3 := 0) rfl rfl ?_
      refine wi_iconst (n := (-1)) (nx := 7) (r1 := 0) (r2 := 0) (r3 := 0) rfl ?_
      refine wr_V (k0 := 0) (rest := []) (as := [.ref 0, vi a0, vi (-1)]) (nx := 10) (r1 := 83) (r2 := 2) (r3 := 0) rfl rfl rfl (of_decide_eq_true rfl) rfl rfl (by decide) rfl rfl (of_decide_eq_true rfl) (of_decide_eq_true rfl) ?_
      refine ct_83_0 hcr  g a0 (-1) (by omega) (by omega)  (fun h3 z4 g3 u3 (fz4 : -2147483648 ≤ z4 ∧ z4 ≤ 2147483647) => ?_)
      have F5 := F0.then (by decide +kernel) u3
      refine wk_i ?_
      refine wi_pop (nx := 11) (r1 := 0) (r2 := 0) (r3 := 0) rfl rfl ?_
      refine wi_aload_n (i := 0) (x := 0) (nx := 12) (r1 := 0) (r2 := 0) (r3 := 0) rfl rfl ?_
      refine wr_gr (k0 := 0) (x := 37) (nx := 15) (r1 := 0) (r2 := 4) (r3 := 0) rfl rfl (by decide) rfl ⟨rfl, rfl⟩ rfl ?_
      have b6 := gi_b (lo := -2147483648) (hi := 2147483647) g3 37 13 rfl
      refine wr_gi0 (k0 := 37) (x := h3 37 13) (nx := 18) (r1 := 4) (r2 := 13) (r3 := 0) rfl rfl (by decide) rfl ⟨rfl, rfl⟩ rfl rfl ?_
      refine wi_ireturn (nx := 19) (r1 := 0) (r2 := 0) (r3 := 0) rfl rfl ?_
      exact k h3 (h3 37 13) g3 F5 (by omega)
    ·
      refine wr_throw (Ex := 1) (nx := 14) (r1 := 1) (r2 := 0) (r3 := 1) rfl (by decide) rfl hr (by decide) ?_
      refine wk_x rfl ?_
      exact kx1 h g F0
-- method 84: Bank.ruleOut(I)I
set_option maxRecDepth 100000 in
set_option maxHeartbeats 100000000 in
theorem ct_84_0 {L : Nat} {xs : Nat → Int32} {d b c : Nat} {h : hp} {cr : Nat → Nat → Option Nat} {Q : hp_Q} (hcr : CR cr) (hr : 1 ≤ b ∧ 6 ≤ c)  (g : GI h) (a0 : Int) (q0_ : -2147483648 ≤ a0 ∧ a0 ≤ 2147483647)  (k : ∀ (h2 : hp) (z0 : Int) , GI h2 → FR [(37, 55, none)] h h2 → (0 ≤ z0 ∧ z0 ≤ 12) → Q (.inl (some (vi z0))) (hp_w h2 cr) b c) (kx1 : ∀ (h2 : hp), GI h2 → FR [(37, 55, none)] h h2 → Q (.inr 1) (hp_w h2 cr) (b - 1) (c - 6)) : wp (md_xa (L, xs)) (d + 5) 84 (0, [(0, .ref 0), (1, vi a0)], [], hp_w h cr, b, c) Q := by
  have F0 : FR [(37, 55, none)] h h := FR.refl
  refine wi_iload_n (i := 1) (e := a0) (nx := 1) (r1 := 0) (r2 := 0) (r3 := 0) rfl rfl ?_
  refine wi_S (rest := []) (as := [vi a0]) (nx := 4) (r1 := 82) (r2 := 17) (r3 := 0) rfl rfl rfl (of_decide_eq_true rfl) rfl rfl (of_decide_eq_true rfl) (of_decide_eq_true rfl) ?_
  refine wi_iload_n (i := 0) (e := a0) (nx := 1) (r1 := 0) (r2 := 0) (r3 := 0) rfl rfl ?_
  refine wi_if (cd := .lt) (nx := 4) (r1 := 11) (r2 := 0) (r3 := 0) rfl (by omega) (fun (q1 : a0 < 0) => ?_) (fun (q1 : ¬ (a0 < 0)) => ?_)
  ·
    refine wr_throw (Ex := 1) (nx := 14) (r1 := 1) (r2 := 0) (r3 := 1) rfl (by decide) rfl hr (by decide) ?_
    refine wk_x rfl ?_
    exact kx1 h g F0
  ·
    refine wi_iload_n (i := 0) (e := a0) (nx := 5) (r1 := 0) (r2 := 0) (r3 := 0) rfl rfl ?_
    refine wi_sipush (n := 300) (nx := 8) (r1 := 0) (r2 := 0) (r3 := 0) rfl (by decide) ?_
    refine wi_icmp (cd := .le) (nx := 11) (r1 := 22) (r2 := 0) (r3 := 0) rfl (by omega) (by omega) (fun (q2 : a0 ≤ 300) => ?_) (fun (q2 : ¬ (a0 ≤ 300)) => ?_)
    ·
      refine wi_return (nx := 23) (r1 := 0) (r2 := 0) (r3 := 0) rfl rfl ?_
      refine wk_n ?_
      refine wi_aload_n (i := 0) (x := 0) (nx := 5) (r1 := 0) (r2 := 0) (r3 := 0) rfl rfl ?_
      refine wi_iload_n (i := 1) (e := a0) (nx := 6) (r1 := 0) (r2 := 0) (r3 := 0) rfl rfl ?_
      refine wi_iconst (n := (-1)) (nx := 7) (r1 := 0) (r2 := 0) (r3 := 0) rfl ?_
      refine wr_V (k0 := 0) (rest := []) (as := [.ref 0, vi a0, vi (-1)]) (nx := 10) (r1 := 83) (r2 := 2) (r3 := 0) rfl rfl rfl (of_decide_eq_true rfl) rfl rfl (by decide) rfl rfl (of_decide_eq_true rfl) (of_decide_eq_true rfl) ?_
      refine ct_83_0 hcr  g a0 (-1) (by omega) (by omega)  (fun h3 z4 g3 u3 (fz4 : -2147483648 ≤ z4 ∧ z4 ≤ 2147483647) => ?_)
      have F5 := F0.then (by decide +kernel) u3
      refine wk_i ?_
      refine wi_pop (nx := 11) (r1 := 0) (r2 := 0) (r3 := 0) rfl rfl ?_
      refine wi_aload_n (i := 0) (x := 0) (nx := 12) (r1 := 0) (r2 := 0) (r3 := 0) rfl rfl ?_
      refine wr_gr (k0 := 0) (x := 37) (nx := 15) (r1 := 0) (r2 := 4) (r3 := 0) rfl rfl (by decide) rfl ⟨rfl, rfl⟩ rfl ?_
      refine wr_gr (k0 := 37) (x := 45) (nx := 18) (r1 := 4) (r2 := 6) (r3 := 0) rfl rfl (by decide) rfl ⟨rfl, rfl⟩ rfl ?_
      have b6 := gi_b (lo := 0) (hi := 12) g3 45 1 rfl
      refine wr_gi0 (k0 := 45) (x := h3 45 1) (nx := 21) (r1 := 5) (r2 := 1) (r3 := 0) rfl rfl (by decide) rfl ⟨rfl, rfl⟩ rfl rfl ?_
      refine wi_ireturn (nx := 22) (r1 := 0) (r2 := 0) (r3 := 0) rfl rfl ?_
      exact k h3 (h3 45 1) g3 F5 (by omega)
    ·
      refine wr_throw (Ex := 1) (nx := 14) (r1 := 1) (r2 := 0) (r3 := 1) rfl (by decide) rfl hr (by decide) ?_
      refine wk_x rfl ?_
      exact kx1 h g F0
-- method 39: Bank.run()I
set_option maxRecDepth 100000 in
set_option maxHeartbeats 100000000 in
theorem ct_39_0 {L : Nat} {xs : Nat → Int32} {d b c : Nat} {h : hp} {cr : Nat → Nat → Option Nat} {Q : hp_Q} (hcr : CR cr)  (g : GI h)    (k : ∀ (z0 : Int), (-2147483648 ≤ z0 ∧ z0 ≤ 2147483647) → Q (.inl (some (vi z0))) (hp_w h cr) b c) : wp (md_xa (L, xs)) d 39 (0, [(0, .ref 0)], [], hp_w h cr, b, c) Q := by
  have F0 : FR [] h h := FR.refl
  refine wi_aload_n (i := 0) (x := 0) (nx := 1) (r1 := 0) (r2 := 0) (r3 := 0) rfl rfl ?_
  refine wr_gr (k0 := 0) (x := 18) (nx := 4) (r1 := 0) (r2 := 3) (r3 := 0) rfl rfl (by decide) rfl ⟨rfl, rfl⟩ rfl ?_
  have b1 := gi_b (lo := -2147483648) (hi := 2147483647) g 18 9 rfl
  refine wr_gi0 (k0 := 18) (x := h 18 9) (nx := 7) (r1 := 4) (r2 := 9) (r3 := 0) rfl rfl (by decide) rfl ⟨rfl, rfl⟩ rfl rfl ?_
  refine wi_ireturn (nx := 8) (r1 := 0) (r2 := 0) (r3 := 0) rfl rfl ?_
  exact k (h 18 9) (by omega)
-- method 184: Script.add(LPaintBank$Word;I)V
set_option maxRecDepth 100000 in
set_option maxHeartbeats 100000000 in
theorem ct_184_68 {L : Nat} {xs : Nat → Int32} {d b c : Nat} {h : hp} {cr : Nat → Nat → Option Nat} {Q : hp_Q} (hcr : CR cr)  (g : GI h) (a0 : Int) (a1 : Int) (q0_ : 1 ≤ a0 ∧ a0 ≤ 21) (q1_ : -2147483648 ≤ a1 ∧ a1 ≤ 2147483647)  (k : ∀ (h2 : hp) , GI h2 → FR [(69, 69, none), (70, 70, none), (68, 68, some (10, 10))] h h2 → Q (.inl none) (hp_w h2 cr) b c) : wp (md_xa (L, xs)) d 184 (0, [(0, .ref 68), (1, wv a0), (2, vi a1)], [], hp_w h cr, b, c) Q := by
  have F0 : FR [(69, 69, none), (70, 70, none), (68, 68, some (10, 10))] h h := FR.refl
  refine wi_aload_n (i := 0) (x := 68) (nx := 1) (r1 := 0) (r2 := 0) (r3 := 0) rfl rfl ?_
  have b1 := gi_b (lo := 0) (hi := 80) g 68 10 rfl
  refine wr_gi0 (k0 := 68) (x := h 68 10) (nx := 4) (r1 := 8) (r2 := 10) (r3 := 0) rfl rfl (by decide) rfl ⟨rfl, rfl⟩ rfl rfl ?_
  refine wi_aload_n (i := 0) (x := 68) (nx := 5) (r1 := 0) (r2 := 0) (r3 := 0) rfl rfl ?_
  refine wr_gr (k0 := 68) (x := 69) (nx := 8) (r1 := 8) (r2 := 4) (r3 := 0) rfl rfl (by decide) rfl ⟨rfl, rfl⟩ rfl ?_
  refine wr_al (k0 := 69) (e := 80) (nx := 9) (r1 := 0) (r2 := 0) (r3 := 0) rfl (by decide) rfl rfl ?_
  refine wi_icmp (cd := .ge) (nx := 12) (r1 := 42) (r2 := 0) (r3 := 0) rfl (by omega) (by omega) (fun (q2 : 80 ≤ (h 68 10)) => ?_) (fun (q2 : ¬ (80 ≤ (h 68 10))) => ?_)
  ·
    refine wi_return (nx := 43) (r1 := 0) (r2 := 0) (r3 := 0) rfl rfl ?_
    exact k h g F0
  ·
    refine wi_aload_n (i := 0) (x := 68) (nx := 13) (r1 := 0) (r2 := 0) (r3 := 0) rfl rfl ?_
    refine wr_gr (k0 := 68) (x := 69) (nx := 16) (r1 := 8) (r2 := 4) (r3 := 0) rfl rfl (by decide) rfl ⟨rfl, rfl⟩ rfl ?_
    refine wi_aload_n (i := 0) (x := 68) (nx := 17) (r1 := 0) (r2 := 0) (r3 := 0) rfl rfl ?_
    refine wr_gi0 (k0 := 68) (x := h 68 10) (nx := 20) (r1 := 8) (r2 := 10) (r3 := 0) rfl rfl (by decide) rfl ⟨rfl, rfl⟩ rfl rfl ?_
    refine wi_aload_n (i := 1) (x := mm_XB + (a0 : Int).toNat) (nx := 21) (r1 := 0) (r2 := 0) (r3 := 0) rfl rfl ?_
    obtain ⟨i3, ei3⟩ : ∃ q : Nat, (h 68 10) = (q : Int) := ⟨(h 68 10).toNat, by omega⟩
    refine wr_as (k0 := 69) (a := h 68 10) (f := i3) (x := a0) (bl := 1) (bh := 21) (nx := 22) (r1 := 0) (r2 := 0) (r3 := 0) rfl (by decide) rfl (by omega) (by omega) (by omega) (by decide) g rfl (by omega) (fun h4 g4 w4 u4 => ?_)
    have F5 := F0.then rfl (FR.rngp (lo := 69) (hi := 69) u4 (by decide))
    refine wi_aload_n (i := 0) (x := 68) (nx := 23) (r1 := 0) (r2 := 0) (r3 := 0) rfl rfl ?_
    refine wr_gr (k0 := 68) (x := 70) (nx := 26) (r1 := 8) (r2 := 5) (r3 := 0) rfl rfl (by decide) rfl ⟨rfl, rfl⟩ rfl ?_
    refine wi_aload_n (i := 0) (x := 68) (nx := 27) (r1 := 0) (r2 := 0) (r3 := 0) rfl rfl ?_
    refine wr_gi0 (k0 := 68) (x := h 68 10) (nx := 30) (r1 := 8) (r2 := 10) (r3 := 0) rfl rfl (by decide) rfl ⟨rfl, rfl⟩ rfl (u4 68 10 (fn_a (by omega) fn_0)) ?_
    refine wi_iload_n (i := 2) (e := a1) (nx := 31) (r1 := 0) (r2 := 0) (r3 := 0) rfl rfl ?_
    refine wr_is (k0 := 70) (a := h 68 10) (f := i3) (x := a1) (bl := -2147483648) (bh := 2147483647) (nx := 32) (r1 := 0) (r2 := 0) (r3 := 0) rfl (by decide) rfl (by omega) (by omega) (by decide) g4 rfl (by omega) (fun h6 g6 w6 u6 => ?_)
    have F7 := F5.then rfl (FR.rngp (lo := 70) (hi := 70) u6 (by decide))
    refine wi_aload_n (i := 0) (x := 68) (nx := 33) (r1 := 0) (r2 := 0) (r3 := 0) rfl rfl ?_
    refine wi_dup (nx := 34) (r1 := 0) (r2 := 0) (r3 := 0) rfl rfl ?_
    refine wr_gi0 (k0 := 68) (x := h 68 10) (nx := 37) (r1 := 8) (r2 := 10) (r3 := 0) rfl rfl (by decide) rfl ⟨rfl, rfl⟩ rfl ((u6 68 10 (fn_a (by omega) fn_0)).trans (u4 68 10 (fn_a (by omega) fn_0))) ?_
    refine wi_iconst (n := 1) (nx := 38) (r1 := 0) (r2 := 0) (r3 := 0) rfl ?_
    refine wr_add (nx := 39) (r1 := 0) (r2 := 0) (r3 := 0) rfl (fun e8 (fe8 : e8 = (h 68 10) + 1) => ?_)
    refine wr_pf0 (k0 := 68) (x := e8) (bl := 0) (bh := 80) (nx := 42) (r1 := 8) (r2 := 10) (r3 := 0) rfl (by decide) rfl ⟨rfl, rfl⟩ rfl rfl g6 rfl (by omega) (fun h9 g9 w9 u9 => ?_)
    have F10 := F7.then rfl u9
    refine wi_return (nx := 43) (r1 := 0) (r2 := 0) (r3 := 0) rfl rfl ?_
    exact k h9 g9 F10
