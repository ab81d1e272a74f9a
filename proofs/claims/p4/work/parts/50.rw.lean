-- method 334: Model.runScript()I
set_option maxRecDepth 100000 in
set_option maxHeartbeats 100000000 in
theorem ct_334_236 {L : Nat} {xs : Nat → Int32} {d b c : Nat} {h : hp} {cr : Nat → Nat → Option Nat} {Q : hp_Q} (hcr : CR cr)  {tB : Nat → Int} {tn  : Int} (g : GI h)   (pp0 : h 238 98 + h 238 99 + h 238 100 + h 238 101 + h 238 102 + h 238 106 = h 238 73) (pp1 : h 238 73 ≤ h 238 2) (pp2 : h 238 119 ≤ h 238 67) (pp3 : h 238 69 ≤ h 238 5) (pp4 : h 238 2 ≤ 12 * h 238 5) (xq0 : RB0 tB tn h) (xq1 : GPS h) (gp0 : GPH h) (k : ∀ (h2 : hp) (z0 : Int) , GI h2 → FR [(240, 240, none), (242, 242, none), (246, 246, none), (248, 248, none), (249, 249, none), (250, 250, none), (251, 251, none), (252, 252, none), (253, 253, none), (254, 254, none), (257, 257, none), (236, 236, some (0, 0)), (236, 236, some (2, 2)), (236, 236, some (3, 3)), (236, 236, some (4, 4)), (236, 236, some (5, 5)), (236, 236, some (6, 6)), (236, 236, some (7, 7)), (236, 236, some (8, 8)), (236, 236, some (9, 9)), (236, 236, some (10, 10)), (236, 236, some (11, 11)), (236, 236, some (12, 12)), (236, 236, some (22, 22)), (236, 236, some (28, 28)), (236, 236, some (32, 32)), (236, 236, some (42, 42)), (236, 236, some (43, 43)), (236, 236, some (44, 44)), (236, 236, some (45, 45)), (238, 238, some (31, 53)), (238, 238, some (43, 54)), (238, 238, some (55, 66)), (238, 238, some (67, 67)), (238, 238, some (68, 68)), (238, 238, some (69, 69)), (238, 238, some (70, 70)), (238, 238, some (71, 71)), (238, 238, some (72, 72)), (238, 238, some (73, 73)), (238, 238, some (74, 79)), (238, 238, some (80, 85)), (238, 238, some (86, 91)), (238, 238, some (92, 97)), (238, 238, some (98, 98)), (238, 238, some (99, 99)), (238, 238, some (100, 100)), (238, 238, some (101, 101)), (238, 238, some (102, 102)), (238, 238, some (103, 105)), (238, 238, some (106, 106)), (238, 238, some (107, 118)), (238, 238, some (119, 119)), (238, 238, some (120, 196)), (238, 238, some (121, 197)), (238, 238, some (122, 198)), (238, 238, some (123, 199)), (247, 247, some (0, 0)), (247, 247, some (1, 1)), (247, 247, some (2, 2)), (247, 247, some (3, 3)), (255, 255, some (0, 0)), (255, 255, some (1, 1)), (256, 256, some (0, 0)), (256, 256, some (1, 1))] h h2 → (0 ≤ z0 ∧ z0 ≤ 100) → (h2 238 98 + h2 238 99 + h2 238 100 + h2 238 101 + h2 238 102 + h2 238 106 = h2 238 73) → (h2 238 73 ≤ h2 238 2) → (h2 238 119 ≤ h2 238 67) → (h2 238 69 ≤ h2 238 5) → (h2 238 2 ≤ 12 * h2 238 5) → (h2 236 2 = 0) → (h2 236 10 = sc_ec tB tn) → (h2 236 11 = sc_ep tB tn) → (GPS h2) → (GPH h2) → Q (.inl (some (vi z0))) (hp_w h2 cr) b c) : wp (md_xa (L, xs)) (d + 8) 334 (0, [(0, .ref 236)], [], hp_w h cr, b, c) Q := by
  have F0 : FR [(240, 240, none), (242, 242, none), (246, 246, none), (248, 248, none), (249, 249, none), (250, 250, none), (251, 251, none), (252, 252, none), (253, 253, none), (254, 254, none), (257, 257, none), (236, 236, some (0, 0)), (236, 236, some (2, 2)), (236, 236, some (3, 3)), (236, 236, some (4, 4)), (236, 236, some (5, 5)), (236, 236, some (6, 6)), (236, 236, some (7, 7)), (236, 236, some (8, 8)), (236, 236, some (9, 9)), (236, 236, some (10, 10)), (236, 236, some (11, 11)), (236, 236, some (12, 12)), (236, 236, some (22, 22)), (236, 236, some (28, 28)), (236, 236, some (32, 32)), (236, 236, some (42, 42)), (236, 236, some (43, 43)), (236, 236, some (44, 44)), (236, 236, some (45, 45)), (238, 238, some (31, 53)), (238, 238, some (43, 54)), (238, 238, some (55, 66)), (238, 238, some (67, 67)), (238, 238, some (68, 68)), (238, 238, some (69, 69)), (238, 238, some (70, 70)), (238, 238, some (71, 71)), (238, 238, some (72, 72)), (238, 238, some (73, 73)), (238, 238, some (74, 79)), (238, 238, some (80, 85)), (238, 238, some (86, 91)), (238, 238, some (92, 97)), (238, 238, some (98, 98)), (238, 238, some (99, 99)), (238, 238, some (100, 100)), (238, 238, some (101, 101)), (238, 238, some (102, 102)), (238, 238, some (103, 105)), (238, 238, some (106, 106)), (238, 238, some (107, 118)), (238, 238, some (119, 119)), (238, 238, some (120, 196)), (238, 238, some (121, 197)), (238, 238, some (122, 198)), (238, 238, some (123, 199)), (247, 247, some (0, 0)), (247, 247, some (1, 1)), (247, 247, some (2, 2)), (247, 247, some (3, 3)), (255, 255, some (0, 0)), (255, 255, some (1, 1)), (256, 256, some (0, 0)), (256, 256, some (1, 1))] h h := FR.refl
  have tb_1 : h 236 2 = tn := xq0.2.1
  have tb_2 : 0 ≤ tn ∧ tn ≤ 800 := xq0.2.2
  have b1 := gi_b (lo := 0) (hi := 6) g 238 98 rfl
  have b2 := gi_b (lo := 0) (hi := 6) g 238 99 rfl
  have b3 := gi_b (lo := 0) (hi := 6) g 238 100 rfl
  have b4 := gi_b (lo := 0) (hi := 6) g 238 101 rfl
  have b5 := gi_b (lo := 0) (hi := 3) g 238 102 rfl
  have b6 := gi_b (lo := 0) (hi := 12) g 238 106 rfl
  have b7 := gi_b (lo := 0) (hi := 12) g 238 73 rfl
  have b8 := gi_b (lo := 0) (hi := 12) g 238 2 rfl
  have b9 := gi_b (lo := 0) (hi := 9999) g 238 119 rfl
  have b10 := gi_b (lo := 0) (hi := 9999) g 238 67 rfl
  have b11 := gi_b (lo := 0) (hi := 9) g 238 69 rfl
  have b12 := gi_b (lo := 0) (hi := 9) g 238 5 rfl
  refine wi_aload_n (i := 0) (x := 236) (nx := 1) (r1 := 0) (r2 := 0) (r3 := 0) rfl rfl ?_
  refine wr_V (k0 := 236) (rest := []) (as := [.ref 236]) (nx := 4) (r1 := 214) (r2 := 0) (r3 := 11) rfl rfl rfl (of_decide_eq_true rfl) rfl rfl (by decide) rfl rfl (of_decide_eq_true rfl) (of_decide_eq_true rfl) ?_
  refine ct_214_236 hcr  g    xq0 (fun h13 g13 u13 (p13_0 : (h13 236 8) = 0) (p13_1 : (h13 236 4) ≤ (h13 236 3)) (p13_2 : (h13 236 2) = 0) (p13_3 : (h13 236 9) = -1) (p13_4 : ((h13 236 4) = tk_nx tB tn 0 ∧ (h13 236 5) = tk_st tB tn 0 ∧ TKk tB tn 0 ((h13 236 6)) ((h13 236 7)) ((h13 236 12)))) (p13_5 : 0 ≤ tn ∧ tn ≤ 800) (p13_6 : (h13 236 3) = tn) y13_0 => ?_)
  have F14 := F0.then (by decide +kernel) u13
  have b15 := gi_b (lo := 0) (hi := 5) g13 236 8 rfl
  have b16 := gi_b (lo := 0) (hi := 800) g13 236 4 rfl
  have b17 := gi_b (lo := 0) (hi := 800) g13 236 3 rfl
  have b18 := gi_b (lo := 0) (hi := 800) g13 236 2 rfl
  have b19 := gi_b (lo := -2147483648) (hi := 2147483647) g13 236 9 rfl
  have b20 := gi_b (lo := 0) (hi := 800) g13 236 5 rfl
  have b21 := gi_b (lo := 0) (hi := 4) g13 236 6 rfl
  have b22 := gi_b (lo := 0) (hi := 999) g13 236 7 rfl
  have b23 := gi_b (lo := -9223372036854775808) (hi := 9223372036854775807) g13 236 12 rfl
  have tkk24 := p13_4.2.2
  have tN25 := @tk_nx_b tB tn 0 (by omega) (by omega)
  refine wk_n ?_
  refine wi_aload_n (i := 0) (x := 236) (nx := 5) (r1 := 0) (r2 := 0) (r3 := 0) rfl rfl ?_
  refine wi_iconst (n := 0) (nx := 6) (r1 := 0) (r2 := 0) (r3 := 0) rfl ?_
  refine wr_pf0 (k0 := 236) (x := 0) (bl := 0) (bh := 80) (nx := 9) (r1 := 11) (r2 := 42) (r3 := 0) rfl (by decide) rfl ⟨rfl, rfl⟩ rfl rfl g13 rfl (by omega) (fun h26 g26 w26 u26 => ?_)
  have F27 := F14.then rfl u26
  refine wi_aload_n (i := 0) (x := 236) (nx := 10) (r1 := 0) (r2 := 0) (r3 := 0) rfl rfl ?_
  refine wi_iconst (n := 0) (nx := 11) (r1 := 0) (r2 := 0) (r3 := 0) rfl ?_
  refine wr_pf0 (k0 := 236) (x := 0) (bl := 0) (bh := 40) (nx := 14) (r1 := 11) (r2 := 43) (r3 := 0) rfl (by decide) rfl ⟨rfl, rfl⟩ rfl rfl g26 rfl (by omega) (fun h28 g28 w28 u28 => ?_)
  have F29 := F27.then rfl u28
  refine wi_aload_n (i := 0) (x := 236) (nx := 15) (r1 := 0) (r2 := 0) (r3 := 0) rfl rfl ?_
  refine wi_iconst (n := 0) (nx := 16) (r1 := 0) (r2 := 0) (r3 := 0) rfl ?_
  refine wr_pf0 (k0 := 236) (x := 0) (bl := 0) (bh := 2) (nx := 19) (r1 := 11) (r2 := 44) (r3 := 0) rfl (by decide) rfl ⟨rfl, rfl⟩ rfl rfl g28 rfl (by omega) (fun h30 g30 w30 u30 => ?_)
  have F31 := F29.then rfl u30
  refine wi_aload_n (i := 0) (x := 236) (nx := 20) (r1 := 0) (r2 := 0) (r3 := 0) rfl rfl ?_
  refine wr_V (k0 := 236) (rest := []) (as := [.ref 236]) (nx := 23) (r1 := 219) (r2 := 0) (r3 := 11) rfl rfl rfl (of_decide_eq_true rfl) rfl rfl (by decide) rfl rfl (of_decide_eq_true rfl) (of_decide_eq_true rfl) ?_
  refine wi_aload_n (i := 0) (x := 236) (nx := 1) (r1 := 0) (r2 := 0) (r3 := 0) rfl rfl ?_
  refine wr_gi0 (k0 := 236) (x := h13 236 8) (nx := 4) (r1 := 11) (r2 := 8) (r3 := 0) rfl rfl (by decide) rfl ⟨rfl, rfl⟩ rfl ((u30 236 8 rfl).trans ((u28 236 8 rfl).trans (u26 236 8 rfl))) ?_
  refine wi_if (cd := .ne) (nx := 7) (r1 := 11) (r2 := 0) (r3 := 0) rfl (by omega) (fun (q32 : (h13 236 8) ≠ 0) => by exfalso; omega) (fun (q32 : ¬ ((h13 236 8) ≠ 0)) => ?_)
  refine wi_iconst (n := 1) (nx := 8) (r1 := 0) (r2 := 0) (r3 := 0) rfl ?_
  refine wi_goto (nx := 11) (r1 := 12) (r2 := 0) (r3 := 0) rfl ?_
  refine wi_zreturn (nx := 13) (r1 := 0) (r2 := 0) (r3 := 0) rfl rfl (by omega) ?_
  refine wk_i ?_
  refine wi_if (cd := .eq) (nx := 26) (r1 := 63) (r2 := 0) (r3 := 0) rfl (by omega) (fun (q34 : 1 = 0) => by exfalso; omega) (fun (q34 : ¬ (1 = 0)) => ?_)
  refine wi_aload_n (i := 0) (x := 236) (nx := 27) (r1 := 0) (r2 := 0) (r3 := 0) rfl rfl ?_
  refine wr_gi0 (k0 := 236) (x := h13 236 6) (nx := 30) (r1 := 11) (r2 := 6) (r3 := 0) rfl rfl (by decide) rfl ⟨rfl, rfl⟩ rfl ((u30 236 6 rfl).trans ((u28 236 6 rfl).trans (u26 236 6 rfl))) ?_
  refine wi_if (cd := .eq) (nx := 33) (r1 := 63) (r2 := 0) (r3 := 0) rfl (by omega) (fun (q35 : (h13 236 6) = 0) => ?_) (fun (q35 : ¬ ((h13 236 6) = 0)) => ?_)
  ·
    try have kf36 := TKk.e0 (B := tB) (n := tn) (p := 0) (a6 := h13 236 6) (by assumption) (by omega)
    refine wi_aload_n (i := 0) (x := 236) (nx := 64) (r1 := 0) (r2 := 0) (r3 := 0) rfl rfl ?_
    refine wr_V (k0 := 236) (rest := []) (as := [.ref 236]) (nx := 67) (r1 := 219) (r2 := 0) (r3 := 11) rfl rfl rfl (of_decide_eq_true rfl) rfl rfl (by decide) rfl rfl (of_decide_eq_true rfl) (of_decide_eq_true rfl) ?_
    refine wi_aload_n (i := 0) (x := 236) (nx := 1) (r1 := 0) (r2 := 0) (r3 := 0) rfl rfl ?_
    refine wr_gi0 (k0 := 236) (x := h13 236 8) (nx := 4) (r1 := 11) (r2 := 8) (r3 := 0) rfl rfl (by decide) rfl ⟨rfl, rfl⟩ rfl ((u30 236 8 rfl).trans ((u28 236 8 rfl).trans (u26 236 8 rfl))) ?_
    refine wi_if (cd := .ne) (nx := 7) (r1 := 11) (r2 := 0) (r3 := 0) rfl (by omega) (fun (q37 : (h13 236 8) ≠ 0) => by exfalso; omega) (fun (q37 : ¬ ((h13 236 8) ≠ 0)) => ?_)
    refine wi_iconst (n := 1) (nx := 8) (r1 := 0) (r2 := 0) (r3 := 0) rfl ?_
    refine wi_goto (nx := 11) (r1 := 12) (r2 := 0) (r3 := 0) rfl ?_
    refine wi_zreturn (nx := 13) (r1 := 0) (r2 := 0) (r3 := 0) rfl rfl (by omega) ?_
    refine wk_i ?_
    refine wi_if (cd := .eq) (nx := 70) (r1 := 82) (r2 := 0) (r3 := 0) rfl (by omega) (fun (q39 : 1 = 0) => by exfalso; omega) (fun (q39 : ¬ (1 = 0)) => ?_)
    refine wi_aload_n (i := 0) (x := 236) (nx := 71) (r1 := 0) (r2 := 0) (r3 := 0) rfl rfl ?_
    refine wr_gi0 (k0 := 236) (x := 0) (nx := 74) (r1 := 11) (r2 := 44) (r3 := 0) rfl rfl (by decide) rfl ⟨rfl, rfl⟩ rfl w30 ?_
    refine wi_if (cd := .le) (nx := 77) (r1 := 82) (r2 := 0) (r3 := 0) rfl (by omega) (fun (q40 : 0 ≤ 0) => ?_) (fun (q40 : ¬ (0 ≤ 0)) => by exfalso; omega)
    have e42 : h30 236 8 = h13 236 8 := ((u30 236 8 rfl).trans ((u28 236 8 rfl).trans (u26 236 8 rfl)))
    have e43 : h30 236 9 = h13 236 9 := ((u30 236 9 rfl).trans ((u28 236 9 rfl).trans (u26 236 9 rfl)))
    have e44 : h30 236 44 = 0 := w30
    have RE41 := sc_REq (show sc_RES tB tn = _ from (sc_e0 (f := 800) (p := 0) (o := 0) (m := 0) (by omega) rfl))
    refine wi_aload_n (i := 0) (x := 236) (nx := 83) (r1 := 0) (r2 := 0) (r3 := 0) rfl rfl ?_
    refine wr_V (k0 := 236) (rest := []) (as := [.ref 236]) (nx := 86) (r1 := 237) (r2 := 0) (r3 := 11) rfl rfl rfl (of_decide_eq_true rfl) rfl rfl (by decide) rfl rfl (of_decide_eq_true rfl) (of_decide_eq_true rfl) ?_
    refine wi_aload_n (i := 0) (x := 236) (nx := 1) (r1 := 0) (r2 := 0) (r3 := 0) rfl rfl ?_
    refine wi_aload_n (i := 0) (x := 236) (nx := 2) (r1 := 0) (r2 := 0) (r3 := 0) rfl rfl ?_
    refine wr_gi0 (k0 := 236) (x := h13 236 8) (nx := 5) (r1 := 11) (r2 := 8) (r3 := 0) rfl rfl (by decide) rfl ⟨rfl, rfl⟩ rfl ((u30 236 8 rfl).trans ((u28 236 8 rfl).trans (u26 236 8 rfl))) ?_
    refine wr_pf0 (k0 := 236) (x := h13 236 8) (bl := -2147483648) (bh := 2147483647) (nx := 8) (r1 := 11) (r2 := 10) (r3 := 0) rfl (by decide) rfl ⟨rfl, rfl⟩ rfl rfl g30 rfl (by omega) (fun h45 g45 w45 u45 => ?_)
    have F46 := F31.then rfl u45
    refine wi_aload_n (i := 0) (x := 236) (nx := 9) (r1 := 0) (r2 := 0) (r3 := 0) rfl rfl ?_
    refine wi_aload_n (i := 0) (x := 236) (nx := 10) (r1 := 0) (r2 := 0) (r3 := 0) rfl rfl ?_
    refine wr_gi0 (k0 := 236) (x := h13 236 9) (nx := 13) (r1 := 11) (r2 := 9) (r3 := 0) rfl rfl (by decide) rfl ⟨rfl, rfl⟩ rfl ((u45 236 9 rfl).trans ((u30 236 9 rfl).trans ((u28 236 9 rfl).trans (u26 236 9 rfl)))) ?_
    refine wr_pf0 (k0 := 236) (x := h13 236 9) (bl := -2147483648) (bh := 2147483647) (nx := 16) (r1 := 11) (r2 := 11) (r3 := 0) rfl (by decide) rfl ⟨rfl, rfl⟩ rfl rfl g45 rfl (by omega) (fun h47 g47 w47 u47 => ?_)
    have F48 := F46.then rfl u47
    refine wi_aload_n (i := 0) (x := 236) (nx := 17) (r1 := 0) (r2 := 0) (r3 := 0) rfl rfl ?_
    refine wi_aload_n (i := 0) (x := 236) (nx := 18) (r1 := 0) (r2 := 0) (r3 := 0) rfl rfl ?_
    refine wr_gi0 (k0 := 236) (x := h13 236 8) (nx := 21) (r1 := 11) (r2 := 8) (r3 := 0) rfl rfl (by decide) rfl ⟨rfl, rfl⟩ rfl ((u47 236 8 rfl).trans ((u45 236 8 rfl).trans ((u30 236 8 rfl).trans ((u28 236 8 rfl).trans (u26 236 8 rfl))))) ?_
    refine wi_if (cd := .ne) (nx := 24) (r1 := 28) (r2 := 0) (r3 := 0) rfl (by omega) (fun (q49 : (h13 236 8) ≠ 0) => by exfalso; omega) (fun (q49 : ¬ ((h13 236 8) ≠ 0)) => ?_)
    refine wi_iconst (n := 1) (nx := 25) (r1 := 0) (r2 := 0) (r3 := 0) rfl ?_
    refine wi_goto (nx := 28) (r1 := 29) (r2 := 0) (r3 := 0) rfl ?_
    refine wr_V (k0 := 236) (rest := []) (as := [.ref 236, vi 1]) (nx := 32) (r1 := 206) (r2 := 1) (r3 := 11) rfl rfl rfl (of_decide_eq_true rfl) rfl rfl (by decide) rfl rfl (of_decide_eq_true rfl) (of_decide_eq_true rfl) ?_
    refine wi_aload_n (i := 0) (x := 236) (nx := 1) (r1 := 0) (r2 := 0) (r3 := 0) rfl rfl ?_
    refine wi_iload_n (i := 1) (e := 1) (nx := 2) (r1 := 0) (r2 := 0) (r3 := 0) rfl rfl ?_
    refine wi_if (cd := .ne) (nx := 5) (r1 := 9) (r2 := 0) (r3 := 0) rfl (by omega) (fun (q51 : 1 ≠ 0) => ?_) (fun (q51 : ¬ (1 ≠ 0)) => by exfalso; omega)
    refine wi_iconst (n := 0) (nx := 10) (r1 := 0) (r2 := 0) (r3 := 0) rfl ?_
    refine wi_S (rest := [.ref 236]) (as := [vi 0]) (nx := 13) (r1 := 207) (r2 := 17) (r3 := 0) rfl rfl rfl (of_decide_eq_true rfl) rfl rfl (of_decide_eq_true rfl) (of_decide_eq_true rfl) ?_
    refine wi_iload_n (i := 0) (e := 0) (nx := 1) (r1 := 0) (r2 := 0) (r3 := 0) rfl rfl ?_
    refine wi_if (cd := .eq) (nx := 4) (r1 := 8) (r2 := 0) (r3 := 0) rfl (by omega) (fun (q52 : 0 = 0) => ?_) (fun (q52 : ¬ (0 = 0)) => by exfalso; omega)
    refine wi_iconst (n := 0) (nx := 9) (r1 := 0) (r2 := 0) (r3 := 0) rfl ?_
    refine wi_ireturn (nx := 10) (r1 := 0) (r2 := 0) (r3 := 0) rfl rfl ?_
    refine wk_i ?_
    refine wr_pf0 (k0 := 236) (x := 0) (bl := 0) (bh := 2) (nx := 16) (r1 := 11) (r2 := 0) (r3 := 0) rfl (by decide) rfl ⟨rfl, rfl⟩ rfl rfl g47 rfl (by omega) (fun h53 g53 w53 u53 => ?_)
    have F54 := F48.then rfl u53
    refine wi_iload_n (i := 1) (e := 1) (nx := 17) (r1 := 0) (r2 := 0) (r3 := 0) rfl rfl ?_
    refine wi_zreturn (nx := 18) (r1 := 0) (r2 := 0) (r3 := 0) rfl rfl (by omega) ?_
    refine wk_i ?_
    refine wi_zreturn (nx := 33) (r1 := 0) (r2 := 0) (r3 := 0) rfl rfl (by omega) ?_
    refine wk_i ?_
    refine wi_if (cd := .ne) (nx := 89) (r1 := 91) (r2 := 0) (r3 := 0) rfl (by omega) (fun (q55 : 1 ≠ 0) => ?_) (fun (q55 : ¬ (1 ≠ 0)) => by exfalso; omega)
    refine wi_aload_n (i := 0) (x := 236) (nx := 92) (r1 := 0) (r2 := 0) (r3 := 0) rfl rfl ?_
    refine wr_gr (k0 := 236) (x := 238) (nx := 95) (r1 := 11) (r2 := 13) (r3 := 0) rfl rfl (by decide) rfl ⟨rfl, rfl⟩ rfl ?_
    refine wi_aload_n (i := 0) (x := 236) (nx := 96) (r1 := 0) (r2 := 0) (r3 := 0) rfl rfl ?_
    refine wr_gr (k0 := 236) (x := 257) (nx := 99) (r1 := 11) (r2 := 41) (r3 := 0) rfl rfl (by decide) rfl ⟨rfl, rfl⟩ rfl ?_
    refine wi_S (rest := []) (as := [.ref 238, .ref 257]) (nx := 102) (r1 := 238) (r2 := 18) (r3 := 0) rfl rfl rfl (of_decide_eq_true rfl) rfl rfl (of_decide_eq_true rfl) (of_decide_eq_true rfl) ?_
    refine ct_238_238_257 hcr  g53    (fun h56 g56 u56 y56_0 => ?_)
    have F57 := F54.then (by decide +kernel) u56
    refine wk_n ?_
    refine wi_aload_n (i := 0) (x := 236) (nx := 103) (r1 := 0) (r2 := 0) (r3 := 0) rfl rfl ?_
    refine wi_iconst (n := 0) (nx := 104) (r1 := 0) (r2 := 0) (r3 := 0) rfl ?_
    refine wr_pf2 (k0 := 236) (x := 0) (bl := 0) (bh := 1) (nx := 107) (r1 := 11) (r2 := 45) (r3 := 2) rfl (by decide) rfl ⟨rfl, rfl⟩ rfl (by omega) rfl g56 rfl (by omega) (fun h58 g58 w58 u58 => ?_)
    have F59 := F57.then rfl u58
    refine wi_aload_n (i := 0) (x := 236) (nx := 108) (r1 := 0) (r2 := 0) (r3 := 0) rfl rfl ?_
    refine wr_V (k0 := 236) (rest := []) (as := [.ref 236]) (nx := 111) (r1 := 339) (r2 := 0) (r3 := 11) rfl rfl rfl (of_decide_eq_true rfl) rfl rfl (by decide) rfl rfl (of_decide_eq_true rfl) (of_decide_eq_true rfl) ?_
    have e61 : h58 238 98 = h 238 98 := ((u58 238 98 rfl).trans ((u56 238 98 rfl).trans ((u53 238 98 rfl).trans ((u47 238 98 rfl).trans ((u45 238 98 rfl).trans ((u30 238 98 rfl).trans ((u28 238 98 rfl).trans ((u26 238 98 rfl).trans (u13 238 98 rfl)))))))))
    have e62 : h58 238 99 = h 238 99 := ((u58 238 99 rfl).trans ((u56 238 99 rfl).trans ((u53 238 99 rfl).trans ((u47 238 99 rfl).trans ((u45 238 99 rfl).trans ((u30 238 99 rfl).trans ((u28 238 99 rfl).trans ((u26 238 99 rfl).trans (u13 238 99 rfl)))))))))
    have e63 : h58 238 100 = h 238 100 := ((u58 238 100 rfl).trans ((u56 238 100 rfl).trans ((u53 238 100 rfl).trans ((u47 238 100 rfl).trans ((u45 238 100 rfl).trans ((u30 238 100 rfl).trans ((u28 238 100 rfl).trans ((u26 238 100 rfl).trans (u13 238 100 rfl)))))))))
    have e64 : h58 238 101 = h 238 101 := ((u58 238 101 rfl).trans ((u56 238 101 rfl).trans ((u53 238 101 rfl).trans ((u47 238 101 rfl).trans ((u45 238 101 rfl).trans ((u30 238 101 rfl).trans ((u28 238 101 rfl).trans ((u26 238 101 rfl).trans (u13 238 101 rfl)))))))))
    have e65 : h58 238 102 = h 238 102 := ((u58 238 102 rfl).trans ((u56 238 102 rfl).trans ((u53 238 102 rfl).trans ((u47 238 102 rfl).trans ((u45 238 102 rfl).trans ((u30 238 102 rfl).trans ((u28 238 102 rfl).trans ((u26 238 102 rfl).trans (u13 238 102 rfl)))))))))
    have e66 : h58 238 106 = h 238 106 := ((u58 238 106 rfl).trans ((u56 238 106 rfl).trans ((u53 238 106 rfl).trans ((u47 238 106 rfl).trans ((u45 238 106 rfl).trans ((u30 238 106 rfl).trans ((u28 238 106 rfl).trans ((u26 238 106 rfl).trans (u13 238 106 rfl)))))))))
    have e67 : h58 238 73 = h 238 73 := ((u58 238 73 rfl).trans ((u56 238 73 rfl).trans ((u53 238 73 rfl).trans ((u47 238 73 rfl).trans ((u45 238 73 rfl).trans ((u30 238 73 rfl).trans ((u28 238 73 rfl).trans ((u26 238 73 rfl).trans (u13 238 73 rfl)))))))))
    have e68 : h58 238 2 = h 238 2 := ((u58 238 2 rfl).trans ((u56 238 2 rfl).trans ((u53 238 2 rfl).trans ((u47 238 2 rfl).trans ((u45 238 2 rfl).trans ((u30 238 2 rfl).trans ((u28 238 2 rfl).trans ((u26 238 2 rfl).trans (u13 238 2 rfl)))))))))
    have e69 : h58 238 119 = h 238 119 := ((u58 238 119 rfl).trans ((u56 238 119 rfl).trans ((u53 238 119 rfl).trans ((u47 238 119 rfl).trans ((u45 238 119 rfl).trans ((u30 238 119 rfl).trans ((u28 238 119 rfl).trans ((u26 238 119 rfl).trans (u13 238 119 rfl)))))))))
    have e70 : h58 238 67 = h 238 67 := ((u58 238 67 rfl).trans ((u56 238 67 rfl).trans ((u53 238 67 rfl).trans ((u47 238 67 rfl).trans ((u45 238 67 rfl).trans ((u30 238 67 rfl).trans ((u28 238 67 rfl).trans ((u26 238 67 rfl).trans (u13 238 67 rfl)))))))))
    have e71 : h58 238 69 = h 238 69 := ((u58 238 69 rfl).trans ((u56 238 69 rfl).trans ((u53 238 69 rfl).trans ((u47 238 69 rfl).trans ((u45 238 69 rfl).trans ((u30 238 69 rfl).trans ((u28 238 69 rfl).trans ((u26 238 69 rfl).trans (u13 238 69 rfl)))))))))
    have e72 : h58 238 5 = h 238 5 := ((u58 238 5 rfl).trans ((u56 238 5 rfl).trans ((u53 238 5 rfl).trans ((u47 238 5 rfl).trans ((u45 238 5 rfl).trans ((u30 238 5 rfl).trans ((u28 238 5 rfl).trans ((u26 238 5 rfl).trans (u13 238 5 rfl)))))))))
    have e74 : h58 236 42 = 0 := ((u58 236 42 rfl).trans ((u56 236 42 rfl).trans ((u53 236 42 rfl).trans ((u47 236 42 rfl).trans ((u45 236 42 rfl).trans ((u30 236 42 rfl).trans ((u28 236 42 rfl).trans w26)))))))
    have e75 : h58 236 44 = 0 := ((u58 236 44 rfl).trans ((u56 236 44 rfl).trans ((u53 236 44 rfl).trans ((u47 236 44 rfl).trans ((u45 236 44 rfl).trans w30)))))
    have e76 : h58 236 8 = h13 236 8 := ((u58 236 8 rfl).trans ((u56 236 8 rfl).trans ((u53 236 8 rfl).trans ((u47 236 8 rfl).trans ((u45 236 8 rfl).trans ((u30 236 8 rfl).trans ((u28 236 8 rfl).trans (u26 236 8 rfl))))))))
    refine ct_339_236 hcr  g58   (show (h58 238 98) + (h58 238 99) + (h58 238 100) + (h58 238 101) + (h58 238 102) + (h58 238 106) = (h58 238 73) by omega) (show (h58 238 73) ≤ (h58 238 2) by omega) (show (h58 238 119) ≤ (h58 238 67) by omega) (show (h58 238 69) ≤ (h58 238 5) by omega) (show (h58 238 2) ≤ 12 * (h58 238 5) by omega) (by rw [show h58 236 42 = 0 by omega, show h58 236 44 = 0 by omega]; exact WP.zero) (fun h60 z73 g60 u60 (fz73 : 0 ≤ z73 ∧ z73 ≤ 100) (p60_0 : (h60 238 98) + (h60 238 99) + (h60 238 100) + (h60 238 101) + (h60 238 102) + (h60 238 106) = (h60 238 73)) (p60_1 : (h60 238 73) ≤ (h60 238 2)) (p60_2 : (h60 238 119) ≤ (h60 238 67)) (p60_3 : (h60 238 69) ≤ (h60 238 5)) (p60_4 : (h60 238 2) ≤ 12 * (h60 238 5)) => ?_)
    have F77 := F59.then (by decide +kernel) u60
    have b78 := gi_b (lo := 0) (hi := 6) g60 238 98 rfl
    have b79 := gi_b (lo := 0) (hi := 6) g60 238 99 rfl
    have b80 := gi_b (lo := 0) (hi := 6) g60 238 100 rfl
    have b81 := gi_b (lo := 0) (hi := 6) g60 238 101 rfl
    have b82 := gi_b (lo := 0) (hi := 3) g60 238 102 rfl
    have b83 := gi_b (lo := 0) (hi := 12) g60 238 106 rfl
    have b84 := gi_b (lo := 0) (hi := 12) g60 238 73 rfl
    have e85 : h60 238 2 = h 238 2 := ((u60 238 2 rfl).trans ((u58 238 2 rfl).trans ((u56 238 2 rfl).trans ((u53 238 2 rfl).trans ((u47 238 2 rfl).trans ((u45 238 2 rfl).trans ((u30 238 2 rfl).trans ((u28 238 2 rfl).trans ((u26 238 2 rfl).trans (u13 238 2 rfl))))))))))
    have b86 := gi_b (lo := 0) (hi := 9999) g60 238 119 rfl
    have b87 := gi_b (lo := 0) (hi := 9999) g60 238 67 rfl
    have b88 := gi_b (lo := 0) (hi := 9) g60 238 69 rfl
    have e89 : h60 238 5 = h 238 5 := ((u60 238 5 rfl).trans ((u58 238 5 rfl).trans ((u56 238 5 rfl).trans ((u53 238 5 rfl).trans ((u47 238 5 rfl).trans ((u45 238 5 rfl).trans ((u30 238 5 rfl).trans ((u28 238 5 rfl).trans ((u26 238 5 rfl).trans (u13 238 5 rfl))))))))))
    refine wk_i ?_
    refine wi_istore_n (i := 1) (e := z73) (lo2 := [(1, vi z73), (0, .ref 236)]) (nx := 112) (r1 := 0) (r2 := 0) (r3 := 0) rfl rfl ?_
    refine wi_aload_n (i := 0) (x := 236) (nx := 113) (r1 := 0) (r2 := 0) (r3 := 0) rfl rfl ?_
    have b90 := gi_b (lo := 0) (hi := 1) g60 236 45 rfl
    refine wr_gi2 (k0 := 236) (x := h60 236 45) (nx := 116) (r1 := 11) (r2 := 45) (r3 := 0) rfl rfl (by decide) rfl ⟨rfl, rfl⟩ rfl rfl ?_
    refine wi_if (cd := .ne) (nx := 119) (r1 := 121) (r2 := 0) (r3 := 0) rfl (by omega) (fun (q91 : (h60 236 45) ≠ 0) => ?_) (fun (q91 : ¬ ((h60 236 45) ≠ 0)) => ?_)
    ·
      replace q91 : 0 + 1 ≤ (h60 236 45) := by omega
      refine wi_aload_n (i := 0) (x := 236) (nx := 122) (r1 := 0) (r2 := 0) (r3 := 0) rfl rfl ?_
      refine wr_gr (k0 := 236) (x := 257) (nx := 125) (r1 := 11) (r2 := 41) (r3 := 0) rfl rfl (by decide) rfl ⟨rfl, rfl⟩ rfl ?_
      refine wi_aload_n (i := 0) (x := 236) (nx := 126) (r1 := 0) (r2 := 0) (r3 := 0) rfl rfl ?_
      refine wr_gr (k0 := 236) (x := 240) (nx := 129) (r1 := 11) (r2 := 15) (r3 := 0) rfl rfl (by decide) rfl ⟨rfl, rfl⟩ rfl ?_
      refine wi_S (rest := []) (as := [.ref 257, .ref 240]) (nx := 132) (r1 := 238) (r2 := 18) (r3 := 0) rfl rfl rfl (of_decide_eq_true rfl) rfl rfl (of_decide_eq_true rfl) (of_decide_eq_true rfl) ?_
      refine ct_238_257_240 hcr  g60    (fun h92 g92 u92 y92_0 => ?_)
      have F93 := F77.then (by decide +kernel) u92
      refine wk_n ?_
      refine wi_aload_n (i := 0) (x := 236) (nx := 133) (r1 := 0) (r2 := 0) (r3 := 0) rfl rfl ?_
      refine wr_V (k0 := 236) (rest := []) (as := [.ref 236]) (nx := 136) (r1 := 315) (r2 := 0) (r3 := 11) rfl rfl rfl (of_decide_eq_true rfl) rfl rfl (by decide) rfl rfl (of_decide_eq_true rfl) (of_decide_eq_true rfl) ?_
      have e95 : h92 238 98 = h60 238 98 := (u92 238 98 rfl)
      have e96 : h92 238 99 = h60 238 99 := (u92 238 99 rfl)
      have e97 : h92 238 100 = h60 238 100 := (u92 238 100 rfl)
      have e98 : h92 238 101 = h60 238 101 := (u92 238 101 rfl)
      have e99 : h92 238 102 = h60 238 102 := (u92 238 102 rfl)
      have e100 : h92 238 106 = h60 238 106 := (u92 238 106 rfl)
      have e101 : h92 238 73 = h60 238 73 := (u92 238 73 rfl)
      have e102 : h92 238 2 = h 238 2 := ((u92 238 2 rfl).trans ((u60 238 2 rfl).trans ((u58 238 2 rfl).trans ((u56 238 2 rfl).trans ((u53 238 2 rfl).trans ((u47 238 2 rfl).trans ((u45 238 2 rfl).trans ((u30 238 2 rfl).trans ((u28 238 2 rfl).trans ((u26 238 2 rfl).trans (u13 238 2 rfl)))))))))))
      have e103 : h92 238 119 = h60 238 119 := (u92 238 119 rfl)
      have e104 : h92 238 67 = h60 238 67 := (u92 238 67 rfl)
      have e105 : h92 238 69 = h60 238 69 := (u92 238 69 rfl)
      have e106 : h92 238 5 = h 238 5 := ((u92 238 5 rfl).trans ((u60 238 5 rfl).trans ((u58 238 5 rfl).trans ((u56 238 5 rfl).trans ((u53 238 5 rfl).trans ((u47 238 5 rfl).trans ((u45 238 5 rfl).trans ((u30 238 5 rfl).trans ((u28 238 5 rfl).trans ((u26 238 5 rfl).trans (u13 238 5 rfl)))))))))))
      have e107 : h92 240 98 = h 238 98 := ((y92_0 98 (by decide)).trans ((u60 257 98 rfl).trans ((u58 257 98 rfl).trans ((y56_0 98 (by decide)).trans ((u53 238 98 rfl).trans ((u47 238 98 rfl).trans ((u45 238 98 rfl).trans ((u30 238 98 rfl).trans ((u28 238 98 rfl).trans ((u26 238 98 rfl).trans (u13 238 98 rfl)))))))))))
      have e108 : h92 240 99 = h 238 99 := ((y92_0 99 (by decide)).trans ((u60 257 99 rfl).trans ((u58 257 99 rfl).trans ((y56_0 99 (by decide)).trans ((u53 238 99 rfl).trans ((u47 238 99 rfl).trans ((u45 238 99 rfl).trans ((u30 238 99 rfl).trans ((u28 238 99 rfl).trans ((u26 238 99 rfl).trans (u13 238 99 rfl)))))))))))
      have e109 : h92 240 100 = h 238 100 := ((y92_0 100 (by decide)).trans ((u60 257 100 rfl).trans ((u58 257 100 rfl).trans ((y56_0 100 (by decide)).trans ((u53 238 100 rfl).trans ((u47 238 100 rfl).trans ((u45 238 100 rfl).trans ((u30 238 100 rfl).trans ((u28 238 100 rfl).trans ((u26 238 100 rfl).trans (u13 238 100 rfl)))))))))))
      have e110 : h92 240 101 = h 238 101 := ((y92_0 101 (by decide)).trans ((u60 257 101 rfl).trans ((u58 257 101 rfl).trans ((y56_0 101 (by decide)).trans ((u53 238 101 rfl).trans ((u47 238 101 rfl).trans ((u45 238 101 rfl).trans ((u30 238 101 rfl).trans ((u28 238 101 rfl).trans ((u26 238 101 rfl).trans (u13 238 101 rfl)))))))))))
      have e111 : h92 240 102 = h 238 102 := ((y92_0 102 (by decide)).trans ((u60 257 102 rfl).trans ((u58 257 102 rfl).trans ((y56_0 102 (by decide)).trans ((u53 238 102 rfl).trans ((u47 238 102 rfl).trans ((u45 238 102 rfl).trans ((u30 238 102 rfl).trans ((u28 238 102 rfl).trans ((u26 238 102 rfl).trans (u13 238 102 rfl)))))))))))
      have e112 : h92 240 106 = h 238 106 := ((y92_0 106 (by decide)).trans ((u60 257 106 rfl).trans ((u58 257 106 rfl).trans ((y56_0 106 (by decide)).trans ((u53 238 106 rfl).trans ((u47 238 106 rfl).trans ((u45 238 106 rfl).trans ((u30 238 106 rfl).trans ((u28 238 106 rfl).trans ((u26 238 106 rfl).trans (u13 238 106 rfl)))))))))))
      have e113 : h92 240 73 = h 238 73 := ((y92_0 73 (by decide)).trans ((u60 257 73 rfl).trans ((u58 257 73 rfl).trans ((y56_0 73 (by decide)).trans ((u53 238 73 rfl).trans ((u47 238 73 rfl).trans ((u45 238 73 rfl).trans ((u30 238 73 rfl).trans ((u28 238 73 rfl).trans ((u26 238 73 rfl).trans (u13 238 73 rfl)))))))))))
      have e114 : h92 240 2 = h 238 2 := ((y92_0 2 (by decide)).trans ((u60 257 2 rfl).trans ((u58 257 2 rfl).trans ((y56_0 2 (by decide)).trans ((u53 238 2 rfl).trans ((u47 238 2 rfl).trans ((u45 238 2 rfl).trans ((u30 238 2 rfl).trans ((u28 238 2 rfl).trans ((u26 238 2 rfl).trans (u13 238 2 rfl)))))))))))
      have e115 : h92 240 119 = h 238 119 := ((y92_0 119 (by decide)).trans ((u60 257 119 rfl).trans ((u58 257 119 rfl).trans ((y56_0 119 (by decide)).trans ((u53 238 119 rfl).trans ((u47 238 119 rfl).trans ((u45 238 119 rfl).trans ((u30 238 119 rfl).trans ((u28 238 119 rfl).trans ((u26 238 119 rfl).trans (u13 238 119 rfl)))))))))))
      have e116 : h92 240 67 = h 238 67 := ((y92_0 67 (by decide)).trans ((u60 257 67 rfl).trans ((u58 257 67 rfl).trans ((y56_0 67 (by decide)).trans ((u53 238 67 rfl).trans ((u47 238 67 rfl).trans ((u45 238 67 rfl).trans ((u30 238 67 rfl).trans ((u28 238 67 rfl).trans ((u26 238 67 rfl).trans (u13 238 67 rfl)))))))))))
      have e117 : h92 240 69 = h 238 69 := ((y92_0 69 (by decide)).trans ((u60 257 69 rfl).trans ((u58 257 69 rfl).trans ((y56_0 69 (by decide)).trans ((u53 238 69 rfl).trans ((u47 238 69 rfl).trans ((u45 238 69 rfl).trans ((u30 238 69 rfl).trans ((u28 238 69 rfl).trans ((u26 238 69 rfl).trans (u13 238 69 rfl)))))))))))
      have e118 : h92 240 5 = h 238 5 := ((y92_0 5 (by decide)).trans ((u60 257 5 rfl).trans ((u58 257 5 rfl).trans ((y56_0 5 (by decide)).trans ((u53 238 5 rfl).trans ((u47 238 5 rfl).trans ((u45 238 5 rfl).trans ((u30 238 5 rfl).trans ((u28 238 5 rfl).trans ((u26 238 5 rfl).trans (u13 238 5 rfl)))))))))))
      have gs119 := GPS.fr u13 rfl xq1
      have gs120 := GPS.fr u26 rfl gs119
      have gs121 := GPS.fr u28 rfl gs120
      have gs122 := GPS.fr u30 rfl gs121
      have gs123 := GPS.fr u45 rfl gs122
      have gs124 := GPS.fr u47 rfl gs123
      have gs125 := GPS.fr u53 rfl gs124
      have gs126 := GPS.fr u56 rfl gs125
      have gs127 := GPS.fr u58 rfl gs126
      have gs128 := GPS.fr u60 rfl gs127
      have gs129 := GPS.fr u92 rfl gs128
      have gp130 := GPH.fr u13 rfl gp0
      have gp131 := GPH.fr u26 rfl gp130
      have gp132 := GPH.fr u28 rfl gp131
      have gp133 := GPH.fr u30 rfl gp132
      have gp134 := GPH.fr u45 rfl gp133
      have gp135 := GPH.fr u47 rfl gp134
      have gp136 := GPH.fr u53 rfl gp135
      have gp137 := GPH.fr u56 rfl gp136
      have gp138 := GPH.fr u58 rfl gp137
      have gp139 := GPH.fr u60 rfl gp138
      have gp140 := GPH.fr u92 rfl gp139
      refine ct_315_236 hcr  g92   (show (h92 238 98) + (h92 238 99) + (h92 238 100) + (h92 238 101) + (h92 238 102) + (h92 238 106) = (h92 238 73) by omega) (show (h92 238 73) ≤ (h92 238 2) by omega) (show (h92 238 119) ≤ (h92 238 67) by omega) (show (h92 238 69) ≤ (h92 238 5) by omega) (show (h92 238 2) ≤ 12 * (h92 238 5) by omega) (show (h92 240 98) + (h92 240 99) + (h92 240 100) + (h92 240 101) + (h92 240 102) + (h92 240 106) = (h92 240 73) by omega) (show (h92 240 73) ≤ (h92 240 2) by omega) (show (h92 240 119) ≤ (h92 240 67) by omega) (show (h92 240 69) ≤ (h92 240 5) by omega) (show (h92 240 2) ≤ 12 * (h92 240 5) by omega) gs129 (fun i _ => (((y92_0 i (by omega)).trans ((u60 257 i (fo_nk rfl)).trans ((u58 257 i (fn_a (by omega) fn_0)).trans ((y56_0 i (by omega)).trans ((u53 238 i (fn_a (by omega) fn_0)).trans ((u47 238 i (fn_a (by omega) fn_0)).trans ((u45 238 i (fn_a (by omega) fn_0)).trans ((u30 238 i (fn_a (by omega) fn_0)).trans ((u28 238 i (fn_a (by omega) fn_0)).trans ((u26 238 i (fn_a (by omega) fn_0)).trans (u13 238 i (fo_nk rfl))))))))))))).trans (((u92 238 i (fn_a (by decide) fn_0)).trans ((u60 238 i (fo_lk (m := 31) (by omega) rfl)).trans ((u58 238 i (fn_a (by omega) fn_0)).trans ((u56 238 i (fn_a (by decide) fn_0)).trans ((u53 238 i (fn_a (by omega) fn_0)).trans ((u47 238 i (fn_a (by omega) fn_0)).trans ((u45 238 i (fn_a (by omega) fn_0)).trans ((u30 238 i (fn_a (by omega) fn_0)).trans ((u28 238 i (fn_a (by omega) fn_0)).trans ((u26 238 i (fn_a (by omega) fn_0)).trans (u13 238 i (fo_nk rfl))))))))))))).symm) gp140 (fun h94 g94 u94 y94_0 y94_1 => ?_)
      have F141 := F93.then (by decide +kernel) u94
      refine wk_n ?_
      refine wi_iload_n (i := 1) (e := z73) (nx := 137) (r1 := 0) (r2 := 0) (r3 := 0) rfl rfl ?_
      refine wi_ireturn (nx := 138) (r1 := 0) (r2 := 0) (r3 := 0) rfl rfl ?_
      have e142 : h94 238 98 = h60 238 98 := ((u94 238 98 rfl).trans (u92 238 98 rfl))
      have e143 : h94 238 99 = h60 238 99 := ((u94 238 99 rfl).trans (u92 238 99 rfl))
      have e144 : h94 238 100 = h60 238 100 := ((u94 238 100 rfl).trans (u92 238 100 rfl))
      have e145 : h94 238 101 = h60 238 101 := ((u94 238 101 rfl).trans (u92 238 101 rfl))
      have e146 : h94 238 102 = h60 238 102 := ((u94 238 102 rfl).trans (u92 238 102 rfl))
      have e147 : h94 238 106 = h60 238 106 := ((u94 238 106 rfl).trans (u92 238 106 rfl))
      have e148 : h94 238 73 = h60 238 73 := ((u94 238 73 rfl).trans (u92 238 73 rfl))
      have e149 : h94 238 2 = h 238 2 := ((u94 238 2 rfl).trans ((u92 238 2 rfl).trans ((u60 238 2 rfl).trans ((u58 238 2 rfl).trans ((u56 238 2 rfl).trans ((u53 238 2 rfl).trans ((u47 238 2 rfl).trans ((u45 238 2 rfl).trans ((u30 238 2 rfl).trans ((u28 238 2 rfl).trans ((u26 238 2 rfl).trans (u13 238 2 rfl))))))))))))
      have e150 : h94 238 119 = h60 238 119 := ((u94 238 119 rfl).trans (u92 238 119 rfl))
      have e151 : h94 238 67 = h60 238 67 := ((u94 238 67 rfl).trans (u92 238 67 rfl))
      have e152 : h94 238 69 = h60 238 69 := ((u94 238 69 rfl).trans (u92 238 69 rfl))
      have e153 : h94 238 5 = h 238 5 := ((u94 238 5 rfl).trans ((u92 238 5 rfl).trans ((u60 238 5 rfl).trans ((u58 238 5 rfl).trans ((u56 238 5 rfl).trans ((u53 238 5 rfl).trans ((u47 238 5 rfl).trans ((u45 238 5 rfl).trans ((u30 238 5 rfl).trans ((u28 238 5 rfl).trans ((u26 238 5 rfl).trans (u13 238 5 rfl))))))))))))
      have e154 : h94 236 2 = h13 236 2 := ((u94 236 2 rfl).trans ((u92 236 2 rfl).trans ((u60 236 2 rfl).trans ((u58 236 2 rfl).trans ((u56 236 2 rfl).trans ((u53 236 2 rfl).trans ((u47 236 2 rfl).trans ((u45 236 2 rfl).trans ((u30 236 2 rfl).trans ((u28 236 2 rfl).trans (u26 236 2 rfl)))))))))))
      have e155 : h94 236 10 = h13 236 8 := ((u94 236 10 rfl).trans ((u92 236 10 rfl).trans ((u60 236 10 rfl).trans ((u58 236 10 rfl).trans ((u56 236 10 rfl).trans ((u53 236 10 rfl).trans ((u47 236 10 rfl).trans w45)))))))
      have e156 : h94 236 11 = h13 236 9 := ((u94 236 11 rfl).trans ((u92 236 11 rfl).trans ((u60 236 11 rfl).trans ((u58 236 11 rfl).trans ((u56 236 11 rfl).trans ((u53 236 11 rfl).trans w47))))))
      exact k h94 z73 g94 F141 (by omega) (show (h94 238 98) + (h94 238 99) + (h94 238 100) + (h94 238 101) + (h94 238 102) + (h94 238 106) = (h94 238 73) by omega) (show (h94 238 73) ≤ (h94 238 2) by omega) (show (h94 238 119) ≤ (h94 238 67) by omega) (show (h94 238 69) ≤ (h94 238 5) by omega) (show (h94 238 2) ≤ 12 * (h94 238 5) by omega) (show (h94 236 2) = 0 by omega) (show (h94 236 10) = sc_ec tB tn by omega) (show (h94 236 11) = sc_ep tB tn by omega) y94_0 y94_1
    ·
      refine wi_iload_n (i := 1) (e := z73) (nx := 120) (r1 := 0) (r2 := 0) (r3 := 0) rfl rfl ?_
      refine wi_ireturn (nx := 121) (r1 := 0) (r2 := 0) (r3 := 0) rfl rfl ?_
      have e92 : h60 236 2 = h13 236 2 := ((u60 236 2 rfl).trans ((u58 236 2 rfl).trans ((u56 236 2 rfl).trans ((u53 236 2 rfl).trans ((u47 236 2 rfl).trans ((u45 236 2 rfl).trans ((u30 236 2 rfl).trans ((u28 236 2 rfl).trans (u26 236 2 rfl)))))))))
      have e93 : h60 236 10 = h13 236 8 := ((u60 236 10 rfl).trans ((u58 236 10 rfl).trans ((u56 236 10 rfl).trans ((u53 236 10 rfl).trans ((u47 236 10 rfl).trans w45)))))
      have e94 : h60 236 11 = h13 236 9 := ((u60 236 11 rfl).trans ((u58 236 11 rfl).trans ((u56 236 11 rfl).trans ((u53 236 11 rfl).trans w47))))
      have gs95 := GPS.fr u13 rfl xq1
      have gs96 := GPS.fr u26 rfl gs95
      have gs97 := GPS.fr u28 rfl gs96
      have gs98 := GPS.fr u30 rfl gs97
      have gs99 := GPS.fr u45 rfl gs98
      have gs100 := GPS.fr u47 rfl gs99
      have gs101 := GPS.fr u53 rfl gs100
      have gs102 := GPS.fr u56 rfl gs101
      have gs103 := GPS.fr u58 rfl gs102
      have gs104 := GPS.fr u60 rfl gs103
      have gp105 := GPH.fr u13 rfl gp0
      have gp106 := GPH.fr u26 rfl gp105
      have gp107 := GPH.fr u28 rfl gp106
      have gp108 := GPH.fr u30 rfl gp107
      have gp109 := GPH.fr u45 rfl gp108
      have gp110 := GPH.fr u47 rfl gp109
      have gp111 := GPH.fr u53 rfl gp110
      have gp112 := GPH.fr u56 rfl gp111
      have gp113 := GPH.fr u58 rfl gp112
      have gp114 := GPH.fr u60 rfl gp113
      exact k h60 z73 g60 F77 (by omega) (show (h60 238 98) + (h60 238 99) + (h60 238 100) + (h60 238 101) + (h60 238 102) + (h60 238 106) = (h60 238 73) by omega) (show (h60 238 73) ≤ (h60 238 2) by omega) (show (h60 238 119) ≤ (h60 238 67) by omega) (show (h60 238 69) ≤ (h60 238 5) by omega) (show (h60 238 2) ≤ 12 * (h60 238 5) by omega) (show (h60 236 2) = 0 by omega) (show (h60 236 10) = sc_ec tB tn by omega) (show (h60 236 11) = sc_ep tB tn by omega) gs104 gp114
  ·
    replace q35 : 0 + 1 ≤ (h13 236 6) := by omega
    try have kf36 := TKk.n0 (B := tB) (n := tn) (p := 0) (a6 := h13 236 6) (by assumption) (by omega)
    have e38 : h30 236 42 = 0 := ((u30 236 42 rfl).trans ((u28 236 42 rfl).trans w26))
    have e39 : h30 236 44 = 0 := w30
    have e40 : h30 236 8 = h13 236 8 := ((u30 236 8 rfl).trans ((u28 236 8 rfl).trans (u26 236 8 rfl)))
    have e41 : h30 236 9 = h13 236 9 := ((u30 236 9 rfl).trans ((u28 236 9 rfl).trans (u26 236 9 rfl)))
    have e42 : h30 236 43 = 0 := ((u30 236 43 rfl).trans w28)
    have e43 : h30 236 4 = h13 236 4 := ((u30 236 4 rfl).trans ((u28 236 4 rfl).trans (u26 236 4 rfl)))
    have e44 : h30 236 5 = h13 236 5 := ((u30 236 5 rfl).trans ((u28 236 5 rfl).trans (u26 236 5 rfl)))
    have e45 : h30 236 6 = h13 236 6 := ((u30 236 6 rfl).trans ((u28 236 6 rfl).trans (u26 236 6 rfl)))
    have e46 : h30 236 7 = h13 236 7 := ((u30 236 7 rfl).trans ((u28 236 7 rfl).trans (u26 236 7 rfl)))
    have e47 : h30 236 12 = h13 236 12 := ((u30 236 12 rfl).trans ((u28 236 12 rfl).trans (u26 236 12 rfl)))
    have e48 : h30 236 3 = h13 236 3 := ((u30 236 3 rfl).trans ((u28 236 3 rfl).trans (u26 236 3 rfl)))
    refine wl_0 (fun h37 => GI h37 ∧ FR [(240, 240, none), (242, 242, none), (246, 246, none), (248, 248, none), (249, 249, none), (250, 250, none), (251, 251, none), (252, 252, none), (253, 253, none), (254, 254, none), (257, 257, none), (236, 236, some (0, 0)), (236, 236, some (2, 2)), (236, 236, some (3, 3)), (236, 236, some (4, 4)), (236, 236, some (5, 5)), (236, 236, some (6, 6)), (236, 236, some (7, 7)), (236, 236, some (8, 8)), (236, 236, some (9, 9)), (236, 236, some (10, 10)), (236, 236, some (11, 11)), (236, 236, some (12, 12)), (236, 236, some (22, 22)), (236, 236, some (28, 28)), (236, 236, some (32, 32)), (236, 236, some (42, 42)), (236, 236, some (43, 43)), (236, 236, some (44, 44)), (236, 236, some (45, 45)), (238, 238, some (31, 53)), (238, 238, some (43, 54)), (238, 238, some (55, 66)), (238, 238, some (67, 67)), (238, 238, some (68, 68)), (238, 238, some (69, 69)), (238, 238, some (70, 70)), (238, 238, some (71, 71)), (238, 238, some (72, 72)), (238, 238, some (73, 73)), (238, 238, some (74, 79)), (238, 238, some (80, 85)), (238, 238, some (86, 91)), (238, 238, some (92, 97)), (238, 238, some (98, 98)), (238, 238, some (99, 99)), (238, 238, some (100, 100)), (238, 238, some (101, 101)), (238, 238, some (102, 102)), (238, 238, some (103, 105)), (238, 238, some (106, 106)), (238, 238, some (107, 118)), (238, 238, some (119, 119)), (238, 238, some (120, 196)), (238, 238, some (121, 197)), (238, 238, some (122, 198)), (238, 238, some (123, 199)), (247, 247, some (0, 0)), (247, 247, some (1, 1)), (247, 247, some (2, 2)), (247, 247, some (3, 3)), (255, 255, some (0, 0)), (255, 255, some (1, 1)), (256, 256, some (0, 0)), (256, 256, some (1, 1))] h h37 ∧ FR [(253, 253, none), (254, 254, none), (236, 236, some (4, 4)), (236, 236, some (5, 5)), (236, 236, some (6, 6)), (236, 236, some (7, 7)), (236, 236, some (8, 8)), (236, 236, some (9, 9)), (236, 236, some (12, 12)), (236, 236, some (42, 42)), (236, 236, some (43, 43)), (236, 236, some (44, 44))] h30 h37 ∧ (((h37 236 4) ≤ (h37 236 3)) ∧ ((h37 236 8) = 0) ∧ ((h37 236 6) ≠ 0) ∧ ((h37 236 42) + (h37 236 44) ≤ 2 * (h37 236 43))) ∧ (WP (h37 253) (h37 236 42) (h37 236 44)) ∧ SCI tB tn h37 ∧ (h37 236 44 ≤ 0 ∨ h37 236 6 ≠ 3 ∨ h37 236 7 ≠ 41)) (fun h37 => ((h37 236 3) - (h37 236 4)).toNat) (fun h37 => (33, [(0, .ref 236)], [], hp_w h37 cr, b, c)) ?_ h30 ⟨g30, F31, FR.refl, (show ((h30 236 4) ≤ (h30 236 3)) ∧ ((h30 236 8) = 0) ∧ ((h30 236 6) ≠ 0) ∧ ((h30 236 42) + (h30 236 44) ≤ 2 * (h30 236 43)) by omega), (by rw [show h30 236 42 = 0 by omega, show h30 236 44 = 0 by omega]; exact WP.zero), (SCI.mk 801 0 (by omega) (by omega) (by omega) (by omega) (by omega) (by first | assumption | exact ⟨by omega, by omega, TKk.mv (by assumption) (by omega) (by omega) (by omega)⟩) (by rw [show h30 236 44 = 0 by omega, show h30 236 43 = 0 by omega]; rfl)), (Or.inl (by omega))⟩
    intro h37 ⟨g37, F49, u37, f37, X37_0, X37_1, X37_2⟩ I37
    have e50 : h37 236 3 = h13 236 3 := ((u37 236 3 rfl).trans ((u30 236 3 rfl).trans ((u28 236 3 rfl).trans (u26 236 3 rfl))))
    have b51 := gi_b (lo := 0) (hi := 800) g37 236 4 rfl
    have b52 := gi_b (lo := 0) (hi := 5) g37 236 8 rfl
    have b53 := gi_b (lo := 0) (hi := 4) g37 236 6 rfl
    have b54 := gi_b (lo := 0) (hi := 80) g37 236 42 rfl
    have b55 := gi_b (lo := 0) (hi := 2) g37 236 44 rfl
    have b56 := gi_b (lo := 0) (hi := 40) g37 236 43 rfl
    have b57 := gi_b (lo := 0) (hi := 800) g37 236 5 rfl
    have b58 := gi_b (lo := 0) (hi := 999) g37 236 7 rfl
    have b59 := gi_b (lo := -9223372036854775808) (hi := 9223372036854775807) g37 236 12 rfl
    have b60 := gi_b (lo := -2147483648) (hi := 2147483647) g37 236 9 rfl
    obtain ⟨e9s61, ks61, ps61, pas61, pbs61, pcs61, tks61, frs61⟩ := SCI.go X37_1 (by omega) (by omega)
    obtain ⟨tas61, tbs61, tcs61⟩ : _ ∧ _ ∧ TKk tB tn ps61 (h37 236 6) (h37 236 7) (h37 236 12) := id tks61
    have tN62 := @tk_nx_b tB tn ps61 (by omega) (by omega)
    have kzs61 : tk_kd tB tn ps61 ≠ 0 := TKk.n0 tcs61 (by omega)
    have hos61 := SCI.n5 tcs61 X37_2
    refine wi_aload_n (i := 0) (x := 236) (nx := 34) (r1 := 0) (r2 := 0) (r3 := 0) rfl rfl ?_
    refine wr_gi0 (k0 := 236) (x := h37 236 44) (nx := 37) (r1 := 11) (r2 := 44) (r3 := 0) rfl rfl (by decide) rfl ⟨rfl, rfl⟩ rfl rfl ?_
    refine wi_istore_n (i := 1) (e := h37 236 44) (lo2 := [(1, vi (h37 236 44)), (0, .ref 236)]) (nx := 38) (r1 := 0) (r2 := 0) (r3 := 0) rfl rfl ?_
    refine wi_aload_n (i := 0) (x := 236) (nx := 39) (r1 := 0) (r2 := 0) (r3 := 0) rfl rfl ?_
    refine wr_V (k0 := 236) (rest := []) (as := [.ref 236]) (nx := 42) (r1 := 335) (r2 := 0) (r3 := 11) rfl rfl rfl (of_decide_eq_true rfl) rfl rfl (by decide) rfl rfl (of_decide_eq_true rfl) (of_decide_eq_true rfl) ?_
    have q64 : h37 253 = h37 253 := funext (fun i => rfl)
    have rb65 := RefB.fr u26 rfl y13_0
    have rb66 := RefB.fr u28 rfl rb65
    have rb67 := RefB.fr u30 rfl rb66
    have rb68 := RefB.fr u37 rfl rb67
    refine ct_335_236 hcr  g37   (show (h37 236 4) ≤ (h37 236 3) by omega) (show (h37 236 8) = 0 by omega) (show (h37 236 6) ≠ 0 by omega) (show (h37 236 42) + (h37 236 44) ≤ 2 * (h37 236 43) by omega) (show 0 ≤ ps61 by omega) (show ps61 ≤ tn by omega) (show ps61 ≤ tk_nx tB tn ps61 ∧ tk_nx tB tn ps61 ≤ tn from ⟨by omega, by omega⟩) (show ((h37 236 4) = tk_nx tB tn ps61 ∧ (h37 236 5) = tk_st tB tn ps61 ∧ TKk tB tn ps61 ((h37 236 6)) ((h37 236 7)) ((h37 236 12))) by first | assumption | exact ⟨by omega, by omega, TKk.mv (by assumption) (by omega) (by omega) (by omega)⟩) (show (h37 236 9) = -1 by omega) (by rw [q64, show h37 236 42 = h37 236 42 by omega, show h37 236 44 = h37 236 44 by omega]; exact X37_0) rb68 (fun h63 g63 u63 (p63_0 : (1 ≤ (h63 236 8)) ∨ ((h63 236 8) = 0 ∧ (h63 236 44) = (h37 236 44) + 1) ∨ ((h63 236 8) = 0 ∧ (h63 236 44) = (h37 236 44))) (p63_1 : (h63 236 8) ≠ 0 ∨ (h63 236 9) = -1) (p63_2 : (h37 236 4) ≤ (h63 236 4)) (p63_3 : (h63 236 4) ≤ (h37 236 3)) (p63_4 : 1 ≤ (h63 236 8) ∨ (h63 236 6) = 0 ∨ (h37 236 4) + 1 ≤ (h63 236 4)) (p63_5 : 1 ≤ (h63 236 8) ∨ (h63 236 42) + (h63 236 44) ≤ 2 * (h63 236 43)) y63_0 y63_1 => ?_)
    have F69 := F49.then (by decide +kernel) u63
    have F70 := u37.then (by decide +kernel) u63
    have b71 := gi_b (lo := 0) (hi := 5) g63 236 8 rfl
    have b72 := gi_b (lo := 0) (hi := 2) g63 236 44 rfl
    have b73 := gi_b (lo := -2147483648) (hi := 2147483647) g63 236 9 rfl
    have b74 := gi_b (lo := 0) (hi := 800) g63 236 4 rfl
    have b75 := gi_b (lo := 0) (hi := 4) g63 236 6 rfl
    have b76 := gi_b (lo := 0) (hi := 80) g63 236 42 rfl
    have b77 := gi_b (lo := 0) (hi := 40) g63 236 43 rfl
    refine wk_n ?_
    rcases p63_0 with p63_0 | p63_0 | p63_0
    ·
      clear p63_1
      clear p63_4
      clear p63_5
      have eqq78 := sc_OM1 y63_1 (by omega)
      refine wi_aload_n (i := 0) (x := 236) (nx := 43) (r1 := 0) (r2 := 0) (r3 := 0) rfl rfl ?_
      refine wr_gi0 (k0 := 236) (x := h63 236 44) (nx := 46) (r1 := 11) (r2 := 44) (r3 := 0) rfl rfl (by decide) rfl ⟨rfl, rfl⟩ rfl rfl ?_
      refine wi_iload_n (i := 1) (e := h37 236 44) (nx := 47) (r1 := 0) (r2 := 0) (r3 := 0) rfl rfl ?_
      refine wi_icmp (cd := .ne) (nx := 50) (r1 := 56) (r2 := 0) (r3 := 0) rfl (by omega) (by omega) (fun (q79 : (h63 236 44) ≠ (h37 236 44)) => ?_) (fun (q79 : ¬ ((h63 236 44) ≠ (h37 236 44))) => ?_)
      ·
        refine wi_aload_n (i := 0) (x := 236) (nx := 57) (r1 := 0) (r2 := 0) (r3 := 0) rfl rfl ?_
        refine wr_V (k0 := 236) (rest := []) (as := [.ref 236]) (nx := 60) (r1 := 338) (r2 := 0) (r3 := 11) rfl rfl rfl (of_decide_eq_true rfl) rfl rfl (by decide) rfl rfl (of_decide_eq_true rfl) (of_decide_eq_true rfl) ?_
        have e81 : h63 236 3 = h13 236 3 := ((u63 236 3 rfl).trans ((u37 236 3 rfl).trans ((u30 236 3 rfl).trans ((u28 236 3 rfl).trans (u26 236 3 rfl)))))
        have q82 : h63 253 = h63 253 := funext (fun i => rfl)
        have rb83 := RefB.fr u63 rfl rb68
        refine ct_338_236 hcr  g63   (show (h63 236 4) ≤ (h63 236 3) by omega) (show 1 ≤ (h63 236 8) ∨ (h63 236 42) + (h63 236 44) ≤ 2 * (h63 236 43) from (Or.inl (by omega))) (fun e => by rw [q82, show h63 236 42 = h63 236 42 by omega, show h63 236 44 = h63 236 44 by omega]; exact y63_0 (by omega)) rb83 (SCI.er rfl rfl (by omega) (frs61.symm.trans (sc_m1 kzs61 hos61.no (by rw [eqq78]; first | done | exact sc_inl (by omega) (by omega))))) (fun h80 g80 u80 (p80_0 : (h63 236 4) ≤ (h80 236 4)) (p80_1 : (h80 236 4) ≤ (h63 236 3)) (p80_2 : 1 ≤ (h80 236 8) ∨ (h63 236 8) = 0) (p80_3 : (h63 236 6) ≠ 0 ∨ (h80 236 6) = 0) (p80_4 : 1 ≤ (h80 236 8) ∨ (h80 236 42) + (h80 236 44) ≤ 2 * (h80 236 43)) y80_0 y80_1 y80_2 => ?_)
        have F84 := F69.then (by decide +kernel) u80
        have F85 := F70.then (by decide +kernel) u80
        have b86 := gi_b (lo := 0) (hi := 800) g80 236 4 rfl
        have b87 := gi_b (lo := 0) (hi := 5) g80 236 8 rfl
        have b88 := gi_b (lo := 0) (hi := 4) g80 236 6 rfl
        have b89 := gi_b (lo := 0) (hi := 80) g80 236 42 rfl
        have b90 := gi_b (lo := 0) (hi := 2) g80 236 44 rfl
        have e91 : h80 236 43 = h63 236 43 := (u80 236 43 rfl)
        replace p80_2 := p80_2.resolve_right (by omega)
        clear p80_4
        refine wk_n ?_
        refine wi_goto (nx := 63) (r1 := 19) (r2 := 0) (r3 := 0) rfl ?_
        refine wi_aload_n (i := 0) (x := 236) (nx := 20) (r1 := 0) (r2 := 0) (r3 := 0) rfl rfl ?_
        refine wr_V (k0 := 236) (rest := []) (as := [.ref 236]) (nx := 23) (r1 := 219) (r2 := 0) (r3 := 11) rfl rfl rfl (of_decide_eq_true rfl) rfl rfl (by decide) rfl rfl (of_decide_eq_true rfl) (of_decide_eq_true rfl) ?_
        refine wi_aload_n (i := 0) (x := 236) (nx := 1) (r1 := 0) (r2 := 0) (r3 := 0) rfl rfl ?_
        refine wr_gi0 (k0 := 236) (x := h80 236 8) (nx := 4) (r1 := 11) (r2 := 8) (r3 := 0) rfl rfl (by decide) rfl ⟨rfl, rfl⟩ rfl rfl ?_
        refine wi_if (cd := .ne) (nx := 7) (r1 := 11) (r2 := 0) (r3 := 0) rfl (by omega) (fun (q92 : (h80 236 8) ≠ 0) => ?_) (fun (q92 : ¬ ((h80 236 8) ≠ 0)) => by exfalso; omega)
        refine wi_iconst (n := 0) (nx := 12) (r1 := 0) (r2 := 0) (r3 := 0) rfl ?_
        refine wi_zreturn (nx := 13) (r1 := 0) (r2 := 0) (r3 := 0) rfl rfl (by omega) ?_
        refine wk_i ?_
        refine wi_if (cd := .eq) (nx := 26) (r1 := 63) (r2 := 0) (r3 := 0) rfl (by omega) (fun (q94 : 0 = 0) => ?_) (fun (q94 : ¬ (0 = 0)) => by exfalso; omega)
        refine wi_aload_n (i := 0) (x := 236) (nx := 64) (r1 := 0) (r2 := 0) (r3 := 0) rfl rfl ?_
        refine wr_V (k0 := 236) (rest := []) (as := [.ref 236]) (nx := 67) (r1 := 219) (r2 := 0) (r3 := 11) rfl rfl rfl (of_decide_eq_true rfl) rfl rfl (by decide) rfl rfl (of_decide_eq_true rfl) (of_decide_eq_true rfl) ?_
        refine wi_aload_n (i := 0) (x := 236) (nx := 1) (r1 := 0) (r2 := 0) (r3 := 0) rfl rfl ?_
        refine wr_gi0 (k0 := 236) (x := h80 236 8) (nx := 4) (r1 := 11) (r2 := 8) (r3 := 0) rfl rfl (by decide) rfl ⟨rfl, rfl⟩ rfl rfl ?_
        refine wi_if (cd := .ne) (nx := 7) (r1 := 11) (r2 := 0) (r3 := 0) rfl (by omega) (fun (q95 : (h80 236 8) ≠ 0) => ?_) (fun (q95 : ¬ ((h80 236 8) ≠ 0)) => by exfalso; omega)
        refine wi_iconst (n := 0) (nx := 12) (r1 := 0) (r2 := 0) (r3 := 0) rfl ?_
        refine wi_zreturn (nx := 13) (r1 := 0) (r2 := 0) (r3 := 0) rfl rfl (by omega) ?_
        refine wk_i ?_
        refine wi_if (cd := .eq) (nx := 70) (r1 := 82) (r2 := 0) (r3 := 0) rfl (by omega) (fun (q97 : 0 = 0) => ?_) (fun (q97 : ¬ (0 = 0)) => by exfalso; omega)
        have b99 := gi_b (lo := -2147483648) (hi := 2147483647) g80 236 9 rfl
        have RE98 := sc_REq (SCI.bad y80_1 (by omega))
        refine wi_aload_n (i := 0) (x := 236) (nx := 83) (r1 := 0) (r2 := 0) (r3 := 0) rfl rfl ?_
        refine wr_V (k0 := 236) (rest := []) (as := [.ref 236]) (nx := 86) (r1 := 237) (r2 := 0) (r3 := 11) rfl rfl rfl (of_decide_eq_true rfl) rfl rfl (by decide) rfl rfl (of_decide_eq_true rfl) (of_decide_eq_true rfl) ?_
        refine wi_aload_n (i := 0) (x := 236) (nx := 1) (r1 := 0) (r2 := 0) (r3 := 0) rfl rfl ?_
        refine wi_aload_n (i := 0) (x := 236) (nx := 2) (r1 := 0) (r2 := 0) (r3 := 0) rfl rfl ?_
        refine wr_gi0 (k0 := 236) (x := h80 236 8) (nx := 5) (r1 := 11) (r2 := 8) (r3 := 0) rfl rfl (by decide) rfl ⟨rfl, rfl⟩ rfl rfl ?_
        refine wr_pf0 (k0 := 236) (x := h80 236 8) (bl := -2147483648) (bh := 2147483647) (nx := 8) (r1 := 11) (r2 := 10) (r3 := 0) rfl (by decide) rfl ⟨rfl, rfl⟩ rfl rfl g80 rfl (by omega) (fun h100 g100 w100 u100 => ?_)
        have F101 := F84.then rfl u100
        refine wi_aload_n (i := 0) (x := 236) (nx := 9) (r1 := 0) (r2 := 0) (r3 := 0) rfl rfl ?_
        refine wi_aload_n (i := 0) (x := 236) (nx := 10) (r1 := 0) (r2 := 0) (r3 := 0) rfl rfl ?_
        refine wr_gi0 (k0 := 236) (x := h80 236 9) (nx := 13) (r1 := 11) (r2 := 9) (r3 := 0) rfl rfl (by decide) rfl ⟨rfl, rfl⟩ rfl (u100 236 9 rfl) ?_
        refine wr_pf0 (k0 := 236) (x := h80 236 9) (bl := -2147483648) (bh := 2147483647) (nx := 16) (r1 := 11) (r2 := 11) (r3 := 0) rfl (by decide) rfl ⟨rfl, rfl⟩ rfl rfl g100 rfl (by omega) (fun h102 g102 w102 u102 => ?_)
        have F103 := F101.then rfl u102
        refine wi_aload_n (i := 0) (x := 236) (nx := 17) (r1 := 0) (r2 := 0) (r3 := 0) rfl rfl ?_
        refine wi_aload_n (i := 0) (x := 236) (nx := 18) (r1 := 0) (r2 := 0) (r3 := 0) rfl rfl ?_
        refine wr_gi0 (k0 := 236) (x := h80 236 8) (nx := 21) (r1 := 11) (r2 := 8) (r3 := 0) rfl rfl (by decide) rfl ⟨rfl, rfl⟩ rfl ((u102 236 8 rfl).trans (u100 236 8 rfl)) ?_
        refine wi_if (cd := .ne) (nx := 24) (r1 := 28) (r2 := 0) (r3 := 0) rfl (by omega) (fun (q104 : (h80 236 8) ≠ 0) => ?_) (fun (q104 : ¬ ((h80 236 8) ≠ 0)) => by exfalso; omega)
        refine wi_iconst (n := 0) (nx := 29) (r1 := 0) (r2 := 0) (r3 := 0) rfl ?_
        refine wr_V (k0 := 236) (rest := []) (as := [.ref 236, vi 0]) (nx := 32) (r1 := 206) (r2 := 1) (r3 := 11) rfl rfl rfl (of_decide_eq_true rfl) rfl rfl (by decide) rfl rfl (of_decide_eq_true rfl) (of_decide_eq_true rfl) ?_
        refine wi_aload_n (i := 0) (x := 236) (nx := 1) (r1 := 0) (r2 := 0) (r3 := 0) rfl rfl ?_
        refine wi_iload_n (i := 1) (e := 0) (nx := 2) (r1 := 0) (r2 := 0) (r3 := 0) rfl rfl ?_
        refine wi_if (cd := .ne) (nx := 5) (r1 := 9) (r2 := 0) (r3 := 0) rfl (by omega) (fun (q106 : 0 ≠ 0) => by exfalso; omega) (fun (q106 : ¬ (0 ≠ 0)) => ?_)
        refine wi_iconst (n := 1) (nx := 6) (r1 := 0) (r2 := 0) (r3 := 0) rfl ?_
        refine wi_goto (nx := 9) (r1 := 10) (r2 := 0) (r3 := 0) rfl ?_
        refine wi_S (rest := [.ref 236]) (as := [vi 1]) (nx := 13) (r1 := 207) (r2 := 17) (r3 := 0) rfl rfl rfl (of_decide_eq_true rfl) rfl rfl (of_decide_eq_true rfl) (of_decide_eq_true rfl) ?_
        refine wi_iload_n (i := 0) (e := 1) (nx := 1) (r1 := 0) (r2 := 0) (r3 := 0) rfl rfl ?_
        refine wi_if (cd := .eq) (nx := 4) (r1 := 8) (r2 := 0) (r3 := 0) rfl (by omega) (fun (q107 : 1 = 0) => by exfalso; omega) (fun (q107 : ¬ (1 = 0)) => ?_)
        refine wi_iconst (n := 1) (nx := 5) (r1 := 0) (r2 := 0) (r3 := 0) rfl ?_
        refine wi_goto (nx := 8) (r1 := 9) (r2 := 0) (r3 := 0) rfl ?_
        refine wi_ireturn (nx := 10) (r1 := 0) (r2 := 0) (r3 := 0) rfl rfl ?_
        refine wk_i ?_
        refine wr_pf0 (k0 := 236) (x := 1) (bl := 0) (bh := 2) (nx := 16) (r1 := 11) (r2 := 0) (r3 := 0) rfl (by decide) rfl ⟨rfl, rfl⟩ rfl rfl g102 rfl (by omega) (fun h108 g108 w108 u108 => ?_)
        have F109 := F103.then rfl u108
        refine wi_iload_n (i := 1) (e := 0) (nx := 17) (r1 := 0) (r2 := 0) (r3 := 0) rfl rfl ?_
        refine wi_zreturn (nx := 18) (r1 := 0) (r2 := 0) (r3 := 0) rfl rfl (by omega) ?_
        refine wk_i ?_
        refine wi_zreturn (nx := 33) (r1 := 0) (r2 := 0) (r3 := 0) rfl rfl (by omega) ?_
        refine wk_i ?_
        refine wi_if (cd := .ne) (nx := 89) (r1 := 91) (r2 := 0) (r3 := 0) rfl (by omega) (fun (q110 : 0 ≠ 0) => by exfalso; omega) (fun (q110 : ¬ (0 ≠ 0)) => ?_)
        refine wi_iconst (n := 0) (nx := 90) (r1 := 0) (r2 := 0) (r3 := 0) rfl ?_
        refine wi_ireturn (nx := 91) (r1 := 0) (r2 := 0) (r3 := 0) rfl rfl ?_
        have e111 : h108 238 98 = h 238 98 := ((u108 238 98 rfl).trans ((u102 238 98 rfl).trans ((u100 238 98 rfl).trans ((u80 238 98 rfl).trans ((u63 238 98 rfl).trans ((u37 238 98 rfl).trans ((u30 238 98 rfl).trans ((u28 238 98 rfl).trans ((u26 238 98 rfl).trans (u13 238 98 rfl))))))))))
        have e112 : h108 238 99 = h 238 99 := ((u108 238 99 rfl).trans ((u102 238 99 rfl).trans ((u100 238 99 rfl).trans ((u80 238 99 rfl).trans ((u63 238 99 rfl).trans ((u37 238 99 rfl).trans ((u30 238 99 rfl).trans ((u28 238 99 rfl).trans ((u26 238 99 rfl).trans (u13 238 99 rfl))))))))))
        have e113 : h108 238 100 = h 238 100 := ((u108 238 100 rfl).trans ((u102 238 100 rfl).trans ((u100 238 100 rfl).trans ((u80 238 100 rfl).trans ((u63 238 100 rfl).trans ((u37 238 100 rfl).trans ((u30 238 100 rfl).trans ((u28 238 100 rfl).trans ((u26 238 100 rfl).trans (u13 238 100 rfl))))))))))
        have e114 : h108 238 101 = h 238 101 := ((u108 238 101 rfl).trans ((u102 238 101 rfl).trans ((u100 238 101 rfl).trans ((u80 238 101 rfl).trans ((u63 238 101 rfl).trans ((u37 238 101 rfl).trans ((u30 238 101 rfl).trans ((u28 238 101 rfl).trans ((u26 238 101 rfl).trans (u13 238 101 rfl))))))))))
        have e115 : h108 238 102 = h 238 102 := ((u108 238 102 rfl).trans ((u102 238 102 rfl).trans ((u100 238 102 rfl).trans ((u80 238 102 rfl).trans ((u63 238 102 rfl).trans ((u37 238 102 rfl).trans ((u30 238 102 rfl).trans ((u28 238 102 rfl).trans ((u26 238 102 rfl).trans (u13 238 102 rfl))))))))))
        have e116 : h108 238 106 = h 238 106 := ((u108 238 106 rfl).trans ((u102 238 106 rfl).trans ((u100 238 106 rfl).trans ((u80 238 106 rfl).trans ((u63 238 106 rfl).trans ((u37 238 106 rfl).trans ((u30 238 106 rfl).trans ((u28 238 106 rfl).trans ((u26 238 106 rfl).trans (u13 238 106 rfl))))))))))
        have e117 : h108 238 73 = h 238 73 := ((u108 238 73 rfl).trans ((u102 238 73 rfl).trans ((u100 238 73 rfl).trans ((u80 238 73 rfl).trans ((u63 238 73 rfl).trans ((u37 238 73 rfl).trans ((u30 238 73 rfl).trans ((u28 238 73 rfl).trans ((u26 238 73 rfl).trans (u13 238 73 rfl))))))))))
        have e118 : h108 238 2 = h 238 2 := ((u108 238 2 rfl).trans ((u102 238 2 rfl).trans ((u100 238 2 rfl).trans ((u80 238 2 rfl).trans ((u63 238 2 rfl).trans ((u37 238 2 rfl).trans ((u30 238 2 rfl).trans ((u28 238 2 rfl).trans ((u26 238 2 rfl).trans (u13 238 2 rfl))))))))))
        have e119 : h108 238 119 = h 238 119 := ((u108 238 119 rfl).trans ((u102 238 119 rfl).trans ((u100 238 119 rfl).trans ((u80 238 119 rfl).trans ((u63 238 119 rfl).trans ((u37 238 119 rfl).trans ((u30 238 119 rfl).trans ((u28 238 119 rfl).trans ((u26 238 119 rfl).trans (u13 238 119 rfl))))))))))
        have e120 : h108 238 67 = h 238 67 := ((u108 238 67 rfl).trans ((u102 238 67 rfl).trans ((u100 238 67 rfl).trans ((u80 238 67 rfl).trans ((u63 238 67 rfl).trans ((u37 238 67 rfl).trans ((u30 238 67 rfl).trans ((u28 238 67 rfl).trans ((u26 238 67 rfl).trans (u13 238 67 rfl))))))))))
        have e121 : h108 238 69 = h 238 69 := ((u108 238 69 rfl).trans ((u102 238 69 rfl).trans ((u100 238 69 rfl).trans ((u80 238 69 rfl).trans ((u63 238 69 rfl).trans ((u37 238 69 rfl).trans ((u30 238 69 rfl).trans ((u28 238 69 rfl).trans ((u26 238 69 rfl).trans (u13 238 69 rfl))))))))))
        have e122 : h108 238 5 = h 238 5 := ((u108 238 5 rfl).trans ((u102 238 5 rfl).trans ((u100 238 5 rfl).trans ((u80 238 5 rfl).trans ((u63 238 5 rfl).trans ((u37 238 5 rfl).trans ((u30 238 5 rfl).trans ((u28 238 5 rfl).trans ((u26 238 5 rfl).trans (u13 238 5 rfl))))))))))
        have e123 : h108 236 2 = h13 236 2 := ((u108 236 2 rfl).trans ((u102 236 2 rfl).trans ((u100 236 2 rfl).trans ((u80 236 2 rfl).trans ((u63 236 2 rfl).trans ((u37 236 2 rfl).trans ((u30 236 2 rfl).trans ((u28 236 2 rfl).trans (u26 236 2 rfl)))))))))
        have e124 : h108 236 10 = h80 236 8 := ((u108 236 10 rfl).trans ((u102 236 10 rfl).trans w100))
        have e125 : h108 236 11 = h80 236 9 := ((u108 236 11 rfl).trans w102)
        have gs126 := GPS.fr u13 rfl xq1
        have gs127 := GPS.fr u26 rfl gs126
        have gs128 := GPS.fr u28 rfl gs127
        have gs129 := GPS.fr u30 rfl gs128
        have gs130 := GPS.fr u37 rfl gs129
        have gs131 := GPS.fr u63 rfl gs130
        have gs132 := GPS.fr u80 rfl gs131
        have gs133 := GPS.fr u100 rfl gs132
        have gs134 := GPS.fr u102 rfl gs133
        have gs135 := GPS.fr u108 rfl gs134
        have gp136 := GPH.fr u13 rfl gp0
        have gp137 := GPH.fr u26 rfl gp136
        have gp138 := GPH.fr u28 rfl gp137
        have gp139 := GPH.fr u30 rfl gp138
        have gp140 := GPH.fr u37 rfl gp139
        have gp141 := GPH.fr u63 rfl gp140
        have gp142 := GPH.fr u80 rfl gp141
        have gp143 := GPH.fr u100 rfl gp142
        have gp144 := GPH.fr u102 rfl gp143
        have gp145 := GPH.fr u108 rfl gp144
        exact k h108 0 g108 F109 (by omega) (show (h108 238 98) + (h108 238 99) + (h108 238 100) + (h108 238 101) + (h108 238 102) + (h108 238 106) = (h108 238 73) by omega) (show (h108 238 73) ≤ (h108 238 2) by omega) (show (h108 238 119) ≤ (h108 238 67) by omega) (show (h108 238 69) ≤ (h108 238 5) by omega) (show (h108 238 2) ≤ 12 * (h108 238 5) by omega) (show (h108 236 2) = 0 by omega) (show (h108 236 10) = sc_ec tB tn by omega) (show (h108 236 11) = sc_ep tB tn by omega) gs135 gp145
      ·
        refine wi_aload_n (i := 0) (x := 236) (nx := 51) (r1 := 0) (r2 := 0) (r3 := 0) rfl rfl ?_
        refine wi_bipush (n := 59) (nx := 53) (r1 := 0) (r2 := 0) (r3 := 0) rfl (by decide) ?_
        refine wr_V (k0 := 236) (rest := []) (as := [.ref 236, vi 59]) (nx := 56) (r1 := 235) (r2 := 1) (r3 := 11) rfl rfl rfl (of_decide_eq_true rfl) rfl rfl (by decide) rfl rfl (of_decide_eq_true rfl) (of_decide_eq_true rfl) ?_
        have e81 : h63 236 3 = h13 236 3 := ((u63 236 3 rfl).trans ((u37 236 3 rfl).trans ((u30 236 3 rfl).trans ((u28 236 3 rfl).trans (u26 236 3 rfl)))))
        have b82 := gi_b (lo := 0) (hi := 800) g63 236 5 rfl
        have b83 := gi_b (lo := 0) (hi := 999) g63 236 7 rfl
        have b84 := gi_b (lo := -9223372036854775808) (hi := 9223372036854775807) g63 236 12 rfl
        have rb85 := RefB.fr u63 rfl rb68
        refine ct_235_236_L59 hcr  g63   (show (h63 236 4) ≤ (h63 236 3) by omega) (show 0 ≤ ps61 by omega) (show ps61 ≤ tn by omega) (show ps61 ≤ tk_nx tB tn ps61 ∧ tk_nx tB tn ps61 ≤ tn from ⟨by omega, by omega⟩) (show 1 ≤ (h63 236 8) ∨ ((h63 236 4) = tk_nx tB tn ps61 ∧ (h63 236 5) = tk_st tB tn ps61 ∧ TKk tB tn ps61 ((h63 236 6)) ((h63 236 7)) ((h63 236 12))) from (Or.inl (by omega))) rb85 (fun h80 g80 u80 (p80_0 : (1 ≤ (h63 236 8) ∧ (h80 236 8) = (h63 236 8) ∧ (h80 236 9) = (h63 236 9)) ∨ ((h63 236 8) = 0 ∧ tk_kd tB tn ps61 = 3 ∧ (h80 236 8) = (h63 236 8) ∧ (h80 236 9) = (h63 236 9) ∧ ((h80 236 4) = tk_nx tB tn (tk_nx tB tn ps61) ∧ (h80 236 5) = tk_st tB tn (tk_nx tB tn ps61) ∧ TKk tB tn (tk_nx tB tn ps61) ((h80 236 6)) ((h80 236 7)) ((h80 236 12)))) ∨ ((h63 236 8) = 0 ∧ tk_kd tB tn ps61 ≠ 3 ∧ (h80 236 8) = 1 ∧ (h80 236 9) = tk_st tB tn ps61)) (p80_1 : (h63 236 4) ≤ (h80 236 4)) (p80_2 : (h80 236 4) ≤ (h63 236 3)) (p80_3 : 1 ≤ (h80 236 8) ∨ (h63 236 8) = 0) (p80_4 : 1 ≤ (h80 236 8) ∨ (h80 236 6) = 0 ∨ (h63 236 4) + 1 ≤ (h80 236 4)) => ?_)
        have F86 := F69.then (by decide +kernel) u80
        have F87 := F70.then (by decide +kernel) u80
        have b88 := gi_b (lo := 0) (hi := 5) g80 236 8 rfl
        have b89 := gi_b (lo := -2147483648) (hi := 2147483647) g80 236 9 rfl
        have b90 := gi_b (lo := 0) (hi := 800) g80 236 4 rfl
        have b91 := gi_b (lo := 0) (hi := 800) g80 236 5 rfl
        have b92 := gi_b (lo := 0) (hi := 4) g80 236 6 rfl
        have b93 := gi_b (lo := 0) (hi := 999) g80 236 7 rfl
        have b94 := gi_b (lo := -9223372036854775808) (hi := 9223372036854775807) g80 236 12 rfl
        refine wk_n ?_
        rcases p80_0 with p80_0 | p80_0 | p80_0
        ·
          replace p80_3 := p80_3.resolve_right (by omega)
          clear p80_4
          refine wi_aload_n (i := 0) (x := 236) (nx := 57) (r1 := 0) (r2 := 0) (r3 := 0) rfl rfl ?_
          refine wr_V (k0 := 236) (rest := []) (as := [.ref 236]) (nx := 60) (r1 := 338) (r2 := 0) (r3 := 11) rfl rfl rfl (of_decide_eq_true rfl) rfl rfl (by decide) rfl rfl (of_decide_eq_true rfl) (of_decide_eq_true rfl) ?_
          have e96 : h80 236 3 = h13 236 3 := ((u80 236 3 rfl).trans ((u63 236 3 rfl).trans ((u37 236 3 rfl).trans ((u30 236 3 rfl).trans ((u28 236 3 rfl).trans (u26 236 3 rfl))))))
          have e97 : h80 236 42 = h63 236 42 := (u80 236 42 rfl)
          have e98 : h80 236 44 = h63 236 44 := (u80 236 44 rfl)
          have e99 : h80 236 43 = h63 236 43 := (u80 236 43 rfl)
          have q100 : h80 253 = h63 253 := funext (fun i => (u80 253 i (fo_no_ok (by decide) i)))
          have rb101 := RefB.fr u80 rfl rb85
          refine ct_338_236 hcr  g80   (show (h80 236 4) ≤ (h80 236 3) by omega) (show 1 ≤ (h80 236 8) ∨ (h80 236 42) + (h80 236 44) ≤ 2 * (h80 236 43) from (Or.inl (by omega))) (fun e => by rw [q100, show h80 236 42 = h63 236 42 by omega, show h80 236 44 = h63 236 44 by omega]; exact y63_0 (by omega)) rb101 (SCI.er rfl rfl (by omega) (frs61.symm.trans (sc_m1 kzs61 hos61.no (by rw [eqq78]; first | done | exact sc_inl (by omega) (by omega))))) (fun h95 g95 u95 (p95_0 : (h80 236 4) ≤ (h95 236 4)) (p95_1 : (h95 236 4) ≤ (h80 236 3)) (p95_2 : 1 ≤ (h95 236 8) ∨ (h80 236 8) = 0) (p95_3 : (h80 236 6) ≠ 0 ∨ (h95 236 6) = 0) (p95_4 : 1 ≤ (h95 236 8) ∨ (h95 236 42) + (h95 236 44) ≤ 2 * (h95 236 43)) y95_0 y95_1 y95_2 => ?_)
          have F102 := F86.then (by decide +kernel) u95
          have F103 := F87.then (by decide +kernel) u95
          have b104 := gi_b (lo := 0) (hi := 800) g95 236 4 rfl
          have b105 := gi_b (lo := 0) (hi := 5) g95 236 8 rfl
          have b106 := gi_b (lo := 0) (hi := 4) g95 236 6 rfl
          have b107 := gi_b (lo := 0) (hi := 80) g95 236 42 rfl
          have b108 := gi_b (lo := 0) (hi := 2) g95 236 44 rfl
          have e109 : h95 236 43 = h63 236 43 := ((u95 236 43 rfl).trans (u80 236 43 rfl))
          replace p95_2 := p95_2.resolve_right (by omega)
          clear p95_4
          refine wk_n ?_
          refine wi_goto (nx := 63) (r1 := 19) (r2 := 0) (r3 := 0) rfl ?_
          refine wi_aload_n (i := 0) (x := 236) (nx := 20) (r1 := 0) (r2 := 0) (r3 := 0) rfl rfl ?_
          refine wr_V (k0 := 236) (rest := []) (as := [.ref 236]) (nx := 23) (r1 := 219) (r2 := 0) (r3 := 11) rfl rfl rfl (of_decide_eq_true rfl) rfl rfl (by decide) rfl rfl (of_decide_eq_true rfl) (of_decide_eq_true rfl) ?_
          refine wi_aload_n (i := 0) (x := 236) (nx := 1) (r1 := 0) (r2 := 0) (r3 := 0) rfl rfl ?_
          refine wr_gi0 (k0 := 236) (x := h95 236 8) (nx := 4) (r1 := 11) (r2 := 8) (r3 := 0) rfl rfl (by decide) rfl ⟨rfl, rfl⟩ rfl rfl ?_
          refine wi_if (cd := .ne) (nx := 7) (r1 := 11) (r2 := 0) (r3 := 0) rfl (by omega) (fun (q110 : (h95 236 8) ≠ 0) => ?_) (fun (q110 : ¬ ((h95 236 8) ≠ 0)) => by exfalso; omega)
          refine wi_iconst (n := 0) (nx := 12) (r1 := 0) (r2 := 0) (r3 := 0) rfl ?_
          refine wi_zreturn (nx := 13) (r1 := 0) (r2 := 0) (r3 := 0) rfl rfl (by omega) ?_
          refine wk_i ?_
          refine wi_if (cd := .eq) (nx := 26) (r1 := 63) (r2 := 0) (r3 := 0) rfl (by omega) (fun (q112 : 0 = 0) => ?_) (fun (q112 : ¬ (0 = 0)) => by exfalso; omega)
          refine wi_aload_n (i := 0) (x := 236) (nx := 64) (r1 := 0) (r2 := 0) (r3 := 0) rfl rfl ?_
          refine wr_V (k0 := 236) (rest := []) (as := [.ref 236]) (nx := 67) (r1 := 219) (r2 := 0) (r3 := 11) rfl rfl rfl (of_decide_eq_true rfl) rfl rfl (by decide) rfl rfl (of_decide_eq_true rfl) (of_decide_eq_true rfl) ?_
          refine wi_aload_n (i := 0) (x := 236) (nx := 1) (r1 := 0) (r2 := 0) (r3 := 0) rfl rfl ?_
          refine wr_gi0 (k0 := 236) (x := h95 236 8) (nx := 4) (r1 := 11) (r2 := 8) (r3 := 0) rfl rfl (by decide) rfl ⟨rfl, rfl⟩ rfl rfl ?_
          refine wi_if (cd := .ne) (nx := 7) (r1 := 11) (r2 := 0) (r3 := 0) rfl (by omega) (fun (q113 : (h95 236 8) ≠ 0) => ?_) (fun (q113 : ¬ ((h95 236 8) ≠ 0)) => by exfalso; omega)
          refine wi_iconst (n := 0) (nx := 12) (r1 := 0) (r2 := 0) (r3 := 0) rfl ?_
          refine wi_zreturn (nx := 13) (r1 := 0) (r2 := 0) (r3 := 0) rfl rfl (by omega) ?_
          refine wk_i ?_
          refine wi_if (cd := .eq) (nx := 70) (r1 := 82) (r2 := 0) (r3 := 0) rfl (by omega) (fun (q115 : 0 = 0) => ?_) (fun (q115 : ¬ (0 = 0)) => by exfalso; omega)
          have b117 := gi_b (lo := -2147483648) (hi := 2147483647) g95 236 9 rfl
          have RE116 := sc_REq (SCI.bad y95_1 (by omega))
          refine wi_aload_n (i := 0) (x := 236) (nx := 83) (r1 := 0) (r2 := 0) (r3 := 0) rfl rfl ?_
          refine wr_V (k0 := 236) (rest := []) (as := [.ref 236]) (nx := 86) (r1 := 237) (r2 := 0) (r3 := 11) rfl rfl rfl (of_decide_eq_true rfl) rfl rfl (by decide) rfl rfl (of_decide_eq_true rfl) (of_decide_eq_true rfl) ?_
          refine wi_aload_n (i := 0) (x := 236) (nx := 1) (r1 := 0) (r2 := 0) (r3 := 0) rfl rfl ?_
          refine wi_aload_n (i := 0) (x := 236) (nx := 2) (r1 := 0) (r2 := 0) (r3 := 0) rfl rfl ?_
          refine wr_gi0 (k0 := 236) (x := h95 236 8) (nx := 5) (r1 := 11) (r2 := 8) (r3 := 0) rfl rfl (by decide) rfl ⟨rfl, rfl⟩ rfl rfl ?_
          refine wr_pf0 (k0 := 236) (x := h95 236 8) (bl := -2147483648) (bh := 2147483647) (nx := 8) (r1 := 11) (r2 := 10) (r3 := 0) rfl (by decide) rfl ⟨rfl, rfl⟩ rfl rfl g95 rfl (by omega) (fun h118 g118 w118 u118 => ?_)
          have F119 := F102.then rfl u118
          refine wi_aload_n (i := 0) (x := 236) (nx := 9) (r1 := 0) (r2 := 0) (r3 := 0) rfl rfl ?_
          refine wi_aload_n (i := 0) (x := 236) (nx := 10) (r1 := 0) (r2 := 0) (r3 := 0) rfl rfl ?_
          refine wr_gi0 (k0 := 236) (x := h95 236 9) (nx := 13) (r1 := 11) (r2 := 9) (r3 := 0) rfl rfl (by decide) rfl ⟨rfl, rfl⟩ rfl (u118 236 9 rfl) ?_
          refine wr_pf0 (k0 := 236) (x := h95 236 9) (bl := -2147483648) (bh := 2147483647) (nx := 16) (r1 := 11) (r2 := 11) (r3 := 0) rfl (by decide) rfl ⟨rfl, rfl⟩ rfl rfl g118 rfl (by omega) (fun h120 g120 w120 u120 => ?_)
          have F121 := F119.then rfl u120
          refine wi_aload_n (i := 0) (x := 236) (nx := 17) (r1 := 0) (r2 := 0) (r3 := 0) rfl rfl ?_
          refine wi_aload_n (i := 0) (x := 236) (nx := 18) (r1 := 0) (r2 := 0) (r3 := 0) rfl rfl ?_
          refine wr_gi0 (k0 := 236) (x := h95 236 8) (nx := 21) (r1 := 11) (r2 := 8) (r3 := 0) rfl rfl (by decide) rfl ⟨rfl, rfl⟩ rfl ((u120 236 8 rfl).trans (u118 236 8 rfl)) ?_
          refine wi_if (cd := .ne) (nx := 24) (r1 := 28) (r2 := 0) (r3 := 0) rfl (by omega) (fun (q122 : (h95 236 8) ≠ 0) => ?_) (fun (q122 : ¬ ((h95 236 8) ≠ 0)) => by exfalso; omega)
          refine wi_iconst (n := 0) (nx := 29) (r1 := 0) (r2 := 0) (r3 := 0) rfl ?_
          refine wr_V (k0 := 236) (rest := []) (as := [.ref 236, vi 0]) (nx := 32) (r1 := 206) (r2 := 1) (r3 := 11) rfl rfl rfl (of_decide_eq_true rfl) rfl rfl (by decide) rfl rfl (of_decide_eq_true rfl) (of_decide_eq_true rfl) ?_
          refine wi_aload_n (i := 0) (x := 236) (nx := 1) (r1 := 0) (r2 := 0) (r3 := 0) rfl rfl ?_
          refine wi_iload_n (i := 1) (e := 0) (nx := 2) (r1 := 0) (r2 := 0) (r3 := 0) rfl rfl ?_
          refine wi_if (cd := .ne) (nx := 5) (r1 := 9) (r2 := 0) (r3 := 0) rfl (by omega) (fun (q124 : 0 ≠ 0) => by exfalso; omega) (fun (q124 : ¬ (0 ≠ 0)) => ?_)
          refine wi_iconst (n := 1) (nx := 6) (r1 := 0) (r2 := 0) (r3 := 0) rfl ?_
          refine wi_goto (nx := 9) (r1 := 10) (r2 := 0) (r3 := 0) rfl ?_
          refine wi_S (rest := [.ref 236]) (as := [vi 1]) (nx := 13) (r1 := 207) (r2 := 17) (r3 := 0) rfl rfl rfl (of_decide_eq_true rfl) rfl rfl (of_decide_eq_true rfl) (of_decide_eq_true rfl) ?_
          refine wi_iload_n (i := 0) (e := 1) (nx := 1) (r1 := 0) (r2 := 0) (r3 := 0) rfl rfl ?_
          refine wi_if (cd := .eq) (nx := 4) (r1 := 8) (r2 := 0) (r3 := 0) rfl (by omega) (fun (q125 : 1 = 0) => by exfalso; omega) (fun (q125 : ¬ (1 = 0)) => ?_)
          refine wi_iconst (n := 1) (nx := 5) (r1 := 0) (r2 := 0) (r3 := 0) rfl ?_
          refine wi_goto (nx := 8) (r1 := 9) (r2 := 0) (r3 := 0) rfl ?_
          refine wi_ireturn (nx := 10) (r1 := 0) (r2 := 0) (r3 := 0) rfl rfl ?_
          refine wk_i ?_
          refine wr_pf0 (k0 := 236) (x := 1) (bl := 0) (bh := 2) (nx := 16) (r1 := 11) (r2 := 0) (r3 := 0) rfl (by decide) rfl ⟨rfl, rfl⟩ rfl rfl g120 rfl (by omega) (fun h126 g126 w126 u126 => ?_)
          have F127 := F121.then rfl u126
          refine wi_iload_n (i := 1) (e := 0) (nx := 17) (r1 := 0) (r2 := 0) (r3 := 0) rfl rfl ?_
          refine wi_zreturn (nx := 18) (r1 := 0) (r2 := 0) (r3 := 0) rfl rfl (by omega) ?_
          refine wk_i ?_
          refine wi_zreturn (nx := 33) (r1 := 0) (r2 := 0) (r3 := 0) rfl rfl (by omega) ?_
          refine wk_i ?_
          refine wi_if (cd := .ne) (nx := 89) (r1 := 91) (r2 := 0) (r3 := 0) rfl (by omega) (fun (q128 : 0 ≠ 0) => by exfalso; omega) (fun (q128 : ¬ (0 ≠ 0)) => ?_)
          refine wi_iconst (n := 0) (nx := 90) (r1 := 0) (r2 := 0) (r3 := 0) rfl ?_
          refine wi_ireturn (nx := 91) (r1 := 0) (r2 := 0) (r3 := 0) rfl rfl ?_
          have e129 : h126 238 98 = h 238 98 := ((u126 238 98 rfl).trans ((u120 238 98 rfl).trans ((u118 238 98 rfl).trans ((u95 238 98 rfl).trans ((u80 238 98 rfl).trans ((u63 238 98 rfl).trans ((u37 238 98 rfl).trans ((u30 238 98 rfl).trans ((u28 238 98 rfl).trans ((u26 238 98 rfl).trans (u13 238 98 rfl)))))))))))
          have e130 : h126 238 99 = h 238 99 := ((u126 238 99 rfl).trans ((u120 238 99 rfl).trans ((u118 238 99 rfl).trans ((u95 238 99 rfl).trans ((u80 238 99 rfl).trans ((u63 238 99 rfl).trans ((u37 238 99 rfl).trans ((u30 238 99 rfl).trans ((u28 238 99 rfl).trans ((u26 238 99 rfl).trans (u13 238 99 rfl)))))))))))
          have e131 : h126 238 100 = h 238 100 := ((u126 238 100 rfl).trans ((u120 238 100 rfl).trans ((u118 238 100 rfl).trans ((u95 238 100 rfl).trans ((u80 238 100 rfl).trans ((u63 238 100 rfl).trans ((u37 238 100 rfl).trans ((u30 238 100 rfl).trans ((u28 238 100 rfl).trans ((u26 238 100 rfl).trans (u13 238 100 rfl)))))))))))
          have e132 : h126 238 101 = h 238 101 := ((u126 238 101 rfl).trans ((u120 238 101 rfl).trans ((u118 238 101 rfl).trans ((u95 238 101 rfl).trans ((u80 238 101 rfl).trans ((u63 238 101 rfl).trans ((u37 238 101 rfl).trans ((u30 238 101 rfl).trans ((u28 238 101 rfl).trans ((u26 238 101 rfl).trans (u13 238 101 rfl)))))))))))
          have e133 : h126 238 102 = h 238 102 := ((u126 238 102 rfl).trans ((u120 238 102 rfl).trans ((u118 238 102 rfl).trans ((u95 238 102 rfl).trans ((u80 238 102 rfl).trans ((u63 238 102 rfl).trans ((u37 238 102 rfl).trans ((u30 238 102 rfl).trans ((u28 238 102 rfl).trans ((u26 238 102 rfl).trans (u13 238 102 rfl)))))))))))
          have e134 : h126 238 106 = h 238 106 := ((u126 238 106 rfl).trans ((u120 238 106 rfl).trans ((u118 238 106 rfl).trans ((u95 238 106 rfl).trans ((u80 238 106 rfl).trans ((u63 238 106 rfl).trans ((u37 238 106 rfl).trans ((u30 238 106 rfl).trans ((u28 238 106 rfl).trans ((u26 238 106 rfl).trans (u13 238 106 rfl)))))))))))
          have e135 : h126 238 73 = h 238 73 := ((u126 238 73 rfl).trans ((u120 238 73 rfl).trans ((u118 238 73 rfl).trans ((u95 238 73 rfl).trans ((u80 238 73 rfl).trans ((u63 238 73 rfl).trans ((u37 238 73 rfl).trans ((u30 238 73 rfl).trans ((u28 238 73 rfl).trans ((u26 238 73 rfl).trans (u13 238 73 rfl)))))))))))
          have e136 : h126 238 2 = h 238 2 := ((u126 238 2 rfl).trans ((u120 238 2 rfl).trans ((u118 238 2 rfl).trans ((u95 238 2 rfl).trans ((u80 238 2 rfl).trans ((u63 238 2 rfl).trans ((u37 238 2 rfl).trans ((u30 238 2 rfl).trans ((u28 238 2 rfl).trans ((u26 238 2 rfl).trans (u13 238 2 rfl)))))))))))
          have e137 : h126 238 119 = h 238 119 := ((u126 238 119 rfl).trans ((u120 238 119 rfl).trans ((u118 238 119 rfl).trans ((u95 238 119 rfl).trans ((u80 238 119 rfl).trans ((u63 238 119 rfl).trans ((u37 238 119 rfl).trans ((u30 238 119 rfl).trans ((u28 238 119 rfl).trans ((u26 238 119 rfl).trans (u13 238 119 rfl)))))))))))
          have e138 : h126 238 67 = h 238 67 := ((u126 238 67 rfl).trans ((u120 238 67 rfl).trans ((u118 238 67 rfl).trans ((u95 238 67 rfl).trans ((u80 238 67 rfl).trans ((u63 238 67 rfl).trans ((u37 238 67 rfl).trans ((u30 238 67 rfl).trans ((u28 238 67 rfl).trans ((u26 238 67 rfl).trans (u13 238 67 rfl)))))))))))
          have e139 : h126 238 69 = h 238 69 := ((u126 238 69 rfl).trans ((u120 238 69 rfl).trans ((u118 238 69 rfl).trans ((u95 238 69 rfl).trans ((u80 238 69 rfl).trans ((u63 238 69 rfl).trans ((u37 238 69 rfl).trans ((u30 238 69 rfl).trans ((u28 238 69 rfl).trans ((u26 238 69 rfl).trans (u13 238 69 rfl)))))))))))
          have e140 : h126 238 5 = h 238 5 := ((u126 238 5 rfl).trans ((u120 238 5 rfl).trans ((u118 238 5 rfl).trans ((u95 238 5 rfl).trans ((u80 238 5 rfl).trans ((u63 238 5 rfl).trans ((u37 238 5 rfl).trans ((u30 238 5 rfl).trans ((u28 238 5 rfl).trans ((u26 238 5 rfl).trans (u13 238 5 rfl)))))))))))
          have e141 : h126 236 2 = h13 236 2 := ((u126 236 2 rfl).trans ((u120 236 2 rfl).trans ((u118 236 2 rfl).trans ((u95 236 2 rfl).trans ((u80 236 2 rfl).trans ((u63 236 2 rfl).trans ((u37 236 2 rfl).trans ((u30 236 2 rfl).trans ((u28 236 2 rfl).trans (u26 236 2 rfl))))))))))
          have e142 : h126 236 10 = h95 236 8 := ((u126 236 10 rfl).trans ((u120 236 10 rfl).trans w118))
          have e143 : h126 236 11 = h95 236 9 := ((u126 236 11 rfl).trans w120)
          have gs144 := GPS.fr u13 rfl xq1
          have gs145 := GPS.fr u26 rfl gs144
          have gs146 := GPS.fr u28 rfl gs145
          have gs147 := GPS.fr u30 rfl gs146
          have gs148 := GPS.fr u37 rfl gs147
          have gs149 := GPS.fr u63 rfl gs148
          have gs150 := GPS.fr u80 rfl gs149
          have gs151 := GPS.fr u95 rfl gs150
          have gs152 := GPS.fr u118 rfl gs151
          have gs153 := GPS.fr u120 rfl gs152
          have gs154 := GPS.fr u126 rfl gs153
          have gp155 := GPH.fr u13 rfl gp0
          have gp156 := GPH.fr u26 rfl gp155
          have gp157 := GPH.fr u28 rfl gp156
          have gp158 := GPH.fr u30 rfl gp157
          have gp159 := GPH.fr u37 rfl gp158
          have gp160 := GPH.fr u63 rfl gp159
          have gp161 := GPH.fr u80 rfl gp160
          have gp162 := GPH.fr u95 rfl gp161
          have gp163 := GPH.fr u118 rfl gp162
          have gp164 := GPH.fr u120 rfl gp163
          have gp165 := GPH.fr u126 rfl gp164
          exact k h126 0 g126 F127 (by omega) (show (h126 238 98) + (h126 238 99) + (h126 238 100) + (h126 238 101) + (h126 238 102) + (h126 238 106) = (h126 238 73) by omega) (show (h126 238 73) ≤ (h126 238 2) by omega) (show (h126 238 119) ≤ (h126 238 67) by omega) (show (h126 238 69) ≤ (h126 238 5) by omega) (show (h126 238 2) ≤ 12 * (h126 238 5) by omega) (show (h126 236 2) = 0 by omega) (show (h126 236 10) = sc_ec tB tn by omega) (show (h126 236 11) = sc_ep tB tn by omega) gs154 gp165
        ·
          have tkk95 := (p80_0.2.2.2.2).2.2
          have tN96 := @tk_nx_b tB tn (tk_nx tB tn ps61) (by omega) (by omega)
          exfalso; omega
        ·
          exfalso; omega
    ·
      replace p63_1 := p63_1.resolve_left (by omega)
      replace p63_5 := p63_5.resolve_left (by omega)
      have b79 := gi_b (lo := 0) (hi := 800) g63 236 5 rfl
      have b80 := gi_b (lo := 0) (hi := 999) g63 236 7 rfl
      have b81 := gi_b (lo := -9223372036854775808) (hi := 9223372036854775807) g63 236 12 rfl
      obtain ⟨emq78, q78, eaq78, ecq78, edq78, tkq78, eqq78⟩ := sc_OM2 y63_1 (by omega) (by omega)
      obtain ⟨taq78, tbq78, tcq78⟩ : _ ∧ _ ∧ TKk tB tn q78 (h63 236 6) (h63 236 7) (h63 236 12) := id tkq78
      have tN82 := @tk_nx_b tB tn q78 (by omega) (by omega)
      refine wi_aload_n (i := 0) (x := 236) (nx := 43) (r1 := 0) (r2 := 0) (r3 := 0) rfl rfl ?_
      refine wr_gi0 (k0 := 236) (x := h63 236 44) (nx := 46) (r1 := 11) (r2 := 44) (r3 := 0) rfl rfl (by decide) rfl ⟨rfl, rfl⟩ rfl rfl ?_
      refine wi_iload_n (i := 1) (e := h37 236 44) (nx := 47) (r1 := 0) (r2 := 0) (r3 := 0) rfl rfl ?_
      refine wi_icmp (cd := .ne) (nx := 50) (r1 := 56) (r2 := 0) (r3 := 0) rfl (by omega) (by omega) (fun (q83 : (h63 236 44) ≠ (h37 236 44)) => ?_) (fun (q83 : ¬ ((h63 236 44) ≠ (h37 236 44))) => by exfalso; omega)
      refine wi_aload_n (i := 0) (x := 236) (nx := 57) (r1 := 0) (r2 := 0) (r3 := 0) rfl rfl ?_
      refine wr_V (k0 := 236) (rest := []) (as := [.ref 236]) (nx := 60) (r1 := 338) (r2 := 0) (r3 := 11) rfl rfl rfl (of_decide_eq_true rfl) rfl rfl (by decide) rfl rfl (of_decide_eq_true rfl) (of_decide_eq_true rfl) ?_
      have e85 : h63 236 3 = h13 236 3 := ((u63 236 3 rfl).trans ((u37 236 3 rfl).trans ((u30 236 3 rfl).trans ((u28 236 3 rfl).trans (u26 236 3 rfl)))))
      have q86 : h63 253 = h63 253 := funext (fun i => rfl)
      have rb87 := RefB.fr u63 rfl rb68
      refine ct_338_236 hcr  g63   (show (h63 236 4) ≤ (h63 236 3) by omega) (show 1 ≤ (h63 236 8) ∨ (h63 236 42) + (h63 236 44) ≤ 2 * (h63 236 43) from (Or.inr (by omega))) (fun e => by rw [q86, show h63 236 42 = h63 236 42 by omega, show h63 236 44 = h63 236 44 by omega]; exact y63_0 (by omega)) rb87 (SCI.mk ks61 q78 (by omega) (by omega) (by omega) (by omega) (by omega) (by first | assumption | exact ⟨by omega, by omega, TKk.mv (by assumption) (by omega) (by omega) (by omega)⟩) (by rw [show h63 236 44 = h37 236 44 + 1 by omega, show h63 236 43 = h37 236 43 + 1 by omega]; exact (sc_m2 kzs61 hos61.no eqq78).symm.trans frs61)) (fun h84 g84 u84 (p84_0 : (h63 236 4) ≤ (h84 236 4)) (p84_1 : (h84 236 4) ≤ (h63 236 3)) (p84_2 : 1 ≤ (h84 236 8) ∨ (h63 236 8) = 0) (p84_3 : (h63 236 6) ≠ 0 ∨ (h84 236 6) = 0) (p84_4 : 1 ≤ (h84 236 8) ∨ (h84 236 42) + (h84 236 44) ≤ 2 * (h84 236 43)) y84_0 y84_1 y84_2 => ?_)
      have F88 := F69.then (by decide +kernel) u84
      have F89 := F70.then (by decide +kernel) u84
      have b90 := gi_b (lo := 0) (hi := 800) g84 236 4 rfl
      have b91 := gi_b (lo := 0) (hi := 5) g84 236 8 rfl
      have b92 := gi_b (lo := 0) (hi := 4) g84 236 6 rfl
      have b93 := gi_b (lo := 0) (hi := 80) g84 236 42 rfl
      have b94 := gi_b (lo := 0) (hi := 2) g84 236 44 rfl
      have e95 : h84 236 43 = h63 236 43 := (u84 236 43 rfl)
      clear p84_2
      refine wk_n ?_
      refine wi_goto (nx := 63) (r1 := 19) (r2 := 0) (r3 := 0) rfl ?_
      refine wi_aload_n (i := 0) (x := 236) (nx := 20) (r1 := 0) (r2 := 0) (r3 := 0) rfl rfl ?_
      refine wr_V (k0 := 236) (rest := []) (as := [.ref 236]) (nx := 23) (r1 := 219) (r2 := 0) (r3 := 11) rfl rfl rfl (of_decide_eq_true rfl) rfl rfl (by decide) rfl rfl (of_decide_eq_true rfl) (of_decide_eq_true rfl) ?_
      refine wi_aload_n (i := 0) (x := 236) (nx := 1) (r1 := 0) (r2 := 0) (r3 := 0) rfl rfl ?_
      refine wr_gi0 (k0 := 236) (x := h84 236 8) (nx := 4) (r1 := 11) (r2 := 8) (r3 := 0) rfl rfl (by decide) rfl ⟨rfl, rfl⟩ rfl rfl ?_
      refine wi_if (cd := .ne) (nx := 7) (r1 := 11) (r2 := 0) (r3 := 0) rfl (by omega) (fun (q96 : (h84 236 8) ≠ 0) => ?_) (fun (q96 : ¬ ((h84 236 8) ≠ 0)) => ?_)
      ·
        replace q96 : 0 + 1 ≤ (h84 236 8) := by omega
        refine wi_iconst (n := 0) (nx := 12) (r1 := 0) (r2 := 0) (r3 := 0) rfl ?_
        refine wi_zreturn (nx := 13) (r1 := 0) (r2 := 0) (r3 := 0) rfl rfl (by omega) ?_
        refine wk_i ?_
        refine wi_if (cd := .eq) (nx := 26) (r1 := 63) (r2 := 0) (r3 := 0) rfl (by omega) (fun (q98 : 0 = 0) => ?_) (fun (q98 : ¬ (0 = 0)) => by exfalso; omega)
        refine wi_aload_n (i := 0) (x := 236) (nx := 64) (r1 := 0) (r2 := 0) (r3 := 0) rfl rfl ?_
        refine wr_V (k0 := 236) (rest := []) (as := [.ref 236]) (nx := 67) (r1 := 219) (r2 := 0) (r3 := 11) rfl rfl rfl (of_decide_eq_true rfl) rfl rfl (by decide) rfl rfl (of_decide_eq_true rfl) (of_decide_eq_true rfl) ?_
        refine wi_aload_n (i := 0) (x := 236) (nx := 1) (r1 := 0) (r2 := 0) (r3 := 0) rfl rfl ?_
        refine wr_gi0 (k0 := 236) (x := h84 236 8) (nx := 4) (r1 := 11) (r2 := 8) (r3 := 0) rfl rfl (by decide) rfl ⟨rfl, rfl⟩ rfl rfl ?_
        refine wi_if (cd := .ne) (nx := 7) (r1 := 11) (r2 := 0) (r3 := 0) rfl (by omega) (fun (q99 : (h84 236 8) ≠ 0) => ?_) (fun (q99 : ¬ ((h84 236 8) ≠ 0)) => by exfalso; omega)
        refine wi_iconst (n := 0) (nx := 12) (r1 := 0) (r2 := 0) (r3 := 0) rfl ?_
        refine wi_zreturn (nx := 13) (r1 := 0) (r2 := 0) (r3 := 0) rfl rfl (by omega) ?_
        refine wk_i ?_
        refine wi_if (cd := .eq) (nx := 70) (r1 := 82) (r2 := 0) (r3 := 0) rfl (by omega) (fun (q101 : 0 = 0) => ?_) (fun (q101 : ¬ (0 = 0)) => by exfalso; omega)
        have b103 := gi_b (lo := -2147483648) (hi := 2147483647) g84 236 9 rfl
        have RE102 := sc_REq (SCI.bad y84_1 (by omega))
        refine wi_aload_n (i := 0) (x := 236) (nx := 83) (r1 := 0) (r2 := 0) (r3 := 0) rfl rfl ?_
        refine wr_V (k0 := 236) (rest := []) (as := [.ref 236]) (nx := 86) (r1 := 237) (r2 := 0) (r3 := 11) rfl rfl rfl (of_decide_eq_true rfl) rfl rfl (by decide) rfl rfl (of_decide_eq_true rfl) (of_decide_eq_true rfl) ?_
        refine wi_aload_n (i := 0) (x := 236) (nx := 1) (r1 := 0) (r2 := 0) (r3 := 0) rfl rfl ?_
        refine wi_aload_n (i := 0) (x := 236) (nx := 2) (r1 := 0) (r2 := 0) (r3 := 0) rfl rfl ?_
        refine wr_gi0 (k0 := 236) (x := h84 236 8) (nx := 5) (r1 := 11) (r2 := 8) (r3 := 0) rfl rfl (by decide) rfl ⟨rfl, rfl⟩ rfl rfl ?_
        refine wr_pf0 (k0 := 236) (x := h84 236 8) (bl := -2147483648) (bh := 2147483647) (nx := 8) (r1 := 11) (r2 := 10) (r3 := 0) rfl (by decide) rfl ⟨rfl, rfl⟩ rfl rfl g84 rfl (by omega) (fun h104 g104 w104 u104 => ?_)
        have F105 := F88.then rfl u104
        refine wi_aload_n (i := 0) (x := 236) (nx := 9) (r1 := 0) (r2 := 0) (r3 := 0) rfl rfl ?_
        refine wi_aload_n (i := 0) (x := 236) (nx := 10) (r1 := 0) (r2 := 0) (r3 := 0) rfl rfl ?_
        refine wr_gi0 (k0 := 236) (x := h84 236 9) (nx := 13) (r1 := 11) (r2 := 9) (r3 := 0) rfl rfl (by decide) rfl ⟨rfl, rfl⟩ rfl (u104 236 9 rfl) ?_
        refine wr_pf0 (k0 := 236) (x := h84 236 9) (bl := -2147483648) (bh := 2147483647) (nx := 16) (r1 := 11) (r2 := 11) (r3 := 0) rfl (by decide) rfl ⟨rfl, rfl⟩ rfl rfl g104 rfl (by omega) (fun h106 g106 w106 u106 => ?_)
        have F107 := F105.then rfl u106
        refine wi_aload_n (i := 0) (x := 236) (nx := 17) (r1 := 0) (r2 := 0) (r3 := 0) rfl rfl ?_
        refine wi_aload_n (i := 0) (x := 236) (nx := 18) (r1 := 0) (r2 := 0) (r3 := 0) rfl rfl ?_
        refine wr_gi0 (k0 := 236) (x := h84 236 8) (nx := 21) (r1 := 11) (r2 := 8) (r3 := 0) rfl rfl (by decide) rfl ⟨rfl, rfl⟩ rfl ((u106 236 8 rfl).trans (u104 236 8 rfl)) ?_
        refine wi_if (cd := .ne) (nx := 24) (r1 := 28) (r2 := 0) (r3 := 0) rfl (by omega) (fun (q108 : (h84 236 8) ≠ 0) => ?_) (fun (q108 : ¬ ((h84 236 8) ≠ 0)) => by exfalso; omega)
        refine wi_iconst (n := 0) (nx := 29) (r1 := 0) (r2 := 0) (r3 := 0) rfl ?_
        refine wr_V (k0 := 236) (rest := []) (as := [.ref 236, vi 0]) (nx := 32) (r1 := 206) (r2 := 1) (r3 := 11) rfl rfl rfl (of_decide_eq_true rfl) rfl rfl (by decide) rfl rfl (of_decide_eq_true rfl) (of_decide_eq_true rfl) ?_
        refine wi_aload_n (i := 0) (x := 236) (nx := 1) (r1 := 0) (r2 := 0) (r3 := 0) rfl rfl ?_
        refine wi_iload_n (i := 1) (e := 0) (nx := 2) (r1 := 0) (r2 := 0) (r3 := 0) rfl rfl ?_
        refine wi_if (cd := .ne) (nx := 5) (r1 := 9) (r2 := 0) (r3 := 0) rfl (by omega) (fun (q110 : 0 ≠ 0) => by exfalso; omega) (fun (q110 : ¬ (0 ≠ 0)) => ?_)
        refine wi_iconst (n := 1) (nx := 6) (r1 := 0) (r2 := 0) (r3 := 0) rfl ?_
        refine wi_goto (nx := 9) (r1 := 10) (r2 := 0) (r3 := 0) rfl ?_
        refine wi_S (rest := [.ref 236]) (as := [vi 1]) (nx := 13) (r1 := 207) (r2 := 17) (r3 := 0) rfl rfl rfl (of_decide_eq_true rfl) rfl rfl (of_decide_eq_true rfl) (of_decide_eq_true rfl) ?_
        refine wi_iload_n (i := 0) (e := 1) (nx := 1) (r1 := 0) (r2 := 0) (r3 := 0) rfl rfl ?_
        refine wi_if (cd := .eq) (nx := 4) (r1 := 8) (r2 := 0) (r3 := 0) rfl (by omega) (fun (q111 : 1 = 0) => by exfalso; omega) (fun (q111 : ¬ (1 = 0)) => ?_)
        refine wi_iconst (n := 1) (nx := 5) (r1 := 0) (r2 := 0) (r3 := 0) rfl ?_
        refine wi_goto (nx := 8) (r1 := 9) (r2 := 0) (r3 := 0) rfl ?_
        refine wi_ireturn (nx := 10) (r1 := 0) (r2 := 0) (r3 := 0) rfl rfl ?_
        refine wk_i ?_
        refine wr_pf0 (k0 := 236) (x := 1) (bl := 0) (bh := 2) (nx := 16) (r1 := 11) (r2 := 0) (r3 := 0) rfl (by decide) rfl ⟨rfl, rfl⟩ rfl rfl g106 rfl (by omega) (fun h112 g112 w112 u112 => ?_)
        have F113 := F107.then rfl u112
        refine wi_iload_n (i := 1) (e := 0) (nx := 17) (r1 := 0) (r2 := 0) (r3 := 0) rfl rfl ?_
        refine wi_zreturn (nx := 18) (r1 := 0) (r2 := 0) (r3 := 0) rfl rfl (by omega) ?_
        refine wk_i ?_
        refine wi_zreturn (nx := 33) (r1 := 0) (r2 := 0) (r3 := 0) rfl rfl (by omega) ?_
        refine wk_i ?_
        refine wi_if (cd := .ne) (nx := 89) (r1 := 91) (r2 := 0) (r3 := 0) rfl (by omega) (fun (q114 : 0 ≠ 0) => by exfalso; omega) (fun (q114 : ¬ (0 ≠ 0)) => ?_)
        refine wi_iconst (n := 0) (nx := 90) (r1 := 0) (r2 := 0) (r3 := 0) rfl ?_
        refine wi_ireturn (nx := 91) (r1 := 0) (r2 := 0) (r3 := 0) rfl rfl ?_
        have e115 : h112 238 98 = h 238 98 := ((u112 238 98 rfl).trans ((u106 238 98 rfl).trans ((u104 238 98 rfl).trans ((u84 238 98 rfl).trans ((u63 238 98 rfl).trans ((u37 238 98 rfl).trans ((u30 238 98 rfl).trans ((u28 238 98 rfl).trans ((u26 238 98 rfl).trans (u13 238 98 rfl))))))))))
        have e116 : h112 238 99 = h 238 99 := ((u112 238 99 rfl).trans ((u106 238 99 rfl).trans ((u104 238 99 rfl).trans ((u84 238 99 rfl).trans ((u63 238 99 rfl).trans ((u37 238 99 rfl).trans ((u30 238 99 rfl).trans ((u28 238 99 rfl).trans ((u26 238 99 rfl).trans (u13 238 99 rfl))))))))))
        have e117 : h112 238 100 = h 238 100 := ((u112 238 100 rfl).trans ((u106 238 100 rfl).trans ((u104 238 100 rfl).trans ((u84 238 100 rfl).trans ((u63 238 100 rfl).trans ((u37 238 100 rfl).trans ((u30 238 100 rfl).trans ((u28 238 100 rfl).trans ((u26 238 100 rfl).trans (u13 238 100 rfl))))))))))
        have e118 : h112 238 101 = h 238 101 := ((u112 238 101 rfl).trans ((u106 238 101 rfl).trans ((u104 238 101 rfl).trans ((u84 238 101 rfl).trans ((u63 238 101 rfl).trans ((u37 238 101 rfl).trans ((u30 238 101 rfl).trans ((u28 238 101 rfl).trans ((u26 238 101 rfl).trans (u13 238 101 rfl))))))))))
        have e119 : h112 238 102 = h 238 102 := ((u112 238 102 rfl).trans ((u106 238 102 rfl).trans ((u104 238 102 rfl).trans ((u84 238 102 rfl).trans ((u63 238 102 rfl).trans ((u37 238 102 rfl).trans ((u30 238 102 rfl).trans ((u28 238 102 rfl).trans ((u26 238 102 rfl).trans (u13 238 102 rfl))))))))))
        have e120 : h112 238 106 = h 238 106 := ((u112 238 106 rfl).trans ((u106 238 106 rfl).trans ((u104 238 106 rfl).trans ((u84 238 106 rfl).trans ((u63 238 106 rfl).trans ((u37 238 106 rfl).trans ((u30 238 106 rfl).trans ((u28 238 106 rfl).trans ((u26 238 106 rfl).trans (u13 238 106 rfl))))))))))
        have e121 : h112 238 73 = h 238 73 := ((u112 238 73 rfl).trans ((u106 238 73 rfl).trans ((u104 238 73 rfl).trans ((u84 238 73 rfl).trans ((u63 238 73 rfl).trans ((u37 238 73 rfl).trans ((u30 238 73 rfl).trans ((u28 238 73 rfl).trans ((u26 238 73 rfl).trans (u13 238 73 rfl))))))))))
        have e122 : h112 238 2 = h 238 2 := ((u112 238 2 rfl).trans ((u106 238 2 rfl).trans ((u104 238 2 rfl).trans ((u84 238 2 rfl).trans ((u63 238 2 rfl).trans ((u37 238 2 rfl).trans ((u30 238 2 rfl).trans ((u28 238 2 rfl).trans ((u26 238 2 rfl).trans (u13 238 2 rfl))))))))))
        have e123 : h112 238 119 = h 238 119 := ((u112 238 119 rfl).trans ((u106 238 119 rfl).trans ((u104 238 119 rfl).trans ((u84 238 119 rfl).trans ((u63 238 119 rfl).trans ((u37 238 119 rfl).trans ((u30 238 119 rfl).trans ((u28 238 119 rfl).trans ((u26 238 119 rfl).trans (u13 238 119 rfl))))))))))
        have e124 : h112 238 67 = h 238 67 := ((u112 238 67 rfl).trans ((u106 238 67 rfl).trans ((u104 238 67 rfl).trans ((u84 238 67 rfl).trans ((u63 238 67 rfl).trans ((u37 238 67 rfl).trans ((u30 238 67 rfl).trans ((u28 238 67 rfl).trans ((u26 238 67 rfl).trans (u13 238 67 rfl))))))))))
        have e125 : h112 238 69 = h 238 69 := ((u112 238 69 rfl).trans ((u106 238 69 rfl).trans ((u104 238 69 rfl).trans ((u84 238 69 rfl).trans ((u63 238 69 rfl).trans ((u37 238 69 rfl).trans ((u30 238 69 rfl).trans ((u28 238 69 rfl).trans ((u26 238 69 rfl).trans (u13 238 69 rfl))))))))))
        have e126 : h112 238 5 = h 238 5 := ((u112 238 5 rfl).trans ((u106 238 5 rfl).trans ((u104 238 5 rfl).trans ((u84 238 5 rfl).trans ((u63 238 5 rfl).trans ((u37 238 5 rfl).trans ((u30 238 5 rfl).trans ((u28 238 5 rfl).trans ((u26 238 5 rfl).trans (u13 238 5 rfl))))))))))
        have e127 : h112 236 2 = h13 236 2 := ((u112 236 2 rfl).trans ((u106 236 2 rfl).trans ((u104 236 2 rfl).trans ((u84 236 2 rfl).trans ((u63 236 2 rfl).trans ((u37 236 2 rfl).trans ((u30 236 2 rfl).trans ((u28 236 2 rfl).trans (u26 236 2 rfl)))))))))
        have e128 : h112 236 10 = h84 236 8 := ((u112 236 10 rfl).trans ((u106 236 10 rfl).trans w104))
        have e129 : h112 236 11 = h84 236 9 := ((u112 236 11 rfl).trans w106)
        have gs130 := GPS.fr u13 rfl xq1
        have gs131 := GPS.fr u26 rfl gs130
        have gs132 := GPS.fr u28 rfl gs131
        have gs133 := GPS.fr u30 rfl gs132
        have gs134 := GPS.fr u37 rfl gs133
        have gs135 := GPS.fr u63 rfl gs134
        have gs136 := GPS.fr u84 rfl gs135
        have gs137 := GPS.fr u104 rfl gs136
        have gs138 := GPS.fr u106 rfl gs137
        have gs139 := GPS.fr u112 rfl gs138
        have gp140 := GPH.fr u13 rfl gp0
        have gp141 := GPH.fr u26 rfl gp140
        have gp142 := GPH.fr u28 rfl gp141
        have gp143 := GPH.fr u30 rfl gp142
        have gp144 := GPH.fr u37 rfl gp143
        have gp145 := GPH.fr u63 rfl gp144
        have gp146 := GPH.fr u84 rfl gp145
        have gp147 := GPH.fr u104 rfl gp146
        have gp148 := GPH.fr u106 rfl gp147
        have gp149 := GPH.fr u112 rfl gp148
        exact k h112 0 g112 F113 (by omega) (show (h112 238 98) + (h112 238 99) + (h112 238 100) + (h112 238 101) + (h112 238 102) + (h112 238 106) = (h112 238 73) by omega) (show (h112 238 73) ≤ (h112 238 2) by omega) (show (h112 238 119) ≤ (h112 238 67) by omega) (show (h112 238 69) ≤ (h112 238 5) by omega) (show (h112 238 2) ≤ 12 * (h112 238 5) by omega) (show (h112 236 2) = 0 by omega) (show (h112 236 10) = sc_ec tB tn by omega) (show (h112 236 11) = sc_ep tB tn by omega) gs139 gp149
      ·
        refine wi_iconst (n := 1) (nx := 8) (r1 := 0) (r2 := 0) (r3 := 0) rfl ?_
        refine wi_goto (nx := 11) (r1 := 12) (r2 := 0) (r3 := 0) rfl ?_
        refine wi_zreturn (nx := 13) (r1 := 0) (r2 := 0) (r3 := 0) rfl rfl (by omega) ?_
        refine wk_i ?_
        refine wi_if (cd := .eq) (nx := 26) (r1 := 63) (r2 := 0) (r3 := 0) rfl (by omega) (fun (q98 : 1 = 0) => by exfalso; omega) (fun (q98 : ¬ (1 = 0)) => ?_)
        refine wi_aload_n (i := 0) (x := 236) (nx := 27) (r1 := 0) (r2 := 0) (r3 := 0) rfl rfl ?_
        refine wr_gi0 (k0 := 236) (x := h84 236 6) (nx := 30) (r1 := 11) (r2 := 6) (r3 := 0) rfl rfl (by decide) rfl ⟨rfl, rfl⟩ rfl rfl ?_
        refine wi_if (cd := .eq) (nx := 33) (r1 := 63) (r2 := 0) (r3 := 0) rfl (by omega) (fun (q99 : (h84 236 6) = 0) => ?_) (fun (q99 : ¬ ((h84 236 6) = 0)) => ?_)
        ·
          try have kf100 := TKk.e0 (B := tB) (n := tn) (p := q78) (a6 := h84 236 6) (by assumption) (by omega)
          refine wi_aload_n (i := 0) (x := 236) (nx := 64) (r1 := 0) (r2 := 0) (r3 := 0) rfl rfl ?_
          refine wr_V (k0 := 236) (rest := []) (as := [.ref 236]) (nx := 67) (r1 := 219) (r2 := 0) (r3 := 11) rfl rfl rfl (of_decide_eq_true rfl) rfl rfl (by decide) rfl rfl (of_decide_eq_true rfl) (of_decide_eq_true rfl) ?_
          refine wi_aload_n (i := 0) (x := 236) (nx := 1) (r1 := 0) (r2 := 0) (r3 := 0) rfl rfl ?_
          refine wr_gi0 (k0 := 236) (x := h84 236 8) (nx := 4) (r1 := 11) (r2 := 8) (r3 := 0) rfl rfl (by decide) rfl ⟨rfl, rfl⟩ rfl rfl ?_
          refine wi_if (cd := .ne) (nx := 7) (r1 := 11) (r2 := 0) (r3 := 0) rfl (by omega) (fun (q101 : (h84 236 8) ≠ 0) => by exfalso; omega) (fun (q101 : ¬ ((h84 236 8) ≠ 0)) => ?_)
          refine wi_iconst (n := 1) (nx := 8) (r1 := 0) (r2 := 0) (r3 := 0) rfl ?_
          refine wi_goto (nx := 11) (r1 := 12) (r2 := 0) (r3 := 0) rfl ?_
          refine wi_zreturn (nx := 13) (r1 := 0) (r2 := 0) (r3 := 0) rfl rfl (by omega) ?_
          refine wk_i ?_
          refine wi_if (cd := .eq) (nx := 70) (r1 := 82) (r2 := 0) (r3 := 0) rfl (by omega) (fun (q103 : 1 = 0) => by exfalso; omega) (fun (q103 : ¬ (1 = 0)) => ?_)
          have b104 := gi_b (lo := 0) (hi := 800) g84 236 5 rfl
          have b105 := gi_b (lo := 0) (hi := 999) g84 236 7 rfl
          have b106 := gi_b (lo := -9223372036854775808) (hi := 9223372036854775807) g84 236 12 rfl
          have b107 := gi_b (lo := -2147483648) (hi := 2147483647) g84 236 9 rfl
          obtain ⟨e9s108, ks108, ps108, pas108, pbs108, pcs108, tks108, frs108⟩ := SCI.go y84_1 (by omega) (by omega)
          obtain ⟨tas108, tbs108, tcs108⟩ : _ ∧ _ ∧ TKk tB tn ps108 (h84 236 6) (h84 236 7) (h84 236 12) := id tks108
          have tN109 := @tk_nx_b tB tn ps108 (by omega) (by omega)
          have kes108 : tk_kd tB tn ps108 = 0 := TKk.e0 tcs108 (by omega)
          refine wi_aload_n (i := 0) (x := 236) (nx := 71) (r1 := 0) (r2 := 0) (r3 := 0) rfl rfl ?_
          refine wr_gi0 (k0 := 236) (x := h84 236 44) (nx := 74) (r1 := 11) (r2 := 44) (r3 := 0) rfl rfl (by decide) rfl ⟨rfl, rfl⟩ rfl rfl ?_
          refine wi_if (cd := .le) (nx := 77) (r1 := 82) (r2 := 0) (r3 := 0) rfl (by omega) (fun (q110 : (h84 236 44) ≤ 0) => ?_) (fun (q110 : ¬ ((h84 236 44) ≤ 0)) => ?_)
          ·
            have RE111 := sc_REq (frs108.symm.trans (sc_e0 (by omega) (by omega)))
            refine wi_aload_n (i := 0) (x := 236) (nx := 83) (r1 := 0) (r2 := 0) (r3 := 0) rfl rfl ?_
            refine wr_V (k0 := 236) (rest := []) (as := [.ref 236]) (nx := 86) (r1 := 237) (r2 := 0) (r3 := 11) rfl rfl rfl (of_decide_eq_true rfl) rfl rfl (by decide) rfl rfl (of_decide_eq_true rfl) (of_decide_eq_true rfl) ?_
            refine wi_aload_n (i := 0) (x := 236) (nx := 1) (r1 := 0) (r2 := 0) (r3 := 0) rfl rfl ?_
            refine wi_aload_n (i := 0) (x := 236) (nx := 2) (r1 := 0) (r2 := 0) (r3 := 0) rfl rfl ?_
            refine wr_gi0 (k0 := 236) (x := h84 236 8) (nx := 5) (r1 := 11) (r2 := 8) (r3 := 0) rfl rfl (by decide) rfl ⟨rfl, rfl⟩ rfl rfl ?_
            refine wr_pf0 (k0 := 236) (x := h84 236 8) (bl := -2147483648) (bh := 2147483647) (nx := 8) (r1 := 11) (r2 := 10) (r3 := 0) rfl (by decide) rfl ⟨rfl, rfl⟩ rfl rfl g84 rfl (by omega) (fun h112 g112 w112 u112 => ?_)
            have F113 := F88.then rfl u112
            refine wi_aload_n (i := 0) (x := 236) (nx := 9) (r1 := 0) (r2 := 0) (r3 := 0) rfl rfl ?_
            refine wi_aload_n (i := 0) (x := 236) (nx := 10) (r1 := 0) (r2 := 0) (r3 := 0) rfl rfl ?_
            refine wr_gi0 (k0 := 236) (x := h84 236 9) (nx := 13) (r1 := 11) (r2 := 9) (r3 := 0) rfl rfl (by decide) rfl ⟨rfl, rfl⟩ rfl (u112 236 9 rfl) ?_
            refine wr_pf0 (k0 := 236) (x := h84 236 9) (bl := -2147483648) (bh := 2147483647) (nx := 16) (r1 := 11) (r2 := 11) (r3 := 0) rfl (by decide) rfl ⟨rfl, rfl⟩ rfl rfl g112 rfl (by omega) (fun h114 g114 w114 u114 => ?_)
            have F115 := F113.then rfl u114
            refine wi_aload_n (i := 0) (x := 236) (nx := 17) (r1 := 0) (r2 := 0) (r3 := 0) rfl rfl ?_
            refine wi_aload_n (i := 0) (x := 236) (nx := 18) (r1 := 0) (r2 := 0) (r3 := 0) rfl rfl ?_
            refine wr_gi0 (k0 := 236) (x := h84 236 8) (nx := 21) (r1 := 11) (r2 := 8) (r3 := 0) rfl rfl (by decide) rfl ⟨rfl, rfl⟩ rfl ((u114 236 8 rfl).trans (u112 236 8 rfl)) ?_
            refine wi_if (cd := .ne) (nx := 24) (r1 := 28) (r2 := 0) (r3 := 0) rfl (by omega) (fun (q116 : (h84 236 8) ≠ 0) => by exfalso; omega) (fun (q116 : ¬ ((h84 236 8) ≠ 0)) => ?_)
            refine wi_iconst (n := 1) (nx := 25) (r1 := 0) (r2 := 0) (r3 := 0) rfl ?_
            refine wi_goto (nx := 28) (r1 := 29) (r2 := 0) (r3 := 0) rfl ?_
            refine wr_V (k0 := 236) (rest := []) (as := [.ref 236, vi 1]) (nx := 32) (r1 := 206) (r2 := 1) (r3 := 11) rfl rfl rfl (of_decide_eq_true rfl) rfl rfl (by decide) rfl rfl (of_decide_eq_true rfl) (of_decide_eq_true rfl) ?_
            refine wi_aload_n (i := 0) (x := 236) (nx := 1) (r1 := 0) (r2 := 0) (r3 := 0) rfl rfl ?_
            refine wi_iload_n (i := 1) (e := 1) (nx := 2) (r1 := 0) (r2 := 0) (r3 := 0) rfl rfl ?_
            refine wi_if (cd := .ne) (nx := 5) (r1 := 9) (r2 := 0) (r3 := 0) rfl (by omega) (fun (q118 : 1 ≠ 0) => ?_) (fun (q118 : ¬ (1 ≠ 0)) => by exfalso; omega)
            refine wi_iconst (n := 0) (nx := 10) (r1 := 0) (r2 := 0) (r3 := 0) rfl ?_
            refine wi_S (rest := [.ref 236]) (as := [vi 0]) (nx := 13) (r1 := 207) (r2 := 17) (r3 := 0) rfl rfl rfl (of_decide_eq_true rfl) rfl rfl (of_decide_eq_true rfl) (of_decide_eq_true rfl) ?_
            refine wi_iload_n (i := 0) (e := 0) (nx := 1) (r1 := 0) (r2 := 0) (r3 := 0) rfl rfl ?_
            refine wi_if (cd := .eq) (nx := 4) (r1 := 8) (r2 := 0) (r3 := 0) rfl (by omega) (fun (q119 : 0 = 0) => ?_) (fun (q119 : ¬ (0 = 0)) => by exfalso; omega)
            refine wi_iconst (n := 0) (nx := 9) (r1 := 0) (r2 := 0) (r3 := 0) rfl ?_
            refine wi_ireturn (nx := 10) (r1 := 0) (r2 := 0) (r3 := 0) rfl rfl ?_
            refine wk_i ?_
            refine wr_pf0 (k0 := 236) (x := 0) (bl := 0) (bh := 2) (nx := 16) (r1 := 11) (r2 := 0) (r3 := 0) rfl (by decide) rfl ⟨rfl, rfl⟩ rfl rfl g114 rfl (by omega) (fun h120 g120 w120 u120 => ?_)
            have F121 := F115.then rfl u120
            refine wi_iload_n (i := 1) (e := 1) (nx := 17) (r1 := 0) (r2 := 0) (r3 := 0) rfl rfl ?_
            refine wi_zreturn (nx := 18) (r1 := 0) (r2 := 0) (r3 := 0) rfl rfl (by omega) ?_
            refine wk_i ?_
            refine wi_zreturn (nx := 33) (r1 := 0) (r2 := 0) (r3 := 0) rfl rfl (by omega) ?_
            refine wk_i ?_
            refine wi_if (cd := .ne) (nx := 89) (r1 := 91) (r2 := 0) (r3 := 0) rfl (by omega) (fun (q122 : 1 ≠ 0) => ?_) (fun (q122 : ¬ (1 ≠ 0)) => by exfalso; omega)
            refine wi_aload_n (i := 0) (x := 236) (nx := 92) (r1 := 0) (r2 := 0) (r3 := 0) rfl rfl ?_
            refine wr_gr (k0 := 236) (x := 238) (nx := 95) (r1 := 11) (r2 := 13) (r3 := 0) rfl rfl (by decide) rfl ⟨rfl, rfl⟩ rfl ?_
            refine wi_aload_n (i := 0) (x := 236) (nx := 96) (r1 := 0) (r2 := 0) (r3 := 0) rfl rfl ?_
            refine wr_gr (k0 := 236) (x := 257) (nx := 99) (r1 := 11) (r2 := 41) (r3 := 0) rfl rfl (by decide) rfl ⟨rfl, rfl⟩ rfl ?_
            refine wi_S (rest := []) (as := [.ref 238, .ref 257]) (nx := 102) (r1 := 238) (r2 := 18) (r3 := 0) rfl rfl rfl (of_decide_eq_true rfl) rfl rfl (of_decide_eq_true rfl) (of_decide_eq_true rfl) ?_
            refine ct_238_238_257 hcr  g120    (fun h123 g123 u123 y123_0 => ?_)
            have F124 := F121.then (by decide +kernel) u123
            refine wk_n ?_
            refine wi_aload_n (i := 0) (x := 236) (nx := 103) (r1 := 0) (r2 := 0) (r3 := 0) rfl rfl ?_
            refine wi_iconst (n := 0) (nx := 104) (r1 := 0) (r2 := 0) (r3 := 0) rfl ?_
            refine wr_pf2 (k0 := 236) (x := 0) (bl := 0) (bh := 1) (nx := 107) (r1 := 11) (r2 := 45) (r3 := 2) rfl (by decide) rfl ⟨rfl, rfl⟩ rfl (by omega) rfl g123 rfl (by omega) (fun h125 g125 w125 u125 => ?_)
            have F126 := F124.then rfl u125
            refine wi_aload_n (i := 0) (x := 236) (nx := 108) (r1 := 0) (r2 := 0) (r3 := 0) rfl rfl ?_
            refine wr_V (k0 := 236) (rest := []) (as := [.ref 236]) (nx := 111) (r1 := 339) (r2 := 0) (r3 := 11) rfl rfl rfl (of_decide_eq_true rfl) rfl rfl (by decide) rfl rfl (of_decide_eq_true rfl) (of_decide_eq_true rfl) ?_
            have e128 : h125 238 98 = h 238 98 := ((u125 238 98 rfl).trans ((u123 238 98 rfl).trans ((u120 238 98 rfl).trans ((u114 238 98 rfl).trans ((u112 238 98 rfl).trans ((u84 238 98 rfl).trans ((u63 238 98 rfl).trans ((u37 238 98 rfl).trans ((u30 238 98 rfl).trans ((u28 238 98 rfl).trans ((u26 238 98 rfl).trans (u13 238 98 rfl))))))))))))
            have e129 : h125 238 99 = h 238 99 := ((u125 238 99 rfl).trans ((u123 238 99 rfl).trans ((u120 238 99 rfl).trans ((u114 238 99 rfl).trans ((u112 238 99 rfl).trans ((u84 238 99 rfl).trans ((u63 238 99 rfl).trans ((u37 238 99 rfl).trans ((u30 238 99 rfl).trans ((u28 238 99 rfl).trans ((u26 238 99 rfl).trans (u13 238 99 rfl))))))))))))
            have e130 : h125 238 100 = h 238 100 := ((u125 238 100 rfl).trans ((u123 238 100 rfl).trans ((u120 238 100 rfl).trans ((u114 238 100 rfl).trans ((u112 238 100 rfl).trans ((u84 238 100 rfl).trans ((u63 238 100 rfl).trans ((u37 238 100 rfl).trans ((u30 238 100 rfl).trans ((u28 238 100 rfl).trans ((u26 238 100 rfl).trans (u13 238 100 rfl))))))))))))
            have e131 : h125 238 101 = h 238 101 := ((u125 238 101 rfl).trans ((u123 238 101 rfl).trans ((u120 238 101 rfl).trans ((u114 238 101 rfl).trans ((u112 238 101 rfl).trans ((u84 238 101 rfl).trans ((u63 238 101 rfl).trans ((u37 238 101 rfl).trans ((u30 238 101 rfl).trans ((u28 238 101 rfl).trans ((u26 238 101 rfl).trans (u13 238 101 rfl))))))))))))
            have e132 : h125 238 102 = h 238 102 := ((u125 238 102 rfl).trans ((u123 238 102 rfl).trans ((u120 238 102 rfl).trans ((u114 238 102 rfl).trans ((u112 238 102 rfl).trans ((u84 238 102 rfl).trans ((u63 238 102 rfl).trans ((u37 238 102 rfl).trans ((u30 238 102 rfl).trans ((u28 238 102 rfl).trans ((u26 238 102 rfl).trans (u13 238 102 rfl))))))))))))
            have e133 : h125 238 106 = h 238 106 := ((u125 238 106 rfl).trans ((u123 238 106 rfl).trans ((u120 238 106 rfl).trans ((u114 238 106 rfl).trans ((u112 238 106 rfl).trans ((u84 238 106 rfl).trans ((u63 238 106 rfl).trans ((u37 238 106 rfl).trans ((u30 238 106 rfl).trans ((u28 238 106 rfl).trans ((u26 238 106 rfl).trans (u13 238 106 rfl))))))))))))
            have e134 : h125 238 73 = h 238 73 := ((u125 238 73 rfl).trans ((u123 238 73 rfl).trans ((u120 238 73 rfl).trans ((u114 238 73 rfl).trans ((u112 238 73 rfl).trans ((u84 238 73 rfl).trans ((u63 238 73 rfl).trans ((u37 238 73 rfl).trans ((u30 238 73 rfl).trans ((u28 238 73 rfl).trans ((u26 238 73 rfl).trans (u13 238 73 rfl))))))))))))
            have e135 : h125 238 2 = h 238 2 := ((u125 238 2 rfl).trans ((u123 238 2 rfl).trans ((u120 238 2 rfl).trans ((u114 238 2 rfl).trans ((u112 238 2 rfl).trans ((u84 238 2 rfl).trans ((u63 238 2 rfl).trans ((u37 238 2 rfl).trans ((u30 238 2 rfl).trans ((u28 238 2 rfl).trans ((u26 238 2 rfl).trans (u13 238 2 rfl))))))))))))
            have e136 : h125 238 119 = h 238 119 := ((u125 238 119 rfl).trans ((u123 238 119 rfl).trans ((u120 238 119 rfl).trans ((u114 238 119 rfl).trans ((u112 238 119 rfl).trans ((u84 238 119 rfl).trans ((u63 238 119 rfl).trans ((u37 238 119 rfl).trans ((u30 238 119 rfl).trans ((u28 238 119 rfl).trans ((u26 238 119 rfl).trans (u13 238 119 rfl))))))))))))
            have e137 : h125 238 67 = h 238 67 := ((u125 238 67 rfl).trans ((u123 238 67 rfl).trans ((u120 238 67 rfl).trans ((u114 238 67 rfl).trans ((u112 238 67 rfl).trans ((u84 238 67 rfl).trans ((u63 238 67 rfl).trans ((u37 238 67 rfl).trans ((u30 238 67 rfl).trans ((u28 238 67 rfl).trans ((u26 238 67 rfl).trans (u13 238 67 rfl))))))))))))
            have e138 : h125 238 69 = h 238 69 := ((u125 238 69 rfl).trans ((u123 238 69 rfl).trans ((u120 238 69 rfl).trans ((u114 238 69 rfl).trans ((u112 238 69 rfl).trans ((u84 238 69 rfl).trans ((u63 238 69 rfl).trans ((u37 238 69 rfl).trans ((u30 238 69 rfl).trans ((u28 238 69 rfl).trans ((u26 238 69 rfl).trans (u13 238 69 rfl))))))))))))
            have e139 : h125 238 5 = h 238 5 := ((u125 238 5 rfl).trans ((u123 238 5 rfl).trans ((u120 238 5 rfl).trans ((u114 238 5 rfl).trans ((u112 238 5 rfl).trans ((u84 238 5 rfl).trans ((u63 238 5 rfl).trans ((u37 238 5 rfl).trans ((u30 238 5 rfl).trans ((u28 238 5 rfl).trans ((u26 238 5 rfl).trans (u13 238 5 rfl))))))))))))
            have e141 : h125 236 42 = h84 236 42 := ((u125 236 42 rfl).trans ((u123 236 42 rfl).trans ((u120 236 42 rfl).trans ((u114 236 42 rfl).trans (u112 236 42 rfl)))))
            have e142 : h125 236 44 = h84 236 44 := ((u125 236 44 rfl).trans ((u123 236 44 rfl).trans ((u120 236 44 rfl).trans ((u114 236 44 rfl).trans (u112 236 44 rfl)))))
            have e143 : h125 236 8 = h84 236 8 := ((u125 236 8 rfl).trans ((u123 236 8 rfl).trans ((u120 236 8 rfl).trans ((u114 236 8 rfl).trans (u112 236 8 rfl)))))
            have q144 : h125 253 = h84 253 := funext (fun i => ((u125 253 i rfl).trans ((u123 253 i (fo_no_ok (by decide) i)).trans ((u120 253 i rfl).trans ((u114 253 i rfl).trans (u112 253 i rfl))))))
            refine ct_339_236 hcr  g125   (show (h125 238 98) + (h125 238 99) + (h125 238 100) + (h125 238 101) + (h125 238 102) + (h125 238 106) = (h125 238 73) by omega) (show (h125 238 73) ≤ (h125 238 2) by omega) (show (h125 238 119) ≤ (h125 238 67) by omega) (show (h125 238 69) ≤ (h125 238 5) by omega) (show (h125 238 2) ≤ 12 * (h125 238 5) by omega) (by rw [q144, show h125 236 42 = h84 236 42 by omega, show h125 236 44 = h84 236 44 by omega]; exact y84_0 (by omega)) (fun h127 z140 g127 u127 (fz140 : 0 ≤ z140 ∧ z140 ≤ 100) (p127_0 : (h127 238 98) + (h127 238 99) + (h127 238 100) + (h127 238 101) + (h127 238 102) + (h127 238 106) = (h127 238 73)) (p127_1 : (h127 238 73) ≤ (h127 238 2)) (p127_2 : (h127 238 119) ≤ (h127 238 67)) (p127_3 : (h127 238 69) ≤ (h127 238 5)) (p127_4 : (h127 238 2) ≤ 12 * (h127 238 5)) => ?_)
            have F145 := F126.then (by decide +kernel) u127
            have b146 := gi_b (lo := 0) (hi := 6) g127 238 98 rfl
            have b147 := gi_b (lo := 0) (hi := 6) g127 238 99 rfl
            have b148 := gi_b (lo := 0) (hi := 6) g127 238 100 rfl
            have b149 := gi_b (lo := 0) (hi := 6) g127 238 101 rfl
            have b150 := gi_b (lo := 0) (hi := 3) g127 238 102 rfl
            have b151 := gi_b (lo := 0) (hi := 12) g127 238 106 rfl
            have b152 := gi_b (lo := 0) (hi := 12) g127 238 73 rfl
            have e153 : h127 238 2 = h 238 2 := ((u127 238 2 rfl).trans ((u125 238 2 rfl).trans ((u123 238 2 rfl).trans ((u120 238 2 rfl).trans ((u114 238 2 rfl).trans ((u112 238 2 rfl).trans ((u84 238 2 rfl).trans ((u63 238 2 rfl).trans ((u37 238 2 rfl).trans ((u30 238 2 rfl).trans ((u28 238 2 rfl).trans ((u26 238 2 rfl).trans (u13 238 2 rfl)))))))))))))
            have b154 := gi_b (lo := 0) (hi := 9999) g127 238 119 rfl
            have b155 := gi_b (lo := 0) (hi := 9999) g127 238 67 rfl
            have b156 := gi_b (lo := 0) (hi := 9) g127 238 69 rfl
            have e157 : h127 238 5 = h 238 5 := ((u127 238 5 rfl).trans ((u125 238 5 rfl).trans ((u123 238 5 rfl).trans ((u120 238 5 rfl).trans ((u114 238 5 rfl).trans ((u112 238 5 rfl).trans ((u84 238 5 rfl).trans ((u63 238 5 rfl).trans ((u37 238 5 rfl).trans ((u30 238 5 rfl).trans ((u28 238 5 rfl).trans ((u26 238 5 rfl).trans (u13 238 5 rfl)))))))))))))
            refine wk_i ?_
            refine wi_istore_n (i := 1) (e := z140) (lo2 := [(1, vi z140), (0, .ref 236)]) (nx := 112) (r1 := 0) (r2 := 0) (r3 := 0) rfl rfl ?_
            refine wi_aload_n (i := 0) (x := 236) (nx := 113) (r1 := 0) (r2 := 0) (r3 := 0) rfl rfl ?_
            have b158 := gi_b (lo := 0) (hi := 1) g127 236 45 rfl
            refine wr_gi2 (k0 := 236) (x := h127 236 45) (nx := 116) (r1 := 11) (r2 := 45) (r3 := 0) rfl rfl (by decide) rfl ⟨rfl, rfl⟩ rfl rfl ?_
            refine wi_if (cd := .ne) (nx := 119) (r1 := 121) (r2 := 0) (r3 := 0) rfl (by omega) (fun (q159 : (h127 236 45) ≠ 0) => ?_) (fun (q159 : ¬ ((h127 236 45) ≠ 0)) => ?_)
            ·
              replace q159 : 0 + 1 ≤ (h127 236 45) := by omega
              refine wi_aload_n (i := 0) (x := 236) (nx := 122) (r1 := 0) (r2 := 0) (r3 := 0) rfl rfl ?_
              refine wr_gr (k0 := 236) (x := 257) (nx := 125) (r1 := 11) (r2 := 41) (r3 := 0) rfl rfl (by decide) rfl ⟨rfl, rfl⟩ rfl ?_
              refine wi_aload_n (i := 0) (x := 236) (nx := 126) (r1 := 0) (r2 := 0) (r3 := 0) rfl rfl ?_
              refine wr_gr (k0 := 236) (x := 240) (nx := 129) (r1 := 11) (r2 := 15) (r3 := 0) rfl rfl (by decide) rfl ⟨rfl, rfl⟩ rfl ?_
              refine wi_S (rest := []) (as := [.ref 257, .ref 240]) (nx := 132) (r1 := 238) (r2 := 18) (r3 := 0) rfl rfl rfl (of_decide_eq_true rfl) rfl rfl (of_decide_eq_true rfl) (of_decide_eq_true rfl) ?_
              refine ct_238_257_240 hcr  g127    (fun h160 g160 u160 y160_0 => ?_)
              have F161 := F145.then (by decide +kernel) u160
              refine wk_n ?_
              refine wi_aload_n (i := 0) (x := 236) (nx := 133) (r1 := 0) (r2 := 0) (r3 := 0) rfl rfl ?_
              refine wr_V (k0 := 236) (rest := []) (as := [.ref 236]) (nx := 136) (r1 := 315) (r2 := 0) (r3 := 11) rfl rfl rfl (of_decide_eq_true rfl) rfl rfl (by decide) rfl rfl (of_decide_eq_true rfl) (of_decide_eq_true rfl) ?_
              have e163 : h160 238 98 = h127 238 98 := (u160 238 98 rfl)
              have e164 : h160 238 99 = h127 238 99 := (u160 238 99 rfl)
              have e165 : h160 238 100 = h127 238 100 := (u160 238 100 rfl)
              have e166 : h160 238 101 = h127 238 101 := (u160 238 101 rfl)
              have e167 : h160 238 102 = h127 238 102 := (u160 238 102 rfl)
              have e168 : h160 238 106 = h127 238 106 := (u160 238 106 rfl)
              have e169 : h160 238 73 = h127 238 73 := (u160 238 73 rfl)
              have e170 : h160 238 2 = h 238 2 := ((u160 238 2 rfl).trans ((u127 238 2 rfl).trans ((u125 238 2 rfl).trans ((u123 238 2 rfl).trans ((u120 238 2 rfl).trans ((u114 238 2 rfl).trans ((u112 238 2 rfl).trans ((u84 238 2 rfl).trans ((u63 238 2 rfl).trans ((u37 238 2 rfl).trans ((u30 238 2 rfl).trans ((u28 238 2 rfl).trans ((u26 238 2 rfl).trans (u13 238 2 rfl))))))))))))))
              have e171 : h160 238 119 = h127 238 119 := (u160 238 119 rfl)
              have e172 : h160 238 67 = h127 238 67 := (u160 238 67 rfl)
              have e173 : h160 238 69 = h127 238 69 := (u160 238 69 rfl)
              have e174 : h160 238 5 = h 238 5 := ((u160 238 5 rfl).trans ((u127 238 5 rfl).trans ((u125 238 5 rfl).trans ((u123 238 5 rfl).trans ((u120 238 5 rfl).trans ((u114 238 5 rfl).trans ((u112 238 5 rfl).trans ((u84 238 5 rfl).trans ((u63 238 5 rfl).trans ((u37 238 5 rfl).trans ((u30 238 5 rfl).trans ((u28 238 5 rfl).trans ((u26 238 5 rfl).trans (u13 238 5 rfl))))))))))))))
              have e175 : h160 240 98 = h 238 98 := ((y160_0 98 (by decide)).trans ((u127 257 98 rfl).trans ((u125 257 98 rfl).trans ((y123_0 98 (by decide)).trans ((u120 238 98 rfl).trans ((u114 238 98 rfl).trans ((u112 238 98 rfl).trans ((u84 238 98 rfl).trans ((u63 238 98 rfl).trans ((u37 238 98 rfl).trans ((u30 238 98 rfl).trans ((u28 238 98 rfl).trans ((u26 238 98 rfl).trans (u13 238 98 rfl))))))))))))))
              have e176 : h160 240 99 = h 238 99 := ((y160_0 99 (by decide)).trans ((u127 257 99 rfl).trans ((u125 257 99 rfl).trans ((y123_0 99 (by decide)).trans ((u120 238 99 rfl).trans ((u114 238 99 rfl).trans ((u112 238 99 rfl).trans ((u84 238 99 rfl).trans ((u63 238 99 rfl).trans ((u37 238 99 rfl).trans ((u30 238 99 rfl).trans ((u28 238 99 rfl).trans ((u26 238 99 rfl).trans (u13 238 99 rfl))))))))))))))
              have e177 : h160 240 100 = h 238 100 := ((y160_0 100 (by decide)).trans ((u127 257 100 rfl).trans ((u125 257 100 rfl).trans ((y123_0 100 (by decide)).trans ((u120 238 100 rfl).trans ((u114 238 100 rfl).trans ((u112 238 100 rfl).trans ((u84 238 100 rfl).trans ((u63 238 100 rfl).trans ((u37 238 100 rfl).trans ((u30 238 100 rfl).trans ((u28 238 100 rfl).trans ((u26 238 100 rfl).trans (u13 238 100 rfl))))))))))))))
              have e178 : h160 240 101 = h 238 101 := ((y160_0 101 (by decide)).trans ((u127 257 101 rfl).trans ((u125 257 101 rfl).trans ((y123_0 101 (by decide)).trans ((u120 238 101 rfl).trans ((u114 238 101 rfl).trans ((u112 238 101 rfl).trans ((u84 238 101 rfl).trans ((u63 238 101 rfl).trans ((u37 238 101 rfl).trans ((u30 238 101 rfl).trans ((u28 238 101 rfl).trans ((u26 238 101 rfl).trans (u13 238 101 rfl))))))))))))))
              have e179 : h160 240 102 = h 238 102 := ((y160_0 102 (by decide)).trans ((u127 257 102 rfl).trans ((u125 257 102 rfl).trans ((y123_0 102 (by decide)).trans ((u120 238 102 rfl).trans ((u114 238 102 rfl).trans ((u112 238 102 rfl).trans ((u84 238 102 rfl).trans ((u63 238 102 rfl).trans ((u37 238 102 rfl).trans ((u30 238 102 rfl).trans ((u28 238 102 rfl).trans ((u26 238 102 rfl).trans (u13 238 102 rfl))))))))))))))
              have e180 : h160 240 106 = h 238 106 := ((y160_0 106 (by decide)).trans ((u127 257 106 rfl).trans ((u125 257 106 rfl).trans ((y123_0 106 (by decide)).trans ((u120 238 106 rfl).trans ((u114 238 106 rfl).trans ((u112 238 106 rfl).trans ((u84 238 106 rfl).trans ((u63 238 106 rfl).trans ((u37 238 106 rfl).trans ((u30 238 106 rfl).trans ((u28 238 106 rfl).trans ((u26 238 106 rfl).trans (u13 238 106 rfl))))))))))))))
              have e181 : h160 240 73 = h 238 73 := ((y160_0 73 (by decide)).trans ((u127 257 73 rfl).trans ((u125 257 73 rfl).trans ((y123_0 73 (by decide)).trans ((u120 238 73 rfl).trans ((u114 238 73 rfl).trans ((u112 238 73 rfl).trans ((u84 238 73 rfl).trans ((u63 238 73 rfl).trans ((u37 238 73 rfl).trans ((u30 238 73 rfl).trans ((u28 238 73 rfl).trans ((u26 238 73 rfl).trans (u13 238 73 rfl))))))))))))))
              have e182 : h160 240 2 = h 238 2 := ((y160_0 2 (by decide)).trans ((u127 257 2 rfl).trans ((u125 257 2 rfl).trans ((y123_0 2 (by decide)).trans ((u120 238 2 rfl).trans ((u114 238 2 rfl).trans ((u112 238 2 rfl).trans ((u84 238 2 rfl).trans ((u63 238 2 rfl).trans ((u37 238 2 rfl).trans ((u30 238 2 rfl).trans ((u28 238 2 rfl).trans ((u26 238 2 rfl).trans (u13 238 2 rfl))))))))))))))
              have e183 : h160 240 119 = h 238 119 := ((y160_0 119 (by decide)).trans ((u127 257 119 rfl).trans ((u125 257 119 rfl).trans ((y123_0 119 (by decide)).trans ((u120 238 119 rfl).trans ((u114 238 119 rfl).trans ((u112 238 119 rfl).trans ((u84 238 119 rfl).trans ((u63 238 119 rfl).trans ((u37 238 119 rfl).trans ((u30 238 119 rfl).trans ((u28 238 119 rfl).trans ((u26 238 119 rfl).trans (u13 238 119 rfl))))))))))))))
              have e184 : h160 240 67 = h 238 67 := ((y160_0 67 (by decide)).trans ((u127 257 67 rfl).trans ((u125 257 67 rfl).trans ((y123_0 67 (by decide)).trans ((u120 238 67 rfl).trans ((u114 238 67 rfl).trans ((u112 238 67 rfl).trans ((u84 238 67 rfl).trans ((u63 238 67 rfl).trans ((u37 238 67 rfl).trans ((u30 238 67 rfl).trans ((u28 238 67 rfl).trans ((u26 238 67 rfl).trans (u13 238 67 rfl))))))))))))))
              have e185 : h160 240 69 = h 238 69 := ((y160_0 69 (by decide)).trans ((u127 257 69 rfl).trans ((u125 257 69 rfl).trans ((y123_0 69 (by decide)).trans ((u120 238 69 rfl).trans ((u114 238 69 rfl).trans ((u112 238 69 rfl).trans ((u84 238 69 rfl).trans ((u63 238 69 rfl).trans ((u37 238 69 rfl).trans ((u30 238 69 rfl).trans ((u28 238 69 rfl).trans ((u26 238 69 rfl).trans (u13 238 69 rfl))))))))))))))
              have e186 : h160 240 5 = h 238 5 := ((y160_0 5 (by decide)).trans ((u127 257 5 rfl).trans ((u125 257 5 rfl).trans ((y123_0 5 (by decide)).trans ((u120 238 5 rfl).trans ((u114 238 5 rfl).trans ((u112 238 5 rfl).trans ((u84 238 5 rfl).trans ((u63 238 5 rfl).trans ((u37 238 5 rfl).trans ((u30 238 5 rfl).trans ((u28 238 5 rfl).trans ((u26 238 5 rfl).trans (u13 238 5 rfl))))))))))))))
              have gs187 := GPS.fr u13 rfl xq1
              have gs188 := GPS.fr u26 rfl gs187
              have gs189 := GPS.fr u28 rfl gs188
              have gs190 := GPS.fr u30 rfl gs189
              have gs191 := GPS.fr u37 rfl gs190
              have gs192 := GPS.fr u63 rfl gs191
              have gs193 := GPS.fr u84 rfl gs192
              have gs194 := GPS.fr u112 rfl gs193
              have gs195 := GPS.fr u114 rfl gs194
              have gs196 := GPS.fr u120 rfl gs195
              have gs197 := GPS.fr u123 rfl gs196
              have gs198 := GPS.fr u125 rfl gs197
              have gs199 := GPS.fr u127 rfl gs198
              have gs200 := GPS.fr u160 rfl gs199
              have gp201 := GPH.fr u13 rfl gp0
              have gp202 := GPH.fr u26 rfl gp201
              have gp203 := GPH.fr u28 rfl gp202
              have gp204 := GPH.fr u30 rfl gp203
              have gp205 := GPH.fr u37 rfl gp204
              have gp206 := GPH.fr u63 rfl gp205
              have gp207 := GPH.fr u84 rfl gp206
              have gp208 := GPH.fr u112 rfl gp207
              have gp209 := GPH.fr u114 rfl gp208
              have gp210 := GPH.fr u120 rfl gp209
              have gp211 := GPH.fr u123 rfl gp210
              have gp212 := GPH.fr u125 rfl gp211
              have gp213 := GPH.fr u127 rfl gp212
              have gp214 := GPH.fr u160 rfl gp213
              refine ct_315_236 hcr  g160   (show (h160 238 98) + (h160 238 99) + (h160 238 100) + (h160 238 101) + (h160 238 102) + (h160 238 106) = (h160 238 73) by omega) (show (h160 238 73) ≤ (h160 238 2) by omega) (show (h160 238 119) ≤ (h160 238 67) by omega) (show (h160 238 69) ≤ (h160 238 5) by omega) (show (h160 238 2) ≤ 12 * (h160 238 5) by omega) (show (h160 240 98) + (h160 240 99) + (h160 240 100) + (h160 240 101) + (h160 240 102) + (h160 240 106) = (h160 240 73) by omega) (show (h160 240 73) ≤ (h160 240 2) by omega) (show (h160 240 119) ≤ (h160 240 67) by omega) (show (h160 240 69) ≤ (h160 240 5) by omega) (show (h160 240 2) ≤ 12 * (h160 240 5) by omega) gs200 (fun i _ => (((y160_0 i (by omega)).trans ((u127 257 i (fo_nk rfl)).trans ((u125 257 i (fn_a (by omega) fn_0)).trans ((y123_0 i (by omega)).trans ((u120 238 i (fn_a (by omega) fn_0)).trans ((u114 238 i (fn_a (by omega) fn_0)).trans ((u112 238 i (fn_a (by omega) fn_0)).trans ((u84 238 i (fo_nk rfl)).trans ((u63 238 i (fo_nk rfl)).trans ((u37 238 i (fo_nk rfl)).trans ((u30 238 i (fn_a (by omega) fn_0)).trans ((u28 238 i (fn_a (by omega) fn_0)).trans ((u26 238 i (fn_a (by omega) fn_0)).trans (u13 238 i (fo_nk rfl)))))))))))))))).trans (((u160 238 i (fn_a (by decide) fn_0)).trans ((u127 238 i (fo_lk (m := 31) (by omega) rfl)).trans ((u125 238 i (fn_a (by omega) fn_0)).trans ((u123 238 i (fn_a (by decide) fn_0)).trans ((u120 238 i (fn_a (by omega) fn_0)).trans ((u114 238 i (fn_a (by omega) fn_0)).trans ((u112 238 i (fn_a (by omega) fn_0)).trans ((u84 238 i (fo_nk rfl)).trans ((u63 238 i (fo_nk rfl)).trans ((u37 238 i (fo_nk rfl)).trans ((u30 238 i (fn_a (by omega) fn_0)).trans ((u28 238 i (fn_a (by omega) fn_0)).trans ((u26 238 i (fn_a (by omega) fn_0)).trans (u13 238 i (fo_nk rfl)))))))))))))))).symm) gp214 (fun h162 g162 u162 y162_0 y162_1 => ?_)
              have F215 := F161.then (by decide +kernel) u162
              refine wk_n ?_
              refine wi_iload_n (i := 1) (e := z140) (nx := 137) (r1 := 0) (r2 := 0) (r3 := 0) rfl rfl ?_
              refine wi_ireturn (nx := 138) (r1 := 0) (r2 := 0) (r3 := 0) rfl rfl ?_
              have e216 : h162 238 98 = h127 238 98 := ((u162 238 98 rfl).trans (u160 238 98 rfl))
              have e217 : h162 238 99 = h127 238 99 := ((u162 238 99 rfl).trans (u160 238 99 rfl))
              have e218 : h162 238 100 = h127 238 100 := ((u162 238 100 rfl).trans (u160 238 100 rfl))
              have e219 : h162 238 101 = h127 238 101 := ((u162 238 101 rfl).trans (u160 238 101 rfl))
              have e220 : h162 238 102 = h127 238 102 := ((u162 238 102 rfl).trans (u160 238 102 rfl))
              have e221 : h162 238 106 = h127 238 106 := ((u162 238 106 rfl).trans (u160 238 106 rfl))
              have e222 : h162 238 73 = h127 238 73 := ((u162 238 73 rfl).trans (u160 238 73 rfl))
              have e223 : h162 238 2 = h 238 2 := ((u162 238 2 rfl).trans ((u160 238 2 rfl).trans ((u127 238 2 rfl).trans ((u125 238 2 rfl).trans ((u123 238 2 rfl).trans ((u120 238 2 rfl).trans ((u114 238 2 rfl).trans ((u112 238 2 rfl).trans ((u84 238 2 rfl).trans ((u63 238 2 rfl).trans ((u37 238 2 rfl).trans ((u30 238 2 rfl).trans ((u28 238 2 rfl).trans ((u26 238 2 rfl).trans (u13 238 2 rfl)))))))))))))))
              have e224 : h162 238 119 = h127 238 119 := ((u162 238 119 rfl).trans (u160 238 119 rfl))
              have e225 : h162 238 67 = h127 238 67 := ((u162 238 67 rfl).trans (u160 238 67 rfl))
              have e226 : h162 238 69 = h127 238 69 := ((u162 238 69 rfl).trans (u160 238 69 rfl))
              have e227 : h162 238 5 = h 238 5 := ((u162 238 5 rfl).trans ((u160 238 5 rfl).trans ((u127 238 5 rfl).trans ((u125 238 5 rfl).trans ((u123 238 5 rfl).trans ((u120 238 5 rfl).trans ((u114 238 5 rfl).trans ((u112 238 5 rfl).trans ((u84 238 5 rfl).trans ((u63 238 5 rfl).trans ((u37 238 5 rfl).trans ((u30 238 5 rfl).trans ((u28 238 5 rfl).trans ((u26 238 5 rfl).trans (u13 238 5 rfl)))))))))))))))
              have e228 : h162 236 2 = h13 236 2 := ((u162 236 2 rfl).trans ((u160 236 2 rfl).trans ((u127 236 2 rfl).trans ((u125 236 2 rfl).trans ((u123 236 2 rfl).trans ((u120 236 2 rfl).trans ((u114 236 2 rfl).trans ((u112 236 2 rfl).trans ((u84 236 2 rfl).trans ((u63 236 2 rfl).trans ((u37 236 2 rfl).trans ((u30 236 2 rfl).trans ((u28 236 2 rfl).trans (u26 236 2 rfl))))))))))))))
              have e229 : h162 236 10 = h84 236 8 := ((u162 236 10 rfl).trans ((u160 236 10 rfl).trans ((u127 236 10 rfl).trans ((u125 236 10 rfl).trans ((u123 236 10 rfl).trans ((u120 236 10 rfl).trans ((u114 236 10 rfl).trans w112)))))))
              have e230 : h162 236 11 = h84 236 9 := ((u162 236 11 rfl).trans ((u160 236 11 rfl).trans ((u127 236 11 rfl).trans ((u125 236 11 rfl).trans ((u123 236 11 rfl).trans ((u120 236 11 rfl).trans w114))))))
              exact k h162 z140 g162 F215 (by omega) (show (h162 238 98) + (h162 238 99) + (h162 238 100) + (h162 238 101) + (h162 238 102) + (h162 238 106) = (h162 238 73) by omega) (show (h162 238 73) ≤ (h162 238 2) by omega) (show (h162 238 119) ≤ (h162 238 67) by omega) (show (h162 238 69) ≤ (h162 238 5) by omega) (show (h162 238 2) ≤ 12 * (h162 238 5) by omega) (show (h162 236 2) = 0 by omega) (show (h162 236 10) = sc_ec tB tn by omega) (show (h162 236 11) = sc_ep tB tn by omega) y162_0 y162_1
            ·
              refine wi_iload_n (i := 1) (e := z140) (nx := 120) (r1 := 0) (r2 := 0) (r3 := 0) rfl rfl ?_
              refine wi_ireturn (nx := 121) (r1 := 0) (r2 := 0) (r3 := 0) rfl rfl ?_
              have e160 : h127 236 2 = h13 236 2 := ((u127 236 2 rfl).trans ((u125 236 2 rfl).trans ((u123 236 2 rfl).trans ((u120 236 2 rfl).trans ((u114 236 2 rfl).trans ((u112 236 2 rfl).trans ((u84 236 2 rfl).trans ((u63 236 2 rfl).trans ((u37 236 2 rfl).trans ((u30 236 2 rfl).trans ((u28 236 2 rfl).trans (u26 236 2 rfl))))))))))))
              have e161 : h127 236 10 = h84 236 8 := ((u127 236 10 rfl).trans ((u125 236 10 rfl).trans ((u123 236 10 rfl).trans ((u120 236 10 rfl).trans ((u114 236 10 rfl).trans w112)))))
              have e162 : h127 236 11 = h84 236 9 := ((u127 236 11 rfl).trans ((u125 236 11 rfl).trans ((u123 236 11 rfl).trans ((u120 236 11 rfl).trans w114))))
              have gs163 := GPS.fr u13 rfl xq1
              have gs164 := GPS.fr u26 rfl gs163
              have gs165 := GPS.fr u28 rfl gs164
              have gs166 := GPS.fr u30 rfl gs165
              have gs167 := GPS.fr u37 rfl gs166
              have gs168 := GPS.fr u63 rfl gs167
              have gs169 := GPS.fr u84 rfl gs168
              have gs170 := GPS.fr u112 rfl gs169
              have gs171 := GPS.fr u114 rfl gs170
              have gs172 := GPS.fr u120 rfl gs171
              have gs173 := GPS.fr u123 rfl gs172
              have gs174 := GPS.fr u125 rfl gs173
              have gs175 := GPS.fr u127 rfl gs174
              have gp176 := GPH.fr u13 rfl gp0
              have gp177 := GPH.fr u26 rfl gp176
              have gp178 := GPH.fr u28 rfl gp177
              have gp179 := GPH.fr u30 rfl gp178
              have gp180 := GPH.fr u37 rfl gp179
              have gp181 := GPH.fr u63 rfl gp180
              have gp182 := GPH.fr u84 rfl gp181
              have gp183 := GPH.fr u112 rfl gp182
              have gp184 := GPH.fr u114 rfl gp183
              have gp185 := GPH.fr u120 rfl gp184
              have gp186 := GPH.fr u123 rfl gp185
              have gp187 := GPH.fr u125 rfl gp186
              have gp188 := GPH.fr u127 rfl gp187
              exact k h127 z140 g127 F145 (by omega) (show (h127 238 98) + (h127 238 99) + (h127 238 100) + (h127 238 101) + (h127 238 102) + (h127 238 106) = (h127 238 73) by omega) (show (h127 238 73) ≤ (h127 238 2) by omega) (show (h127 238 119) ≤ (h127 238 67) by omega) (show (h127 238 69) ≤ (h127 238 5) by omega) (show (h127 238 2) ≤ 12 * (h127 238 5) by omega) (show (h127 236 2) = 0 by omega) (show (h127 236 10) = sc_ec tB tn by omega) (show (h127 236 11) = sc_ep tB tn by omega) gs175 gp188
          ·
            refine wi_aload_n (i := 0) (x := 236) (nx := 78) (r1 := 0) (r2 := 0) (r3 := 0) rfl rfl ?_
            refine wi_iconst (n := 1) (nx := 79) (r1 := 0) (r2 := 0) (r3 := 0) rfl ?_
            refine wr_V (k0 := 236) (rest := []) (as := [.ref 236, vi 1]) (nx := 82) (r1 := 224) (r2 := 1) (r3 := 11) rfl rfl rfl (of_decide_eq_true rfl) rfl rfl (by decide) rfl rfl (of_decide_eq_true rfl) (of_decide_eq_true rfl) ?_
            refine ct_224_236 hcr  g84 1 (by omega)  (fun h111 g111 u111 (p111_0 : 1 ≤ (h111 236 8)) (p111_1 : (1 ≤ (h84 236 8) ∧ (h111 236 8) = (h84 236 8) ∧ (h111 236 9) = (h84 236 9)) ∨ ((h84 236 8) = 0 ∧ (h111 236 9) = (h84 236 5) ∧ (((h84 236 6) = 4 ∧ (h111 236 8) = 1) ∨ ((h84 236 6) ≠ 4 ∧ (h111 236 8) = 1)))) => ?_)
            have F112 := F88.then (by decide +kernel) u111
            have b113 := gi_b (lo := 0) (hi := 5) g111 236 8 rfl
            have b114 := gi_b (lo := -2147483648) (hi := 2147483647) g111 236 9 rfl
            refine wk_n ?_
            have e116 : h111 236 44 = h84 236 44 := (u111 236 44 rfl)
            have RE115 := sc_REq (frs108.symm.trans (sc_e1 (by omega) (by omega)))
            refine wi_aload_n (i := 0) (x := 236) (nx := 83) (r1 := 0) (r2 := 0) (r3 := 0) rfl rfl ?_
            refine wr_V (k0 := 236) (rest := []) (as := [.ref 236]) (nx := 86) (r1 := 237) (r2 := 0) (r3 := 11) rfl rfl rfl (of_decide_eq_true rfl) rfl rfl (by decide) rfl rfl (of_decide_eq_true rfl) (of_decide_eq_true rfl) ?_
            refine wi_aload_n (i := 0) (x := 236) (nx := 1) (r1 := 0) (r2 := 0) (r3 := 0) rfl rfl ?_
            refine wi_aload_n (i := 0) (x := 236) (nx := 2) (r1 := 0) (r2 := 0) (r3 := 0) rfl rfl ?_
            refine wr_gi0 (k0 := 236) (x := h111 236 8) (nx := 5) (r1 := 11) (r2 := 8) (r3 := 0) rfl rfl (by decide) rfl ⟨rfl, rfl⟩ rfl rfl ?_
            refine wr_pf0 (k0 := 236) (x := h111 236 8) (bl := -2147483648) (bh := 2147483647) (nx := 8) (r1 := 11) (r2 := 10) (r3 := 0) rfl (by decide) rfl ⟨rfl, rfl⟩ rfl rfl g111 rfl (by omega) (fun h117 g117 w117 u117 => ?_)
            have F118 := F112.then rfl u117
            refine wi_aload_n (i := 0) (x := 236) (nx := 9) (r1 := 0) (r2 := 0) (r3 := 0) rfl rfl ?_
            refine wi_aload_n (i := 0) (x := 236) (nx := 10) (r1 := 0) (r2 := 0) (r3 := 0) rfl rfl ?_
            refine wr_gi0 (k0 := 236) (x := h111 236 9) (nx := 13) (r1 := 11) (r2 := 9) (r3 := 0) rfl rfl (by decide) rfl ⟨rfl, rfl⟩ rfl (u117 236 9 rfl) ?_
            refine wr_pf0 (k0 := 236) (x := h111 236 9) (bl := -2147483648) (bh := 2147483647) (nx := 16) (r1 := 11) (r2 := 11) (r3 := 0) rfl (by decide) rfl ⟨rfl, rfl⟩ rfl rfl g117 rfl (by omega) (fun h119 g119 w119 u119 => ?_)
            have F120 := F118.then rfl u119
            refine wi_aload_n (i := 0) (x := 236) (nx := 17) (r1 := 0) (r2 := 0) (r3 := 0) rfl rfl ?_
            refine wi_aload_n (i := 0) (x := 236) (nx := 18) (r1 := 0) (r2 := 0) (r3 := 0) rfl rfl ?_
            refine wr_gi0 (k0 := 236) (x := h111 236 8) (nx := 21) (r1 := 11) (r2 := 8) (r3 := 0) rfl rfl (by decide) rfl ⟨rfl, rfl⟩ rfl ((u119 236 8 rfl).trans (u117 236 8 rfl)) ?_
            refine wi_if (cd := .ne) (nx := 24) (r1 := 28) (r2 := 0) (r3 := 0) rfl (by omega) (fun (q121 : (h111 236 8) ≠ 0) => ?_) (fun (q121 : ¬ ((h111 236 8) ≠ 0)) => by exfalso; omega)
            refine wi_iconst (n := 0) (nx := 29) (r1 := 0) (r2 := 0) (r3 := 0) rfl ?_
            refine wr_V (k0 := 236) (rest := []) (as := [.ref 236, vi 0]) (nx := 32) (r1 := 206) (r2 := 1) (r3 := 11) rfl rfl rfl (of_decide_eq_true rfl) rfl rfl (by decide) rfl rfl (of_decide_eq_true rfl) (of_decide_eq_true rfl) ?_
            refine wi_aload_n (i := 0) (x := 236) (nx := 1) (r1 := 0) (r2 := 0) (r3 := 0) rfl rfl ?_
            refine wi_iload_n (i := 1) (e := 0) (nx := 2) (r1 := 0) (r2 := 0) (r3 := 0) rfl rfl ?_
            refine wi_if (cd := .ne) (nx := 5) (r1 := 9) (r2 := 0) (r3 := 0) rfl (by omega) (fun (q123 : 0 ≠ 0) => by exfalso; omega) (fun (q123 : ¬ (0 ≠ 0)) => ?_)
            refine wi_iconst (n := 1) (nx := 6) (r1 := 0) (r2 := 0) (r3 := 0) rfl ?_
            refine wi_goto (nx := 9) (r1 := 10) (r2 := 0) (r3 := 0) rfl ?_
            refine wi_S (rest := [.ref 236]) (as := [vi 1]) (nx := 13) (r1 := 207) (r2 := 17) (r3 := 0) rfl rfl rfl (of_decide_eq_true rfl) rfl rfl (of_decide_eq_true rfl) (of_decide_eq_true rfl) ?_
            refine wi_iload_n (i := 0) (e := 1) (nx := 1) (r1 := 0) (r2 := 0) (r3 := 0) rfl rfl ?_
            refine wi_if (cd := .eq) (nx := 4) (r1 := 8) (r2 := 0) (r3 := 0) rfl (by omega) (fun (q124 : 1 = 0) => by exfalso; omega) (fun (q124 : ¬ (1 = 0)) => ?_)
            refine wi_iconst (n := 1) (nx := 5) (r1 := 0) (r2 := 0) (r3 := 0) rfl ?_
            refine wi_goto (nx := 8) (r1 := 9) (r2 := 0) (r3 := 0) rfl ?_
            refine wi_ireturn (nx := 10) (r1 := 0) (r2 := 0) (r3 := 0) rfl rfl ?_
            refine wk_i ?_
            refine wr_pf0 (k0 := 236) (x := 1) (bl := 0) (bh := 2) (nx := 16) (r1 := 11) (r2 := 0) (r3 := 0) rfl (by decide) rfl ⟨rfl, rfl⟩ rfl rfl g119 rfl (by omega) (fun h125 g125 w125 u125 => ?_)
            have F126 := F120.then rfl u125
            refine wi_iload_n (i := 1) (e := 0) (nx := 17) (r1 := 0) (r2 := 0) (r3 := 0) rfl rfl ?_
            refine wi_zreturn (nx := 18) (r1 := 0) (r2 := 0) (r3 := 0) rfl rfl (by omega) ?_
            refine wk_i ?_
            refine wi_zreturn (nx := 33) (r1 := 0) (r2 := 0) (r3 := 0) rfl rfl (by omega) ?_
            refine wk_i ?_
            refine wi_if (cd := .ne) (nx := 89) (r1 := 91) (r2 := 0) (r3 := 0) rfl (by omega) (fun (q127 : 0 ≠ 0) => by exfalso; omega) (fun (q127 : ¬ (0 ≠ 0)) => ?_)
            refine wi_iconst (n := 0) (nx := 90) (r1 := 0) (r2 := 0) (r3 := 0) rfl ?_
            refine wi_ireturn (nx := 91) (r1 := 0) (r2 := 0) (r3 := 0) rfl rfl ?_
            have e128 : h125 238 98 = h 238 98 := ((u125 238 98 rfl).trans ((u119 238 98 rfl).trans ((u117 238 98 rfl).trans ((u111 238 98 rfl).trans ((u84 238 98 rfl).trans ((u63 238 98 rfl).trans ((u37 238 98 rfl).trans ((u30 238 98 rfl).trans ((u28 238 98 rfl).trans ((u26 238 98 rfl).trans (u13 238 98 rfl)))))))))))
            have e129 : h125 238 99 = h 238 99 := ((u125 238 99 rfl).trans ((u119 238 99 rfl).trans ((u117 238 99 rfl).trans ((u111 238 99 rfl).trans ((u84 238 99 rfl).trans ((u63 238 99 rfl).trans ((u37 238 99 rfl).trans ((u30 238 99 rfl).trans ((u28 238 99 rfl).trans ((u26 238 99 rfl).trans (u13 238 99 rfl)))))))))))
            have e130 : h125 238 100 = h 238 100 := ((u125 238 100 rfl).trans ((u119 238 100 rfl).trans ((u117 238 100 rfl).trans ((u111 238 100 rfl).trans ((u84 238 100 rfl).trans ((u63 238 100 rfl).trans ((u37 238 100 rfl).trans ((u30 238 100 rfl).trans ((u28 238 100 rfl).trans ((u26 238 100 rfl).trans (u13 238 100 rfl)))))))))))
            have e131 : h125 238 101 = h 238 101 := ((u125 238 101 rfl).trans ((u119 238 101 rfl).trans ((u117 238 101 rfl).trans ((u111 238 101 rfl).trans ((u84 238 101 rfl).trans ((u63 238 101 rfl).trans ((u37 238 101 rfl).trans ((u30 238 101 rfl).trans ((u28 238 101 rfl).trans ((u26 238 101 rfl).trans (u13 238 101 rfl)))))))))))
            have e132 : h125 238 102 = h 238 102 := ((u125 238 102 rfl).trans ((u119 238 102 rfl).trans ((u117 238 102 rfl).trans ((u111 238 102 rfl).trans ((u84 238 102 rfl).trans ((u63 238 102 rfl).trans ((u37 238 102 rfl).trans ((u30 238 102 rfl).trans ((u28 238 102 rfl).trans ((u26 238 102 rfl).trans (u13 238 102 rfl)))))))))))
            have e133 : h125 238 106 = h 238 106 := ((u125 238 106 rfl).trans ((u119 238 106 rfl).trans ((u117 238 106 rfl).trans ((u111 238 106 rfl).trans ((u84 238 106 rfl).trans ((u63 238 106 rfl).trans ((u37 238 106 rfl).trans ((u30 238 106 rfl).trans ((u28 238 106 rfl).trans ((u26 238 106 rfl).trans (u13 238 106 rfl)))))))))))
            have e134 : h125 238 73 = h 238 73 := ((u125 238 73 rfl).trans ((u119 238 73 rfl).trans ((u117 238 73 rfl).trans ((u111 238 73 rfl).trans ((u84 238 73 rfl).trans ((u63 238 73 rfl).trans ((u37 238 73 rfl).trans ((u30 238 73 rfl).trans ((u28 238 73 rfl).trans ((u26 238 73 rfl).trans (u13 238 73 rfl)))))))))))
            have e135 : h125 238 2 = h 238 2 := ((u125 238 2 rfl).trans ((u119 238 2 rfl).trans ((u117 238 2 rfl).trans ((u111 238 2 rfl).trans ((u84 238 2 rfl).trans ((u63 238 2 rfl).trans ((u37 238 2 rfl).trans ((u30 238 2 rfl).trans ((u28 238 2 rfl).trans ((u26 238 2 rfl).trans (u13 238 2 rfl)))))))))))
            have e136 : h125 238 119 = h 238 119 := ((u125 238 119 rfl).trans ((u119 238 119 rfl).trans ((u117 238 119 rfl).trans ((u111 238 119 rfl).trans ((u84 238 119 rfl).trans ((u63 238 119 rfl).trans ((u37 238 119 rfl).trans ((u30 238 119 rfl).trans ((u28 238 119 rfl).trans ((u26 238 119 rfl).trans (u13 238 119 rfl)))))))))))
            have e137 : h125 238 67 = h 238 67 := ((u125 238 67 rfl).trans ((u119 238 67 rfl).trans ((u117 238 67 rfl).trans ((u111 238 67 rfl).trans ((u84 238 67 rfl).trans ((u63 238 67 rfl).trans ((u37 238 67 rfl).trans ((u30 238 67 rfl).trans ((u28 238 67 rfl).trans ((u26 238 67 rfl).trans (u13 238 67 rfl)))))))))))
            have e138 : h125 238 69 = h 238 69 := ((u125 238 69 rfl).trans ((u119 238 69 rfl).trans ((u117 238 69 rfl).trans ((u111 238 69 rfl).trans ((u84 238 69 rfl).trans ((u63 238 69 rfl).trans ((u37 238 69 rfl).trans ((u30 238 69 rfl).trans ((u28 238 69 rfl).trans ((u26 238 69 rfl).trans (u13 238 69 rfl)))))))))))
            have e139 : h125 238 5 = h 238 5 := ((u125 238 5 rfl).trans ((u119 238 5 rfl).trans ((u117 238 5 rfl).trans ((u111 238 5 rfl).trans ((u84 238 5 rfl).trans ((u63 238 5 rfl).trans ((u37 238 5 rfl).trans ((u30 238 5 rfl).trans ((u28 238 5 rfl).trans ((u26 238 5 rfl).trans (u13 238 5 rfl)))))))))))
            have e140 : h125 236 2 = h13 236 2 := ((u125 236 2 rfl).trans ((u119 236 2 rfl).trans ((u117 236 2 rfl).trans ((u111 236 2 rfl).trans ((u84 236 2 rfl).trans ((u63 236 2 rfl).trans ((u37 236 2 rfl).trans ((u30 236 2 rfl).trans ((u28 236 2 rfl).trans (u26 236 2 rfl))))))))))
            have e141 : h125 236 10 = h111 236 8 := ((u125 236 10 rfl).trans ((u119 236 10 rfl).trans w117))
            have e142 : h125 236 11 = h111 236 9 := ((u125 236 11 rfl).trans w119)
            have gs143 := GPS.fr u13 rfl xq1
            have gs144 := GPS.fr u26 rfl gs143
            have gs145 := GPS.fr u28 rfl gs144
            have gs146 := GPS.fr u30 rfl gs145
            have gs147 := GPS.fr u37 rfl gs146
            have gs148 := GPS.fr u63 rfl gs147
            have gs149 := GPS.fr u84 rfl gs148
            have gs150 := GPS.fr u111 rfl gs149
            have gs151 := GPS.fr u117 rfl gs150
            have gs152 := GPS.fr u119 rfl gs151
            have gs153 := GPS.fr u125 rfl gs152
            have gp154 := GPH.fr u13 rfl gp0
            have gp155 := GPH.fr u26 rfl gp154
            have gp156 := GPH.fr u28 rfl gp155
            have gp157 := GPH.fr u30 rfl gp156
            have gp158 := GPH.fr u37 rfl gp157
            have gp159 := GPH.fr u63 rfl gp158
            have gp160 := GPH.fr u84 rfl gp159
            have gp161 := GPH.fr u111 rfl gp160
            have gp162 := GPH.fr u117 rfl gp161
            have gp163 := GPH.fr u119 rfl gp162
            have gp164 := GPH.fr u125 rfl gp163
            exact k h125 0 g125 F126 (by omega) (show (h125 238 98) + (h125 238 99) + (h125 238 100) + (h125 238 101) + (h125 238 102) + (h125 238 106) = (h125 238 73) by omega) (show (h125 238 73) ≤ (h125 238 2) by omega) (show (h125 238 119) ≤ (h125 238 67) by omega) (show (h125 238 69) ≤ (h125 238 5) by omega) (show (h125 238 2) ≤ 12 * (h125 238 5) by omega) (show (h125 236 2) = 0 by omega) (show (h125 236 10) = sc_ec tB tn by omega) (show (h125 236 11) = sc_ep tB tn by omega) gs153 gp164
        ·
          replace q99 : 0 + 1 ≤ (h84 236 6) := by omega
          try have kf100 := TKk.n0 (B := tB) (n := tn) (p := q78) (a6 := h84 236 6) (by assumption) (by omega)
          have e101 : h84 236 3 = h13 236 3 := ((u84 236 3 rfl).trans ((u63 236 3 rfl).trans ((u37 236 3 rfl).trans ((u30 236 3 rfl).trans ((u28 236 3 rfl).trans (u26 236 3 rfl))))))
          refine wp.lo (lo := [(0, .ref 236)]) ⟨rfl, trivial⟩ rfl ?_
          have q102 : h84 253 = h84 253 := funext (fun i => rfl)
          exact I37 h84 ⟨g84, F88, F89, (show ((h84 236 4) ≤ (h84 236 3)) ∧ ((h84 236 8) = 0) ∧ ((h84 236 6) ≠ 0) ∧ ((h84 236 42) + (h84 236 44) ≤ 2 * (h84 236 43)) by omega), (by rw [q102, show h84 236 42 = h84 236 42 by omega, show h84 236 44 = h84 236 44 by omega]; exact y84_0 (by omega)), y84_1, (y84_2.resolve_left (by omega))⟩ (show ((h84 236 3) - (h84 236 4)).toNat < ((h37 236 3) - (h37 236 4)).toNat by omega)
    ·
      replace p63_1 := p63_1.resolve_left (by omega)
      replace p63_5 := p63_5.resolve_left (by omega)
      have b79 := gi_b (lo := 0) (hi := 800) g63 236 5 rfl
      have b80 := gi_b (lo := 0) (hi := 999) g63 236 7 rfl
      have b81 := gi_b (lo := -9223372036854775808) (hi := 9223372036854775807) g63 236 12 rfl
      obtain ⟨emq78, q78, eaq78, ecq78, edq78, tkq78, egq78, ebq78⟩ := sc_OM3 y63_1 (by omega) (by omega)
      obtain ⟨taq78, tbq78, tcq78⟩ : _ ∧ _ ∧ TKk tB tn q78 (h63 236 6) (h63 236 7) (h63 236 12) := id tkq78
      have tN82 := @tk_nx_b tB tn q78 (by omega) (by omega)
      refine wi_aload_n (i := 0) (x := 236) (nx := 43) (r1 := 0) (r2 := 0) (r3 := 0) rfl rfl ?_
      refine wr_gi0 (k0 := 236) (x := h63 236 44) (nx := 46) (r1 := 11) (r2 := 44) (r3 := 0) rfl rfl (by decide) rfl ⟨rfl, rfl⟩ rfl rfl ?_
      refine wi_iload_n (i := 1) (e := h37 236 44) (nx := 47) (r1 := 0) (r2 := 0) (r3 := 0) rfl rfl ?_
      refine wi_icmp (cd := .ne) (nx := 50) (r1 := 56) (r2 := 0) (r3 := 0) rfl (by omega) (by omega) (fun (q83 : (h63 236 44) ≠ (h37 236 44)) => by exfalso; omega) (fun (q83 : ¬ ((h63 236 44) ≠ (h37 236 44))) => ?_)
      refine wi_aload_n (i := 0) (x := 236) (nx := 51) (r1 := 0) (r2 := 0) (r3 := 0) rfl rfl ?_
      refine wi_bipush (n := 59) (nx := 53) (r1 := 0) (r2 := 0) (r3 := 0) rfl (by decide) ?_
      refine wr_V (k0 := 236) (rest := []) (as := [.ref 236, vi 59]) (nx := 56) (r1 := 235) (r2 := 1) (r3 := 11) rfl rfl rfl (of_decide_eq_true rfl) rfl rfl (by decide) rfl rfl (of_decide_eq_true rfl) (of_decide_eq_true rfl) ?_
      have e85 : h63 236 3 = h13 236 3 := ((u63 236 3 rfl).trans ((u37 236 3 rfl).trans ((u30 236 3 rfl).trans ((u28 236 3 rfl).trans (u26 236 3 rfl)))))
      have rb86 := RefB.fr u63 rfl rb68
      refine ct_235_236_L59 hcr  g63   (show (h63 236 4) ≤ (h63 236 3) by omega) (show 0 ≤ q78 by omega) (show q78 ≤ tn by omega) (show q78 ≤ tk_nx tB tn q78 ∧ tk_nx tB tn q78 ≤ tn from ⟨by omega, by omega⟩) (show 1 ≤ (h63 236 8) ∨ ((h63 236 4) = tk_nx tB tn q78 ∧ (h63 236 5) = tk_st tB tn q78 ∧ TKk tB tn q78 ((h63 236 6)) ((h63 236 7)) ((h63 236 12))) from (Or.inr (show ((h63 236 4) = tk_nx tB tn q78 ∧ (h63 236 5) = tk_st tB tn q78 ∧ TKk tB tn q78 ((h63 236 6)) ((h63 236 7)) ((h63 236 12))) by first | assumption | exact ⟨by omega, by omega, TKk.mv (by assumption) (by omega) (by omega) (by omega)⟩))) rb86 (fun h84 g84 u84 (p84_0 : (1 ≤ (h63 236 8) ∧ (h84 236 8) = (h63 236 8) ∧ (h84 236 9) = (h63 236 9)) ∨ ((h63 236 8) = 0 ∧ tk_kd tB tn q78 = 3 ∧ (h84 236 8) = (h63 236 8) ∧ (h84 236 9) = (h63 236 9) ∧ ((h84 236 4) = tk_nx tB tn (tk_nx tB tn q78) ∧ (h84 236 5) = tk_st tB tn (tk_nx tB tn q78) ∧ TKk tB tn (tk_nx tB tn q78) ((h84 236 6)) ((h84 236 7)) ((h84 236 12)))) ∨ ((h63 236 8) = 0 ∧ tk_kd tB tn q78 ≠ 3 ∧ (h84 236 8) = 1 ∧ (h84 236 9) = tk_st tB tn q78)) (p84_1 : (h63 236 4) ≤ (h84 236 4)) (p84_2 : (h84 236 4) ≤ (h63 236 3)) (p84_3 : 1 ≤ (h84 236 8) ∨ (h63 236 8) = 0) (p84_4 : 1 ≤ (h84 236 8) ∨ (h84 236 6) = 0 ∨ (h63 236 4) + 1 ≤ (h84 236 4)) => ?_)
      have F87 := F69.then (by decide +kernel) u84
      have F88 := F70.then (by decide +kernel) u84
      have b89 := gi_b (lo := 0) (hi := 5) g84 236 8 rfl
      have b90 := gi_b (lo := -2147483648) (hi := 2147483647) g84 236 9 rfl
      have b91 := gi_b (lo := 0) (hi := 800) g84 236 4 rfl
      have b92 := gi_b (lo := 0) (hi := 800) g84 236 5 rfl
      have b93 := gi_b (lo := 0) (hi := 4) g84 236 6 rfl
      have b94 := gi_b (lo := 0) (hi := 999) g84 236 7 rfl
      have b95 := gi_b (lo := -9223372036854775808) (hi := 9223372036854775807) g84 236 12 rfl
      refine wk_n ?_
      rcases p84_0 with p84_0 | p84_0 | p84_0
      ·
        exfalso; omega
      ·
        replace p84_3 := p84_3.resolve_left (by omega)
        have tkk96 := (p84_0.2.2.2.2).2.2
        have tN97 := @tk_nx_b tB tn (tk_nx tB tn q78) (by omega) (by omega)
        refine wi_aload_n (i := 0) (x := 236) (nx := 57) (r1 := 0) (r2 := 0) (r3 := 0) rfl rfl ?_
        refine wr_V (k0 := 236) (rest := []) (as := [.ref 236]) (nx := 60) (r1 := 338) (r2 := 0) (r3 := 11) rfl rfl rfl (of_decide_eq_true rfl) rfl rfl (by decide) rfl rfl (of_decide_eq_true rfl) (of_decide_eq_true rfl) ?_
        have e99 : h84 236 3 = h13 236 3 := ((u84 236 3 rfl).trans ((u63 236 3 rfl).trans ((u37 236 3 rfl).trans ((u30 236 3 rfl).trans ((u28 236 3 rfl).trans (u26 236 3 rfl))))))
        have e100 : h84 236 42 = h63 236 42 := (u84 236 42 rfl)
        have e101 : h84 236 44 = h63 236 44 := (u84 236 44 rfl)
        have e102 : h84 236 43 = h63 236 43 := (u84 236 43 rfl)
        have q103 : h84 253 = h63 253 := funext (fun i => (u84 253 i (fo_no_ok (by decide) i)))
        have rb104 := RefB.fr u84 rfl rb86
        refine ct_338_236 hcr  g84   (show (h84 236 4) ≤ (h84 236 3) by omega) (show 1 ≤ (h84 236 8) ∨ (h84 236 42) + (h84 236 44) ≤ 2 * (h84 236 43) from (Or.inr (by omega))) (fun e => by rw [q103, show h84 236 42 = h63 236 42 by omega, show h84 236 44 = h63 236 44 by omega]; exact y63_0 (by omega)) rb104 (SCI.mk ks61 (tk_nx tB tn q78) (by omega) (by omega) (by omega) (by omega) (by omega) (by first | assumption | exact ⟨by omega, by omega, TKk.mv (by assumption) (by omega) (by omega) (by omega)⟩) (by rw [show h84 236 44 = h37 236 44 by omega, show h84 236 43 = h37 236 43 + 1 by omega]; exact (sc_m2 kzs61 hos61.no (egq78 (by omega))).symm.trans frs61)) (fun h98 g98 u98 (p98_0 : (h84 236 4) ≤ (h98 236 4)) (p98_1 : (h98 236 4) ≤ (h84 236 3)) (p98_2 : 1 ≤ (h98 236 8) ∨ (h84 236 8) = 0) (p98_3 : (h84 236 6) ≠ 0 ∨ (h98 236 6) = 0) (p98_4 : 1 ≤ (h98 236 8) ∨ (h98 236 42) + (h98 236 44) ≤ 2 * (h98 236 43)) y98_0 y98_1 y98_2 => ?_)
        have F105 := F87.then (by decide +kernel) u98
        have F106 := F88.then (by decide +kernel) u98
        have b107 := gi_b (lo := 0) (hi := 800) g98 236 4 rfl
        have b108 := gi_b (lo := 0) (hi := 5) g98 236 8 rfl
        have b109 := gi_b (lo := 0) (hi := 4) g98 236 6 rfl
        have b110 := gi_b (lo := 0) (hi := 80) g98 236 42 rfl
        have b111 := gi_b (lo := 0) (hi := 2) g98 236 44 rfl
        have e112 : h98 236 43 = h63 236 43 := ((u98 236 43 rfl).trans (u84 236 43 rfl))
        clear p98_2
        refine wk_n ?_
        refine wi_goto (nx := 63) (r1 := 19) (r2 := 0) (r3 := 0) rfl ?_
        refine wi_aload_n (i := 0) (x := 236) (nx := 20) (r1 := 0) (r2 := 0) (r3 := 0) rfl rfl ?_
        refine wr_V (k0 := 236) (rest := []) (as := [.ref 236]) (nx := 23) (r1 := 219) (r2 := 0) (r3 := 11) rfl rfl rfl (of_decide_eq_true rfl) rfl rfl (by decide) rfl rfl (of_decide_eq_true rfl) (of_decide_eq_true rfl) ?_
        refine wi_aload_n (i := 0) (x := 236) (nx := 1) (r1 := 0) (r2 := 0) (r3 := 0) rfl rfl ?_
        refine wr_gi0 (k0 := 236) (x := h98 236 8) (nx := 4) (r1 := 11) (r2 := 8) (r3 := 0) rfl rfl (by decide) rfl ⟨rfl, rfl⟩ rfl rfl ?_
        refine wi_if (cd := .ne) (nx := 7) (r1 := 11) (r2 := 0) (r3 := 0) rfl (by omega) (fun (q113 : (h98 236 8) ≠ 0) => ?_) (fun (q113 : ¬ ((h98 236 8) ≠ 0)) => ?_)
        ·
          replace q113 : 0 + 1 ≤ (h98 236 8) := by omega
          refine wi_iconst (n := 0) (nx := 12) (r1 := 0) (r2 := 0) (r3 := 0) rfl ?_
          refine wi_zreturn (nx := 13) (r1 := 0) (r2 := 0) (r3 := 0) rfl rfl (by omega) ?_
          refine wk_i ?_
          refine wi_if (cd := .eq) (nx := 26) (r1 := 63) (r2 := 0) (r3 := 0) rfl (by omega) (fun (q115 : 0 = 0) => ?_) (fun (q115 : ¬ (0 = 0)) => by exfalso; omega)
          refine wi_aload_n (i := 0) (x := 236) (nx := 64) (r1 := 0) (r2 := 0) (r3 := 0) rfl rfl ?_
          refine wr_V (k0 := 236) (rest := []) (as := [.ref 236]) (nx := 67) (r1 := 219) (r2 := 0) (r3 := 11) rfl rfl rfl (of_decide_eq_true rfl) rfl rfl (by decide) rfl rfl (of_decide_eq_true rfl) (of_decide_eq_true rfl) ?_
          refine wi_aload_n (i := 0) (x := 236) (nx := 1) (r1 := 0) (r2 := 0) (r3 := 0) rfl rfl ?_
          refine wr_gi0 (k0 := 236) (x := h98 236 8) (nx := 4) (r1 := 11) (r2 := 8) (r3 := 0) rfl rfl (by decide) rfl ⟨rfl, rfl⟩ rfl rfl ?_
          refine wi_if (cd := .ne) (nx := 7) (r1 := 11) (r2 := 0) (r3 := 0) rfl (by omega) (fun (q116 : (h98 236 8) ≠ 0) => ?_) (fun (q116 : ¬ ((h98 236 8) ≠ 0)) => by exfalso; omega)
          refine wi_iconst (n := 0) (nx := 12) (r1 := 0) (r2 := 0) (r3 := 0) rfl ?_
          refine wi_zreturn (nx := 13) (r1 := 0) (r2 := 0) (r3 := 0) rfl rfl (by omega) ?_
          refine wk_i ?_
          refine wi_if (cd := .eq) (nx := 70) (r1 := 82) (r2 := 0) (r3 := 0) rfl (by omega) (fun (q118 : 0 = 0) => ?_) (fun (q118 : ¬ (0 = 0)) => by exfalso; omega)
          have b120 := gi_b (lo := -2147483648) (hi := 2147483647) g98 236 9 rfl
          have RE119 := sc_REq (SCI.bad y98_1 (by omega))
          refine wi_aload_n (i := 0) (x := 236) (nx := 83) (r1 := 0) (r2 := 0) (r3 := 0) rfl rfl ?_
          refine wr_V (k0 := 236) (rest := []) (as := [.ref 236]) (nx := 86) (r1 := 237) (r2 := 0) (r3 := 11) rfl rfl rfl (of_decide_eq_true rfl) rfl rfl (by decide) rfl rfl (of_decide_eq_true rfl) (of_decide_eq_true rfl) ?_
          refine wi_aload_n (i := 0) (x := 236) (nx := 1) (r1 := 0) (r2 := 0) (r3 := 0) rfl rfl ?_
          refine wi_aload_n (i := 0) (x := 236) (nx := 2) (r1 := 0) (r2 := 0) (r3 := 0) rfl rfl ?_
          refine wr_gi0 (k0 := 236) (x := h98 236 8) (nx := 5) (r1 := 11) (r2 := 8) (r3 := 0) rfl rfl (by decide) rfl ⟨rfl, rfl⟩ rfl rfl ?_
          refine wr_pf0 (k0 := 236) (x := h98 236 8) (bl := -2147483648) (bh := 2147483647) (nx := 8) (r1 := 11) (r2 := 10) (r3 := 0) rfl (by decide) rfl ⟨rfl, rfl⟩ rfl rfl g98 rfl (by omega) (fun h121 g121 w121 u121 => ?_)
          have F122 := F105.then rfl u121
          refine wi_aload_n (i := 0) (x := 236) (nx := 9) (r1 := 0) (r2 := 0) (r3 := 0) rfl rfl ?_
          refine wi_aload_n (i := 0) (x := 236) (nx := 10) (r1 := 0) (r2 := 0) (r3 := 0) rfl rfl ?_
          refine wr_gi0 (k0 := 236) (x := h98 236 9) (nx := 13) (r1 := 11) (r2 := 9) (r3 := 0) rfl rfl (by decide) rfl ⟨rfl, rfl⟩ rfl (u121 236 9 rfl) ?_
          refine wr_pf0 (k0 := 236) (x := h98 236 9) (bl := -2147483648) (bh := 2147483647) (nx := 16) (r1 := 11) (r2 := 11) (r3 := 0) rfl (by decide) rfl ⟨rfl, rfl⟩ rfl rfl g121 rfl (by omega) (fun h123 g123 w123 u123 => ?_)
          have F124 := F122.then rfl u123
          refine wi_aload_n (i := 0) (x := 236) (nx := 17) (r1 := 0) (r2 := 0) (r3 := 0) rfl rfl ?_
          refine wi_aload_n (i := 0) (x := 236) (nx := 18) (r1 := 0) (r2 := 0) (r3 := 0) rfl rfl ?_
          refine wr_gi0 (k0 := 236) (x := h98 236 8) (nx := 21) (r1 := 11) (r2 := 8) (r3 := 0) rfl rfl (by decide) rfl ⟨rfl, rfl⟩ rfl ((u123 236 8 rfl).trans (u121 236 8 rfl)) ?_
          refine wi_if (cd := .ne) (nx := 24) (r1 := 28) (r2 := 0) (r3 := 0) rfl (by omega) (fun (q125 : (h98 236 8) ≠ 0) => ?_) (fun (q125 : ¬ ((h98 236 8) ≠ 0)) => by exfalso; omega)
          refine wi_iconst (n := 0) (nx := 29) (r1 := 0) (r2 := 0) (r3 := 0) rfl ?_
          refine wr_V (k0 := 236) (rest := []) (as := [.ref 236, vi 0]) (nx := 32) (r1 := 206) (r2 := 1) (r3 := 11) rfl rfl rfl (of_decide_eq_true rfl) rfl rfl (by decide) rfl rfl (of_decide_eq_true rfl) (of_decide_eq_true rfl) ?_
          refine wi_aload_n (i := 0) (x := 236) (nx := 1) (r1 := 0) (r2 := 0) (r3 := 0) rfl rfl ?_
          refine wi_iload_n (i := 1) (e := 0) (nx := 2) (r1 := 0) (r2 := 0) (r3 := 0) rfl rfl ?_
          refine wi_if (cd := .ne) (nx := 5) (r1 := 9) (r2 := 0) (r3 := 0) rfl (by omega) (fun (q127 : 0 ≠ 0) => by exfalso; omega) (fun (q127 : ¬ (0 ≠ 0)) => ?_)
          refine wi_iconst (n := 1) (nx := 6) (r1 := 0) (r2 := 0) (r3 := 0) rfl ?_
          refine wi_goto (nx := 9) (r1 := 10) (r2 := 0) (r3 := 0) rfl ?_
          refine wi_S (rest := [.ref 236]) (as := [vi 1]) (nx := 13) (r1 := 207) (r2 := 17) (r3 := 0) rfl rfl rfl (of_decide_eq_true rfl) rfl rfl (of_decide_eq_true rfl) (of_decide_eq_true rfl) ?_
          refine wi_iload_n (i := 0) (e := 1) (nx := 1) (r1 := 0) (r2 := 0) (r3 := 0) rfl rfl ?_
          refine wi_if (cd := .eq) (nx := 4) (r1 := 8) (r2 := 0) (r3 := 0) rfl (by omega) (fun (q128 : 1 = 0) => by exfalso; omega) (fun (q128 : ¬ (1 = 0)) => ?_)
          refine wi_iconst (n := 1) (nx := 5) (r1 := 0) (r2 := 0) (r3 := 0) rfl ?_
          refine wi_goto (nx := 8) (r1 := 9) (r2 := 0) (r3 := 0) rfl ?_
          refine wi_ireturn (nx := 10) (r1 := 0) (r2 := 0) (r3 := 0) rfl rfl ?_
          refine wk_i ?_
          refine wr_pf0 (k0 := 236) (x := 1) (bl := 0) (bh := 2) (nx := 16) (r1 := 11) (r2 := 0) (r3 := 0) rfl (by decide) rfl ⟨rfl, rfl⟩ rfl rfl g123 rfl (by omega) (fun h129 g129 w129 u129 => ?_)
          have F130 := F124.then rfl u129
          refine wi_iload_n (i := 1) (e := 0) (nx := 17) (r1 := 0) (r2 := 0) (r3 := 0) rfl rfl ?_
          refine wi_zreturn (nx := 18) (r1 := 0) (r2 := 0) (r3 := 0) rfl rfl (by omega) ?_
          refine wk_i ?_
          refine wi_zreturn (nx := 33) (r1 := 0) (r2 := 0) (r3 := 0) rfl rfl (by omega) ?_
          refine wk_i ?_
          refine wi_if (cd := .ne) (nx := 89) (r1 := 91) (r2 := 0) (r3 := 0) rfl (by omega) (fun (q131 : 0 ≠ 0) => by exfalso; omega) (fun (q131 : ¬ (0 ≠ 0)) => ?_)
          refine wi_iconst (n := 0) (nx := 90) (r1 := 0) (r2 := 0) (r3 := 0) rfl ?_
          refine wi_ireturn (nx := 91) (r1 := 0) (r2 := 0) (r3 := 0) rfl rfl ?_
          have e132 : h129 238 98 = h 238 98 := ((u129 238 98 rfl).trans ((u123 238 98 rfl).trans ((u121 238 98 rfl).trans ((u98 238 98 rfl).trans ((u84 238 98 rfl).trans ((u63 238 98 rfl).trans ((u37 238 98 rfl).trans ((u30 238 98 rfl).trans ((u28 238 98 rfl).trans ((u26 238 98 rfl).trans (u13 238 98 rfl)))))))))))
          have e133 : h129 238 99 = h 238 99 := ((u129 238 99 rfl).trans ((u123 238 99 rfl).trans ((u121 238 99 rfl).trans ((u98 238 99 rfl).trans ((u84 238 99 rfl).trans ((u63 238 99 rfl).trans ((u37 238 99 rfl).trans ((u30 238 99 rfl).trans ((u28 238 99 rfl).trans ((u26 238 99 rfl).trans (u13 238 99 rfl)))))))))))
          have e134 : h129 238 100 = h 238 100 := ((u129 238 100 rfl).trans ((u123 238 100 rfl).trans ((u121 238 100 rfl).trans ((u98 238 100 rfl).trans ((u84 238 100 rfl).trans ((u63 238 100 rfl).trans ((u37 238 100 rfl).trans ((u30 238 100 rfl).trans ((u28 238 100 rfl).trans ((u26 238 100 rfl).trans (u13 238 100 rfl)))))))))))
          have e135 : h129 238 101 = h 238 101 := ((u129 238 101 rfl).trans ((u123 238 101 rfl).trans ((u121 238 101 rfl).trans ((u98 238 101 rfl).trans ((u84 238 101 rfl).trans ((u63 238 101 rfl).trans ((u37 238 101 rfl).trans ((u30 238 101 rfl).trans ((u28 238 101 rfl).trans ((u26 238 101 rfl).trans (u13 238 101 rfl)))))))))))
          have e136 : h129 238 102 = h 238 102 := ((u129 238 102 rfl).trans ((u123 238 102 rfl).trans ((u121 238 102 rfl).trans ((u98 238 102 rfl).trans ((u84 238 102 rfl).trans ((u63 238 102 rfl).trans ((u37 238 102 rfl).trans ((u30 238 102 rfl).trans ((u28 238 102 rfl).trans ((u26 238 102 rfl).trans (u13 238 102 rfl)))))))))))
          have e137 : h129 238 106 = h 238 106 := ((u129 238 106 rfl).trans ((u123 238 106 rfl).trans ((u121 238 106 rfl).trans ((u98 238 106 rfl).trans ((u84 238 106 rfl).trans ((u63 238 106 rfl).trans ((u37 238 106 rfl).trans ((u30 238 106 rfl).trans ((u28 238 106 rfl).trans ((u26 238 106 rfl).trans (u13 238 106 rfl)))))))))))
          have e138 : h129 238 73 = h 238 73 := ((u129 238 73 rfl).trans ((u123 238 73 rfl).trans ((u121 238 73 rfl).trans ((u98 238 73 rfl).trans ((u84 238 73 rfl).trans ((u63 238 73 rfl).trans ((u37 238 73 rfl).trans ((u30 238 73 rfl).trans ((u28 238 73 rfl).trans ((u26 238 73 rfl).trans (u13 238 73 rfl)))))))))))
          have e139 : h129 238 2 = h 238 2 := ((u129 238 2 rfl).trans ((u123 238 2 rfl).trans ((u121 238 2 rfl).trans ((u98 238 2 rfl).trans ((u84 238 2 rfl).trans ((u63 238 2 rfl).trans ((u37 238 2 rfl).trans ((u30 238 2 rfl).trans ((u28 238 2 rfl).trans ((u26 238 2 rfl).trans (u13 238 2 rfl)))))))))))
          have e140 : h129 238 119 = h 238 119 := ((u129 238 119 rfl).trans ((u123 238 119 rfl).trans ((u121 238 119 rfl).trans ((u98 238 119 rfl).trans ((u84 238 119 rfl).trans ((u63 238 119 rfl).trans ((u37 238 119 rfl).trans ((u30 238 119 rfl).trans ((u28 238 119 rfl).trans ((u26 238 119 rfl).trans (u13 238 119 rfl)))))))))))
          have e141 : h129 238 67 = h 238 67 := ((u129 238 67 rfl).trans ((u123 238 67 rfl).trans ((u121 238 67 rfl).trans ((u98 238 67 rfl).trans ((u84 238 67 rfl).trans ((u63 238 67 rfl).trans ((u37 238 67 rfl).trans ((u30 238 67 rfl).trans ((u28 238 67 rfl).trans ((u26 238 67 rfl).trans (u13 238 67 rfl)))))))))))
          have e142 : h129 238 69 = h 238 69 := ((u129 238 69 rfl).trans ((u123 238 69 rfl).trans ((u121 238 69 rfl).trans ((u98 238 69 rfl).trans ((u84 238 69 rfl).trans ((u63 238 69 rfl).trans ((u37 238 69 rfl).trans ((u30 238 69 rfl).trans ((u28 238 69 rfl).trans ((u26 238 69 rfl).trans (u13 238 69 rfl)))))))))))
          have e143 : h129 238 5 = h 238 5 := ((u129 238 5 rfl).trans ((u123 238 5 rfl).trans ((u121 238 5 rfl).trans ((u98 238 5 rfl).trans ((u84 238 5 rfl).trans ((u63 238 5 rfl).trans ((u37 238 5 rfl).trans ((u30 238 5 rfl).trans ((u28 238 5 rfl).trans ((u26 238 5 rfl).trans (u13 238 5 rfl)))))))))))
          have e144 : h129 236 2 = h13 236 2 := ((u129 236 2 rfl).trans ((u123 236 2 rfl).trans ((u121 236 2 rfl).trans ((u98 236 2 rfl).trans ((u84 236 2 rfl).trans ((u63 236 2 rfl).trans ((u37 236 2 rfl).trans ((u30 236 2 rfl).trans ((u28 236 2 rfl).trans (u26 236 2 rfl))))))))))
          have e145 : h129 236 10 = h98 236 8 := ((u129 236 10 rfl).trans ((u123 236 10 rfl).trans w121))
          have e146 : h129 236 11 = h98 236 9 := ((u129 236 11 rfl).trans w123)
          have gs147 := GPS.fr u13 rfl xq1
          have gs148 := GPS.fr u26 rfl gs147
          have gs149 := GPS.fr u28 rfl gs148
          have gs150 := GPS.fr u30 rfl gs149
          have gs151 := GPS.fr u37 rfl gs150
          have gs152 := GPS.fr u63 rfl gs151
          have gs153 := GPS.fr u84 rfl gs152
          have gs154 := GPS.fr u98 rfl gs153
          have gs155 := GPS.fr u121 rfl gs154
          have gs156 := GPS.fr u123 rfl gs155
          have gs157 := GPS.fr u129 rfl gs156
          have gp158 := GPH.fr u13 rfl gp0
          have gp159 := GPH.fr u26 rfl gp158
          have gp160 := GPH.fr u28 rfl gp159
          have gp161 := GPH.fr u30 rfl gp160
          have gp162 := GPH.fr u37 rfl gp161
          have gp163 := GPH.fr u63 rfl gp162
          have gp164 := GPH.fr u84 rfl gp163
          have gp165 := GPH.fr u98 rfl gp164
          have gp166 := GPH.fr u121 rfl gp165
          have gp167 := GPH.fr u123 rfl gp166
          have gp168 := GPH.fr u129 rfl gp167
          exact k h129 0 g129 F130 (by omega) (show (h129 238 98) + (h129 238 99) + (h129 238 100) + (h129 238 101) + (h129 238 102) + (h129 238 106) = (h129 238 73) by omega) (show (h129 238 73) ≤ (h129 238 2) by omega) (show (h129 238 119) ≤ (h129 238 67) by omega) (show (h129 238 69) ≤ (h129 238 5) by omega) (show (h129 238 2) ≤ 12 * (h129 238 5) by omega) (show (h129 236 2) = 0 by omega) (show (h129 236 10) = sc_ec tB tn by omega) (show (h129 236 11) = sc_ep tB tn by omega) gs157 gp168
        ·
          refine wi_iconst (n := 1) (nx := 8) (r1 := 0) (r2 := 0) (r3 := 0) rfl ?_
          refine wi_goto (nx := 11) (r1 := 12) (r2 := 0) (r3 := 0) rfl ?_
          refine wi_zreturn (nx := 13) (r1 := 0) (r2 := 0) (r3 := 0) rfl rfl (by omega) ?_
          refine wk_i ?_
          refine wi_if (cd := .eq) (nx := 26) (r1 := 63) (r2 := 0) (r3 := 0) rfl (by omega) (fun (q115 : 1 = 0) => by exfalso; omega) (fun (q115 : ¬ (1 = 0)) => ?_)
          refine wi_aload_n (i := 0) (x := 236) (nx := 27) (r1 := 0) (r2 := 0) (r3 := 0) rfl rfl ?_
          refine wr_gi0 (k0 := 236) (x := h98 236 6) (nx := 30) (r1 := 11) (r2 := 6) (r3 := 0) rfl rfl (by decide) rfl ⟨rfl, rfl⟩ rfl rfl ?_
          refine wi_if (cd := .eq) (nx := 33) (r1 := 63) (r2 := 0) (r3 := 0) rfl (by omega) (fun (q116 : (h98 236 6) = 0) => ?_) (fun (q116 : ¬ ((h98 236 6) = 0)) => ?_)
          ·
            try have kf117 := TKk.e0 (B := tB) (n := tn) (p := (tk_nx tB tn q78)) (a6 := h98 236 6) (by assumption) (by omega)
            refine wi_aload_n (i := 0) (x := 236) (nx := 64) (r1 := 0) (r2 := 0) (r3 := 0) rfl rfl ?_
            refine wr_V (k0 := 236) (rest := []) (as := [.ref 236]) (nx := 67) (r1 := 219) (r2 := 0) (r3 := 11) rfl rfl rfl (of_decide_eq_true rfl) rfl rfl (by decide) rfl rfl (of_decide_eq_true rfl) (of_decide_eq_true rfl) ?_
            refine wi_aload_n (i := 0) (x := 236) (nx := 1) (r1 := 0) (r2 := 0) (r3 := 0) rfl rfl ?_
            refine wr_gi0 (k0 := 236) (x := h98 236 8) (nx := 4) (r1 := 11) (r2 := 8) (r3 := 0) rfl rfl (by decide) rfl ⟨rfl, rfl⟩ rfl rfl ?_
            refine wi_if (cd := .ne) (nx := 7) (r1 := 11) (r2 := 0) (r3 := 0) rfl (by omega) (fun (q118 : (h98 236 8) ≠ 0) => by exfalso; omega) (fun (q118 : ¬ ((h98 236 8) ≠ 0)) => ?_)
            refine wi_iconst (n := 1) (nx := 8) (r1 := 0) (r2 := 0) (r3 := 0) rfl ?_
            refine wi_goto (nx := 11) (r1 := 12) (r2 := 0) (r3 := 0) rfl ?_
            refine wi_zreturn (nx := 13) (r1 := 0) (r2 := 0) (r3 := 0) rfl rfl (by omega) ?_
            refine wk_i ?_
            refine wi_if (cd := .eq) (nx := 70) (r1 := 82) (r2 := 0) (r3 := 0) rfl (by omega) (fun (q120 : 1 = 0) => by exfalso; omega) (fun (q120 : ¬ (1 = 0)) => ?_)
            have b121 := gi_b (lo := 0) (hi := 800) g98 236 5 rfl
            have b122 := gi_b (lo := 0) (hi := 999) g98 236 7 rfl
            have b123 := gi_b (lo := -9223372036854775808) (hi := 9223372036854775807) g98 236 12 rfl
            have b124 := gi_b (lo := -2147483648) (hi := 2147483647) g98 236 9 rfl
            obtain ⟨e9s125, ks125, ps125, pas125, pbs125, pcs125, tks125, frs125⟩ := SCI.go y98_1 (by omega) (by omega)
            obtain ⟨tas125, tbs125, tcs125⟩ : _ ∧ _ ∧ TKk tB tn ps125 (h98 236 6) (h98 236 7) (h98 236 12) := id tks125
            have tN126 := @tk_nx_b tB tn ps125 (by omega) (by omega)
            have kes125 : tk_kd tB tn ps125 = 0 := TKk.e0 tcs125 (by omega)
            refine wi_aload_n (i := 0) (x := 236) (nx := 71) (r1 := 0) (r2 := 0) (r3 := 0) rfl rfl ?_
            refine wr_gi0 (k0 := 236) (x := h98 236 44) (nx := 74) (r1 := 11) (r2 := 44) (r3 := 0) rfl rfl (by decide) rfl ⟨rfl, rfl⟩ rfl rfl ?_
            refine wi_if (cd := .le) (nx := 77) (r1 := 82) (r2 := 0) (r3 := 0) rfl (by omega) (fun (q127 : (h98 236 44) ≤ 0) => ?_) (fun (q127 : ¬ ((h98 236 44) ≤ 0)) => ?_)
            ·
              have RE128 := sc_REq (frs125.symm.trans (sc_e0 (by omega) (by omega)))
              refine wi_aload_n (i := 0) (x := 236) (nx := 83) (r1 := 0) (r2 := 0) (r3 := 0) rfl rfl ?_
              refine wr_V (k0 := 236) (rest := []) (as := [.ref 236]) (nx := 86) (r1 := 237) (r2 := 0) (r3 := 11) rfl rfl rfl (of_decide_eq_true rfl) rfl rfl (by decide) rfl rfl (of_decide_eq_true rfl) (of_decide_eq_true rfl) ?_
              refine wi_aload_n (i := 0) (x := 236) (nx := 1) (r1 := 0) (r2 := 0) (r3 := 0) rfl rfl ?_
              refine wi_aload_n (i := 0) (x := 236) (nx := 2) (r1 := 0) (r2 := 0) (r3 := 0) rfl rfl ?_
              refine wr_gi0 (k0 := 236) (x := h98 236 8) (nx := 5) (r1 := 11) (r2 := 8) (r3 := 0) rfl rfl (by decide) rfl ⟨rfl, rfl⟩ rfl rfl ?_
              refine wr_pf0 (k0 := 236) (x := h98 236 8) (bl := -2147483648) (bh := 2147483647) (nx := 8) (r1 := 11) (r2 := 10) (r3 := 0) rfl (by decide) rfl ⟨rfl, rfl⟩ rfl rfl g98 rfl (by omega) (fun h129 g129 w129 u129 => ?_)
              have F130 := F105.then rfl u129
              refine wi_aload_n (i := 0) (x := 236) (nx := 9) (r1 := 0) (r2 := 0) (r3 := 0) rfl rfl ?_
              refine wi_aload_n (i := 0) (x := 236) (nx := 10) (r1 := 0) (r2 := 0) (r3 := 0) rfl rfl ?_
              refine wr_gi0 (k0 := 236) (x := h98 236 9) (nx := 13) (r1 := 11) (r2 := 9) (r3 := 0) rfl rfl (by decide) rfl ⟨rfl, rfl⟩ rfl (u129 236 9 rfl) ?_
              refine wr_pf0 (k0 := 236) (x := h98 236 9) (bl := -2147483648) (bh := 2147483647) (nx := 16) (r1 := 11) (r2 := 11) (r3 := 0) rfl (by decide) rfl ⟨rfl, rfl⟩ rfl rfl g129 rfl (by omega) (fun h131 g131 w131 u131 => ?_)
              have F132 := F130.then rfl u131
              refine wi_aload_n (i := 0) (x := 236) (nx := 17) (r1 := 0) (r2 := 0) (r3 := 0) rfl rfl ?_
              refine wi_aload_n (i := 0) (x := 236) (nx := 18) (r1 := 0) (r2 := 0) (r3 := 0) rfl rfl ?_
              refine wr_gi0 (k0 := 236) (x := h98 236 8) (nx := 21) (r1 := 11) (r2 := 8) (r3 := 0) rfl rfl (by decide) rfl ⟨rfl, rfl⟩ rfl ((u131 236 8 rfl).trans (u129 236 8 rfl)) ?_
              refine wi_if (cd := .ne) (nx := 24) (r1 := 28) (r2 := 0) (r3 := 0) rfl (by omega) (fun (q133 : (h98 236 8) ≠ 0) => by exfalso; omega) (fun (q133 : ¬ ((h98 236 8) ≠ 0)) => ?_)
              refine wi_iconst (n := 1) (nx := 25) (r1 := 0) (r2 := 0) (r3 := 0) rfl ?_
              refine wi_goto (nx := 28) (r1 := 29) (r2 := 0) (r3 := 0) rfl ?_
              refine wr_V (k0 := 236) (rest := []) (as := [.ref 236, vi 1]) (nx := 32) (r1 := 206) (r2 := 1) (r3 := 11) rfl rfl rfl (of_decide_eq_true rfl) rfl rfl (by decide) rfl rfl (of_decide_eq_true rfl) (of_decide_eq_true rfl) ?_
              refine wi_aload_n (i := 0) (x := 236) (nx := 1) (r1 := 0) (r2 := 0) (r3 := 0) rfl rfl ?_
              refine wi_iload_n (i := 1) (e := 1) (nx := 2) (r1 := 0) (r2 := 0) (r3 := 0) rfl rfl ?_
              refine wi_if (cd := .ne) (nx := 5) (r1 := 9) (r2 := 0) (r3 := 0) rfl (by omega) (fun (q135 : 1 ≠ 0) => ?_) (fun (q135 : ¬ (1 ≠ 0)) => by exfalso; omega)
              refine wi_iconst (n := 0) (nx := 10) (r1 := 0) (r2 := 0) (r3 := 0) rfl ?_
              refine wi_S (rest := [.ref 236]) (as := [vi 0]) (nx := 13) (r1 := 207) (r2 := 17) (r3 := 0) rfl rfl rfl (of_decide_eq_true rfl) rfl rfl (of_decide_eq_true rfl) (of_decide_eq_true rfl) ?_
              refine wi_iload_n (i := 0) (e := 0) (nx := 1) (r1 := 0) (r2 := 0) (r3 := 0) rfl rfl ?_
              refine wi_if (cd := .eq) (nx := 4) (r1 := 8) (r2 := 0) (r3 := 0) rfl (by omega) (fun (q136 : 0 = 0) => ?_) (fun (q136 : ¬ (0 = 0)) => by exfalso; omega)
              refine wi_iconst (n := 0) (nx := 9) (r1 := 0) (r2 := 0) (r3 := 0) rfl ?_
              refine wi_ireturn (nx := 10) (r1 := 0) (r2 := 0) (r3 := 0) rfl rfl ?_
              refine wk_i ?_
              refine wr_pf0 (k0 := 236) (x := 0) (bl := 0) (bh := 2) (nx := 16) (r1 := 11) (r2 := 0) (r3 := 0) rfl (by decide) rfl ⟨rfl, rfl⟩ rfl rfl g131 rfl (by omega) (fun h137 g137 w137 u137 => ?_)
              have F138 := F132.then rfl u137
              refine wi_iload_n (i := 1) (e := 1) (nx := 17) (r1 := 0) (r2 := 0) (r3 := 0) rfl rfl ?_
              refine wi_zreturn (nx := 18) (r1 := 0) (r2 := 0) (r3 := 0) rfl rfl (by omega) ?_
              refine wk_i ?_
              refine wi_zreturn (nx := 33) (r1 := 0) (r2 := 0) (r3 := 0) rfl rfl (by omega) ?_
              refine wk_i ?_
              refine wi_if (cd := .ne) (nx := 89) (r1 := 91) (r2 := 0) (r3 := 0) rfl (by omega) (fun (q139 : 1 ≠ 0) => ?_) (fun (q139 : ¬ (1 ≠ 0)) => by exfalso; omega)
              refine wi_aload_n (i := 0) (x := 236) (nx := 92) (r1 := 0) (r2 := 0) (r3 := 0) rfl rfl ?_
              refine wr_gr (k0 := 236) (x := 238) (nx := 95) (r1 := 11) (r2 := 13) (r3 := 0) rfl rfl (by decide) rfl ⟨rfl, rfl⟩ rfl ?_
              refine wi_aload_n (i := 0) (x := 236) (nx := 96) (r1 := 0) (r2 := 0) (r3 := 0) rfl rfl ?_
              refine wr_gr (k0 := 236) (x := 257) (nx := 99) (r1 := 11) (r2 := 41) (r3 := 0) rfl rfl (by decide) rfl ⟨rfl, rfl⟩ rfl ?_
              refine wi_S (rest := []) (as := [.ref 238, .ref 257]) (nx := 102) (r1 := 238) (r2 := 18) (r3 := 0) rfl rfl rfl (of_decide_eq_true rfl) rfl rfl (of_decide_eq_true rfl) (of_decide_eq_true rfl) ?_
              refine ct_238_238_257 hcr  g137    (fun h140 g140 u140 y140_0 => ?_)
              have F141 := F138.then (by decide +kernel) u140
              refine wk_n ?_
              refine wi_aload_n (i := 0) (x := 236) (nx := 103) (r1 := 0) (r2 := 0) (r3 := 0) rfl rfl ?_
              refine wi_iconst (n := 0) (nx := 104) (r1 := 0) (r2 := 0) (r3 := 0) rfl ?_
              refine wr_pf2 (k0 := 236) (x := 0) (bl := 0) (bh := 1) (nx := 107) (r1 := 11) (r2 := 45) (r3 := 2) rfl (by decide) rfl ⟨rfl, rfl⟩ rfl (by omega) rfl g140 rfl (by omega) (fun h142 g142 w142 u142 => ?_)
              have F143 := F141.then rfl u142
              refine wi_aload_n (i := 0) (x := 236) (nx := 108) (r1 := 0) (r2 := 0) (r3 := 0) rfl rfl ?_
              refine wr_V (k0 := 236) (rest := []) (as := [.ref 236]) (nx := 111) (r1 := 339) (r2 := 0) (r3 := 11) rfl rfl rfl (of_decide_eq_true rfl) rfl rfl (by decide) rfl rfl (of_decide_eq_true rfl) (of_decide_eq_true rfl) ?_
              have e145 : h142 238 98 = h 238 98 := ((u142 238 98 rfl).trans ((u140 238 98 rfl).trans ((u137 238 98 rfl).trans ((u131 238 98 rfl).trans ((u129 238 98 rfl).trans ((u98 238 98 rfl).trans ((u84 238 98 rfl).trans ((u63 238 98 rfl).trans ((u37 238 98 rfl).trans ((u30 238 98 rfl).trans ((u28 238 98 rfl).trans ((u26 238 98 rfl).trans (u13 238 98 rfl)))))))))))))
              have e146 : h142 238 99 = h 238 99 := ((u142 238 99 rfl).trans ((u140 238 99 rfl).trans ((u137 238 99 rfl).trans ((u131 238 99 rfl).trans ((u129 238 99 rfl).trans ((u98 238 99 rfl).trans ((u84 238 99 rfl).trans ((u63 238 99 rfl).trans ((u37 238 99 rfl).trans ((u30 238 99 rfl).trans ((u28 238 99 rfl).trans ((u26 238 99 rfl).trans (u13 238 99 rfl)))))))))))))
              have e147 : h142 238 100 = h 238 100 := ((u142 238 100 rfl).trans ((u140 238 100 rfl).trans ((u137 238 100 rfl).trans ((u131 238 100 rfl).trans ((u129 238 100 rfl).trans ((u98 238 100 rfl).trans ((u84 238 100 rfl).trans ((u63 238 100 rfl).trans ((u37 238 100 rfl).trans ((u30 238 100 rfl).trans ((u28 238 100 rfl).trans ((u26 238 100 rfl).trans (u13 238 100 rfl)))))))))))))
              have e148 : h142 238 101 = h 238 101 := ((u142 238 101 rfl).trans ((u140 238 101 rfl).trans ((u137 238 101 rfl).trans ((u131 238 101 rfl).trans ((u129 238 101 rfl).trans ((u98 238 101 rfl).trans ((u84 238 101 rfl).trans ((u63 238 101 rfl).trans ((u37 238 101 rfl).trans ((u30 238 101 rfl).trans ((u28 238 101 rfl).trans ((u26 238 101 rfl).trans (u13 238 101 rfl)))))))))))))
              have e149 : h142 238 102 = h 238 102 := ((u142 238 102 rfl).trans ((u140 238 102 rfl).trans ((u137 238 102 rfl).trans ((u131 238 102 rfl).trans ((u129 238 102 rfl).trans ((u98 238 102 rfl).trans ((u84 238 102 rfl).trans ((u63 238 102 rfl).trans ((u37 238 102 rfl).trans ((u30 238 102 rfl).trans ((u28 238 102 rfl).trans ((u26 238 102 rfl).trans (u13 238 102 rfl)))))))))))))
              have e150 : h142 238 106 = h 238 106 := ((u142 238 106 rfl).trans ((u140 238 106 rfl).trans ((u137 238 106 rfl).trans ((u131 238 106 rfl).trans ((u129 238 106 rfl).trans ((u98 238 106 rfl).trans ((u84 238 106 rfl).trans ((u63 238 106 rfl).trans ((u37 238 106 rfl).trans ((u30 238 106 rfl).trans ((u28 238 106 rfl).trans ((u26 238 106 rfl).trans (u13 238 106 rfl)))))))))))))
              have e151 : h142 238 73 = h 238 73 := ((u142 238 73 rfl).trans ((u140 238 73 rfl).trans ((u137 238 73 rfl).trans ((u131 238 73 rfl).trans ((u129 238 73 rfl).trans ((u98 238 73 rfl).trans ((u84 238 73 rfl).trans ((u63 238 73 rfl).trans ((u37 238 73 rfl).trans ((u30 238 73 rfl).trans ((u28 238 73 rfl).trans ((u26 238 73 rfl).trans (u13 238 73 rfl)))))))))))))
              have e152 : h142 238 2 = h 238 2 := ((u142 238 2 rfl).trans ((u140 238 2 rfl).trans ((u137 238 2 rfl).trans ((u131 238 2 rfl).trans ((u129 238 2 rfl).trans ((u98 238 2 rfl).trans ((u84 238 2 rfl).trans ((u63 238 2 rfl).trans ((u37 238 2 rfl).trans ((u30 238 2 rfl).trans ((u28 238 2 rfl).trans ((u26 238 2 rfl).trans (u13 238 2 rfl)))))))))))))
              have e153 : h142 238 119 = h 238 119 := ((u142 238 119 rfl).trans ((u140 238 119 rfl).trans ((u137 238 119 rfl).trans ((u131 238 119 rfl).trans ((u129 238 119 rfl).trans ((u98 238 119 rfl).trans ((u84 238 119 rfl).trans ((u63 238 119 rfl).trans ((u37 238 119 rfl).trans ((u30 238 119 rfl).trans ((u28 238 119 rfl).trans ((u26 238 119 rfl).trans (u13 238 119 rfl)))))))))))))
              have e154 : h142 238 67 = h 238 67 := ((u142 238 67 rfl).trans ((u140 238 67 rfl).trans ((u137 238 67 rfl).trans ((u131 238 67 rfl).trans ((u129 238 67 rfl).trans ((u98 238 67 rfl).trans ((u84 238 67 rfl).trans ((u63 238 67 rfl).trans ((u37 238 67 rfl).trans ((u30 238 67 rfl).trans ((u28 238 67 rfl).trans ((u26 238 67 rfl).trans (u13 238 67 rfl)))))))))))))
              have e155 : h142 238 69 = h 238 69 := ((u142 238 69 rfl).trans ((u140 238 69 rfl).trans ((u137 238 69 rfl).trans ((u131 238 69 rfl).trans ((u129 238 69 rfl).trans ((u98 238 69 rfl).trans ((u84 238 69 rfl).trans ((u63 238 69 rfl).trans ((u37 238 69 rfl).trans ((u30 238 69 rfl).trans ((u28 238 69 rfl).trans ((u26 238 69 rfl).trans (u13 238 69 rfl)))))))))))))
              have e156 : h142 238 5 = h 238 5 := ((u142 238 5 rfl).trans ((u140 238 5 rfl).trans ((u137 238 5 rfl).trans ((u131 238 5 rfl).trans ((u129 238 5 rfl).trans ((u98 238 5 rfl).trans ((u84 238 5 rfl).trans ((u63 238 5 rfl).trans ((u37 238 5 rfl).trans ((u30 238 5 rfl).trans ((u28 238 5 rfl).trans ((u26 238 5 rfl).trans (u13 238 5 rfl)))))))))))))
              have e158 : h142 236 42 = h98 236 42 := ((u142 236 42 rfl).trans ((u140 236 42 rfl).trans ((u137 236 42 rfl).trans ((u131 236 42 rfl).trans (u129 236 42 rfl)))))
              have e159 : h142 236 44 = h98 236 44 := ((u142 236 44 rfl).trans ((u140 236 44 rfl).trans ((u137 236 44 rfl).trans ((u131 236 44 rfl).trans (u129 236 44 rfl)))))
              have e160 : h142 236 8 = h98 236 8 := ((u142 236 8 rfl).trans ((u140 236 8 rfl).trans ((u137 236 8 rfl).trans ((u131 236 8 rfl).trans (u129 236 8 rfl)))))
              have q161 : h142 253 = h98 253 := funext (fun i => ((u142 253 i rfl).trans ((u140 253 i (fo_no_ok (by decide) i)).trans ((u137 253 i rfl).trans ((u131 253 i rfl).trans (u129 253 i rfl))))))
              refine ct_339_236 hcr  g142   (show (h142 238 98) + (h142 238 99) + (h142 238 100) + (h142 238 101) + (h142 238 102) + (h142 238 106) = (h142 238 73) by omega) (show (h142 238 73) ≤ (h142 238 2) by omega) (show (h142 238 119) ≤ (h142 238 67) by omega) (show (h142 238 69) ≤ (h142 238 5) by omega) (show (h142 238 2) ≤ 12 * (h142 238 5) by omega) (by rw [q161, show h142 236 42 = h98 236 42 by omega, show h142 236 44 = h98 236 44 by omega]; exact y98_0 (by omega)) (fun h144 z157 g144 u144 (fz157 : 0 ≤ z157 ∧ z157 ≤ 100) (p144_0 : (h144 238 98) + (h144 238 99) + (h144 238 100) + (h144 238 101) + (h144 238 102) + (h144 238 106) = (h144 238 73)) (p144_1 : (h144 238 73) ≤ (h144 238 2)) (p144_2 : (h144 238 119) ≤ (h144 238 67)) (p144_3 : (h144 238 69) ≤ (h144 238 5)) (p144_4 : (h144 238 2) ≤ 12 * (h144 238 5)) => ?_)
              have F162 := F143.then (by decide +kernel) u144
              have b163 := gi_b (lo := 0) (hi := 6) g144 238 98 rfl
              have b164 := gi_b (lo := 0) (hi := 6) g144 238 99 rfl
              have b165 := gi_b (lo := 0) (hi := 6) g144 238 100 rfl
              have b166 := gi_b (lo := 0) (hi := 6) g144 238 101 rfl
              have b167 := gi_b (lo := 0) (hi := 3) g144 238 102 rfl
              have b168 := gi_b (lo := 0) (hi := 12) g144 238 106 rfl
              have b169 := gi_b (lo := 0) (hi := 12) g144 238 73 rfl
              have e170 : h144 238 2 = h 238 2 := ((u144 238 2 rfl).trans ((u142 238 2 rfl).trans ((u140 238 2 rfl).trans ((u137 238 2 rfl).trans ((u131 238 2 rfl).trans ((u129 238 2 rfl).trans ((u98 238 2 rfl).trans ((u84 238 2 rfl).trans ((u63 238 2 rfl).trans ((u37 238 2 rfl).trans ((u30 238 2 rfl).trans ((u28 238 2 rfl).trans ((u26 238 2 rfl).trans (u13 238 2 rfl))))))))))))))
              have b171 := gi_b (lo := 0) (hi := 9999) g144 238 119 rfl
              have b172 := gi_b (lo := 0) (hi := 9999) g144 238 67 rfl
              have b173 := gi_b (lo := 0) (hi := 9) g144 238 69 rfl
              have e174 : h144 238 5 = h 238 5 := ((u144 238 5 rfl).trans ((u142 238 5 rfl).trans ((u140 238 5 rfl).trans ((u137 238 5 rfl).trans ((u131 238 5 rfl).trans ((u129 238 5 rfl).trans ((u98 238 5 rfl).trans ((u84 238 5 rfl).trans ((u63 238 5 rfl).trans ((u37 238 5 rfl).trans ((u30 238 5 rfl).trans ((u28 238 5 rfl).trans ((u26 238 5 rfl).trans (u13 238 5 rfl))))))))))))))
              refine wk_i ?_
              refine wi_istore_n (i := 1) (e := z157) (lo2 := [(1, vi z157), (0, .ref 236)]) (nx := 112) (r1 := 0) (r2 := 0) (r3 := 0) rfl rfl ?_
              refine wi_aload_n (i := 0) (x := 236) (nx := 113) (r1 := 0) (r2 := 0) (r3 := 0) rfl rfl ?_
              have b175 := gi_b (lo := 0) (hi := 1) g144 236 45 rfl
              refine wr_gi2 (k0 := 236) (x := h144 236 45) (nx := 116) (r1 := 11) (r2 := 45) (r3 := 0) rfl rfl (by decide) rfl ⟨rfl, rfl⟩ rfl rfl ?_
              refine wi_if (cd := .ne) (nx := 119) (r1 := 121) (r2 := 0) (r3 := 0) rfl (by omega) (fun (q176 : (h144 236 45) ≠ 0) => ?_) (fun (q176 : ¬ ((h144 236 45) ≠ 0)) => ?_)
              ·
                replace q176 : 0 + 1 ≤ (h144 236 45) := by omega
                refine wi_aload_n (i := 0) (x := 236) (nx := 122) (r1 := 0) (r2 := 0) (r3 := 0) rfl rfl ?_
                refine wr_gr (k0 := 236) (x := 257) (nx := 125) (r1 := 11) (r2 := 41) (r3 := 0) rfl rfl (by decide) rfl ⟨rfl, rfl⟩ rfl ?_
                refine wi_aload_n (i := 0) (x := 236) (nx := 126) (r1 := 0) (r2 := 0) (r3 := 0) rfl rfl ?_
                refine wr_gr (k0 := 236) (x := 240) (nx := 129) (r1 := 11) (r2 := 15) (r3 := 0) rfl rfl (by decide) rfl ⟨rfl, rfl⟩ rfl ?_
                refine wi_S (rest := []) (as := [.ref 257, .ref 240]) (nx := 132) (r1 := 238) (r2 := 18) (r3 := 0) rfl rfl rfl (of_decide_eq_true rfl) rfl rfl (of_decide_eq_true rfl) (of_decide_eq_true rfl) ?_
                refine ct_238_257_240 hcr  g144    (fun h177 g177 u177 y177_0 => ?_)
                have F178 := F162.then (by decide +kernel) u177
                refine wk_n ?_
                refine wi_aload_n (i := 0) (x := 236) (nx := 133) (r1 := 0) (r2 := 0) (r3 := 0) rfl rfl ?_
                refine wr_V (k0 := 236) (rest := []) (as := [.ref 236]) (nx := 136) (r1 := 315) (r2 := 0) (r3 := 11) rfl rfl rfl (of_decide_eq_true rfl) rfl rfl (by decide) rfl rfl (of_decide_eq_true rfl) (of_decide_eq_true rfl) ?_
                have e180 : h177 238 98 = h144 238 98 := (u177 238 98 rfl)
                have e181 : h177 238 99 = h144 238 99 := (u177 238 99 rfl)
                have e182 : h177 238 100 = h144 238 100 := (u177 238 100 rfl)
                have e183 : h177 238 101 = h144 238 101 := (u177 238 101 rfl)
                have e184 : h177 238 102 = h144 238 102 := (u177 238 102 rfl)
                have e185 : h177 238 106 = h144 238 106 := (u177 238 106 rfl)
                have e186 : h177 238 73 = h144 238 73 := (u177 238 73 rfl)
                have e187 : h177 238 2 = h 238 2 := ((u177 238 2 rfl).trans ((u144 238 2 rfl).trans ((u142 238 2 rfl).trans ((u140 238 2 rfl).trans ((u137 238 2 rfl).trans ((u131 238 2 rfl).trans ((u129 238 2 rfl).trans ((u98 238 2 rfl).trans ((u84 238 2 rfl).trans ((u63 238 2 rfl).trans ((u37 238 2 rfl).trans ((u30 238 2 rfl).trans ((u28 238 2 rfl).trans ((u26 238 2 rfl).trans (u13 238 2 rfl)))))))))))))))
                have e188 : h177 238 119 = h144 238 119 := (u177 238 119 rfl)
                have e189 : h177 238 67 = h144 238 67 := (u177 238 67 rfl)
                have e190 : h177 238 69 = h144 238 69 := (u177 238 69 rfl)
                have e191 : h177 238 5 = h 238 5 := ((u177 238 5 rfl).trans ((u144 238 5 rfl).trans ((u142 238 5 rfl).trans ((u140 238 5 rfl).trans ((u137 238 5 rfl).trans ((u131 238 5 rfl).trans ((u129 238 5 rfl).trans ((u98 238 5 rfl).trans ((u84 238 5 rfl).trans ((u63 238 5 rfl).trans ((u37 238 5 rfl).trans ((u30 238 5 rfl).trans ((u28 238 5 rfl).trans ((u26 238 5 rfl).trans (u13 238 5 rfl)))))))))))))))
                have e192 : h177 240 98 = h 238 98 := ((y177_0 98 (by decide)).trans ((u144 257 98 rfl).trans ((u142 257 98 rfl).trans ((y140_0 98 (by decide)).trans ((u137 238 98 rfl).trans ((u131 238 98 rfl).trans ((u129 238 98 rfl).trans ((u98 238 98 rfl).trans ((u84 238 98 rfl).trans ((u63 238 98 rfl).trans ((u37 238 98 rfl).trans ((u30 238 98 rfl).trans ((u28 238 98 rfl).trans ((u26 238 98 rfl).trans (u13 238 98 rfl)))))))))))))))
                have e193 : h177 240 99 = h 238 99 := ((y177_0 99 (by decide)).trans ((u144 257 99 rfl).trans ((u142 257 99 rfl).trans ((y140_0 99 (by decide)).trans ((u137 238 99 rfl).trans ((u131 238 99 rfl).trans ((u129 238 99 rfl).trans ((u98 238 99 rfl).trans ((u84 238 99 rfl).trans ((u63 238 99 rfl).trans ((u37 238 99 rfl).trans ((u30 238 99 rfl).trans ((u28 238 99 rfl).trans ((u26 238 99 rfl).trans (u13 238 99 rfl)))))))))))))))
                have e194 : h177 240 100 = h 238 100 := ((y177_0 100 (by decide)).trans ((u144 257 100 rfl).trans ((u142 257 100 rfl).trans ((y140_0 100 (by decide)).trans ((u137 238 100 rfl).trans ((u131 238 100 rfl).trans ((u129 238 100 rfl).trans ((u98 238 100 rfl).trans ((u84 238 100 rfl).trans ((u63 238 100 rfl).trans ((u37 238 100 rfl).trans ((u30 238 100 rfl).trans ((u28 238 100 rfl).trans ((u26 238 100 rfl).trans (u13 238 100 rfl)))))))))))))))
                have e195 : h177 240 101 = h 238 101 := ((y177_0 101 (by decide)).trans ((u144 257 101 rfl).trans ((u142 257 101 rfl).trans ((y140_0 101 (by decide)).trans ((u137 238 101 rfl).trans ((u131 238 101 rfl).trans ((u129 238 101 rfl).trans ((u98 238 101 rfl).trans ((u84 238 101 rfl).trans ((u63 238 101 rfl).trans ((u37 238 101 rfl).trans ((u30 238 101 rfl).trans ((u28 238 101 rfl).trans ((u26 238 101 rfl).trans (u13 238 101 rfl)))))))))))))))
                have e196 : h177 240 102 = h 238 102 := ((y177_0 102 (by decide)).trans ((u144 257 102 rfl).trans ((u142 257 102 rfl).trans ((y140_0 102 (by decide)).trans ((u137 238 102 rfl).trans ((u131 238 102 rfl).trans ((u129 238 102 rfl).trans ((u98 238 102 rfl).trans ((u84 238 102 rfl).trans ((u63 238 102 rfl).trans ((u37 238 102 rfl).trans ((u30 238 102 rfl).trans ((u28 238 102 rfl).trans ((u26 238 102 rfl).trans (u13 238 102 rfl)))))))))))))))
                have e197 : h177 240 106 = h 238 106 := ((y177_0 106 (by decide)).trans ((u144 257 106 rfl).trans ((u142 257 106 rfl).trans ((y140_0 106 (by decide)).trans ((u137 238 106 rfl).trans ((u131 238 106 rfl).trans ((u129 238 106 rfl).trans ((u98 238 106 rfl).trans ((u84 238 106 rfl).trans ((u63 238 106 rfl).trans ((u37 238 106 rfl).trans ((u30 238 106 rfl).trans ((u28 238 106 rfl).trans ((u26 238 106 rfl).trans (u13 238 106 rfl)))))))))))))))
                have e198 : h177 240 73 = h 238 73 := ((y177_0 73 (by decide)).trans ((u144 257 73 rfl).trans ((u142 257 73 rfl).trans ((y140_0 73 (by decide)).trans ((u137 238 73 rfl).trans ((u131 238 73 rfl).trans ((u129 238 73 rfl).trans ((u98 238 73 rfl).trans ((u84 238 73 rfl).trans ((u63 238 73 rfl).trans ((u37 238 73 rfl).trans ((u30 238 73 rfl).trans ((u28 238 73 rfl).trans ((u26 238 73 rfl).trans (u13 238 73 rfl)))))))))))))))
                have e199 : h177 240 2 = h 238 2 := ((y177_0 2 (by decide)).trans ((u144 257 2 rfl).trans ((u142 257 2 rfl).trans ((y140_0 2 (by decide)).trans ((u137 238 2 rfl).trans ((u131 238 2 rfl).trans ((u129 238 2 rfl).trans ((u98 238 2 rfl).trans ((u84 238 2 rfl).trans ((u63 238 2 rfl).trans ((u37 238 2 rfl).trans ((u30 238 2 rfl).trans ((u28 238 2 rfl).trans ((u26 238 2 rfl).trans (u13 238 2 rfl)))))))))))))))
                have e200 : h177 240 119 = h 238 119 := ((y177_0 119 (by decide)).trans ((u144 257 119 rfl).trans ((u142 257 119 rfl).trans ((y140_0 119 (by decide)).trans ((u137 238 119 rfl).trans ((u131 238 119 rfl).trans ((u129 238 119 rfl).trans ((u98 238 119 rfl).trans ((u84 238 119 rfl).trans ((u63 238 119 rfl).trans ((u37 238 119 rfl).trans ((u30 238 119 rfl).trans ((u28 238 119 rfl).trans ((u26 238 119 rfl).trans (u13 238 119 rfl)))))))))))))))
                have e201 : h177 240 67 = h 238 67 := ((y177_0 67 (by decide)).trans ((u144 257 67 rfl).trans ((u142 257 67 rfl).trans ((y140_0 67 (by decide)).trans ((u137 238 67 rfl).trans ((u131 238 67 rfl).trans ((u129 238 67 rfl).trans ((u98 238 67 rfl).trans ((u84 238 67 rfl).trans ((u63 238 67 rfl).trans ((u37 238 67 rfl).trans ((u30 238 67 rfl).trans ((u28 238 67 rfl).trans ((u26 238 67 rfl).trans (u13 238 67 rfl)))))))))))))))
                have e202 : h177 240 69 = h 238 69 := ((y177_0 69 (by decide)).trans ((u144 257 69 rfl).trans ((u142 257 69 rfl).trans ((y140_0 69 (by decide)).trans ((u137 238 69 rfl).trans ((u131 238 69 rfl).trans ((u129 238 69 rfl).trans ((u98 238 69 rfl).trans ((u84 238 69 rfl).trans ((u63 238 69 rfl).trans ((u37 238 69 rfl).trans ((u30 238 69 rfl).trans ((u28 238 69 rfl).trans ((u26 238 69 rfl).trans (u13 238 69 rfl)))))))))))))))
                have e203 : h177 240 5 = h 238 5 := ((y177_0 5 (by decide)).trans ((u144 257 5 rfl).trans ((u142 257 5 rfl).trans ((y140_0 5 (by decide)).trans ((u137 238 5 rfl).trans ((u131 238 5 rfl).trans ((u129 238 5 rfl).trans ((u98 238 5 rfl).trans ((u84 238 5 rfl).trans ((u63 238 5 rfl).trans ((u37 238 5 rfl).trans ((u30 238 5 rfl).trans ((u28 238 5 rfl).trans ((u26 238 5 rfl).trans (u13 238 5 rfl)))))))))))))))
                have gs204 := GPS.fr u13 rfl xq1
                have gs205 := GPS.fr u26 rfl gs204
                have gs206 := GPS.fr u28 rfl gs205
                have gs207 := GPS.fr u30 rfl gs206
                have gs208 := GPS.fr u37 rfl gs207
                have gs209 := GPS.fr u63 rfl gs208
                have gs210 := GPS.fr u84 rfl gs209
                have gs211 := GPS.fr u98 rfl gs210
                have gs212 := GPS.fr u129 rfl gs211
                have gs213 := GPS.fr u131 rfl gs212
                have gs214 := GPS.fr u137 rfl gs213
                have gs215 := GPS.fr u140 rfl gs214
                have gs216 := GPS.fr u142 rfl gs215
                have gs217 := GPS.fr u144 rfl gs216
                have gs218 := GPS.fr u177 rfl gs217
                have gp219 := GPH.fr u13 rfl gp0
                have gp220 := GPH.fr u26 rfl gp219
                have gp221 := GPH.fr u28 rfl gp220
                have gp222 := GPH.fr u30 rfl gp221
                have gp223 := GPH.fr u37 rfl gp222
                have gp224 := GPH.fr u63 rfl gp223
                have gp225 := GPH.fr u84 rfl gp224
                have gp226 := GPH.fr u98 rfl gp225
                have gp227 := GPH.fr u129 rfl gp226
                have gp228 := GPH.fr u131 rfl gp227
                have gp229 := GPH.fr u137 rfl gp228
                have gp230 := GPH.fr u140 rfl gp229
                have gp231 := GPH.fr u142 rfl gp230
                have gp232 := GPH.fr u144 rfl gp231
                have gp233 := GPH.fr u177 rfl gp232
                refine ct_315_236 hcr  g177   (show (h177 238 98) + (h177 238 99) + (h177 238 100) + (h177 238 101) + (h177 238 102) + (h177 238 106) = (h177 238 73) by omega) (show (h177 238 73) ≤ (h177 238 2) by omega) (show (h177 238 119) ≤ (h177 238 67) by omega) (show (h177 238 69) ≤ (h177 238 5) by omega) (show (h177 238 2) ≤ 12 * (h177 238 5) by omega) (show (h177 240 98) + (h177 240 99) + (h177 240 100) + (h177 240 101) + (h177 240 102) + (h177 240 106) = (h177 240 73) by omega) (show (h177 240 73) ≤ (h177 240 2) by omega) (show (h177 240 119) ≤ (h177 240 67) by omega) (show (h177 240 69) ≤ (h177 240 5) by omega) (show (h177 240 2) ≤ 12 * (h177 240 5) by omega) gs218 (fun i _ => (((y177_0 i (by omega)).trans ((u144 257 i (fo_nk rfl)).trans ((u142 257 i (fn_a (by omega) fn_0)).trans ((y140_0 i (by omega)).trans ((u137 238 i (fn_a (by omega) fn_0)).trans ((u131 238 i (fn_a (by omega) fn_0)).trans ((u129 238 i (fn_a (by omega) fn_0)).trans ((u98 238 i (fo_nk rfl)).trans ((u84 238 i (fo_nk rfl)).trans ((u63 238 i (fo_nk rfl)).trans ((u37 238 i (fo_nk rfl)).trans ((u30 238 i (fn_a (by omega) fn_0)).trans ((u28 238 i (fn_a (by omega) fn_0)).trans ((u26 238 i (fn_a (by omega) fn_0)).trans (u13 238 i (fo_nk rfl))))))))))))))))).trans (((u177 238 i (fn_a (by decide) fn_0)).trans ((u144 238 i (fo_lk (m := 31) (by omega) rfl)).trans ((u142 238 i (fn_a (by omega) fn_0)).trans ((u140 238 i (fn_a (by decide) fn_0)).trans ((u137 238 i (fn_a (by omega) fn_0)).trans ((u131 238 i (fn_a (by omega) fn_0)).trans ((u129 238 i (fn_a (by omega) fn_0)).trans ((u98 238 i (fo_nk rfl)).trans ((u84 238 i (fo_nk rfl)).trans ((u63 238 i (fo_nk rfl)).trans ((u37 238 i (fo_nk rfl)).trans ((u30 238 i (fn_a (by omega) fn_0)).trans ((u28 238 i (fn_a (by omega) fn_0)).trans ((u26 238 i (fn_a (by omega) fn_0)).trans (u13 238 i (fo_nk rfl))))))))))))))))).symm) gp233 (fun h179 g179 u179 y179_0 y179_1 => ?_)
                have F234 := F178.then (by decide +kernel) u179
                refine wk_n ?_
                refine wi_iload_n (i := 1) (e := z157) (nx := 137) (r1 := 0) (r2 := 0) (r3 := 0) rfl rfl ?_
                refine wi_ireturn (nx := 138) (r1 := 0) (r2 := 0) (r3 := 0) rfl rfl ?_
                have e235 : h179 238 98 = h144 238 98 := ((u179 238 98 rfl).trans (u177 238 98 rfl))
                have e236 : h179 238 99 = h144 238 99 := ((u179 238 99 rfl).trans (u177 238 99 rfl))
                have e237 : h179 238 100 = h144 238 100 := ((u179 238 100 rfl).trans (u177 238 100 rfl))
                have e238 : h179 238 101 = h144 238 101 := ((u179 238 101 rfl).trans (u177 238 101 rfl))
                have e239 : h179 238 102 = h144 238 102 := ((u179 238 102 rfl).trans (u177 238 102 rfl))
                have e240 : h179 238 106 = h144 238 106 := ((u179 238 106 rfl).trans (u177 238 106 rfl))
                have e241 : h179 238 73 = h144 238 73 := ((u179 238 73 rfl).trans (u177 238 73 rfl))
                have e242 : h179 238 2 = h 238 2 := ((u179 238 2 rfl).trans ((u177 238 2 rfl).trans ((u144 238 2 rfl).trans ((u142 238 2 rfl).trans ((u140 238 2 rfl).trans ((u137 238 2 rfl).trans ((u131 238 2 rfl).trans ((u129 238 2 rfl).trans ((u98 238 2 rfl).trans ((u84 238 2 rfl).trans ((u63 238 2 rfl).trans ((u37 238 2 rfl).trans ((u30 238 2 rfl).trans ((u28 238 2 rfl).trans ((u26 238 2 rfl).trans (u13 238 2 rfl))))))))))))))))
                have e243 : h179 238 119 = h144 238 119 := ((u179 238 119 rfl).trans (u177 238 119 rfl))
                have e244 : h179 238 67 = h144 238 67 := ((u179 238 67 rfl).trans (u177 238 67 rfl))
                have e245 : h179 238 69 = h144 238 69 := ((u179 238 69 rfl).trans (u177 238 69 rfl))
                have e246 : h179 238 5 = h 238 5 := ((u179 238 5 rfl).trans ((u177 238 5 rfl).trans ((u144 238 5 rfl).trans ((u142 238 5 rfl).trans ((u140 238 5 rfl).trans ((u137 238 5 rfl).trans ((u131 238 5 rfl).trans ((u129 238 5 rfl).trans ((u98 238 5 rfl).trans ((u84 238 5 rfl).trans ((u63 238 5 rfl).trans ((u37 238 5 rfl).trans ((u30 238 5 rfl).trans ((u28 238 5 rfl).trans ((u26 238 5 rfl).trans (u13 238 5 rfl))))))))))))))))
                have e247 : h179 236 2 = h13 236 2 := ((u179 236 2 rfl).trans ((u177 236 2 rfl).trans ((u144 236 2 rfl).trans ((u142 236 2 rfl).trans ((u140 236 2 rfl).trans ((u137 236 2 rfl).trans ((u131 236 2 rfl).trans ((u129 236 2 rfl).trans ((u98 236 2 rfl).trans ((u84 236 2 rfl).trans ((u63 236 2 rfl).trans ((u37 236 2 rfl).trans ((u30 236 2 rfl).trans ((u28 236 2 rfl).trans (u26 236 2 rfl)))))))))))))))
                have e248 : h179 236 10 = h98 236 8 := ((u179 236 10 rfl).trans ((u177 236 10 rfl).trans ((u144 236 10 rfl).trans ((u142 236 10 rfl).trans ((u140 236 10 rfl).trans ((u137 236 10 rfl).trans ((u131 236 10 rfl).trans w129)))))))
                have e249 : h179 236 11 = h98 236 9 := ((u179 236 11 rfl).trans ((u177 236 11 rfl).trans ((u144 236 11 rfl).trans ((u142 236 11 rfl).trans ((u140 236 11 rfl).trans ((u137 236 11 rfl).trans w131))))))
                exact k h179 z157 g179 F234 (by omega) (show (h179 238 98) + (h179 238 99) + (h179 238 100) + (h179 238 101) + (h179 238 102) + (h179 238 106) = (h179 238 73) by omega) (show (h179 238 73) ≤ (h179 238 2) by omega) (show (h179 238 119) ≤ (h179 238 67) by omega) (show (h179 238 69) ≤ (h179 238 5) by omega) (show (h179 238 2) ≤ 12 * (h179 238 5) by omega) (show (h179 236 2) = 0 by omega) (show (h179 236 10) = sc_ec tB tn by omega) (show (h179 236 11) = sc_ep tB tn by omega) y179_0 y179_1
              ·
                refine wi_iload_n (i := 1) (e := z157) (nx := 120) (r1 := 0) (r2 := 0) (r3 := 0) rfl rfl ?_
                refine wi_ireturn (nx := 121) (r1 := 0) (r2 := 0) (r3 := 0) rfl rfl ?_
                have e177 : h144 236 2 = h13 236 2 := ((u144 236 2 rfl).trans ((u142 236 2 rfl).trans ((u140 236 2 rfl).trans ((u137 236 2 rfl).trans ((u131 236 2 rfl).trans ((u129 236 2 rfl).trans ((u98 236 2 rfl).trans ((u84 236 2 rfl).trans ((u63 236 2 rfl).trans ((u37 236 2 rfl).trans ((u30 236 2 rfl).trans ((u28 236 2 rfl).trans (u26 236 2 rfl)))))))))))))
                have e178 : h144 236 10 = h98 236 8 := ((u144 236 10 rfl).trans ((u142 236 10 rfl).trans ((u140 236 10 rfl).trans ((u137 236 10 rfl).trans ((u131 236 10 rfl).trans w129)))))
                have e179 : h144 236 11 = h98 236 9 := ((u144 236 11 rfl).trans ((u142 236 11 rfl).trans ((u140 236 11 rfl).trans ((u137 236 11 rfl).trans w131))))
                have gs180 := GPS.fr u13 rfl xq1
                have gs181 := GPS.fr u26 rfl gs180
                have gs182 := GPS.fr u28 rfl gs181
                have gs183 := GPS.fr u30 rfl gs182
                have gs184 := GPS.fr u37 rfl gs183
                have gs185 := GPS.fr u63 rfl gs184
                have gs186 := GPS.fr u84 rfl gs185
                have gs187 := GPS.fr u98 rfl gs186
                have gs188 := GPS.fr u129 rfl gs187
                have gs189 := GPS.fr u131 rfl gs188
                have gs190 := GPS.fr u137 rfl gs189
                have gs191 := GPS.fr u140 rfl gs190
                have gs192 := GPS.fr u142 rfl gs191
                have gs193 := GPS.fr u144 rfl gs192
                have gp194 := GPH.fr u13 rfl gp0
                have gp195 := GPH.fr u26 rfl gp194
                have gp196 := GPH.fr u28 rfl gp195
                have gp197 := GPH.fr u30 rfl gp196
                have gp198 := GPH.fr u37 rfl gp197
                have gp199 := GPH.fr u63 rfl gp198
                have gp200 := GPH.fr u84 rfl gp199
                have gp201 := GPH.fr u98 rfl gp200
                have gp202 := GPH.fr u129 rfl gp201
                have gp203 := GPH.fr u131 rfl gp202
                have gp204 := GPH.fr u137 rfl gp203
                have gp205 := GPH.fr u140 rfl gp204
                have gp206 := GPH.fr u142 rfl gp205
                have gp207 := GPH.fr u144 rfl gp206
                exact k h144 z157 g144 F162 (by omega) (show (h144 238 98) + (h144 238 99) + (h144 238 100) + (h144 238 101) + (h144 238 102) + (h144 238 106) = (h144 238 73) by omega) (show (h144 238 73) ≤ (h144 238 2) by omega) (show (h144 238 119) ≤ (h144 238 67) by omega) (show (h144 238 69) ≤ (h144 238 5) by omega) (show (h144 238 2) ≤ 12 * (h144 238 5) by omega) (show (h144 236 2) = 0 by omega) (show (h144 236 10) = sc_ec tB tn by omega) (show (h144 236 11) = sc_ep tB tn by omega) gs193 gp207
            ·
              refine wi_aload_n (i := 0) (x := 236) (nx := 78) (r1 := 0) (r2 := 0) (r3 := 0) rfl rfl ?_
              refine wi_iconst (n := 1) (nx := 79) (r1 := 0) (r2 := 0) (r3 := 0) rfl ?_
              refine wr_V (k0 := 236) (rest := []) (as := [.ref 236, vi 1]) (nx := 82) (r1 := 224) (r2 := 1) (r3 := 11) rfl rfl rfl (of_decide_eq_true rfl) rfl rfl (by decide) rfl rfl (of_decide_eq_true rfl) (of_decide_eq_true rfl) ?_
              refine ct_224_236 hcr  g98 1 (by omega)  (fun h128 g128 u128 (p128_0 : 1 ≤ (h128 236 8)) (p128_1 : (1 ≤ (h98 236 8) ∧ (h128 236 8) = (h98 236 8) ∧ (h128 236 9) = (h98 236 9)) ∨ ((h98 236 8) = 0 ∧ (h128 236 9) = (h98 236 5) ∧ (((h98 236 6) = 4 ∧ (h128 236 8) = 1) ∨ ((h98 236 6) ≠ 4 ∧ (h128 236 8) = 1)))) => ?_)
              have F129 := F105.then (by decide +kernel) u128
              have b130 := gi_b (lo := 0) (hi := 5) g128 236 8 rfl
              have b131 := gi_b (lo := -2147483648) (hi := 2147483647) g128 236 9 rfl
              refine wk_n ?_
              have e133 : h128 236 44 = h98 236 44 := (u128 236 44 rfl)
              have RE132 := sc_REq (frs125.symm.trans (sc_e1 (by omega) (by omega)))
              refine wi_aload_n (i := 0) (x := 236) (nx := 83) (r1 := 0) (r2 := 0) (r3 := 0) rfl rfl ?_
              refine wr_V (k0 := 236) (rest := []) (as := [.ref 236]) (nx := 86) (r1 := 237) (r2 := 0) (r3 := 11) rfl rfl rfl (of_decide_eq_true rfl) rfl rfl (by decide) rfl rfl (of_decide_eq_true rfl) (of_decide_eq_true rfl) ?_
              refine wi_aload_n (i := 0) (x := 236) (nx := 1) (r1 := 0) (r2 := 0) (r3 := 0) rfl rfl ?_
              refine wi_aload_n (i := 0) (x := 236) (nx := 2) (r1 := 0) (r2 := 0) (r3 := 0) rfl rfl ?_
              refine wr_gi0 (k0 := 236) (x := h128 236 8) (nx := 5) (r1 := 11) (r2 := 8) (r3 := 0) rfl rfl (by decide) rfl ⟨rfl, rfl⟩ rfl rfl ?_
              refine wr_pf0 (k0 := 236) (x := h128 236 8) (bl := -2147483648) (bh := 2147483647) (nx := 8) (r1 := 11) (r2 := 10) (r3 := 0) rfl (by decide) rfl ⟨rfl, rfl⟩ rfl rfl g128 rfl (by omega) (fun h134 g134 w134 u134 => ?_)
              have F135 := F129.then rfl u134
              refine wi_aload_n (i := 0) (x := 236) (nx := 9) (r1 := 0) (r2 := 0) (r3 := 0) rfl rfl ?_
              refine wi_aload_n (i := 0) (x := 236) (nx := 10) (r1 := 0) (r2 := 0) (r3 := 0) rfl rfl ?_
              refine wr_gi0 (k0 := 236) (x := h128 236 9) (nx := 13) (r1 := 11) (r2 := 9) (r3 := 0) rfl rfl (by decide) rfl ⟨rfl, rfl⟩ rfl (u134 236 9 rfl) ?_
              refine wr_pf0 (k0 := 236) (x := h128 236 9) (bl := -2147483648) (bh := 2147483647) (nx := 16) (r1 := 11) (r2 := 11) (r3 := 0) rfl (by decide) rfl ⟨rfl, rfl⟩ rfl rfl g134 rfl (by omega) (fun h136 g136 w136 u136 => ?_)
              have F137 := F135.then rfl u136
              refine wi_aload_n (i := 0) (x := 236) (nx := 17) (r1 := 0) (r2 := 0) (r3 := 0) rfl rfl ?_
              refine wi_aload_n (i := 0) (x := 236) (nx := 18) (r1 := 0) (r2 := 0) (r3 := 0) rfl rfl ?_
              refine wr_gi0 (k0 := 236) (x := h128 236 8) (nx := 21) (r1 := 11) (r2 := 8) (r3 := 0) rfl rfl (by decide) rfl ⟨rfl, rfl⟩ rfl ((u136 236 8 rfl).trans (u134 236 8 rfl)) ?_
              refine wi_if (cd := .ne) (nx := 24) (r1 := 28) (r2 := 0) (r3 := 0) rfl (by omega) (fun (q138 : (h128 236 8) ≠ 0) => ?_) (fun (q138 : ¬ ((h128 236 8) ≠ 0)) => by exfalso; omega)
              refine wi_iconst (n := 0) (nx := 29) (r1 := 0) (r2 := 0) (r3 := 0) rfl ?_
              refine wr_V (k0 := 236) (rest := []) (as := [.ref 236, vi 0]) (nx := 32) (r1 := 206) (r2 := 1) (r3 := 11) rfl rfl rfl (of_decide_eq_true rfl) rfl rfl (by decide) rfl rfl (of_decide_eq_true rfl) (of_decide_eq_true rfl) ?_
              refine wi_aload_n (i := 0) (x := 236) (nx := 1) (r1 := 0) (r2 := 0) (r3 := 0) rfl rfl ?_
              refine wi_iload_n (i := 1) (e := 0) (nx := 2) (r1 := 0) (r2 := 0) (r3 := 0) rfl rfl ?_
              refine wi_if (cd := .ne) (nx := 5) (r1 := 9) (r2 := 0) (r3 := 0) rfl (by omega) (fun (q140 : 0 ≠ 0) => by exfalso; omega) (fun (q140 : ¬ (0 ≠ 0)) => ?_)
              refine wi_iconst (n := 1) (nx := 6) (r1 := 0) (r2 := 0) (r3 := 0) rfl ?_
              refine wi_goto (nx := 9) (r1 := 10) (r2 := 0) (r3 := 0) rfl ?_
              refine wi_S (rest := [.ref 236]) (as := [vi 1]) (nx := 13) (r1 := 207) (r2 := 17) (r3 := 0) rfl rfl rfl (of_decide_eq_true rfl) rfl rfl (of_decide_eq_true rfl) (of_decide_eq_true rfl) ?_
              refine wi_iload_n (i := 0) (e := 1) (nx := 1) (r1 := 0) (r2 := 0) (r3 := 0) rfl rfl ?_
              refine wi_if (cd := .eq) (nx := 4) (r1 := 8) (r2 := 0) (r3 := 0) rfl (by omega) (fun (q141 : 1 = 0) => by exfalso; omega) (fun (q141 : ¬ (1 = 0)) => ?_)
              refine wi_iconst (n := 1) (nx := 5) (r1 := 0) (r2 := 0) (r3 := 0) rfl ?_
              refine wi_goto (nx := 8) (r1 := 9) (r2 := 0) (r3 := 0) rfl ?_
              refine wi_ireturn (nx := 10) (r1 := 0) (r2 := 0) (r3 := 0) rfl rfl ?_
              refine wk_i ?_
              refine wr_pf0 (k0 := 236) (x := 1) (bl := 0) (bh := 2) (nx := 16) (r1 := 11) (r2 := 0) (r3 := 0) rfl (by decide) rfl ⟨rfl, rfl⟩ rfl rfl g136 rfl (by omega) (fun h142 g142 w142 u142 => ?_)
              have F143 := F137.then rfl u142
              refine wi_iload_n (i := 1) (e := 0) (nx := 17) (r1 := 0) (r2 := 0) (r3 := 0) rfl rfl ?_
              refine wi_zreturn (nx := 18) (r1 := 0) (r2 := 0) (r3 := 0) rfl rfl (by omega) ?_
              refine wk_i ?_
              refine wi_zreturn (nx := 33) (r1 := 0) (r2 := 0) (r3 := 0) rfl rfl (by omega) ?_
              refine wk_i ?_
              refine wi_if (cd := .ne) (nx := 89) (r1 := 91) (r2 := 0) (r3 := 0) rfl (by omega) (fun (q144 : 0 ≠ 0) => by exfalso; omega) (fun (q144 : ¬ (0 ≠ 0)) => ?_)
              refine wi_iconst (n := 0) (nx := 90) (r1 := 0) (r2 := 0) (r3 := 0) rfl ?_
              refine wi_ireturn (nx := 91) (r1 := 0) (r2 := 0) (r3 := 0) rfl rfl ?_
              have e145 : h142 238 98 = h 238 98 := ((u142 238 98 rfl).trans ((u136 238 98 rfl).trans ((u134 238 98 rfl).trans ((u128 238 98 rfl).trans ((u98 238 98 rfl).trans ((u84 238 98 rfl).trans ((u63 238 98 rfl).trans ((u37 238 98 rfl).trans ((u30 238 98 rfl).trans ((u28 238 98 rfl).trans ((u26 238 98 rfl).trans (u13 238 98 rfl))))))))))))
              have e146 : h142 238 99 = h 238 99 := ((u142 238 99 rfl).trans ((u136 238 99 rfl).trans ((u134 238 99 rfl).trans ((u128 238 99 rfl).trans ((u98 238 99 rfl).trans ((u84 238 99 rfl).trans ((u63 238 99 rfl).trans ((u37 238 99 rfl).trans ((u30 238 99 rfl).trans ((u28 238 99 rfl).trans ((u26 238 99 rfl).trans (u13 238 99 rfl))))))))))))
              have e147 : h142 238 100 = h 238 100 := ((u142 238 100 rfl).trans ((u136 238 100 rfl).trans ((u134 238 100 rfl).trans ((u128 238 100 rfl).trans ((u98 238 100 rfl).trans ((u84 238 100 rfl).trans ((u63 238 100 rfl).trans ((u37 238 100 rfl).trans ((u30 238 100 rfl).trans ((u28 238 100 rfl).trans ((u26 238 100 rfl).trans (u13 238 100 rfl))))))))))))
              have e148 : h142 238 101 = h 238 101 := ((u142 238 101 rfl).trans ((u136 238 101 rfl).trans ((u134 238 101 rfl).trans ((u128 238 101 rfl).trans ((u98 238 101 rfl).trans ((u84 238 101 rfl).trans ((u63 238 101 rfl).trans ((u37 238 101 rfl).trans ((u30 238 101 rfl).trans ((u28 238 101 rfl).trans ((u26 238 101 rfl).trans (u13 238 101 rfl))))))))))))
              have e149 : h142 238 102 = h 238 102 := ((u142 238 102 rfl).trans ((u136 238 102 rfl).trans ((u134 238 102 rfl).trans ((u128 238 102 rfl).trans ((u98 238 102 rfl).trans ((u84 238 102 rfl).trans ((u63 238 102 rfl).trans ((u37 238 102 rfl).trans ((u30 238 102 rfl).trans ((u28 238 102 rfl).trans ((u26 238 102 rfl).trans (u13 238 102 rfl))))))))))))
              have e150 : h142 238 106 = h 238 106 := ((u142 238 106 rfl).trans ((u136 238 106 rfl).trans ((u134 238 106 rfl).trans ((u128 238 106 rfl).trans ((u98 238 106 rfl).trans ((u84 238 106 rfl).trans ((u63 238 106 rfl).trans ((u37 238 106 rfl).trans ((u30 238 106 rfl).trans ((u28 238 106 rfl).trans ((u26 238 106 rfl).trans (u13 238 106 rfl))))))))))))
              have e151 : h142 238 73 = h 238 73 := ((u142 238 73 rfl).trans ((u136 238 73 rfl).trans ((u134 238 73 rfl).trans ((u128 238 73 rfl).trans ((u98 238 73 rfl).trans ((u84 238 73 rfl).trans ((u63 238 73 rfl).trans ((u37 238 73 rfl).trans ((u30 238 73 rfl).trans ((u28 238 73 rfl).trans ((u26 238 73 rfl).trans (u13 238 73 rfl))))))))))))
              have e152 : h142 238 2 = h 238 2 := ((u142 238 2 rfl).trans ((u136 238 2 rfl).trans ((u134 238 2 rfl).trans ((u128 238 2 rfl).trans ((u98 238 2 rfl).trans ((u84 238 2 rfl).trans ((u63 238 2 rfl).trans ((u37 238 2 rfl).trans ((u30 238 2 rfl).trans ((u28 238 2 rfl).trans ((u26 238 2 rfl).trans (u13 238 2 rfl))))))))))))
              have e153 : h142 238 119 = h 238 119 := ((u142 238 119 rfl).trans ((u136 238 119 rfl).trans ((u134 238 119 rfl).trans ((u128 238 119 rfl).trans ((u98 238 119 rfl).trans ((u84 238 119 rfl).trans ((u63 238 119 rfl).trans ((u37 238 119 rfl).trans ((u30 238 119 rfl).trans ((u28 238 119 rfl).trans ((u26 238 119 rfl).trans (u13 238 119 rfl))))))))))))
              have e154 : h142 238 67 = h 238 67 := ((u142 238 67 rfl).trans ((u136 238 67 rfl).trans ((u134 238 67 rfl).trans ((u128 238 67 rfl).trans ((u98 238 67 rfl).trans ((u84 238 67 rfl).trans ((u63 238 67 rfl).trans ((u37 238 67 rfl).trans ((u30 238 67 rfl).trans ((u28 238 67 rfl).trans ((u26 238 67 rfl).trans (u13 238 67 rfl))))))))))))
              have e155 : h142 238 69 = h 238 69 := ((u142 238 69 rfl).trans ((u136 238 69 rfl).trans ((u134 238 69 rfl).trans ((u128 238 69 rfl).trans ((u98 238 69 rfl).trans ((u84 238 69 rfl).trans ((u63 238 69 rfl).trans ((u37 238 69 rfl).trans ((u30 238 69 rfl).trans ((u28 238 69 rfl).trans ((u26 238 69 rfl).trans (u13 238 69 rfl))))))))))))
              have e156 : h142 238 5 = h 238 5 := ((u142 238 5 rfl).trans ((u136 238 5 rfl).trans ((u134 238 5 rfl).trans ((u128 238 5 rfl).trans ((u98 238 5 rfl).trans ((u84 238 5 rfl).trans ((u63 238 5 rfl).trans ((u37 238 5 rfl).trans ((u30 238 5 rfl).trans ((u28 238 5 rfl).trans ((u26 238 5 rfl).trans (u13 238 5 rfl))))))))))))
              have e157 : h142 236 2 = h13 236 2 := ((u142 236 2 rfl).trans ((u136 236 2 rfl).trans ((u134 236 2 rfl).trans ((u128 236 2 rfl).trans ((u98 236 2 rfl).trans ((u84 236 2 rfl).trans ((u63 236 2 rfl).trans ((u37 236 2 rfl).trans ((u30 236 2 rfl).trans ((u28 236 2 rfl).trans (u26 236 2 rfl)))))))))))
              have e158 : h142 236 10 = h128 236 8 := ((u142 236 10 rfl).trans ((u136 236 10 rfl).trans w134))
              have e159 : h142 236 11 = h128 236 9 := ((u142 236 11 rfl).trans w136)
              have gs160 := GPS.fr u13 rfl xq1
              have gs161 := GPS.fr u26 rfl gs160
              have gs162 := GPS.fr u28 rfl gs161
              have gs163 := GPS.fr u30 rfl gs162
              have gs164 := GPS.fr u37 rfl gs163
              have gs165 := GPS.fr u63 rfl gs164
              have gs166 := GPS.fr u84 rfl gs165
              have gs167 := GPS.fr u98 rfl gs166
              have gs168 := GPS.fr u128 rfl gs167
              have gs169 := GPS.fr u134 rfl gs168
              have gs170 := GPS.fr u136 rfl gs169
              have gs171 := GPS.fr u142 rfl gs170
              have gp172 := GPH.fr u13 rfl gp0
              have gp173 := GPH.fr u26 rfl gp172
              have gp174 := GPH.fr u28 rfl gp173
              have gp175 := GPH.fr u30 rfl gp174
              have gp176 := GPH.fr u37 rfl gp175
              have gp177 := GPH.fr u63 rfl gp176
              have gp178 := GPH.fr u84 rfl gp177
              have gp179 := GPH.fr u98 rfl gp178
              have gp180 := GPH.fr u128 rfl gp179
              have gp181 := GPH.fr u134 rfl gp180
              have gp182 := GPH.fr u136 rfl gp181
              have gp183 := GPH.fr u142 rfl gp182
              exact k h142 0 g142 F143 (by omega) (show (h142 238 98) + (h142 238 99) + (h142 238 100) + (h142 238 101) + (h142 238 102) + (h142 238 106) = (h142 238 73) by omega) (show (h142 238 73) ≤ (h142 238 2) by omega) (show (h142 238 119) ≤ (h142 238 67) by omega) (show (h142 238 69) ≤ (h142 238 5) by omega) (show (h142 238 2) ≤ 12 * (h142 238 5) by omega) (show (h142 236 2) = 0 by omega) (show (h142 236 10) = sc_ec tB tn by omega) (show (h142 236 11) = sc_ep tB tn by omega) gs171 gp183
          ·
            replace q116 : 0 + 1 ≤ (h98 236 6) := by omega
            try have kf117 := TKk.n0 (B := tB) (n := tn) (p := (tk_nx tB tn q78)) (a6 := h98 236 6) (by assumption) (by omega)
            have e118 : h98 236 3 = h13 236 3 := ((u98 236 3 rfl).trans ((u84 236 3 rfl).trans ((u63 236 3 rfl).trans ((u37 236 3 rfl).trans ((u30 236 3 rfl).trans ((u28 236 3 rfl).trans (u26 236 3 rfl)))))))
            refine wp.lo (lo := [(0, .ref 236)]) ⟨rfl, trivial⟩ rfl ?_
            have q119 : h98 253 = h98 253 := funext (fun i => rfl)
            exact I37 h98 ⟨g98, F105, F106, (show ((h98 236 4) ≤ (h98 236 3)) ∧ ((h98 236 8) = 0) ∧ ((h98 236 6) ≠ 0) ∧ ((h98 236 42) + (h98 236 44) ≤ 2 * (h98 236 43)) by omega), (by rw [q119, show h98 236 42 = h98 236 42 by omega, show h98 236 44 = h98 236 44 by omega]; exact y98_0 (by omega)), y98_1, (y98_2.resolve_left (by omega))⟩ (show ((h98 236 3) - (h98 236 4)).toNat < ((h37 236 3) - (h37 236 4)).toNat by omega)
      ·
        clear p84_3
        clear p84_4
        refine wi_aload_n (i := 0) (x := 236) (nx := 57) (r1 := 0) (r2 := 0) (r3 := 0) rfl rfl ?_
        refine wr_V (k0 := 236) (rest := []) (as := [.ref 236]) (nx := 60) (r1 := 338) (r2 := 0) (r3 := 11) rfl rfl rfl (of_decide_eq_true rfl) rfl rfl (by decide) rfl rfl (of_decide_eq_true rfl) (of_decide_eq_true rfl) ?_
        have e97 : h84 236 3 = h13 236 3 := ((u84 236 3 rfl).trans ((u63 236 3 rfl).trans ((u37 236 3 rfl).trans ((u30 236 3 rfl).trans ((u28 236 3 rfl).trans (u26 236 3 rfl))))))
        have e98 : h84 236 42 = h63 236 42 := (u84 236 42 rfl)
        have e99 : h84 236 44 = h63 236 44 := (u84 236 44 rfl)
        have e100 : h84 236 43 = h63 236 43 := (u84 236 43 rfl)
        have q101 : h84 253 = h63 253 := funext (fun i => (u84 253 i (fo_no_ok (by decide) i)))
        have rb102 := RefB.fr u84 rfl rb86
        refine ct_338_236 hcr  g84   (show (h84 236 4) ≤ (h84 236 3) by omega) (show 1 ≤ (h84 236 8) ∨ (h84 236 42) + (h84 236 44) ≤ 2 * (h84 236 43) from (Or.inl (by omega))) (fun e => by rw [q101, show h84 236 42 = h63 236 42 by omega, show h84 236 44 = h63 236 44 by omega]; exact y63_0 (by omega)) rb102 (SCI.er (c := 1) (by omega) (by omega) (by omega) (frs61.symm.trans (sc_m1 kzs61 hos61.no (ebq78 (by omega))))) (fun h96 g96 u96 (p96_0 : (h84 236 4) ≤ (h96 236 4)) (p96_1 : (h96 236 4) ≤ (h84 236 3)) (p96_2 : 1 ≤ (h96 236 8) ∨ (h84 236 8) = 0) (p96_3 : (h84 236 6) ≠ 0 ∨ (h96 236 6) = 0) (p96_4 : 1 ≤ (h96 236 8) ∨ (h96 236 42) + (h96 236 44) ≤ 2 * (h96 236 43)) y96_0 y96_1 y96_2 => ?_)
        have F103 := F87.then (by decide +kernel) u96
        have F104 := F88.then (by decide +kernel) u96
        have b105 := gi_b (lo := 0) (hi := 800) g96 236 4 rfl
        have b106 := gi_b (lo := 0) (hi := 5) g96 236 8 rfl
        have b107 := gi_b (lo := 0) (hi := 4) g96 236 6 rfl
        have b108 := gi_b (lo := 0) (hi := 80) g96 236 42 rfl
        have b109 := gi_b (lo := 0) (hi := 2) g96 236 44 rfl
        have e110 : h96 236 43 = h63 236 43 := ((u96 236 43 rfl).trans (u84 236 43 rfl))
        replace p96_2 := p96_2.resolve_right (by omega)
        clear p96_4
        refine wk_n ?_
        refine wi_goto (nx := 63) (r1 := 19) (r2 := 0) (r3 := 0) rfl ?_
        refine wi_aload_n (i := 0) (x := 236) (nx := 20) (r1 := 0) (r2 := 0) (r3 := 0) rfl rfl ?_
        refine wr_V (k0 := 236) (rest := []) (as := [.ref 236]) (nx := 23) (r1 := 219) (r2 := 0) (r3 := 11) rfl rfl rfl (of_decide_eq_true rfl) rfl rfl (by decide) rfl rfl (of_decide_eq_true rfl) (of_decide_eq_true rfl) ?_
        refine wi_aload_n (i := 0) (x := 236) (nx := 1) (r1 := 0) (r2 := 0) (r3 := 0) rfl rfl ?_
        refine wr_gi0 (k0 := 236) (x := h96 236 8) (nx := 4) (r1 := 11) (r2 := 8) (r3 := 0) rfl rfl (by decide) rfl ⟨rfl, rfl⟩ rfl rfl ?_
        refine wi_if (cd := .ne) (nx := 7) (r1 := 11) (r2 := 0) (r3 := 0) rfl (by omega) (fun (q111 : (h96 236 8) ≠ 0) => ?_) (fun (q111 : ¬ ((h96 236 8) ≠ 0)) => by exfalso; omega)
        refine wi_iconst (n := 0) (nx := 12) (r1 := 0) (r2 := 0) (r3 := 0) rfl ?_
        refine wi_zreturn (nx := 13) (r1 := 0) (r2 := 0) (r3 := 0) rfl rfl (by omega) ?_
        refine wk_i ?_
        refine wi_if (cd := .eq) (nx := 26) (r1 := 63) (r2 := 0) (r3 := 0) rfl (by omega) (fun (q113 : 0 = 0) => ?_) (fun (q113 : ¬ (0 = 0)) => by exfalso; omega)
        refine wi_aload_n (i := 0) (x := 236) (nx := 64) (r1 := 0) (r2 := 0) (r3 := 0) rfl rfl ?_
        refine wr_V (k0 := 236) (rest := []) (as := [.ref 236]) (nx := 67) (r1 := 219) (r2 := 0) (r3 := 11) rfl rfl rfl (of_decide_eq_true rfl) rfl rfl (by decide) rfl rfl (of_decide_eq_true rfl) (of_decide_eq_true rfl) ?_
        refine wi_aload_n (i := 0) (x := 236) (nx := 1) (r1 := 0) (r2 := 0) (r3 := 0) rfl rfl ?_
        refine wr_gi0 (k0 := 236) (x := h96 236 8) (nx := 4) (r1 := 11) (r2 := 8) (r3 := 0) rfl rfl (by decide) rfl ⟨rfl, rfl⟩ rfl rfl ?_
        refine wi_if (cd := .ne) (nx := 7) (r1 := 11) (r2 := 0) (r3 := 0) rfl (by omega) (fun (q114 : (h96 236 8) ≠ 0) => ?_) (fun (q114 : ¬ ((h96 236 8) ≠ 0)) => by exfalso; omega)
        refine wi_iconst (n := 0) (nx := 12) (r1 := 0) (r2 := 0) (r3 := 0) rfl ?_
        refine wi_zreturn (nx := 13) (r1 := 0) (r2 := 0) (r3 := 0) rfl rfl (by omega) ?_
        refine wk_i ?_
        refine wi_if (cd := .eq) (nx := 70) (r1 := 82) (r2 := 0) (r3 := 0) rfl (by omega) (fun (q116 : 0 = 0) => ?_) (fun (q116 : ¬ (0 = 0)) => by exfalso; omega)
        have b118 := gi_b (lo := -2147483648) (hi := 2147483647) g96 236 9 rfl
        have RE117 := sc_REq (SCI.bad y96_1 (by omega))
        refine wi_aload_n (i := 0) (x := 236) (nx := 83) (r1 := 0) (r2 := 0) (r3 := 0) rfl rfl ?_
        refine wr_V (k0 := 236) (rest := []) (as := [.ref 236]) (nx := 86) (r1 := 237) (r2 := 0) (r3 := 11) rfl rfl rfl (of_decide_eq_true rfl) rfl rfl (by decide) rfl rfl (of_decide_eq_true rfl) (of_decide_eq_true rfl) ?_
        refine wi_aload_n (i := 0) (x := 236) (nx := 1) (r1 := 0) (r2 := 0) (r3 := 0) rfl rfl ?_
        refine wi_aload_n (i := 0) (x := 236) (nx := 2) (r1 := 0) (r2 := 0) (r3 := 0) rfl rfl ?_
        refine wr_gi0 (k0 := 236) (x := h96 236 8) (nx := 5) (r1 := 11) (r2 := 8) (r3 := 0) rfl rfl (by decide) rfl ⟨rfl, rfl⟩ rfl rfl ?_
        refine wr_pf0 (k0 := 236) (x := h96 236 8) (bl := -2147483648) (bh := 2147483647) (nx := 8) (r1 := 11) (r2 := 10) (r3 := 0) rfl (by decide) rfl ⟨rfl, rfl⟩ rfl rfl g96 rfl (by omega) (fun h119 g119 w119 u119 => ?_)
        have F120 := F103.then rfl u119
        refine wi_aload_n (i := 0) (x := 236) (nx := 9) (r1 := 0) (r2 := 0) (r3 := 0) rfl rfl ?_
        refine wi_aload_n (i := 0) (x := 236) (nx := 10) (r1 := 0) (r2 := 0) (r3 := 0) rfl rfl ?_
        refine wr_gi0 (k0 := 236) (x := h96 236 9) (nx := 13) (r1 := 11) (r2 := 9) (r3 := 0) rfl rfl (by decide) rfl ⟨rfl, rfl⟩ rfl (u119 236 9 rfl) ?_
        refine wr_pf0 (k0 := 236) (x := h96 236 9) (bl := -2147483648) (bh := 2147483647) (nx := 16) (r1 := 11) (r2 := 11) (r3 := 0) rfl (by decide) rfl ⟨rfl, rfl⟩ rfl rfl g119 rfl (by omega) (fun h121 g121 w121 u121 => ?_)
        have F122 := F120.then rfl u121
        refine wi_aload_n (i := 0) (x := 236) (nx := 17) (r1 := 0) (r2 := 0) (r3 := 0) rfl rfl ?_
        refine wi_aload_n (i := 0) (x := 236) (nx := 18) (r1 := 0) (r2 := 0) (r3 := 0) rfl rfl ?_
        refine wr_gi0 (k0 := 236) (x := h96 236 8) (nx := 21) (r1 := 11) (r2 := 8) (r3 := 0) rfl rfl (by decide) rfl ⟨rfl, rfl⟩ rfl ((u121 236 8 rfl).trans (u119 236 8 rfl)) ?_
        refine wi_if (cd := .ne) (nx := 24) (r1 := 28) (r2 := 0) (r3 := 0) rfl (by omega) (fun (q123 : (h96 236 8) ≠ 0) => ?_) (fun (q123 : ¬ ((h96 236 8) ≠ 0)) => by exfalso; omega)
        refine wi_iconst (n := 0) (nx := 29) (r1 := 0) (r2 := 0) (r3 := 0) rfl ?_
        refine wr_V (k0 := 236) (rest := []) (as := [.ref 236, vi 0]) (nx := 32) (r1 := 206) (r2 := 1) (r3 := 11) rfl rfl rfl (of_decide_eq_true rfl) rfl rfl (by decide) rfl rfl (of_decide_eq_true rfl) (of_decide_eq_true rfl) ?_
        refine wi_aload_n (i := 0) (x := 236) (nx := 1) (r1 := 0) (r2 := 0) (r3 := 0) rfl rfl ?_
        refine wi_iload_n (i := 1) (e := 0) (nx := 2) (r1 := 0) (r2 := 0) (r3 := 0) rfl rfl ?_
        refine wi_if (cd := .ne) (nx := 5) (r1 := 9) (r2 := 0) (r3 := 0) rfl (by omega) (fun (q125 : 0 ≠ 0) => by exfalso; omega) (fun (q125 : ¬ (0 ≠ 0)) => ?_)
        refine wi_iconst (n := 1) (nx := 6) (r1 := 0) (r2 := 0) (r3 := 0) rfl ?_
        refine wi_goto (nx := 9) (r1 := 10) (r2 := 0) (r3 := 0) rfl ?_
        refine wi_S (rest := [.ref 236]) (as := [vi 1]) (nx := 13) (r1 := 207) (r2 := 17) (r3 := 0) rfl rfl rfl (of_decide_eq_true rfl) rfl rfl (of_decide_eq_true rfl) (of_decide_eq_true rfl) ?_
        refine wi_iload_n (i := 0) (e := 1) (nx := 1) (r1 := 0) (r2 := 0) (r3 := 0) rfl rfl ?_
        refine wi_if (cd := .eq) (nx := 4) (r1 := 8) (r2 := 0) (r3 := 0) rfl (by omega) (fun (q126 : 1 = 0) => by exfalso; omega) (fun (q126 : ¬ (1 = 0)) => ?_)
        refine wi_iconst (n := 1) (nx := 5) (r1 := 0) (r2 := 0) (r3 := 0) rfl ?_
        refine wi_goto (nx := 8) (r1 := 9) (r2 := 0) (r3 := 0) rfl ?_
        refine wi_ireturn (nx := 10) (r1 := 0) (r2 := 0) (r3 := 0) rfl rfl ?_
        refine wk_i ?_
        refine wr_pf0 (k0 := 236) (x := 1) (bl := 0) (bh := 2) (nx := 16) (r1 := 11) (r2 := 0) (r3 := 0) rfl (by decide) rfl ⟨rfl, rfl⟩ rfl rfl g121 rfl (by omega) (fun h127 g127 w127 u127 => ?_)
        have F128 := F122.then rfl u127
        refine wi_iload_n (i := 1) (e := 0) (nx := 17) (r1 := 0) (r2 := 0) (r3 := 0) rfl rfl ?_
        refine wi_zreturn (nx := 18) (r1 := 0) (r2 := 0) (r3 := 0) rfl rfl (by omega) ?_
        refine wk_i ?_
        refine wi_zreturn (nx := 33) (r1 := 0) (r2 := 0) (r3 := 0) rfl rfl (by omega) ?_
        refine wk_i ?_
        refine wi_if (cd := .ne) (nx := 89) (r1 := 91) (r2 := 0) (r3 := 0) rfl (by omega) (fun (q129 : 0 ≠ 0) => by exfalso; omega) (fun (q129 : ¬ (0 ≠ 0)) => ?_)
        refine wi_iconst (n := 0) (nx := 90) (r1 := 0) (r2 := 0) (r3 := 0) rfl ?_
        refine wi_ireturn (nx := 91) (r1 := 0) (r2 := 0) (r3 := 0) rfl rfl ?_
        have e130 : h127 238 98 = h 238 98 := ((u127 238 98 rfl).trans ((u121 238 98 rfl).trans ((u119 238 98 rfl).trans ((u96 238 98 rfl).trans ((u84 238 98 rfl).trans ((u63 238 98 rfl).trans ((u37 238 98 rfl).trans ((u30 238 98 rfl).trans ((u28 238 98 rfl).trans ((u26 238 98 rfl).trans (u13 238 98 rfl)))))))))))
        have e131 : h127 238 99 = h 238 99 := ((u127 238 99 rfl).trans ((u121 238 99 rfl).trans ((u119 238 99 rfl).trans ((u96 238 99 rfl).trans ((u84 238 99 rfl).trans ((u63 238 99 rfl).trans ((u37 238 99 rfl).trans ((u30 238 99 rfl).trans ((u28 238 99 rfl).trans ((u26 238 99 rfl).trans (u13 238 99 rfl)))))))))))
        have e132 : h127 238 100 = h 238 100 := ((u127 238 100 rfl).trans ((u121 238 100 rfl).trans ((u119 238 100 rfl).trans ((u96 238 100 rfl).trans ((u84 238 100 rfl).trans ((u63 238 100 rfl).trans ((u37 238 100 rfl).trans ((u30 238 100 rfl).trans ((u28 238 100 rfl).trans ((u26 238 100 rfl).trans (u13 238 100 rfl)))))))))))
        have e133 : h127 238 101 = h 238 101 := ((u127 238 101 rfl).trans ((u121 238 101 rfl).trans ((u119 238 101 rfl).trans ((u96 238 101 rfl).trans ((u84 238 101 rfl).trans ((u63 238 101 rfl).trans ((u37 238 101 rfl).trans ((u30 238 101 rfl).trans ((u28 238 101 rfl).trans ((u26 238 101 rfl).trans (u13 238 101 rfl)))))))))))
        have e134 : h127 238 102 = h 238 102 := ((u127 238 102 rfl).trans ((u121 238 102 rfl).trans ((u119 238 102 rfl).trans ((u96 238 102 rfl).trans ((u84 238 102 rfl).trans ((u63 238 102 rfl).trans ((u37 238 102 rfl).trans ((u30 238 102 rfl).trans ((u28 238 102 rfl).trans ((u26 238 102 rfl).trans (u13 238 102 rfl)))))))))))
        have e135 : h127 238 106 = h 238 106 := ((u127 238 106 rfl).trans ((u121 238 106 rfl).trans ((u119 238 106 rfl).trans ((u96 238 106 rfl).trans ((u84 238 106 rfl).trans ((u63 238 106 rfl).trans ((u37 238 106 rfl).trans ((u30 238 106 rfl).trans ((u28 238 106 rfl).trans ((u26 238 106 rfl).trans (u13 238 106 rfl)))))))))))
        have e136 : h127 238 73 = h 238 73 := ((u127 238 73 rfl).trans ((u121 238 73 rfl).trans ((u119 238 73 rfl).trans ((u96 238 73 rfl).trans ((u84 238 73 rfl).trans ((u63 238 73 rfl).trans ((u37 238 73 rfl).trans ((u30 238 73 rfl).trans ((u28 238 73 rfl).trans ((u26 238 73 rfl).trans (u13 238 73 rfl)))))))))))
        have e137 : h127 238 2 = h 238 2 := ((u127 238 2 rfl).trans ((u121 238 2 rfl).trans ((u119 238 2 rfl).trans ((u96 238 2 rfl).trans ((u84 238 2 rfl).trans ((u63 238 2 rfl).trans ((u37 238 2 rfl).trans ((u30 238 2 rfl).trans ((u28 238 2 rfl).trans ((u26 238 2 rfl).trans (u13 238 2 rfl)))))))))))
        have e138 : h127 238 119 = h 238 119 := ((u127 238 119 rfl).trans ((u121 238 119 rfl).trans ((u119 238 119 rfl).trans ((u96 238 119 rfl).trans ((u84 238 119 rfl).trans ((u63 238 119 rfl).trans ((u37 238 119 rfl).trans ((u30 238 119 rfl).trans ((u28 238 119 rfl).trans ((u26 238 119 rfl).trans (u13 238 119 rfl)))))))))))
        have e139 : h127 238 67 = h 238 67 := ((u127 238 67 rfl).trans ((u121 238 67 rfl).trans ((u119 238 67 rfl).trans ((u96 238 67 rfl).trans ((u84 238 67 rfl).trans ((u63 238 67 rfl).trans ((u37 238 67 rfl).trans ((u30 238 67 rfl).trans ((u28 238 67 rfl).trans ((u26 238 67 rfl).trans (u13 238 67 rfl)))))))))))
        have e140 : h127 238 69 = h 238 69 := ((u127 238 69 rfl).trans ((u121 238 69 rfl).trans ((u119 238 69 rfl).trans ((u96 238 69 rfl).trans ((u84 238 69 rfl).trans ((u63 238 69 rfl).trans ((u37 238 69 rfl).trans ((u30 238 69 rfl).trans ((u28 238 69 rfl).trans ((u26 238 69 rfl).trans (u13 238 69 rfl)))))))))))
        have e141 : h127 238 5 = h 238 5 := ((u127 238 5 rfl).trans ((u121 238 5 rfl).trans ((u119 238 5 rfl).trans ((u96 238 5 rfl).trans ((u84 238 5 rfl).trans ((u63 238 5 rfl).trans ((u37 238 5 rfl).trans ((u30 238 5 rfl).trans ((u28 238 5 rfl).trans ((u26 238 5 rfl).trans (u13 238 5 rfl)))))))))))
        have e142 : h127 236 2 = h13 236 2 := ((u127 236 2 rfl).trans ((u121 236 2 rfl).trans ((u119 236 2 rfl).trans ((u96 236 2 rfl).trans ((u84 236 2 rfl).trans ((u63 236 2 rfl).trans ((u37 236 2 rfl).trans ((u30 236 2 rfl).trans ((u28 236 2 rfl).trans (u26 236 2 rfl))))))))))
        have e143 : h127 236 10 = h96 236 8 := ((u127 236 10 rfl).trans ((u121 236 10 rfl).trans w119))
        have e144 : h127 236 11 = h96 236 9 := ((u127 236 11 rfl).trans w121)
        have gs145 := GPS.fr u13 rfl xq1
        have gs146 := GPS.fr u26 rfl gs145
        have gs147 := GPS.fr u28 rfl gs146
        have gs148 := GPS.fr u30 rfl gs147
        have gs149 := GPS.fr u37 rfl gs148
        have gs150 := GPS.fr u63 rfl gs149
        have gs151 := GPS.fr u84 rfl gs150
        have gs152 := GPS.fr u96 rfl gs151
        have gs153 := GPS.fr u119 rfl gs152
        have gs154 := GPS.fr u121 rfl gs153
        have gs155 := GPS.fr u127 rfl gs154
        have gp156 := GPH.fr u13 rfl gp0
        have gp157 := GPH.fr u26 rfl gp156
        have gp158 := GPH.fr u28 rfl gp157
        have gp159 := GPH.fr u30 rfl gp158
        have gp160 := GPH.fr u37 rfl gp159
        have gp161 := GPH.fr u63 rfl gp160
        have gp162 := GPH.fr u84 rfl gp161
        have gp163 := GPH.fr u96 rfl gp162
        have gp164 := GPH.fr u119 rfl gp163
        have gp165 := GPH.fr u121 rfl gp164
        have gp166 := GPH.fr u127 rfl gp165
        exact k h127 0 g127 F128 (by omega) (show (h127 238 98) + (h127 238 99) + (h127 238 100) + (h127 238 101) + (h127 238 102) + (h127 238 106) = (h127 238 73) by omega) (show (h127 238 73) ≤ (h127 238 2) by omega) (show (h127 238 119) ≤ (h127 238 67) by omega) (show (h127 238 69) ≤ (h127 238 5) by omega) (show (h127 238 2) ≤ 12 * (h127 238 5) by omega) (show (h127 236 2) = 0 by omega) (show (h127 236 10) = sc_ec tB tn by omega) (show (h127 236 11) = sc_ep tB tn by omega) gs155 gp166
-- method 238: Model.copies([I[I)V
set_option maxRecDepth 100000 in
set_option maxHeartbeats 100000000 in
theorem ct_238_238_241 {L : Nat} {xs : Nat → Int32} {d b c : Nat} {h : hp} {cr : Nat → Nat → Option Nat} {Q : hp_Q} (hcr : CR cr)  (g : GI h)    (k : ∀ (h2 : hp) , GI h2 → FR [(241, 241, none)] h h2 → (∀ q : Nat, q < 200 → h2 241 q = h 238 q) → Q (.inl none) (hp_w h2 cr) b c) : wp (md_xa (L, xs)) d 238 (0, [(0, .ref 238), (1, .ref 241)], [], hp_w h cr, b, c) Q := by
  have F0 : FR [(241, 241, none)] h h := FR.refl
  refine wi_iconst (n := 0) (nx := 1) (r1 := 0) (r2 := 0) (r3 := 0) rfl ?_
  refine wi_istore_n (i := 2) (e := 0) (lo2 := [(2, vi 0), (0, .ref 238), (1, .ref 241)]) (nx := 2) (r1 := 0) (r2 := 0) (r3 := 0) rfl rfl ?_
  refine wp.lo (lo := [(0, .ref 238), (1, .ref 241), (2, vi 0)]) ⟨rfl, rfl, rfl, trivial⟩ rfl ?_
  refine wl_1 (fun x1 h2 => GI h2 ∧ FR [(241, 241, none)] h h2 ∧ FR [(241, 241, none)] h h2 ∧ ((0 ≤ x1 ∧ x1 ≤ 200)) ∧ (∀ q : Nat, (q : Int) < x1 → h2 241 q = h 238 q) ∧ (∀ q : Nat, x1 ≤ (q : Int) → h2 241 q = h 241 q)) (fun x1 h2 => ((200 : Int) + 1 - x1).toNat) (fun x1 h2 => (2, [(0, .ref 238), (1, .ref 241), (2, vi x1)], [], hp_w h2 cr, b, c)) ?_ 0 h ⟨g, F0, FR.refl, (show (0 ≤ 0 ∧ 0 ≤ 200) by omega), (fun q e => absurd e (by omega)), (fun _ _ => rfl)⟩
  intro x1 h2 ⟨g2, F3, u2, f2, XA2, XB2⟩ I2
  refine wi_iload_n (i := 2) (e := x1) (nx := 3) (r1 := 0) (r2 := 0) (r3 := 0) rfl rfl ?_
  refine wi_sipush (n := 200) (nx := 6) (r1 := 0) (r2 := 0) (r3 := 0) rfl (by decide) ?_
  refine wi_icmp (cd := .ge) (nx := 9) (r1 := 21) (r2 := 0) (r3 := 0) rfl (by omega) (by omega) (fun (q4 : 200 ≤ x1) => ?_) (fun (q4 : ¬ (200 ≤ x1)) => ?_)
  ·
    refine wi_return (nx := 22) (r1 := 0) (r2 := 0) (r3 := 0) rfl rfl ?_
    exact k h2 g2 F3 (fun q e => XA2 q (by omega))
  ·
    refine wi_aload_n (i := 1) (x := 241) (nx := 10) (r1 := 0) (r2 := 0) (r3 := 0) rfl rfl ?_
    refine wi_iload_n (i := 2) (e := x1) (nx := 11) (r1 := 0) (r2 := 0) (r3 := 0) rfl rfl ?_
    refine wi_aload_n (i := 0) (x := 238) (nx := 12) (r1 := 0) (r2 := 0) (r3 := 0) rfl rfl ?_
    refine wi_iload_n (i := 2) (e := x1) (nx := 13) (r1 := 0) (r2 := 0) (r3 := 0) rfl rfl ?_
    obtain ⟨i5, ei5⟩ : ∃ q : Nat, x1 = (q : Int) := ⟨(x1).toNat, by omega⟩
    refine wr_ia (k0 := 238) (a := x1) (f := i5) (x := h 238 i5) (nx := 14) (r1 := 0) (r2 := 0) (r3 := 0) rfl (by decide) rfl (by omega) (by omega) (by decide) (u2 238 i5 (fn_a (by decide) fn_0)) ?_
    refine wr_iv (k0 := 241) (a := x1) (f := i5) (x := h 238 i5) (nx := 15) (r1 := 0) (r2 := 0) (r3 := 0) rfl (by decide) rfl (by omega) (by omega) (by decide) g2 (g 238 i5) (fun h6 g6 w6 u6 => ?_)
    have F7 := F3.then rfl (FR.rngp (lo := 241) (hi := 241) u6 (by decide))
    have F8 := u2.then rfl (FR.rngp (lo := 241) (hi := 241) u6 (by decide))
    refine wr_iinc (i := 2) (n := 1) (v := x1) (fun e9 => [(2, vi e9), (0, .ref 238), (1, .ref 241)]) (nx := 18) (r1 := 0) (r2 := 0) (r3 := 0) rfl rfl (fun _ => rfl) (fun e9 (fe9 : e9 = x1 + 1) => ?_)
    refine wi_goto (nx := 21) (r1 := 2) (r2 := 0) (r3 := 0) rfl ?_
    refine wp.lo (lo := [(0, .ref 238), (1, .ref 241), (2, vi e9)]) ⟨rfl, rfl, rfl, trivial⟩ rfl ?_
    exact I2 e9 h6 ⟨g6, F7, F8, (show (0 ≤ e9 ∧ e9 ≤ 200) by omega), (fun q e => by
        by_cases e1 : (q : Int) < x1
        · exact (u6 241 _ (fn_i (by omega) fn_0)).trans (XA2 q e1)
        · have e2 : q = i5 := by omega
          have e3 : q = i5 := by omega
          exact (congrArg (h6 241) e2).trans (w6.trans ((Eq.refl _).trans (congrArg (h 238) e3).symm))), (fun q e => (u6 241 q (fn_i (by omega) fn_0)).trans (XB2 q (by omega)))⟩ (show ((200 : Int) + 1 - e9).toNat < ((200 : Int) + 1 - x1).toNat by omega)
-- method 352: Model.save()I
set_option maxRecDepth 100000 in
set_option maxHeartbeats 100000000 in
theorem ct_352_236 {L : Nat} {xs : Nat → Int32} {d b c : Nat} {h : hp} {cr : Nat → Nat → Option Nat} {Q : hp_Q} (hcr : CR cr)  (g : GI h)   (pp0 : h 238 98 + h 238 99 + h 238 100 + h 238 101 + h 238 102 + h 238 106 = h 238 73) (pp1 : h 238 73 ≤ h 238 2) (pp2 : h 238 119 ≤ h 238 67) (pp3 : h 238 69 ≤ h 238 5) (pp4 : h 238 2 ≤ 12 * h 238 5) (k : ∀ (h2 : hp) (z0 : Int) , GI h2 → FR [(241, 241, none), (245, 245, none), (236, 236, some (0, 0)), (236, 236, some (21, 21))] h h2 → (0 ≤ z0 ∧ z0 ≤ 9999) → (h2 241 98 + h2 241 99 + h2 241 100 + h2 241 101 + h2 241 102 + h2 241 106 = h2 241 73) → (h2 241 73 ≤ h2 241 2) → (h2 241 119 ≤ h2 241 67) → (h2 241 69 ≤ h2 241 5) → (h2 241 2 ≤ 12 * h2 241 5) → (h2 236 21 = 1) → (∀ q : Nat, q < 200 → h2 241 q = h 238 q) → Q (.inl (some (vi z0))) (hp_w h2 cr) b c) : wp (md_xa (L, xs)) (d + 1) 352 (0, [(0, .ref 236)], [], hp_w h cr, b, c) Q := by
  have F0 : FR [(241, 241, none), (245, 245, none), (236, 236, some (0, 0)), (236, 236, some (21, 21))] h h := FR.refl
  have b1 := gi_b (lo := 0) (hi := 6) g 238 98 rfl
  have b2 := gi_b (lo := 0) (hi := 6) g 238 99 rfl
  have b3 := gi_b (lo := 0) (hi := 6) g 238 100 rfl
  have b4 := gi_b (lo := 0) (hi := 6) g 238 101 rfl
  have b5 := gi_b (lo := 0) (hi := 3) g 238 102 rfl
  have b6 := gi_b (lo := 0) (hi := 12) g 238 106 rfl
  have b7 := gi_b (lo := 0) (hi := 12) g 238 73 rfl
  have b8 := gi_b (lo := 0) (hi := 12) g 238 2 rfl
  have b9 := gi_b (lo := 0) (hi := 9999) g 238 119 rfl
  have b10 := gi_b (lo := 0) (hi := 9999) g 238 67 rfl
  have b11 := gi_b (lo := 0) (hi := 9) g 238 69 rfl
  have b12 := gi_b (lo := 0) (hi := 9) g 238 5 rfl
  refine wi_aload_n (i := 0) (x := 236) (nx := 1) (r1 := 0) (r2 := 0) (r3 := 0) rfl rfl ?_
  refine wi_iconst (n := 0) (nx := 2) (r1 := 0) (r2 := 0) (r3 := 0) rfl ?_
  refine wr_pf0 (k0 := 236) (x := 0) (bl := 0) (bh := 2) (nx := 5) (r1 := 11) (r2 := 0) (r3 := 0) rfl (by decide) rfl ⟨rfl, rfl⟩ rfl rfl g rfl (by omega) (fun h13 g13 w13 u13 => ?_)
  have F14 := F0.then rfl u13
  refine wi_aload_n (i := 0) (x := 236) (nx := 6) (r1 := 0) (r2 := 0) (r3 := 0) rfl rfl ?_
  refine wr_gr (k0 := 236) (x := 238) (nx := 9) (r1 := 11) (r2 := 13) (r3 := 0) rfl rfl (by decide) rfl ⟨rfl, rfl⟩ rfl ?_
  refine wi_aload_n (i := 0) (x := 236) (nx := 10) (r1 := 0) (r2 := 0) (r3 := 0) rfl rfl ?_
  refine wr_gr (k0 := 236) (x := 241) (nx := 13) (r1 := 11) (r2 := 16) (r3 := 0) rfl rfl (by decide) rfl ⟨rfl, rfl⟩ rfl ?_
  refine wi_S (rest := []) (as := [.ref 238, .ref 241]) (nx := 16) (r1 := 238) (r2 := 18) (r3 := 0) rfl rfl rfl (of_decide_eq_true rfl) rfl rfl (of_decide_eq_true rfl) (of_decide_eq_true rfl) ?_
  refine ct_238_238_241 hcr  g13    (fun h15 g15 u15 y15_0 => ?_)
  have F16 := F14.then (by decide +kernel) u15
  refine wk_n ?_
  refine wi_iconst (n := 0) (nx := 17) (r1 := 0) (r2 := 0) (r3 := 0) rfl ?_
  refine wi_istore_n (i := 1) (e := 0) (lo2 := [(1, vi 0), (0, .ref 236)]) (nx := 18) (r1 := 0) (r2 := 0) (r3 := 0) rfl rfl ?_
  refine wp.lo (lo := [(0, .ref 236), (1, vi 0)]) ⟨rfl, rfl, trivial⟩ rfl ?_
  refine wl_1 (fun x17 h18 => GI h18 ∧ FR [(241, 241, none), (245, 245, none), (236, 236, some (0, 0)), (236, 236, some (21, 21))] h h18 ∧ FR [(245, 245, none)] h15 h18 ∧ ((0 ≤ x17 ∧ x17 ≤ 5))) (fun x17 h18 => ((5 : Int) + 1 - x17).toNat) (fun x17 h18 => (18, [(0, .ref 236), (1, vi x17)], [], hp_w h18 cr, b, c)) ?_ 0 h15 ⟨g15, F16, FR.refl, (show (0 ≤ 0 ∧ 0 ≤ 5) by omega)⟩
  intro x17 h18 ⟨g18, F19, u18, f18⟩ I18
  refine wi_iload_n (i := 1) (e := x17) (nx := 19) (r1 := 0) (r2 := 0) (r3 := 0) rfl rfl ?_
  refine wi_iconst (n := 5) (nx := 20) (r1 := 0) (r2 := 0) (r3 := 0) rfl ?_
  refine wi_icmp (cd := .ge) (nx := 23) (r1 := 41) (r2 := 0) (r3 := 0) rfl (by omega) (by omega) (fun (q20 : 5 ≤ x17) => ?_) (fun (q20 : ¬ (5 ≤ x17)) => ?_)
  ·
    refine wi_aload_n (i := 0) (x := 236) (nx := 42) (r1 := 0) (r2 := 0) (r3 := 0) rfl rfl ?_
    refine wi_iconst (n := 1) (nx := 43) (r1 := 0) (r2 := 0) (r3 := 0) rfl ?_
    refine wr_pf2 (k0 := 236) (x := 1) (bl := 0) (bh := 1) (nx := 46) (r1 := 11) (r2 := 21) (r3 := 2) rfl (by decide) rfl ⟨rfl, rfl⟩ rfl (by omega) rfl g18 rfl (by omega) (fun h21 g21 w21 u21 => ?_)
    have F22 := F19.then rfl u21
    refine wi_aload_n (i := 0) (x := 236) (nx := 47) (r1 := 0) (r2 := 0) (r3 := 0) rfl rfl ?_
    refine wr_gr (k0 := 236) (x := 238) (nx := 50) (r1 := 11) (r2 := 13) (r3 := 0) rfl rfl (by decide) rfl ⟨rfl, rfl⟩ rfl ?_
    refine wi_bipush (n := 67) (nx := 52) (r1 := 0) (r2 := 0) (r3 := 0) rfl (by decide) ?_
    refine wr_ia (k0 := 238) (a := 67) (f := 67) (x := h 238 67) (nx := 53) (r1 := 0) (r2 := 0) (r3 := 0) rfl (by decide) rfl (by omega) (by omega) (by decide) ((u21 238 67 rfl).trans ((u18 238 67 rfl).trans ((u15 238 67 rfl).trans (u13 238 67 rfl)))) ?_
    refine wi_ireturn (nx := 54) (r1 := 0) (r2 := 0) (r3 := 0) rfl rfl ?_
    have e23 : h21 241 98 = h 238 98 := ((u21 241 98 rfl).trans ((u18 241 98 rfl).trans ((y15_0 98 (by decide)).trans (u13 238 98 rfl))))
    have e24 : h21 241 99 = h 238 99 := ((u21 241 99 rfl).trans ((u18 241 99 rfl).trans ((y15_0 99 (by decide)).trans (u13 238 99 rfl))))
    have e25 : h21 241 100 = h 238 100 := ((u21 241 100 rfl).trans ((u18 241 100 rfl).trans ((y15_0 100 (by decide)).trans (u13 238 100 rfl))))
    have e26 : h21 241 101 = h 238 101 := ((u21 241 101 rfl).trans ((u18 241 101 rfl).trans ((y15_0 101 (by decide)).trans (u13 238 101 rfl))))
    have e27 : h21 241 102 = h 238 102 := ((u21 241 102 rfl).trans ((u18 241 102 rfl).trans ((y15_0 102 (by decide)).trans (u13 238 102 rfl))))
    have e28 : h21 241 106 = h 238 106 := ((u21 241 106 rfl).trans ((u18 241 106 rfl).trans ((y15_0 106 (by decide)).trans (u13 238 106 rfl))))
    have e29 : h21 241 73 = h 238 73 := ((u21 241 73 rfl).trans ((u18 241 73 rfl).trans ((y15_0 73 (by decide)).trans (u13 238 73 rfl))))
    have e30 : h21 241 2 = h 238 2 := ((u21 241 2 rfl).trans ((u18 241 2 rfl).trans ((y15_0 2 (by decide)).trans (u13 238 2 rfl))))
    have e31 : h21 241 119 = h 238 119 := ((u21 241 119 rfl).trans ((u18 241 119 rfl).trans ((y15_0 119 (by decide)).trans (u13 238 119 rfl))))
    have e32 : h21 241 67 = h 238 67 := ((u21 241 67 rfl).trans ((u18 241 67 rfl).trans ((y15_0 67 (by decide)).trans (u13 238 67 rfl))))
    have e33 : h21 241 69 = h 238 69 := ((u21 241 69 rfl).trans ((u18 241 69 rfl).trans ((y15_0 69 (by decide)).trans (u13 238 69 rfl))))
    have e34 : h21 241 5 = h 238 5 := ((u21 241 5 rfl).trans ((u18 241 5 rfl).trans ((y15_0 5 (by decide)).trans (u13 238 5 rfl))))
    have e35 : h21 236 21 = 1 := w21
    exact k h21 (h 238 67) g21 F22 (by omega) (show (h21 241 98) + (h21 241 99) + (h21 241 100) + (h21 241 101) + (h21 241 102) + (h21 241 106) = (h21 241 73) by omega) (show (h21 241 73) ≤ (h21 241 2) by omega) (show (h21 241 119) ≤ (h21 241 67) by omega) (show (h21 241 69) ≤ (h21 241 5) by omega) (show (h21 241 2) ≤ 12 * (h21 241 5) by omega) (show (h21 236 21) = 1 by omega) (fun i _ => ((u21 241 i (fn_a (by omega) fn_0)).trans ((u18 241 i (fn_a (by decide) fn_0)).trans ((y15_0 i (by omega)).trans (u13 238 i (fn_a (by omega) fn_0))))))
  ·
    refine wi_aload_n (i := 0) (x := 236) (nx := 24) (r1 := 0) (r2 := 0) (r3 := 0) rfl rfl ?_
    refine wr_gr (k0 := 236) (x := 245) (nx := 27) (r1 := 11) (r2 := 20) (r3 := 0) rfl rfl (by decide) rfl ⟨rfl, rfl⟩ rfl ?_
    refine wi_iload_n (i := 1) (e := x17) (nx := 28) (r1 := 0) (r2 := 0) (r3 := 0) rfl rfl ?_
    refine wi_aload_n (i := 0) (x := 236) (nx := 29) (r1 := 0) (r2 := 0) (r3 := 0) rfl rfl ?_
    refine wr_gr (k0 := 236) (x := 243) (nx := 32) (r1 := 11) (r2 := 18) (r3 := 0) rfl rfl (by decide) rfl ⟨rfl, rfl⟩ rfl ?_
    refine wi_iload_n (i := 1) (e := x17) (nx := 33) (r1 := 0) (r2 := 0) (r3 := 0) rfl rfl ?_
    obtain ⟨i21, ei21⟩ : ∃ q : Nat, x17 = (q : Int) := ⟨(x17).toNat, by omega⟩
    have b22 := gi_b (lo := -9223372036854775808) (hi := 9223372036854775807) g 243 i21 rfl
    refine wr_la (k0 := 243) (a := x17) (f := i21) (x := h 243 i21) (nx := 34) (r1 := 0) (r2 := 0) (r3 := 0) rfl (by decide) rfl (by omega) (by omega) (by decide) ((u18 243 i21 (fn_a (by decide) fn_0)).trans ((u15 243 i21 (fn_a (by decide) fn_0)).trans (u13 243 i21 (fn_a (by omega) fn_0)))) ?_
    refine wr_ls (k0 := 245) (a := x17) (f := i21) (x := h 243 i21) (bl := -9223372036854775808) (bh := 9223372036854775807) (nx := 35) (r1 := 0) (r2 := 0) (r3 := 0) rfl (by decide) rfl (by omega) (by omega) (by decide) g18 rfl (by omega) (fun h23 g23 w23 u23 => ?_)
    have F24 := F19.then rfl (FR.rngp (lo := 245) (hi := 245) u23 (by decide))
    have F25 := u18.then rfl (FR.rngp (lo := 245) (hi := 245) u23 (by decide))
    refine wr_iinc (i := 1) (n := 1) (v := x17) (fun e26 => [(1, vi e26), (0, .ref 236)]) (nx := 38) (r1 := 0) (r2 := 0) (r3 := 0) rfl rfl (fun _ => rfl) (fun e26 (fe26 : e26 = x17 + 1) => ?_)
    refine wi_goto (nx := 41) (r1 := 18) (r2 := 0) (r3 := 0) rfl ?_
    refine wp.lo (lo := [(0, .ref 236), (1, vi e26)]) ⟨rfl, rfl, trivial⟩ rfl ?_
    exact I18 e26 h23 ⟨g23, F24, F25, (show (0 ≤ e26 ∧ e26 ≤ 5) by omega)⟩ (show ((5 : Int) + 1 - e26).toNat < ((5 : Int) + 1 - x17).toNat by omega)
-- method 239: Model.setting(I)I
set_option maxRecDepth 100000 in
set_option maxHeartbeats 100000000 in
theorem ct_239_236 {L : Nat} {xs : Nat → Int32} {d b c : Nat} {h : hp} {cr : Nat → Nat → Option Nat} {Q : hp_Q} (hcr : CR cr)  (g : GI h) (a0 : Int) (q0_ : -2147483648 ≤ a0 ∧ a0 ≤ 2147483647)  (k : ∀ (h2 : hp) (z0 : Int) , GI h2 → FR [(236, 236, some (0, 0))] h h2 → (0 ≤ z0 ∧ z0 ≤ 999) → ((0 ≤ a0 ∧ a0 ≤ 9 ∧ h2 236 0 = 0) ∨ ((a0 < 0 ∨ 9 < a0) ∧ h2 236 0 = 1)) → (0 ≤ a0 → a0 ≤ 9 → z0 = h 238 a0.toNat) → Q (.inl (some (vi z0))) (hp_w h2 cr) b c) : wp (md_xa (L, xs)) (d + 2) 239 (0, [(0, .ref 236), (1, vi a0)], [], hp_w h cr, b, c) Q := by
  have F0 : FR [(236, 236, some (0, 0))] h h := FR.refl
  refine wi_aload_n (i := 0) (x := 236) (nx := 1) (r1 := 0) (r2 := 0) (r3 := 0) rfl rfl ?_
  refine wi_iload_n (i := 1) (e := a0) (nx := 2) (r1 := 0) (r2 := 0) (r3 := 0) rfl rfl ?_
  refine wi_i2l (nx := 3) (r1 := 0) (r2 := 0) (r3 := 0) rfl (by omega) ?_
  refine wi_lconst (n := 0) (e := 0) (nx := 4) (r1 := 0) (r2 := 0) (r3 := 0) rfl (by decide) ?_
  refine wi_ldc2_w (e := 9) (nx := 7) (r1 := 9) (r2 := 0) (r3 := 0) rfl (by decide) ?_
  refine wi_S (rest := [.ref 236]) (as := [vl a0, vl 0, vl 9]) (nx := 10) (r1 := 210) (r2 := 19) (r3 := 0) rfl rfl rfl (of_decide_eq_true rfl) rfl rfl (of_decide_eq_true rfl) (of_decide_eq_true rfl) ?_
  refine wi_lload_n (i := 0) (e := a0) (nx := 1) (r1 := 0) (r2 := 0) (r3 := 0) rfl rfl ?_
  refine wi_lload_n (i := 2) (e := 0) (nx := 2) (r1 := 0) (r2 := 0) (r3 := 0) rfl rfl ?_
  refine wi_lcmp (a := a0) (e := 0) (nx := 3) (r1 := 0) (r2 := 0) (r3 := 0) rfl (by omega) (by omega) (fun r1 (fr1 : (r1 = -1 ∧ a0 < 0) ∨ (r1 = 0 ∧ a0 = 0) ∨ (r1 = 1 ∧ 0 < a0)) => ?_)
  refine wi_if (cd := .lt) (nx := 6) (r1 := 17) (r2 := 0) (r3 := 0) rfl (by omega) (fun (q2 : r1 < 0) => ?_) (fun (q2 : ¬ (r1 < 0)) => ?_)
  ·
    refine wi_iconst (n := 0) (nx := 18) (r1 := 0) (r2 := 0) (r3 := 0) rfl ?_
    refine wi_zreturn (nx := 19) (r1 := 0) (r2 := 0) (r3 := 0) rfl rfl (by omega) ?_
    refine wk_i ?_
    refine wr_V (k0 := 236) (rest := []) (as := [.ref 236, vi 0]) (nx := 13) (r1 := 206) (r2 := 1) (r3 := 11) rfl rfl rfl (of_decide_eq_true rfl) rfl rfl (by decide) rfl rfl (of_decide_eq_true rfl) (of_decide_eq_true rfl) ?_
    refine wi_aload_n (i := 0) (x := 236) (nx := 1) (r1 := 0) (r2 := 0) (r3 := 0) rfl rfl ?_
    refine wi_iload_n (i := 1) (e := 0) (nx := 2) (r1 := 0) (r2 := 0) (r3 := 0) rfl rfl ?_
    refine wi_if (cd := .ne) (nx := 5) (r1 := 9) (r2 := 0) (r3 := 0) rfl (by omega) (fun (q3 : 0 ≠ 0) => by exfalso; omega) (fun (q3 : ¬ (0 ≠ 0)) => ?_)
    refine wi_iconst (n := 1) (nx := 6) (r1 := 0) (r2 := 0) (r3 := 0) rfl ?_
    refine wi_goto (nx := 9) (r1 := 10) (r2 := 0) (r3 := 0) rfl ?_
    refine wi_S (rest := [.ref 236]) (as := [vi 1]) (nx := 13) (r1 := 207) (r2 := 17) (r3 := 0) rfl rfl rfl (of_decide_eq_true rfl) rfl rfl (of_decide_eq_true rfl) (of_decide_eq_true rfl) ?_
    refine wi_iload_n (i := 0) (e := 1) (nx := 1) (r1 := 0) (r2 := 0) (r3 := 0) rfl rfl ?_
    refine wi_if (cd := .eq) (nx := 4) (r1 := 8) (r2 := 0) (r3 := 0) rfl (by omega) (fun (q4 : 1 = 0) => by exfalso; omega) (fun (q4 : ¬ (1 = 0)) => ?_)
    refine wi_iconst (n := 1) (nx := 5) (r1 := 0) (r2 := 0) (r3 := 0) rfl ?_
    refine wi_goto (nx := 8) (r1 := 9) (r2 := 0) (r3 := 0) rfl ?_
    refine wi_ireturn (nx := 10) (r1 := 0) (r2 := 0) (r3 := 0) rfl rfl ?_
    refine wk_i ?_
    refine wr_pf0 (k0 := 236) (x := 1) (bl := 0) (bh := 2) (nx := 16) (r1 := 11) (r2 := 0) (r3 := 0) rfl (by decide) rfl ⟨rfl, rfl⟩ rfl rfl g rfl (by omega) (fun h5 g5 w5 u5 => ?_)
    have F6 := F0.then rfl u5
    refine wi_iload_n (i := 1) (e := 0) (nx := 17) (r1 := 0) (r2 := 0) (r3 := 0) rfl rfl ?_
    refine wi_zreturn (nx := 18) (r1 := 0) (r2 := 0) (r3 := 0) rfl rfl (by omega) ?_
    refine wk_i ?_
    refine wi_if (cd := .eq) (nx := 16) (r1 := 25) (r2 := 0) (r3 := 0) rfl (by omega) (fun (q7 : 0 = 0) => ?_) (fun (q7 : ¬ (0 = 0)) => by exfalso; omega)
    refine wi_iconst (n := 0) (nx := 26) (r1 := 0) (r2 := 0) (r3 := 0) rfl ?_
    refine wi_ireturn (nx := 27) (r1 := 0) (r2 := 0) (r3 := 0) rfl rfl ?_
    have e8 : h5 236 0 = 1 := w5
    exact k h5 0 g5 F6 (by omega) (show (0 ≤ a0 ∧ a0 ≤ 9 ∧ (h5 236 0) = 0) ∨ ((a0 < 0 ∨ 9 < a0) ∧ (h5 236 0) = 1) by omega) (fun e1 e2 => by exfalso; omega)
  ·
    refine wi_lload_n (i := 0) (e := a0) (nx := 7) (r1 := 0) (r2 := 0) (r3 := 0) rfl rfl ?_
    refine wi_lload (i := 4) (e := 9) (nx := 9) (r1 := 0) (r2 := 0) (r3 := 0) rfl rfl ?_
    refine wi_lcmp (a := a0) (e := 9) (nx := 10) (r1 := 0) (r2 := 0) (r3 := 0) rfl (by omega) (by omega) (fun r3 (fr3 : (r3 = -1 ∧ a0 < 9) ∨ (r3 = 0 ∧ a0 = 9) ∨ (r3 = 1 ∧ 9 < a0)) => ?_)
    refine wi_if (cd := .gt) (nx := 13) (r1 := 17) (r2 := 0) (r3 := 0) rfl (by omega) (fun (q4 : 0 < r3) => ?_) (fun (q4 : ¬ (0 < r3)) => ?_)
    ·
      refine wi_iconst (n := 0) (nx := 18) (r1 := 0) (r2 := 0) (r3 := 0) rfl ?_
      refine wi_zreturn (nx := 19) (r1 := 0) (r2 := 0) (r3 := 0) rfl rfl (by omega) ?_
      refine wk_i ?_
      refine wr_V (k0 := 236) (rest := []) (as := [.ref 236, vi 0]) (nx := 13) (r1 := 206) (r2 := 1) (r3 := 11) rfl rfl rfl (of_decide_eq_true rfl) rfl rfl (by decide) rfl rfl (of_decide_eq_true rfl) (of_decide_eq_true rfl) ?_
      refine wi_aload_n (i := 0) (x := 236) (nx := 1) (r1 := 0) (r2 := 0) (r3 := 0) rfl rfl ?_
      refine wi_iload_n (i := 1) (e := 0) (nx := 2) (r1 := 0) (r2 := 0) (r3 := 0) rfl rfl ?_
      refine wi_if (cd := .ne) (nx := 5) (r1 := 9) (r2 := 0) (r3 := 0) rfl (by omega) (fun (q5 : 0 ≠ 0) => by exfalso; omega) (fun (q5 : ¬ (0 ≠ 0)) => ?_)
      refine wi_iconst (n := 1) (nx := 6) (r1 := 0) (r2 := 0) (r3 := 0) rfl ?_
      refine wi_goto (nx := 9) (r1 := 10) (r2 := 0) (r3 := 0) rfl ?_
      refine wi_S (rest := [.ref 236]) (as := [vi 1]) (nx := 13) (r1 := 207) (r2 := 17) (r3 := 0) rfl rfl rfl (of_decide_eq_true rfl) rfl rfl (of_decide_eq_true rfl) (of_decide_eq_true rfl) ?_
      refine wi_iload_n (i := 0) (e := 1) (nx := 1) (r1 := 0) (r2 := 0) (r3 := 0) rfl rfl ?_
      refine wi_if (cd := .eq) (nx := 4) (r1 := 8) (r2 := 0) (r3 := 0) rfl (by omega) (fun (q6 : 1 = 0) => by exfalso; omega) (fun (q6 : ¬ (1 = 0)) => ?_)
      refine wi_iconst (n := 1) (nx := 5) (r1 := 0) (r2 := 0) (r3 := 0) rfl ?_
      refine wi_goto (nx := 8) (r1 := 9) (r2 := 0) (r3 := 0) rfl ?_
      refine wi_ireturn (nx := 10) (r1 := 0) (r2 := 0) (r3 := 0) rfl rfl ?_
      refine wk_i ?_
      refine wr_pf0 (k0 := 236) (x := 1) (bl := 0) (bh := 2) (nx := 16) (r1 := 11) (r2 := 0) (r3 := 0) rfl (by decide) rfl ⟨rfl, rfl⟩ rfl rfl g rfl (by omega) (fun h7 g7 w7 u7 => ?_)
      have F8 := F0.then rfl u7
      refine wi_iload_n (i := 1) (e := 0) (nx := 17) (r1 := 0) (r2 := 0) (r3 := 0) rfl rfl ?_
      refine wi_zreturn (nx := 18) (r1 := 0) (r2 := 0) (r3 := 0) rfl rfl (by omega) ?_
      refine wk_i ?_
      refine wi_if (cd := .eq) (nx := 16) (r1 := 25) (r2 := 0) (r3 := 0) rfl (by omega) (fun (q9 : 0 = 0) => ?_) (fun (q9 : ¬ (0 = 0)) => by exfalso; omega)
      refine wi_iconst (n := 0) (nx := 26) (r1 := 0) (r2 := 0) (r3 := 0) rfl ?_
      refine wi_ireturn (nx := 27) (r1 := 0) (r2 := 0) (r3 := 0) rfl rfl ?_
      have e10 : h7 236 0 = 1 := w7
      exact k h7 0 g7 F8 (by omega) (show (0 ≤ a0 ∧ a0 ≤ 9 ∧ (h7 236 0) = 0) ∨ ((a0 < 0 ∨ 9 < a0) ∧ (h7 236 0) = 1) by omega) (fun e1 e2 => by exfalso; omega)
    ·
      refine wi_iconst (n := 1) (nx := 14) (r1 := 0) (r2 := 0) (r3 := 0) rfl ?_
      refine wi_goto (nx := 17) (r1 := 18) (r2 := 0) (r3 := 0) rfl ?_
      refine wi_zreturn (nx := 19) (r1 := 0) (r2 := 0) (r3 := 0) rfl rfl (by omega) ?_
      refine wk_i ?_
      refine wr_V (k0 := 236) (rest := []) (as := [.ref 236, vi 1]) (nx := 13) (r1 := 206) (r2 := 1) (r3 := 11) rfl rfl rfl (of_decide_eq_true rfl) rfl rfl (by decide) rfl rfl (of_decide_eq_true rfl) (of_decide_eq_true rfl) ?_
      refine wi_aload_n (i := 0) (x := 236) (nx := 1) (r1 := 0) (r2 := 0) (r3 := 0) rfl rfl ?_
      refine wi_iload_n (i := 1) (e := 1) (nx := 2) (r1 := 0) (r2 := 0) (r3 := 0) rfl rfl ?_
      refine wi_if (cd := .ne) (nx := 5) (r1 := 9) (r2 := 0) (r3 := 0) rfl (by omega) (fun (q5 : 1 ≠ 0) => ?_) (fun (q5 : ¬ (1 ≠ 0)) => by exfalso; omega)
      refine wi_iconst (n := 0) (nx := 10) (r1 := 0) (r2 := 0) (r3 := 0) rfl ?_
      refine wi_S (rest := [.ref 236]) (as := [vi 0]) (nx := 13) (r1 := 207) (r2 := 17) (r3 := 0) rfl rfl rfl (of_decide_eq_true rfl) rfl rfl (of_decide_eq_true rfl) (of_decide_eq_true rfl) ?_
      refine wi_iload_n (i := 0) (e := 0) (nx := 1) (r1 := 0) (r2 := 0) (r3 := 0) rfl rfl ?_
      refine wi_if (cd := .eq) (nx := 4) (r1 := 8) (r2 := 0) (r3 := 0) rfl (by omega) (fun (q6 : 0 = 0) => ?_) (fun (q6 : ¬ (0 = 0)) => by exfalso; omega)
      refine wi_iconst (n := 0) (nx := 9) (r1 := 0) (r2 := 0) (r3 := 0) rfl ?_
      refine wi_ireturn (nx := 10) (r1 := 0) (r2 := 0) (r3 := 0) rfl rfl ?_
      refine wk_i ?_
      refine wr_pf0 (k0 := 236) (x := 0) (bl := 0) (bh := 2) (nx := 16) (r1 := 11) (r2 := 0) (r3 := 0) rfl (by decide) rfl ⟨rfl, rfl⟩ rfl rfl g rfl (by omega) (fun h7 g7 w7 u7 => ?_)
      have F8 := F0.then rfl u7
      refine wi_iload_n (i := 1) (e := 1) (nx := 17) (r1 := 0) (r2 := 0) (r3 := 0) rfl rfl ?_
      refine wi_zreturn (nx := 18) (r1 := 0) (r2 := 0) (r3 := 0) rfl rfl (by omega) ?_
      refine wk_i ?_
      refine wi_if (cd := .eq) (nx := 16) (r1 := 25) (r2 := 0) (r3 := 0) rfl (by omega) (fun (q9 : 1 = 0) => by exfalso; omega) (fun (q9 : ¬ (1 = 0)) => ?_)
      refine wi_aload_n (i := 0) (x := 236) (nx := 17) (r1 := 0) (r2 := 0) (r3 := 0) rfl rfl ?_
      refine wr_gr (k0 := 236) (x := 238) (nx := 20) (r1 := 11) (r2 := 13) (r3 := 0) rfl rfl (by decide) rfl ⟨rfl, rfl⟩ rfl ?_
      refine wi_iload_n (i := 1) (e := a0) (nx := 21) (r1 := 0) (r2 := 0) (r3 := 0) rfl rfl ?_
      obtain ⟨i10, ei10⟩ : ∃ q : Nat, a0 = (q : Int) := ⟨(a0).toNat, by omega⟩
      have b11 : 0 ≤ h 238 i10 ∧ h 238 i10 ≤ 999 := by
        rcases (show (0 ≤ i10 ∧ i10 < 0 + 1) ∨ (1 ≤ i10 ∧ i10 < 1 + 1) ∨ (2 ≤ i10 ∧ i10 < 2 + 1) ∨ (3 ≤ i10 ∧ i10 < 3 + 2) ∨ (5 ≤ i10 ∧ i10 < 5 + 1) ∨ (6 ≤ i10 ∧ i10 < 6 + 1) ∨ (7 ≤ i10 ∧ i10 < 7 + 1) ∨ (8 ≤ i10 ∧ i10 < 8 + 2) by omega) with bq | bq | bq | bq | bq | bq | bq | bq
        · have bz := gi_b (lo := 0) (hi := 5) g 238 i10 (gi_rg 0 1 (fun _ => rfl) (by decide +kernel) bq); omega
        · have bz := gi_b (lo := 0) (hi := 4) g 238 i10 (gi_rg 1 1 (fun _ => rfl) (by decide +kernel) bq); omega
        · have bz := gi_b (lo := 0) (hi := 12) g 238 i10 (gi_rg 2 1 (fun _ => rfl) (by decide +kernel) bq); omega
        · have bz := gi_b (lo := 0) (hi := 999) g 238 i10 (gi_rg 3 2 (fun _ => rfl) (by decide +kernel) bq); omega
        · have bz := gi_b (lo := 0) (hi := 9) g 238 i10 (gi_rg 5 1 (fun _ => rfl) (by decide +kernel) bq); omega
        · have bz := gi_b (lo := 0) (hi := 999) g 238 i10 (gi_rg 6 1 (fun _ => rfl) (by decide +kernel) bq); omega
        · have bz := gi_b (lo := 0) (hi := 3) g 238 i10 (gi_rg 7 1 (fun _ => rfl) (by decide +kernel) bq); omega
        · have bz := gi_b (lo := 0) (hi := 999) g 238 i10 (gi_rg 8 2 (fun _ => rfl) (by decide +kernel) bq); omega
      refine wr_ia (k0 := 238) (a := a0) (f := i10) (x := h 238 i10) (nx := 22) (r1 := 0) (r2 := 0) (r3 := 0) rfl (by decide) rfl (by omega) (by omega) (by decide) (u7 238 i10 (fn_a (by omega) fn_0)) ?_
      refine wi_goto (nx := 25) (r1 := 26) (r2 := 0) (r3 := 0) rfl ?_
      refine wi_ireturn (nx := 27) (r1 := 0) (r2 := 0) (r3 := 0) rfl rfl ?_
      have e12 : h7 236 0 = 0 := w7
      exact k h7 (h 238 i10) g7 F8 (by omega) (show (0 ≤ a0 ∧ a0 ≤ 9 ∧ (h7 236 0) = 0) ∨ ((a0 < 0 ∨ 9 < a0) ∧ (h7 236 0) = 1) by omega) (fun _ _ => (show h 238 i10 = h 238 a0.toNat by rw [show a0.toNat = i10 by omega]))
