-- method 334: Model.runScript()I
set_option maxRecDepth 100000 in
set_option maxHeartbeats 100000000 in
theorem ct_334_236 {L : Nat} {xs : Nat → Int32} {d b c : Nat} {h : hp} {cr : Nat → Nat → Option Nat} {Q : hp_Q} (hcr : CR cr)  {tB : Nat → Int} {tn  : Int} (g : GI h)   (pp0 : h 238 98 + h 238 99 + h 238 100 + h 238 101 + h 238 102 + h 238 106 = h 238 73) (pp1 : h 238 73 ≤ h 238 2) (pp2 : h 238 119 ≤ h 238 67) (pp3 : h 238 69 ≤ h 238 5) (pp4 : h 238 2 ≤ 12 * h 238 5) (xq0 : RB0 tB tn h) (xq1 : GPS h) (gp0 : GPH h) (k : ∀ (h2 : hp) (z0 : Int) , GI h2 → FR [(240, 240, none), (242, 242, none), (246, 246, none), (248, 248, none), (249, 249, none), (250, 250, none), (251, 251, none), (252, 252, none), (253, 253, none), (254, 254, none), (257, 257, none), (236, 236, some (0, 0)), (236, 236, some (2, 2)), (236, 236, some (3, 3)), (236, 236, some (4, 4)), (236, 236, some (5, 5)), (236, 236, some (6, 6)), (236, 236, some (7, 7)), (236, 236, some (8, 8)), (236, 236, some (9, 9)), (236, 236, some (10, 10)), (236, 236, some (11, 11)), (236, 236, some (12, 12)), (236, 236, some (22, 22)), (236, 236, some (28, 28)), (236, 236, some (32, 32)), (236, 236, some (42, 42)), (236, 236, some (43, 43)), (236, 236, some (44, 44)), (236, 236, some (45, 45)), (238, 238, some (31, 53)), (238, 238, some (43, 54)), (238, 238, some (55, 66)), (238, 238, some (67, 67)), (238, 238, some (68, 68)), (238, 238, some (69, 69)), (238, 238, some (70, 70)), (238, 238, some (71, 71)), (238, 238, some (72, 72)), (238, 238, some (73, 73)), (238, 238, some (74, 79)), (238, 238, some (80, 85)), (238, 238, some (86, 91)), (238, 238, some (92, 97)), (238, 238, some (98, 98)), (238, 238, some (99, 99)), (238, 238, some (100, 100)), (238, 238, some (101, 101)), (238, 238, some (102, 102)), (238, 238, some (103, 105)), (238, 238, some (106, 106)), (238, 238, some (107, 118)), (238, 238, some (119, 119)), (238, 238, some (120, 196)), (238, 238, some (121, 197)), (238, 238, some (122, 198)), (238, 238, some (123, 199)), (247, 247, some (0, 0)), (247, 247, some (1, 1)), (247, 247, some (2, 2)), (247, 247, some (3, 3)), (255, 255, some (0, 0)), (255, 255, some (1, 1)), (256, 256, some (0, 0)), (256, 256, some (1, 1))] h h2 → (0 ≤ z0 ∧ z0 ≤ 100) → (h2 238 98 + h2 238 99 + h2 238 100 + h2 238 101 + h2 238 102 + h2 238 106 = h2 238 73) → (h2 238 73 ≤ h2 238 2) → (h2 238 119 ≤ h2 238 67) → (h2 238 69 ≤ h2 238 5) → (h2 238 2 ≤ 12 * h2 238 5) → (h2 236 2 = 0) → (h2 236 10 = sc_ec tB tn) → (h2 236 11 = sc_ep tB tn) → (GPS h2) → (GPH h2) → Q (.inl (some (vi z0))) (hp_w h2 cr) b c) : wp (md_xa (L, xs)) (d + 8) 334 (0, [(0, .ref 236)], [], hp_w h cr, b, c) Q := by
  have F0 : FR [(240, 240, none), (242, 242, none), (246, 246, none), (248, 248, none), (249, 249, none), (250, 250, none), (251, 251, none), (252, 252, none), (253, 253, none), (254, 254, none), (257, 257, none), (236, 236, some (0, 0)), (236, 236, some (2, 2)), (236, 236, some (3, 3)), (236, 236, some (4, 4)), (236, 236, some (5, 5)), (236, 236, some (6, 6)), (236, 236, some (7, 7)), (236, 236, some (8, 8)), (236, 236, some (9, 9)), (236, 236, some (10, 10)), (236, 236, some (11, 11)), (236, 236, some (12, 12)), (236, 236, some (22, 22)), (236, 236, some (28, 28)), (236, 236, some (32, 32)), (236, 236, some (42, 42)), (236, 236, some (43, 43)), (236, 236, some (44, 44)), (236, 236, some (45, 45)), (238, 238, some (31, 53)), (238, 238, some (43, 54)), (238, 238, some (55, 66)), (238, 238, some (67, 67)), (238, 238, some (68, 68)), (238, 238, some (69, 69)), (238, 238, some (70, 70)), (238, 238, some (71, 71)), (238, 238, some (72, 72)), (238, 238, some (73, 73)), (238, 238, some (74, 79)), (238, 238, some (80, 85)), (238, 238, some (86, 91)), (238, 238, some (92, 97)), (238, 238, some (98, 98)), (238, 238, some (99, 99)), (238, 238, some (100, 100)), (238, 238, some (101, 101)), (238, 238, some (102, 102)), (238, 238, some (103, 105)), (238, 238, some (106, 106)), (238, 238, some (107, 118)), (238, 238, some (119, 119)), (238, 238, some (120, 196)), (238, 238, some (121, 197)), (238, 238, some (122, 198)), (238, 238, some (123, 199)), (247, 247, some (0, 0)), (247, 247, some (1, 1)), (247, 247, some (2, 2)), (247, 247, some (3, 3)), (255, 255, some (0, 0)), (255, 255, some (1, 1)), (256, 256, some (0, 0)), (256, 256, some (1, 1))] h h := FR.refl
  have tb_1 : h 236 2 = tn := xq0.2.1
  have tb_2 : 0 ≤ tn ∧ tn ≤ 800 := xq0.2.2
  have b1 := gi_b (lo := 0) (hi := 6) g 238 98 rfl
  have b2 := gi_b (lo := 0) (hi := 6) g 238 99 rfl
  have b3 := gi_b (lo := 0) (hi := 6) g 238 100 rfl
  have b4 := gi_b (lo := 0) (hi := 6) g 238 101 rfl
  have b5 := gi_b (lo := 0) (hi := 3) g 238 102 rfl
  have b6 := gi_b (lo := 0) (hi := 12) g 238 106 rfl
  have b7 := gi_b (lo := 0) (hi := 12) g 238 73 rfl
  have b8 := gi_b (lo := 0) (hi := 12) g 238 2 rfl
  have b9 := gi_b (lo := 0) (hi := 9999) g 238 119 rfl
  have b10 := gi_b (lo := 0) (hi := 9999) g 238 67 rfl
  have b11 := gi_b (lo := 0) (hi := 9) g 238 69 rfl
  have b12 := gi_b (lo := 0) (hi := 9) g 238 5 rfl
  refine wi_aload_n (i := 0) (x := 236) (nx := 1) (r1 := 0) (r2 := 0) (r3 := 0) rfl rfl ?_
  refine wr_V (k0 := 236) (rest := []) (as := [.ref 236]) (nx := 4) (r1 := 214) (r2 := 0) (r3 := 11) rfl rfl rfl (of_decide_eq_true rfl) rfl rfl (by decide) rfl rfl (of_decide_eq_true rfl) (of_decide_eq_true rfl) ?_
  refine ct_214_236 hcr  g    xq0 (fun h13 g13 u13 (p13_0 : (h13 236 8) = 0) (p13_1 : (h13 236 4) ≤ (h13 236 3)) (p13_2 : (h13 236 2) = 0) (p13_3 : (h13 236 9) = -1) (p13_4 : ((h13 236 4) = tk_nx tB tn 0 ∧ (h13 236 5) = tk_st tB tn 0 ∧ ((tk_kd tB tn 0 = 0 ∧ (h13 236 6) = 0) ∨ (tk_kd tB tn 0 = 1 ∧ (h13 236 6) = 1 ∧ (h13 236 12) = tk_sw tB tn 0) ∨ (tk_kd tB tn 0 = 2 ∧ (h13 236 6) = 2 ∧ (h13 236 7) = tk_nb tB tn 0) ∨ (tk_kd tB tn 0 = 3 ∧ (h13 236 6) = 3 ∧ (h13 236 7) = 59) ∨ (tk_kd tB tn 0 = 4 ∧ (h13 236 6) = 3 ∧ (h13 236 7) = 40) ∨ (tk_kd tB tn 0 = 5 ∧ (h13 236 6) = 3 ∧ (h13 236 7) = 41) ∨ (tk_kd tB tn 0 = 6 ∧ (h13 236 6) = 4)))) (p13_5 : 0 ≤ tn ∧ tn ≤ 800) (p13_6 : (h13 236 3) = tn) y13_0 => ?_)
  have F14 := F0.then (by decide +kernel) u13
  have b15 := gi_b (lo := 0) (hi := 5) g13 236 8 rfl
  have b16 := gi_b (lo := 0) (hi := 800) g13 236 4 rfl
  have b17 := gi_b (lo := 0) (hi := 800) g13 236 3 rfl
  have b18 := gi_b (lo := 0) (hi := 800) g13 236 2 rfl
  have b19 := gi_b (lo := -2147483648) (hi := 2147483647) g13 236 9 rfl
  have b20 := gi_b (lo := 0) (hi := 800) g13 236 5 rfl
  have b21 := gi_b (lo := 0) (hi := 4) g13 236 6 rfl
  have b22 := gi_b (lo := -9223372036854775808) (hi := 9223372036854775807) g13 236 12 rfl
  have b23 := gi_b (lo := 0) (hi := 999) g13 236 7 rfl
  have tN24 := @tk_nx_b tB tn 0 (by omega) (by omega)
  refine wk_n ?_
  refine wi_aload_n (i := 0) (x := 236) (nx := 5) (r1 := 0) (r2 := 0) (r3 := 0) rfl rfl ?_
  refine wi_iconst (n := 0) (nx := 6) (r1 := 0) (r2 := 0) (r3 := 0) rfl ?_
  refine wr_pf0 (k0 := 236) (x := 0) (bl := 0) (bh := 80) (nx := 9) (r1 := 11) (r2 := 42) (r3 := 0) rfl (by decide) rfl ⟨rfl, rfl⟩ rfl rfl g13 rfl (by omega) (fun h25 g25 w25 u25 => ?_)
  have F26 := F14.then rfl u25
  refine wi_aload_n (i := 0) (x := 236) (nx := 10) (r1 := 0) (r2 := 0) (r3 := 0) rfl rfl ?_
  refine wi_iconst (n := 0) (nx := 11) (r1 := 0) (r2 := 0) (r3 := 0) rfl ?_
  refine wr_pf0 (k0 := 236) (x := 0) (bl := 0) (bh := 40) (nx := 14) (r1 := 11) (r2 := 43) (r3 := 0) rfl (by decide) rfl ⟨rfl, rfl⟩ rfl rfl g25 rfl (by omega) (fun h27 g27 w27 u27 => ?_)
  have F28 := F26.then rfl u27
  refine wi_aload_n (i := 0) (x := 236) (nx := 15) (r1 := 0) (r2 := 0) (r3 := 0) rfl rfl ?_
  refine wi_iconst (n := 0) (nx := 16) (r1 := 0) (r2 := 0) (r3 := 0) rfl ?_
  refine wr_pf0 (k0 := 236) (x := 0) (bl := 0) (bh := 2) (nx := 19) (r1 := 11) (r2 := 44) (r3 := 0) rfl (by decide) rfl ⟨rfl, rfl⟩ rfl rfl g27 rfl (by omega) (fun h29 g29 w29 u29 => ?_)
  have F30 := F28.then rfl u29
  refine wi_aload_n (i := 0) (x := 236) (nx := 20) (r1 := 0) (r2 := 0) (r3 := 0) rfl rfl ?_
  refine wr_V (k0 := 236) (rest := []) (as := [.ref 236]) (nx := 23) (r1 := 219) (r2 := 0) (r3 := 11) rfl rfl rfl (of_decide_eq_true rfl) rfl rfl (by decide) rfl rfl (of_decide_eq_true rfl) (of_decide_eq_true rfl) ?_
  refine wi_aload_n (i := 0) (x := 236) (nx := 1) (r1 := 0) (r2 := 0) (r3 := 0) rfl rfl ?_
  refine wr_gi0 (k0 := 236) (x := h13 236 8) (nx := 4) (r1 := 11) (r2 := 8) (r3 := 0) rfl rfl (by decide) rfl ⟨rfl, rfl⟩ rfl ((u29 236 8 rfl).trans ((u27 236 8 rfl).trans (u25 236 8 rfl))) ?_
  refine wi_if (cd := .ne) (nx := 7) (r1 := 11) (r2 := 0) (r3 := 0) rfl (by omega) (fun (q31 : (h13 236 8) ≠ 0) => by exfalso; omega) (fun (q31 : ¬ ((h13 236 8) ≠ 0)) => ?_)
  refine wi_iconst (n := 1) (nx := 8) (r1 := 0) (r2 := 0) (r3 := 0) rfl ?_
  refine wi_goto (nx := 11) (r1 := 12) (r2 := 0) (r3 := 0) rfl ?_
  refine wi_zreturn (nx := 13) (r1 := 0) (r2 := 0) (r3 := 0) rfl rfl (by omega) ?_
  refine wk_i ?_
  refine wi_if (cd := .eq) (nx := 26) (r1 := 63) (r2 := 0) (r3 := 0) rfl (by omega) (fun (q32 : 1 = 0) => by exfalso; omega) (fun (q32 : ¬ (1 = 0)) => ?_)
  refine wi_aload_n (i := 0) (x := 236) (nx := 27) (r1 := 0) (r2 := 0) (r3 := 0) rfl rfl ?_
  refine wr_gi0 (k0 := 236) (x := h13 236 6) (nx := 30) (r1 := 11) (r2 := 6) (r3 := 0) rfl rfl (by decide) rfl ⟨rfl, rfl⟩ rfl ((u29 236 6 rfl).trans ((u27 236 6 rfl).trans (u25 236 6 rfl))) ?_
  refine wi_if (cd := .eq) (nx := 33) (r1 := 63) (r2 := 0) (r3 := 0) rfl (by omega) (fun (q33 : (h13 236 6) = 0) => ?_) (fun (q33 : ¬ ((h13 236 6) = 0)) => ?_)
  ·
    refine wi_aload_n (i := 0) (x := 236) (nx := 64) (r1 := 0) (r2 := 0) (r3 := 0) rfl rfl ?_
    refine wr_V (k0 := 236) (rest := []) (as := [.ref 236]) (nx := 67) (r1 := 219) (r2 := 0) (r3 := 11) rfl rfl rfl (of_decide_eq_true rfl) rfl rfl (by decide) rfl rfl (of_decide_eq_true rfl) (of_decide_eq_true rfl) ?_
    refine wi_aload_n (i := 0) (x := 236) (nx := 1) (r1 := 0) (r2 := 0) (r3 := 0) rfl rfl ?_
    refine wr_gi0 (k0 := 236) (x := h13 236 8) (nx := 4) (r1 := 11) (r2 := 8) (r3 := 0) rfl rfl (by decide) rfl ⟨rfl, rfl⟩ rfl ((u29 236 8 rfl).trans ((u27 236 8 rfl).trans (u25 236 8 rfl))) ?_
    refine wi_if (cd := .ne) (nx := 7) (r1 := 11) (r2 := 0) (r3 := 0) rfl (by omega) (fun (q34 : (h13 236 8) ≠ 0) => by exfalso; omega) (fun (q34 : ¬ ((h13 236 8) ≠ 0)) => ?_)
    refine wi_iconst (n := 1) (nx := 8) (r1 := 0) (r2 := 0) (r3 := 0) rfl ?_
    refine wi_goto (nx := 11) (r1 := 12) (r2 := 0) (r3 := 0) rfl ?_
    refine wi_zreturn (nx := 13) (r1 := 0) (r2 := 0) (r3 := 0) rfl rfl (by omega) ?_
    refine wk_i ?_
    refine wi_if (cd := .eq) (nx := 70) (r1 := 82) (r2 := 0) (r3 := 0) rfl (by omega) (fun (q35 : 1 = 0) => by exfalso; omega) (fun (q35 : ¬ (1 = 0)) => ?_)
    refine wi_aload_n (i := 0) (x := 236) (nx := 71) (r1 := 0) (r2 := 0) (r3 := 0) rfl rfl ?_
    refine wr_gi0 (k0 := 236) (x := 0) (nx := 74) (r1 := 11) (r2 := 44) (r3 := 0) rfl rfl (by decide) rfl ⟨rfl, rfl⟩ rfl w29 ?_
    refine wi_if (cd := .le) (nx := 77) (r1 := 82) (r2 := 0) (r3 := 0) rfl (by omega) (fun (q36 : 0 ≤ 0) => ?_) (fun (q36 : ¬ (0 ≤ 0)) => by exfalso; omega)
    have e38 : h29 236 8 = h13 236 8 := ((u29 236 8 rfl).trans ((u27 236 8 rfl).trans (u25 236 8 rfl)))
    have e39 : h29 236 9 = h13 236 9 := ((u29 236 9 rfl).trans ((u27 236 9 rfl).trans (u25 236 9 rfl)))
    have e40 : h29 236 44 = 0 := w29
    have RE37 := sc_REq (show sc_RES tB tn = _ from (sc_e0 (f := 800) (p := 0) (o := 0) (m := 0) (by omega) rfl))
    refine wi_aload_n (i := 0) (x := 236) (nx := 83) (r1 := 0) (r2 := 0) (r3 := 0) rfl rfl ?_
    refine wr_V (k0 := 236) (rest := []) (as := [.ref 236]) (nx := 86) (r1 := 237) (r2 := 0) (r3 := 11) rfl rfl rfl (of_decide_eq_true rfl) rfl rfl (by decide) rfl rfl (of_decide_eq_true rfl) (of_decide_eq_true rfl) ?_
    refine wi_aload_n (i := 0) (x := 236) (nx := 1) (r1 := 0) (r2 := 0) (r3 := 0) rfl rfl ?_
    refine wi_aload_n (i := 0) (x := 236) (nx := 2) (r1 := 0) (r2 := 0) (r3 := 0) rfl rfl ?_
    refine wr_gi0 (k0 := 236) (x := h13 236 8) (nx := 5) (r1 := 11) (r2 := 8) (r3 := 0) rfl rfl (by decide) rfl ⟨rfl, rfl⟩ rfl ((u29 236 8 rfl).trans ((u27 236 8 rfl).trans (u25 236 8 rfl))) ?_
    refine wr_pf0 (k0 := 236) (x := h13 236 8) (bl := -2147483648) (bh := 2147483647) (nx := 8) (r1 := 11) (r2 := 10) (r3 := 0) rfl (by decide) rfl ⟨rfl, rfl⟩ rfl rfl g29 rfl (by omega) (fun h41 g41 w41 u41 => ?_)
    have F42 := F30.then rfl u41
    refine wi_aload_n (i := 0) (x := 236) (nx := 9) (r1 := 0) (r2 := 0) (r3 := 0) rfl rfl ?_
    refine wi_aload_n (i := 0) (x := 236) (nx := 10) (r1 := 0) (r2 := 0) (r3 := 0) rfl rfl ?_
    refine wr_gi0 (k0 := 236) (x := h13 236 9) (nx := 13) (r1 := 11) (r2 := 9) (r3 := 0) rfl rfl (by decide) rfl ⟨rfl, rfl⟩ rfl ((u41 236 9 rfl).trans ((u29 236 9 rfl).trans ((u27 236 9 rfl).trans (u25 236 9 rfl)))) ?_
    refine wr_pf0 (k0 := 236) (x := h13 236 9) (bl := -2147483648) (bh := 2147483647) (nx := 16) (r1 := 11) (r2 := 11) (r3 := 0) rfl (by decide) rfl ⟨rfl, rfl⟩ rfl rfl g41 rfl (by omega) (fun h43 g43 w43 u43 => ?_)
    have F44 := F42.then rfl u43
    refine wi_aload_n (i := 0) (x := 236) (nx := 17) (r1 := 0) (r2 := 0) (r3 := 0) rfl rfl ?_
    refine wi_aload_n (i := 0) (x := 236) (nx := 18) (r1 := 0) (r2 := 0) (r3 := 0) rfl rfl ?_
    refine wr_gi0 (k0 := 236) (x := h13 236 8) (nx := 21) (r1 := 11) (r2 := 8) (r3 := 0) rfl rfl (by decide) rfl ⟨rfl, rfl⟩ rfl ((u43 236 8 rfl).trans ((u41 236 8 rfl).trans ((u29 236 8 rfl).trans ((u27 236 8 rfl).trans (u25 236 8 rfl))))) ?_
    refine wi_if (cd := .ne) (nx := 24) (r1 := 28) (r2 := 0) (r3 := 0) rfl (by omega) (fun (q45 : (h13 236 8) ≠ 0) => by exfalso; omega) (fun (q45 : ¬ ((h13 236 8) ≠ 0)) => ?_)
    refine wi_iconst (n := 1) (nx := 25) (r1 := 0) (r2 := 0) (r3 := 0) rfl ?_
    refine wi_goto (nx := 28) (r1 := 29) (r2 := 0) (r3 := 0) rfl ?_
    refine wr_V (k0 := 236) (rest := []) (as := [.ref 236, vi 1]) (nx := 32) (r1 := 206) (r2 := 1) (r3 := 11) rfl rfl rfl (of_decide_eq_true rfl) rfl rfl (by decide) rfl rfl (of_decide_eq_true rfl) (of_decide_eq_true rfl) ?_
    refine wi_aload_n (i := 0) (x := 236) (nx := 1) (r1 := 0) (r2 := 0) (r3 := 0) rfl rfl ?_
    refine wi_iload_n (i := 1) (e := 1) (nx := 2) (r1 := 0) (r2 := 0) (r3 := 0) rfl rfl ?_
    refine wi_if (cd := .ne) (nx := 5) (r1 := 9) (r2 := 0) (r3 := 0) rfl (by omega) (fun (q46 : 1 ≠ 0) => ?_) (fun (q46 : ¬ (1 ≠ 0)) => by exfalso; omega)
    refine wi_iconst (n := 0) (nx := 10) (r1 := 0) (r2 := 0) (r3 := 0) rfl ?_
    refine wi_S (rest := [.ref 236]) (as := [vi 0]) (nx := 13) (r1 := 207) (r2 := 17) (r3 := 0) rfl rfl rfl (of_decide_eq_true rfl) rfl rfl (of_decide_eq_true rfl) (of_decide_eq_true rfl) ?_
    refine wi_iload_n (i := 0) (e := 0) (nx := 1) (r1 := 0) (r2 := 0) (r3 := 0) rfl rfl ?_
    refine wi_if (cd := .eq) (nx := 4) (r1 := 8) (r2 := 0) (r3 := 0) rfl (by omega) (fun (q47 : 0 = 0) => ?_) (fun (q47 : ¬ (0 = 0)) => by exfalso; omega)
    refine wi_iconst (n := 0) (nx := 9) (r1 := 0) (r2 := 0) (r3 := 0) rfl ?_
    refine wi_ireturn (nx := 10) (r1 := 0) (r2 := 0) (r3 := 0) rfl rfl ?_
    refine wk_i ?_
    refine wr_pf0 (k0 := 236) (x := 0) (bl := 0) (bh := 2) (nx := 16) (r1 := 11) (r2 := 0) (r3 := 0) rfl (by decide) rfl ⟨rfl, rfl⟩ rfl rfl g43 rfl (by omega) (fun h48 g48 w48 u48 => ?_)
    have F49 := F44.then rfl u48
    refine wi_iload_n (i := 1) (e := 1) (nx := 17) (r1 := 0) (r2 := 0) (r3 := 0) rfl rfl ?_
    refine wi_zreturn (nx := 18) (r1 := 0) (r2 := 0) (r3 := 0) rfl rfl (by omega) ?_
    refine wk_i ?_
    refine wi_zreturn (nx := 33) (r1 := 0) (r2 := 0) (r3 := 0) rfl rfl (by omega) ?_
    refine wk_i ?_
    refine wi_if (cd := .ne) (nx := 89) (r1 := 91) (r2 := 0) (r3 := 0) rfl (by omega) (fun (q50 : 1 ≠ 0) => ?_) (fun (q50 : ¬ (1 ≠ 0)) => by exfalso; omega)
    refine wi_aload_n (i := 0) (x := 236) (nx := 92) (r1 := 0) (r2 := 0) (r3 := 0) rfl rfl ?_
    refine wr_gr (k0 := 236) (x := 238) (nx := 95) (r1 := 11) (r2 := 13) (r3 := 0) rfl rfl (by decide) rfl ⟨rfl, rfl⟩ rfl ?_
    refine wi_aload_n (i := 0) (x := 236) (nx := 96) (r1 := 0) (r2 := 0) (r3 := 0) rfl rfl ?_
    refine wr_gr (k0 := 236) (x := 257) (nx := 99) (r1 := 11) (r2 := 41) (r3 := 0) rfl rfl (by decide) rfl ⟨rfl, rfl⟩ rfl ?_
    refine wi_S (rest := []) (as := [.ref 238, .ref 257]) (nx := 102) (r1 := 238) (r2 := 18) (r3 := 0) rfl rfl rfl (of_decide_eq_true rfl) rfl rfl (of_decide_eq_true rfl) (of_decide_eq_true rfl) ?_
    refine ct_238_238_257 hcr  g48    (fun h51 g51 u51 y51_0 => ?_)
    have F52 := F49.then (by decide +kernel) u51
    refine wk_n ?_
    refine wi_aload_n (i := 0) (x := 236) (nx := 103) (r1 := 0) (r2 := 0) (r3 := 0) rfl rfl ?_
    refine wi_iconst (n := 0) (nx := 104) (r1 := 0) (r2 := 0) (r3 := 0) rfl ?_
    refine wr_pf2 (k0 := 236) (x := 0) (bl := 0) (bh := 1) (nx := 107) (r1 := 11) (r2 := 45) (r3 := 2) rfl (by decide) rfl ⟨rfl, rfl⟩ rfl (by omega) rfl g51 rfl (by omega) (fun h53 g53 w53 u53 => ?_)
    have F54 := F52.then rfl u53
    refine wi_aload_n (i := 0) (x := 236) (nx := 108) (r1 := 0) (r2 := 0) (r3 := 0) rfl rfl ?_
    refine wr_V (k0 := 236) (rest := []) (as := [.ref 236]) (nx := 111) (r1 := 339) (r2 := 0) (r3 := 11) rfl rfl rfl (of_decide_eq_true rfl) rfl rfl (by decide) rfl rfl (of_decide_eq_true rfl) (of_decide_eq_true rfl) ?_
    have e56 : h53 238 98 = h 238 98 := ((u53 238 98 rfl).trans ((u51 238 98 rfl).trans ((u48 238 98 rfl).trans ((u43 238 98 rfl).trans ((u41 238 98 rfl).trans ((u29 238 98 rfl).trans ((u27 238 98 rfl).trans ((u25 238 98 rfl).trans (u13 238 98 rfl)))))))))
    have e57 : h53 238 99 = h 238 99 := ((u53 238 99 rfl).trans ((u51 238 99 rfl).trans ((u48 238 99 rfl).trans ((u43 238 99 rfl).trans ((u41 238 99 rfl).trans ((u29 238 99 rfl).trans ((u27 238 99 rfl).trans ((u25 238 99 rfl).trans (u13 238 99 rfl)))))))))
    have e58 : h53 238 100 = h 238 100 := ((u53 238 100 rfl).trans ((u51 238 100 rfl).trans ((u48 238 100 rfl).trans ((u43 238 100 rfl).trans ((u41 238 100 rfl).trans ((u29 238 100 rfl).trans ((u27 238 100 rfl).trans ((u25 238 100 rfl).trans (u13 238 100 rfl)))))))))
    have e59 : h53 238 101 = h 238 101 := ((u53 238 101 rfl).trans ((u51 238 101 rfl).trans ((u48 238 101 rfl).trans ((u43 238 101 rfl).trans ((u41 238 101 rfl).trans ((u29 238 101 rfl).trans ((u27 238 101 rfl).trans ((u25 238 101 rfl).trans (u13 238 101 rfl)))))))))
    have e60 : h53 238 102 = h 238 102 := ((u53 238 102 rfl).trans ((u51 238 102 rfl).trans ((u48 238 102 rfl).trans ((u43 238 102 rfl).trans ((u41 238 102 rfl).trans ((u29 238 102 rfl).trans ((u27 238 102 rfl).trans ((u25 238 102 rfl).trans (u13 238 102 rfl)))))))))
    have e61 : h53 238 106 = h 238 106 := ((u53 238 106 rfl).trans ((u51 238 106 rfl).trans ((u48 238 106 rfl).trans ((u43 238 106 rfl).trans ((u41 238 106 rfl).trans ((u29 238 106 rfl).trans ((u27 238 106 rfl).trans ((u25 238 106 rfl).trans (u13 238 106 rfl)))))))))
    have e62 : h53 238 73 = h 238 73 := ((u53 238 73 rfl).trans ((u51 238 73 rfl).trans ((u48 238 73 rfl).trans ((u43 238 73 rfl).trans ((u41 238 73 rfl).trans ((u29 238 73 rfl).trans ((u27 238 73 rfl).trans ((u25 238 73 rfl).trans (u13 238 73 rfl)))))))))
    have e63 : h53 238 2 = h 238 2 := ((u53 238 2 rfl).trans ((u51 238 2 rfl).trans ((u48 238 2 rfl).trans ((u43 238 2 rfl).trans ((u41 238 2 rfl).trans ((u29 238 2 rfl).trans ((u27 238 2 rfl).trans ((u25 238 2 rfl).trans (u13 238 2 rfl)))))))))
    have e64 : h53 238 119 = h 238 119 := ((u53 238 119 rfl).trans ((u51 238 119 rfl).trans ((u48 238 119 rfl).trans ((u43 238 119 rfl).trans ((u41 238 119 rfl).trans ((u29 238 119 rfl).trans ((u27 238 119 rfl).trans ((u25 238 119 rfl).trans (u13 238 119 rfl)))))))))
    have e65 : h53 238 67 = h 238 67 := ((u53 238 67 rfl).trans ((u51 238 67 rfl).trans ((u48 238 67 rfl).trans ((u43 238 67 rfl).trans ((u41 238 67 rfl).trans ((u29 238 67 rfl).trans ((u27 238 67 rfl).trans ((u25 238 67 rfl).trans (u13 238 67 rfl)))))))))
    have e66 : h53 238 69 = h 238 69 := ((u53 238 69 rfl).trans ((u51 238 69 rfl).trans ((u48 238 69 rfl).trans ((u43 238 69 rfl).trans ((u41 238 69 rfl).trans ((u29 238 69 rfl).trans ((u27 238 69 rfl).trans ((u25 238 69 rfl).trans (u13 238 69 rfl)))))))))
    have e67 : h53 238 5 = h 238 5 := ((u53 238 5 rfl).trans ((u51 238 5 rfl).trans ((u48 238 5 rfl).trans ((u43 238 5 rfl).trans ((u41 238 5 rfl).trans ((u29 238 5 rfl).trans ((u27 238 5 rfl).trans ((u25 238 5 rfl).trans (u13 238 5 rfl)))))))))
    have e69 : h53 236 42 = 0 := ((u53 236 42 rfl).trans ((u51 236 42 rfl).trans ((u48 236 42 rfl).trans ((u43 236 42 rfl).trans ((u41 236 42 rfl).trans ((u29 236 42 rfl).trans ((u27 236 42 rfl).trans w25)))))))
    have e70 : h53 236 44 = 0 := ((u53 236 44 rfl).trans ((u51 236 44 rfl).trans ((u48 236 44 rfl).trans ((u43 236 44 rfl).trans ((u41 236 44 rfl).trans w29)))))
    have e71 : h53 236 8 = h13 236 8 := ((u53 236 8 rfl).trans ((u51 236 8 rfl).trans ((u48 236 8 rfl).trans ((u43 236 8 rfl).trans ((u41 236 8 rfl).trans ((u29 236 8 rfl).trans ((u27 236 8 rfl).trans (u25 236 8 rfl))))))))
    refine ct_339_236 hcr  g53   (show (h53 238 98) + (h53 238 99) + (h53 238 100) + (h53 238 101) + (h53 238 102) + (h53 238 106) = (h53 238 73) by omega) (show (h53 238 73) ≤ (h53 238 2) by omega) (show (h53 238 119) ≤ (h53 238 67) by omega) (show (h53 238 69) ≤ (h53 238 5) by omega) (show (h53 238 2) ≤ 12 * (h53 238 5) by omega) (by rw [show h53 236 42 = 0 by omega, show h53 236 44 = 0 by omega]; exact WP.zero) (fun h55 z68 g55 u55 (fz68 : 0 ≤ z68 ∧ z68 ≤ 100) (p55_0 : (h55 238 98) + (h55 238 99) + (h55 238 100) + (h55 238 101) + (h55 238 102) + (h55 238 106) = (h55 238 73)) (p55_1 : (h55 238 73) ≤ (h55 238 2)) (p55_2 : (h55 238 119) ≤ (h55 238 67)) (p55_3 : (h55 238 69) ≤ (h55 238 5)) (p55_4 : (h55 238 2) ≤ 12 * (h55 238 5)) => ?_)
    have F72 := F54.then (by decide +kernel) u55
    have b73 := gi_b (lo := 0) (hi := 6) g55 238 98 rfl
    have b74 := gi_b (lo := 0) (hi := 6) g55 238 99 rfl
    have b75 := gi_b (lo := 0) (hi := 6) g55 238 100 rfl
    have b76 := gi_b (lo := 0) (hi := 6) g55 238 101 rfl
    have b77 := gi_b (lo := 0) (hi := 3) g55 238 102 rfl
    have b78 := gi_b (lo := 0) (hi := 12) g55 238 106 rfl
    have b79 := gi_b (lo := 0) (hi := 12) g55 238 73 rfl
    have e80 : h55 238 2 = h 238 2 := ((u55 238 2 rfl).trans ((u53 238 2 rfl).trans ((u51 238 2 rfl).trans ((u48 238 2 rfl).trans ((u43 238 2 rfl).trans ((u41 238 2 rfl).trans ((u29 238 2 rfl).trans ((u27 238 2 rfl).trans ((u25 238 2 rfl).trans (u13 238 2 rfl))))))))))
    have b81 := gi_b (lo := 0) (hi := 9999) g55 238 119 rfl
    have b82 := gi_b (lo := 0) (hi := 9999) g55 238 67 rfl
    have b83 := gi_b (lo := 0) (hi := 9) g55 238 69 rfl
    have e84 : h55 238 5 = h 238 5 := ((u55 238 5 rfl).trans ((u53 238 5 rfl).trans ((u51 238 5 rfl).trans ((u48 238 5 rfl).trans ((u43 238 5 rfl).trans ((u41 238 5 rfl).trans ((u29 238 5 rfl).trans ((u27 238 5 rfl).trans ((u25 238 5 rfl).trans (u13 238 5 rfl))))))))))
    refine wk_i ?_
    refine wi_istore_n (i := 1) (e := z68) (lo2 := [(1, vi z68), (0, .ref 236)]) (nx := 112) (r1 := 0) (r2 := 0) (r3 := 0) rfl rfl ?_
    refine wi_aload_n (i := 0) (x := 236) (nx := 113) (r1 := 0) (r2 := 0) (r3 := 0) rfl rfl ?_
    have b85 := gi_b (lo := 0) (hi := 1) g55 236 45 rfl
    refine wr_gi2 (k0 := 236) (x := h55 236 45) (nx := 116) (r1 := 11) (r2 := 45) (r3 := 0) rfl rfl (by decide) rfl ⟨rfl, rfl⟩ rfl rfl ?_
    refine wi_if (cd := .ne) (nx := 119) (r1 := 121) (r2 := 0) (r3 := 0) rfl (by omega) (fun (q86 : (h55 236 45) ≠ 0) => ?_) (fun (q86 : ¬ ((h55 236 45) ≠ 0)) => ?_)
    ·
      refine wi_aload_n (i := 0) (x := 236) (nx := 122) (r1 := 0) (r2 := 0) (r3 := 0) rfl rfl ?_
      refine wr_gr (k0 := 236) (x := 257) (nx := 125) (r1 := 11) (r2 := 41) (r3 := 0) rfl rfl (by decide) rfl ⟨rfl, rfl⟩ rfl ?_
      refine wi_aload_n (i := 0) (x := 236) (nx := 126) (r1 := 0) (r2 := 0) (r3 := 0) rfl rfl ?_
      refine wr_gr (k0 := 236) (x := 240) (nx := 129) (r1 := 11) (r2 := 15) (r3 := 0) rfl rfl (by decide) rfl ⟨rfl, rfl⟩ rfl ?_
      refine wi_S (rest := []) (as := [.ref 257, .ref 240]) (nx := 132) (r1 := 238) (r2 := 18) (r3 := 0) rfl rfl rfl (of_decide_eq_true rfl) rfl rfl (of_decide_eq_true rfl) (of_decide_eq_true rfl) ?_
      refine ct_238_257_240 hcr  g55    (fun h87 g87 u87 y87_0 => ?_)
      have F88 := F72.then (by decide +kernel) u87
      refine wk_n ?_
      refine wi_aload_n (i := 0) (x := 236) (nx := 133) (r1 := 0) (r2 := 0) (r3 := 0) rfl rfl ?_
      refine wr_V (k0 := 236) (rest := []) (as := [.ref 236]) (nx := 136) (r1 := 315) (r2 := 0) (r3 := 11) rfl rfl rfl (of_decide_eq_true rfl) rfl rfl (by decide) rfl rfl (of_decide_eq_true rfl) (of_decide_eq_true rfl) ?_
      have e90 : h87 238 98 = h55 238 98 := (u87 238 98 rfl)
      have e91 : h87 238 99 = h55 238 99 := (u87 238 99 rfl)
      have e92 : h87 238 100 = h55 238 100 := (u87 238 100 rfl)
      have e93 : h87 238 101 = h55 238 101 := (u87 238 101 rfl)
      have e94 : h87 238 102 = h55 238 102 := (u87 238 102 rfl)
      have e95 : h87 238 106 = h55 238 106 := (u87 238 106 rfl)
      have e96 : h87 238 73 = h55 238 73 := (u87 238 73 rfl)
      have e97 : h87 238 2 = h 238 2 := ((u87 238 2 rfl).trans ((u55 238 2 rfl).trans ((u53 238 2 rfl).trans ((u51 238 2 rfl).trans ((u48 238 2 rfl).trans ((u43 238 2 rfl).trans ((u41 238 2 rfl).trans ((u29 238 2 rfl).trans ((u27 238 2 rfl).trans ((u25 238 2 rfl).trans (u13 238 2 rfl)))))))))))
      have e98 : h87 238 119 = h55 238 119 := (u87 238 119 rfl)
      have e99 : h87 238 67 = h55 238 67 := (u87 238 67 rfl)
      have e100 : h87 238 69 = h55 238 69 := (u87 238 69 rfl)
      have e101 : h87 238 5 = h 238 5 := ((u87 238 5 rfl).trans ((u55 238 5 rfl).trans ((u53 238 5 rfl).trans ((u51 238 5 rfl).trans ((u48 238 5 rfl).trans ((u43 238 5 rfl).trans ((u41 238 5 rfl).trans ((u29 238 5 rfl).trans ((u27 238 5 rfl).trans ((u25 238 5 rfl).trans (u13 238 5 rfl)))))))))))
      have e102 : h87 240 98 = h 238 98 := ((y87_0 98 (by decide)).trans ((u55 257 98 rfl).trans ((u53 257 98 rfl).trans ((y51_0 98 (by decide)).trans ((u48 238 98 rfl).trans ((u43 238 98 rfl).trans ((u41 238 98 rfl).trans ((u29 238 98 rfl).trans ((u27 238 98 rfl).trans ((u25 238 98 rfl).trans (u13 238 98 rfl)))))))))))
      have e103 : h87 240 99 = h 238 99 := ((y87_0 99 (by decide)).trans ((u55 257 99 rfl).trans ((u53 257 99 rfl).trans ((y51_0 99 (by decide)).trans ((u48 238 99 rfl).trans ((u43 238 99 rfl).trans ((u41 238 99 rfl).trans ((u29 238 99 rfl).trans ((u27 238 99 rfl).trans ((u25 238 99 rfl).trans (u13 238 99 rfl)))))))))))
      have e104 : h87 240 100 = h 238 100 := ((y87_0 100 (by decide)).trans ((u55 257 100 rfl).trans ((u53 257 100 rfl).trans ((y51_0 100 (by decide)).trans ((u48 238 100 rfl).trans ((u43 238 100 rfl).trans ((u41 238 100 rfl).trans ((u29 238 100 rfl).trans ((u27 238 100 rfl).trans ((u25 238 100 rfl).trans (u13 238 100 rfl)))))))))))
      have e105 : h87 240 101 = h 238 101 := ((y87_0 101 (by decide)).trans ((u55 257 101 rfl).trans ((u53 257 101 rfl).trans ((y51_0 101 (by decide)).trans ((u48 238 101 rfl).trans ((u43 238 101 rfl).trans ((u41 238 101 rfl).trans ((u29 238 101 rfl).trans ((u27 238 101 rfl).trans ((u25 238 101 rfl).trans (u13 238 101 rfl)))))))))))
      have e106 : h87 240 102 = h 238 102 := ((y87_0 102 (by decide)).trans ((u55 257 102 rfl).trans ((u53 257 102 rfl).trans ((y51_0 102 (by decide)).trans ((u48 238 102 rfl).trans ((u43 238 102 rfl).trans ((u41 238 102 rfl).trans ((u29 238 102 rfl).trans ((u27 238 102 rfl).trans ((u25 238 102 rfl).trans (u13 238 102 rfl)))))))))))
      have e107 : h87 240 106 = h 238 106 := ((y87_0 106 (by decide)).trans ((u55 257 106 rfl).trans ((u53 257 106 rfl).trans ((y51_0 106 (by decide)).trans ((u48 238 106 rfl).trans ((u43 238 106 rfl).trans ((u41 238 106 rfl).trans ((u29 238 106 rfl).trans ((u27 238 106 rfl).trans ((u25 238 106 rfl).trans (u13 238 106 rfl)))))))))))
      have e108 : h87 240 73 = h 238 73 := ((y87_0 73 (by decide)).trans ((u55 257 73 rfl).trans ((u53 257 73 rfl).trans ((y51_0 73 (by decide)).trans ((u48 238 73 rfl).trans ((u43 238 73 rfl).trans ((u41 238 73 rfl).trans ((u29 238 73 rfl).trans ((u27 238 73 rfl).trans ((u25 238 73 rfl).trans (u13 238 73 rfl)))))))))))
      have e109 : h87 240 2 = h 238 2 := ((y87_0 2 (by decide)).trans ((u55 257 2 rfl).trans ((u53 257 2 rfl).trans ((y51_0 2 (by decide)).trans ((u48 238 2 rfl).trans ((u43 238 2 rfl).trans ((u41 238 2 rfl).trans ((u29 238 2 rfl).trans ((u27 238 2 rfl).trans ((u25 238 2 rfl).trans (u13 238 2 rfl)))))))))))
      have e110 : h87 240 119 = h 238 119 := ((y87_0 119 (by decide)).trans ((u55 257 119 rfl).trans ((u53 257 119 rfl).trans ((y51_0 119 (by decide)).trans ((u48 238 119 rfl).trans ((u43 238 119 rfl).trans ((u41 238 119 rfl).trans ((u29 238 119 rfl).trans ((u27 238 119 rfl).trans ((u25 238 119 rfl).trans (u13 238 119 rfl)))))))))))
      have e111 : h87 240 67 = h 238 67 := ((y87_0 67 (by decide)).trans ((u55 257 67 rfl).trans ((u53 257 67 rfl).trans ((y51_0 67 (by decide)).trans ((u48 238 67 rfl).trans ((u43 238 67 rfl).trans ((u41 238 67 rfl).trans ((u29 238 67 rfl).trans ((u27 238 67 rfl).trans ((u25 238 67 rfl).trans (u13 238 67 rfl)))))))))))
      have e112 : h87 240 69 = h 238 69 := ((y87_0 69 (by decide)).trans ((u55 257 69 rfl).trans ((u53 257 69 rfl).trans ((y51_0 69 (by decide)).trans ((u48 238 69 rfl).trans ((u43 238 69 rfl).trans ((u41 238 69 rfl).trans ((u29 238 69 rfl).trans ((u27 238 69 rfl).trans ((u25 238 69 rfl).trans (u13 238 69 rfl)))))))))))
      have e113 : h87 240 5 = h 238 5 := ((y87_0 5 (by decide)).trans ((u55 257 5 rfl).trans ((u53 257 5 rfl).trans ((y51_0 5 (by decide)).trans ((u48 238 5 rfl).trans ((u43 238 5 rfl).trans ((u41 238 5 rfl).trans ((u29 238 5 rfl).trans ((u27 238 5 rfl).trans ((u25 238 5 rfl).trans (u13 238 5 rfl)))))))))))
      have gs114 := GPS.fr u13 rfl xq1
      have gs115 := GPS.fr u25 rfl gs114
      have gs116 := GPS.fr u27 rfl gs115
      have gs117 := GPS.fr u29 rfl gs116
      have gs118 := GPS.fr u41 rfl gs117
      have gs119 := GPS.fr u43 rfl gs118
      have gs120 := GPS.fr u48 rfl gs119
      have gs121 := GPS.fr u51 rfl gs120
      have gs122 := GPS.fr u53 rfl gs121
      have gs123 := GPS.fr u55 rfl gs122
      have gs124 := GPS.fr u87 rfl gs123
      have gp125 := GPH.fr u13 rfl gp0
      have gp126 := GPH.fr u25 rfl gp125
      have gp127 := GPH.fr u27 rfl gp126
      have gp128 := GPH.fr u29 rfl gp127
      have gp129 := GPH.fr u41 rfl gp128
      have gp130 := GPH.fr u43 rfl gp129
      have gp131 := GPH.fr u48 rfl gp130
      have gp132 := GPH.fr u51 rfl gp131
      have gp133 := GPH.fr u53 rfl gp132
      have gp134 := GPH.fr u55 rfl gp133
      have gp135 := GPH.fr u87 rfl gp134
      refine ct_315_236 hcr  g87   (show (h87 238 98) + (h87 238 99) + (h87 238 100) + (h87 238 101) + (h87 238 102) + (h87 238 106) = (h87 238 73) by omega) (show (h87 238 73) ≤ (h87 238 2) by omega) (show (h87 238 119) ≤ (h87 238 67) by omega) (show (h87 238 69) ≤ (h87 238 5) by omega) (show (h87 238 2) ≤ 12 * (h87 238 5) by omega) (show (h87 240 98) + (h87 240 99) + (h87 240 100) + (h87 240 101) + (h87 240 102) + (h87 240 106) = (h87 240 73) by omega) (show (h87 240 73) ≤ (h87 240 2) by omega) (show (h87 240 119) ≤ (h87 240 67) by omega) (show (h87 240 69) ≤ (h87 240 5) by omega) (show (h87 240 2) ≤ 12 * (h87 240 5) by omega) gs124 (fun i _ => (((y87_0 i (by omega)).trans ((u55 257 i (fo_nk rfl)).trans ((u53 257 i (fn_a (by omega) fn_0)).trans ((y51_0 i (by omega)).trans ((u48 238 i (fn_a (by omega) fn_0)).trans ((u43 238 i (fn_a (by omega) fn_0)).trans ((u41 238 i (fn_a (by omega) fn_0)).trans ((u29 238 i (fn_a (by omega) fn_0)).trans ((u27 238 i (fn_a (by omega) fn_0)).trans ((u25 238 i (fn_a (by omega) fn_0)).trans (u13 238 i (fo_nk rfl))))))))))))).trans (((u87 238 i (fn_a (by omega) fn_0)).trans ((u55 238 i (fo_lk (m := 31) (by omega) rfl)).trans ((u53 238 i (fn_a (by omega) fn_0)).trans ((u51 238 i (fn_a (by omega) fn_0)).trans ((u48 238 i (fn_a (by omega) fn_0)).trans ((u43 238 i (fn_a (by omega) fn_0)).trans ((u41 238 i (fn_a (by omega) fn_0)).trans ((u29 238 i (fn_a (by omega) fn_0)).trans ((u27 238 i (fn_a (by omega) fn_0)).trans ((u25 238 i (fn_a (by omega) fn_0)).trans (u13 238 i (fo_nk rfl))))))))))))).symm) gp135 (fun h89 g89 u89 y89_0 y89_1 => ?_)
      have F136 := F88.then (by decide +kernel) u89
      refine wk_n ?_
      refine wi_iload_n (i := 1) (e := z68) (nx := 137) (r1 := 0) (r2 := 0) (r3 := 0) rfl rfl ?_
      refine wi_ireturn (nx := 138) (r1 := 0) (r2 := 0) (r3 := 0) rfl rfl ?_
      have e137 : h89 238 98 = h55 238 98 := ((u89 238 98 rfl).trans (u87 238 98 rfl))
      have e138 : h89 238 99 = h55 238 99 := ((u89 238 99 rfl).trans (u87 238 99 rfl))
      have e139 : h89 238 100 = h55 238 100 := ((u89 238 100 rfl).trans (u87 238 100 rfl))
      have e140 : h89 238 101 = h55 238 101 := ((u89 238 101 rfl).trans (u87 238 101 rfl))
      have e141 : h89 238 102 = h55 238 102 := ((u89 238 102 rfl).trans (u87 238 102 rfl))
      have e142 : h89 238 106 = h55 238 106 := ((u89 238 106 rfl).trans (u87 238 106 rfl))
      have e143 : h89 238 73 = h55 238 73 := ((u89 238 73 rfl).trans (u87 238 73 rfl))
      have e144 : h89 238 2 = h 238 2 := ((u89 238 2 rfl).trans ((u87 238 2 rfl).trans ((u55 238 2 rfl).trans ((u53 238 2 rfl).trans ((u51 238 2 rfl).trans ((u48 238 2 rfl).trans ((u43 238 2 rfl).trans ((u41 238 2 rfl).trans ((u29 238 2 rfl).trans ((u27 238 2 rfl).trans ((u25 238 2 rfl).trans (u13 238 2 rfl))))))))))))
      have e145 : h89 238 119 = h55 238 119 := ((u89 238 119 rfl).trans (u87 238 119 rfl))
      have e146 : h89 238 67 = h55 238 67 := ((u89 238 67 rfl).trans (u87 238 67 rfl))
      have e147 : h89 238 69 = h55 238 69 := ((u89 238 69 rfl).trans (u87 238 69 rfl))
      have e148 : h89 238 5 = h 238 5 := ((u89 238 5 rfl).trans ((u87 238 5 rfl).trans ((u55 238 5 rfl).trans ((u53 238 5 rfl).trans ((u51 238 5 rfl).trans ((u48 238 5 rfl).trans ((u43 238 5 rfl).trans ((u41 238 5 rfl).trans ((u29 238 5 rfl).trans ((u27 238 5 rfl).trans ((u25 238 5 rfl).trans (u13 238 5 rfl))))))))))))
      have e149 : h89 236 2 = h13 236 2 := ((u89 236 2 rfl).trans ((u87 236 2 rfl).trans ((u55 236 2 rfl).trans ((u53 236 2 rfl).trans ((u51 236 2 rfl).trans ((u48 236 2 rfl).trans ((u43 236 2 rfl).trans ((u41 236 2 rfl).trans ((u29 236 2 rfl).trans ((u27 236 2 rfl).trans (u25 236 2 rfl)))))))))))
      have e150 : h89 236 10 = h13 236 8 := ((u89 236 10 rfl).trans ((u87 236 10 rfl).trans ((u55 236 10 rfl).trans ((u53 236 10 rfl).trans ((u51 236 10 rfl).trans ((u48 236 10 rfl).trans ((u43 236 10 rfl).trans w41)))))))
      have e151 : h89 236 11 = h13 236 9 := ((u89 236 11 rfl).trans ((u87 236 11 rfl).trans ((u55 236 11 rfl).trans ((u53 236 11 rfl).trans ((u51 236 11 rfl).trans ((u48 236 11 rfl).trans w43))))))
      exact k h89 z68 g89 F136 (by omega) (show (h89 238 98) + (h89 238 99) + (h89 238 100) + (h89 238 101) + (h89 238 102) + (h89 238 106) = (h89 238 73) by omega) (show (h89 238 73) ≤ (h89 238 2) by omega) (show (h89 238 119) ≤ (h89 238 67) by omega) (show (h89 238 69) ≤ (h89 238 5) by omega) (show (h89 238 2) ≤ 12 * (h89 238 5) by omega) (show (h89 236 2) = 0 by omega) (show (h89 236 10) = sc_ec tB tn by omega) (show (h89 236 11) = sc_ep tB tn by omega) y89_0 y89_1
    ·
      refine wi_iload_n (i := 1) (e := z68) (nx := 120) (r1 := 0) (r2 := 0) (r3 := 0) rfl rfl ?_
      refine wi_ireturn (nx := 121) (r1 := 0) (r2 := 0) (r3 := 0) rfl rfl ?_
      have e87 : h55 236 2 = h13 236 2 := ((u55 236 2 rfl).trans ((u53 236 2 rfl).trans ((u51 236 2 rfl).trans ((u48 236 2 rfl).trans ((u43 236 2 rfl).trans ((u41 236 2 rfl).trans ((u29 236 2 rfl).trans ((u27 236 2 rfl).trans (u25 236 2 rfl)))))))))
      have e88 : h55 236 10 = h13 236 8 := ((u55 236 10 rfl).trans ((u53 236 10 rfl).trans ((u51 236 10 rfl).trans ((u48 236 10 rfl).trans ((u43 236 10 rfl).trans w41)))))
      have e89 : h55 236 11 = h13 236 9 := ((u55 236 11 rfl).trans ((u53 236 11 rfl).trans ((u51 236 11 rfl).trans ((u48 236 11 rfl).trans w43))))
      have gs90 := GPS.fr u13 rfl xq1
      have gs91 := GPS.fr u25 rfl gs90
      have gs92 := GPS.fr u27 rfl gs91
      have gs93 := GPS.fr u29 rfl gs92
      have gs94 := GPS.fr u41 rfl gs93
      have gs95 := GPS.fr u43 rfl gs94
      have gs96 := GPS.fr u48 rfl gs95
      have gs97 := GPS.fr u51 rfl gs96
      have gs98 := GPS.fr u53 rfl gs97
      have gs99 := GPS.fr u55 rfl gs98
      have gp100 := GPH.fr u13 rfl gp0
      have gp101 := GPH.fr u25 rfl gp100
      have gp102 := GPH.fr u27 rfl gp101
      have gp103 := GPH.fr u29 rfl gp102
      have gp104 := GPH.fr u41 rfl gp103
      have gp105 := GPH.fr u43 rfl gp104
      have gp106 := GPH.fr u48 rfl gp105
      have gp107 := GPH.fr u51 rfl gp106
      have gp108 := GPH.fr u53 rfl gp107
      have gp109 := GPH.fr u55 rfl gp108
      exact k h55 z68 g55 F72 (by omega) (show (h55 238 98) + (h55 238 99) + (h55 238 100) + (h55 238 101) + (h55 238 102) + (h55 238 106) = (h55 238 73) by omega) (show (h55 238 73) ≤ (h55 238 2) by omega) (show (h55 238 119) ≤ (h55 238 67) by omega) (show (h55 238 69) ≤ (h55 238 5) by omega) (show (h55 238 2) ≤ 12 * (h55 238 5) by omega) (show (h55 236 2) = 0 by omega) (show (h55 236 10) = sc_ec tB tn by omega) (show (h55 236 11) = sc_ep tB tn by omega) gs99 gp109
  ·
    have e35 : h29 236 42 = 0 := ((u29 236 42 rfl).trans ((u27 236 42 rfl).trans w25))
    have e36 : h29 236 44 = 0 := w29
    have e37 : h29 236 8 = h13 236 8 := ((u29 236 8 rfl).trans ((u27 236 8 rfl).trans (u25 236 8 rfl)))
    have e38 : h29 236 9 = h13 236 9 := ((u29 236 9 rfl).trans ((u27 236 9 rfl).trans (u25 236 9 rfl)))
    have e39 : h29 236 43 = 0 := ((u29 236 43 rfl).trans w27)
    have e40 : h29 236 4 = h13 236 4 := ((u29 236 4 rfl).trans ((u27 236 4 rfl).trans (u25 236 4 rfl)))
    have e41 : h29 236 5 = h13 236 5 := ((u29 236 5 rfl).trans ((u27 236 5 rfl).trans (u25 236 5 rfl)))
    have e42 : h29 236 6 = h13 236 6 := ((u29 236 6 rfl).trans ((u27 236 6 rfl).trans (u25 236 6 rfl)))
    have e43 : h29 236 7 = h13 236 7 := ((u29 236 7 rfl).trans ((u27 236 7 rfl).trans (u25 236 7 rfl)))
    have e44 : h29 236 12 = h13 236 12 := ((u29 236 12 rfl).trans ((u27 236 12 rfl).trans (u25 236 12 rfl)))
    have e45 : h29 236 3 = h13 236 3 := ((u29 236 3 rfl).trans ((u27 236 3 rfl).trans (u25 236 3 rfl)))
    refine wl_0 (fun h34 => GI h34 ∧ FR [(240, 240, none), (242, 242, none), (246, 246, none), (248, 248, none), (249, 249, none), (250, 250, none), (251, 251, none), (252, 252, none), (253, 253, none), (254, 254, none), (257, 257, none), (236, 236, some (0, 0)), (236, 236, some (2, 2)), (236, 236, some (3, 3)), (236, 236, some (4, 4)), (236, 236, some (5, 5)), (236, 236, some (6, 6)), (236, 236, some (7, 7)), (236, 236, some (8, 8)), (236, 236, some (9, 9)), (236, 236, some (10, 10)), (236, 236, some (11, 11)), (236, 236, some (12, 12)), (236, 236, some (22, 22)), (236, 236, some (28, 28)), (236, 236, some (32, 32)), (236, 236, some (42, 42)), (236, 236, some (43, 43)), (236, 236, some (44, 44)), (236, 236, some (45, 45)), (238, 238, some (31, 53)), (238, 238, some (43, 54)), (238, 238, some (55, 66)), (238, 238, some (67, 67)), (238, 238, some (68, 68)), (238, 238, some (69, 69)), (238, 238, some (70, 70)), (238, 238, some (71, 71)), (238, 238, some (72, 72)), (238, 238, some (73, 73)), (238, 238, some (74, 79)), (238, 238, some (80, 85)), (238, 238, some (86, 91)), (238, 238, some (92, 97)), (238, 238, some (98, 98)), (238, 238, some (99, 99)), (238, 238, some (100, 100)), (238, 238, some (101, 101)), (238, 238, some (102, 102)), (238, 238, some (103, 105)), (238, 238, some (106, 106)), (238, 238, some (107, 118)), (238, 238, some (119, 119)), (238, 238, some (120, 196)), (238, 238, some (121, 197)), (238, 238, some (122, 198)), (238, 238, some (123, 199)), (247, 247, some (0, 0)), (247, 247, some (1, 1)), (247, 247, some (2, 2)), (247, 247, some (3, 3)), (255, 255, some (0, 0)), (255, 255, some (1, 1)), (256, 256, some (0, 0)), (256, 256, some (1, 1))] h h34 ∧ FR [(253, 253, none), (254, 254, none), (236, 236, some (4, 4)), (236, 236, some (5, 5)), (236, 236, some (6, 6)), (236, 236, some (7, 7)), (236, 236, some (8, 8)), (236, 236, some (9, 9)), (236, 236, some (12, 12)), (236, 236, some (42, 42)), (236, 236, some (43, 43)), (236, 236, some (44, 44))] h29 h34 ∧ (((h34 236 4) ≤ (h34 236 3)) ∧ ((h34 236 8) = 0) ∧ ((h34 236 6) ≠ 0) ∧ ((h34 236 42) + (h34 236 44) ≤ 2 * (h34 236 43))) ∧ (WP (h34 253) (h34 236 42) (h34 236 44)) ∧ SCI tB tn h34) (fun h34 => ((h34 236 3) - (h34 236 4)).toNat) (fun h34 => (33, [(0, .ref 236)], [], hp_w h34 cr, b, c)) ?_ h29 ⟨g29, F30, FR.refl, (show ((h29 236 4) ≤ (h29 236 3)) ∧ ((h29 236 8) = 0) ∧ ((h29 236 6) ≠ 0) ∧ ((h29 236 42) + (h29 236 44) ≤ 2 * (h29 236 43)) by omega), (by rw [show h29 236 42 = 0 by omega, show h29 236 44 = 0 by omega]; exact WP.zero), (SCI.mk 801 0 (by omega) (by omega) (by omega) (by omega) (by omega) (by first | assumption | exact tk_mv (by assumption) (by omega) (by omega) (by omega) (by omega) (by omega)) (by rw [show h29 236 44 = 0 by omega, show h29 236 43 = 0 by omega]; rfl))⟩
    intro h34 ⟨g34, F46, u34, f34, X34_0, X34_1⟩ I34
    have e47 : h34 236 3 = h13 236 3 := ((u34 236 3 rfl).trans ((u29 236 3 rfl).trans ((u27 236 3 rfl).trans (u25 236 3 rfl))))
    have b48 := gi_b (lo := 0) (hi := 800) g34 236 4 rfl
    have b49 := gi_b (lo := 0) (hi := 5) g34 236 8 rfl
    have b50 := gi_b (lo := 0) (hi := 4) g34 236 6 rfl
    have b51 := gi_b (lo := 0) (hi := 80) g34 236 42 rfl
    have b52 := gi_b (lo := 0) (hi := 2) g34 236 44 rfl
    have b53 := gi_b (lo := 0) (hi := 40) g34 236 43 rfl
    have b54 := gi_b (lo := 0) (hi := 800) g34 236 5 rfl
    have b55 := gi_b (lo := 0) (hi := 999) g34 236 7 rfl
    have b56 := gi_b (lo := -9223372036854775808) (hi := 9223372036854775807) g34 236 12 rfl
    have b57 := gi_b (lo := -2147483648) (hi := 2147483647) g34 236 9 rfl
    obtain ⟨e9s58, ks58, ps58, pas58, pbs58, pcs58, tks58, frs58⟩ := SCI.go X34_1 (by omega) (by omega)
    obtain ⟨tas58, tbs58, tcs58⟩ := id tks58
    have tN59 := @tk_nx_b tB tn ps58 (by omega) (by omega)
    refine wi_aload_n (i := 0) (x := 236) (nx := 34) (r1 := 0) (r2 := 0) (r3 := 0) rfl rfl ?_
    refine wr_gi0 (k0 := 236) (x := h34 236 44) (nx := 37) (r1 := 11) (r2 := 44) (r3 := 0) rfl rfl (by decide) rfl ⟨rfl, rfl⟩ rfl rfl ?_
    refine wi_istore_n (i := 1) (e := h34 236 44) (lo2 := [(1, vi (h34 236 44)), (0, .ref 236)]) (nx := 38) (r1 := 0) (r2 := 0) (r3 := 0) rfl rfl ?_
    refine wi_aload_n (i := 0) (x := 236) (nx := 39) (r1 := 0) (r2 := 0) (r3 := 0) rfl rfl ?_
    refine wr_V (k0 := 236) (rest := []) (as := [.ref 236]) (nx := 42) (r1 := 335) (r2 := 0) (r3 := 11) rfl rfl rfl (of_decide_eq_true rfl) rfl rfl (by decide) rfl rfl (of_decide_eq_true rfl) (of_decide_eq_true rfl) ?_
    have q61 : h34 253 = h34 253 := funext (fun i => rfl)
    have rb62 := RefB.fr u25 rfl y13_0
    have rb63 := RefB.fr u27 rfl rb62
    have rb64 := RefB.fr u29 rfl rb63
    have rb65 := RefB.fr u34 rfl rb64
    refine ct_335_236 hcr  g34   (show (h34 236 4) ≤ (h34 236 3) by omega) (show (h34 236 8) = 0 by omega) (show (h34 236 6) ≠ 0 by omega) (show (h34 236 42) + (h34 236 44) ≤ 2 * (h34 236 43) by omega) (show 0 ≤ ps58 by omega) (show ps58 ≤ tn by omega) (show ps58 ≤ tk_nx tB tn ps58 ∧ tk_nx tB tn ps58 ≤ tn by omega) (show ((h34 236 4) = tk_nx tB tn ps58 ∧ (h34 236 5) = tk_st tB tn ps58 ∧ ((tk_kd tB tn ps58 = 0 ∧ (h34 236 6) = 0) ∨ (tk_kd tB tn ps58 = 1 ∧ (h34 236 6) = 1 ∧ (h34 236 12) = tk_sw tB tn ps58) ∨ (tk_kd tB tn ps58 = 2 ∧ (h34 236 6) = 2 ∧ (h34 236 7) = tk_nb tB tn ps58) ∨ (tk_kd tB tn ps58 = 3 ∧ (h34 236 6) = 3 ∧ (h34 236 7) = 59) ∨ (tk_kd tB tn ps58 = 4 ∧ (h34 236 6) = 3 ∧ (h34 236 7) = 40) ∨ (tk_kd tB tn ps58 = 5 ∧ (h34 236 6) = 3 ∧ (h34 236 7) = 41) ∨ (tk_kd tB tn ps58 = 6 ∧ (h34 236 6) = 4))) by first | assumption | exact tk_mv (by assumption) (by omega) (by omega) (by omega) (by omega) (by omega)) (show (h34 236 9) = -1 by omega) (by rw [q61, show h34 236 42 = h34 236 42 by omega, show h34 236 44 = h34 236 44 by omega]; exact X34_0) rb65 (fun h60 g60 u60 (p60_0 : (1 ≤ (h60 236 8)) ∨ ((h60 236 8) = 0 ∧ (h60 236 44) = (h34 236 44) + 1) ∨ ((h60 236 8) = 0 ∧ (h60 236 44) = (h34 236 44))) (p60_1 : (h60 236 8) ≠ 0 ∨ (h60 236 9) = -1) (p60_2 : (h34 236 4) ≤ (h60 236 4)) (p60_3 : (h60 236 4) ≤ (h34 236 3)) (p60_4 : 1 ≤ (h60 236 8) ∨ (h60 236 6) = 0 ∨ (h34 236 4) + 1 ≤ (h60 236 4)) (p60_5 : 1 ≤ (h60 236 8) ∨ (h60 236 42) + (h60 236 44) ≤ 2 * (h60 236 43)) y60_0 y60_1 => ?_)
    have F66 := F46.then (by decide +kernel) u60
    have F67 := u34.then (by decide +kernel) u60
    have b68 := gi_b (lo := 0) (hi := 5) g60 236 8 rfl
    have b69 := gi_b (lo := 0) (hi := 2) g60 236 44 rfl
    have b70 := gi_b (lo := -2147483648) (hi := 2147483647) g60 236 9 rfl
    have b71 := gi_b (lo := 0) (hi := 800) g60 236 4 rfl
    have b72 := gi_b (lo := 0) (hi := 4) g60 236 6 rfl
    have b73 := gi_b (lo := 0) (hi := 80) g60 236 42 rfl
    have b74 := gi_b (lo := 0) (hi := 40) g60 236 43 rfl
    refine wk_n ?_
    rcases p60_0 with p60_0 | p60_0 | p60_0
    ·
      have eqq75 := sc_OM1 y60_1 (by omega)
      refine wi_aload_n (i := 0) (x := 236) (nx := 43) (r1 := 0) (r2 := 0) (r3 := 0) rfl rfl ?_
      refine wr_gi0 (k0 := 236) (x := h60 236 44) (nx := 46) (r1 := 11) (r2 := 44) (r3 := 0) rfl rfl (by decide) rfl ⟨rfl, rfl⟩ rfl rfl ?_
      refine wi_iload_n (i := 1) (e := h34 236 44) (nx := 47) (r1 := 0) (r2 := 0) (r3 := 0) rfl rfl ?_
      refine wi_icmp (cd := .ne) (nx := 50) (r1 := 56) (r2 := 0) (r3 := 0) rfl (by omega) (by omega) (fun (q76 : (h60 236 44) ≠ (h34 236 44)) => ?_) (fun (q76 : ¬ ((h60 236 44) ≠ (h34 236 44))) => ?_)
      ·
        refine wi_aload_n (i := 0) (x := 236) (nx := 57) (r1 := 0) (r2 := 0) (r3 := 0) rfl rfl ?_
        refine wr_V (k0 := 236) (rest := []) (as := [.ref 236]) (nx := 60) (r1 := 338) (r2 := 0) (r3 := 11) rfl rfl rfl (of_decide_eq_true rfl) rfl rfl (by decide) rfl rfl (of_decide_eq_true rfl) (of_decide_eq_true rfl) ?_
        have e78 : h60 236 3 = h13 236 3 := ((u60 236 3 rfl).trans ((u34 236 3 rfl).trans ((u29 236 3 rfl).trans ((u27 236 3 rfl).trans (u25 236 3 rfl)))))
        have q79 : h60 253 = h60 253 := funext (fun i => rfl)
        have rb80 := RefB.fr u60 rfl rb65
        refine ct_338_236 hcr  g60   (show (h60 236 4) ≤ (h60 236 3) by omega) (show 1 ≤ (h60 236 8) ∨ (h60 236 42) + (h60 236 44) ≤ 2 * (h60 236 43) by omega) (fun e => by rw [q79, show h60 236 42 = h60 236 42 by omega, show h60 236 44 = h60 236 44 by omega]; exact y60_0 (by omega)) rb80 (SCI.er rfl rfl (by omega) (frs58.symm.trans (sc_m1 (by omega) (by omega) (by rw [eqq75]; exact sc_inl (by omega) (by omega))))) (fun h77 g77 u77 (p77_0 : (h60 236 4) ≤ (h77 236 4)) (p77_1 : (h77 236 4) ≤ (h60 236 3)) (p77_2 : 1 ≤ (h77 236 8) ∨ (h60 236 8) = 0) (p77_3 : (h60 236 6) ≠ 0 ∨ (h77 236 6) = 0) (p77_4 : 1 ≤ (h77 236 8) ∨ (h77 236 42) + (h77 236 44) ≤ 2 * (h77 236 43)) y77_0 y77_1 => ?_)
        have F81 := F66.then (by decide +kernel) u77
        have F82 := F67.then (by decide +kernel) u77
        have b83 := gi_b (lo := 0) (hi := 800) g77 236 4 rfl
        have b84 := gi_b (lo := 0) (hi := 5) g77 236 8 rfl
        have b85 := gi_b (lo := 0) (hi := 4) g77 236 6 rfl
        have b86 := gi_b (lo := 0) (hi := 80) g77 236 42 rfl
        have b87 := gi_b (lo := 0) (hi := 2) g77 236 44 rfl
        have e88 : h77 236 43 = h60 236 43 := (u77 236 43 rfl)
        refine wk_n ?_
        refine wi_goto (nx := 63) (r1 := 19) (r2 := 0) (r3 := 0) rfl ?_
        refine wi_aload_n (i := 0) (x := 236) (nx := 20) (r1 := 0) (r2 := 0) (r3 := 0) rfl rfl ?_
        refine wr_V (k0 := 236) (rest := []) (as := [.ref 236]) (nx := 23) (r1 := 219) (r2 := 0) (r3 := 11) rfl rfl rfl (of_decide_eq_true rfl) rfl rfl (by decide) rfl rfl (of_decide_eq_true rfl) (of_decide_eq_true rfl) ?_
        refine wi_aload_n (i := 0) (x := 236) (nx := 1) (r1 := 0) (r2 := 0) (r3 := 0) rfl rfl ?_
        refine wr_gi0 (k0 := 236) (x := h77 236 8) (nx := 4) (r1 := 11) (r2 := 8) (r3 := 0) rfl rfl (by decide) rfl ⟨rfl, rfl⟩ rfl rfl ?_
        refine wi_if (cd := .ne) (nx := 7) (r1 := 11) (r2 := 0) (r3 := 0) rfl (by omega) (fun (q89 : (h77 236 8) ≠ 0) => ?_) (fun (q89 : ¬ ((h77 236 8) ≠ 0)) => by exfalso; omega)
        refine wi_iconst (n := 0) (nx := 12) (r1 := 0) (r2 := 0) (r3 := 0) rfl ?_
        refine wi_zreturn (nx := 13) (r1 := 0) (r2 := 0) (r3 := 0) rfl rfl (by omega) ?_
        refine wk_i ?_
        refine wi_if (cd := .eq) (nx := 26) (r1 := 63) (r2 := 0) (r3 := 0) rfl (by omega) (fun (q90 : 0 = 0) => ?_) (fun (q90 : ¬ (0 = 0)) => by exfalso; omega)
        refine wi_aload_n (i := 0) (x := 236) (nx := 64) (r1 := 0) (r2 := 0) (r3 := 0) rfl rfl ?_
        refine wr_V (k0 := 236) (rest := []) (as := [.ref 236]) (nx := 67) (r1 := 219) (r2 := 0) (r3 := 11) rfl rfl rfl (of_decide_eq_true rfl) rfl rfl (by decide) rfl rfl (of_decide_eq_true rfl) (of_decide_eq_true rfl) ?_
        refine wi_aload_n (i := 0) (x := 236) (nx := 1) (r1 := 0) (r2 := 0) (r3 := 0) rfl rfl ?_
        refine wr_gi0 (k0 := 236) (x := h77 236 8) (nx := 4) (r1 := 11) (r2 := 8) (r3 := 0) rfl rfl (by decide) rfl ⟨rfl, rfl⟩ rfl rfl ?_
        refine wi_if (cd := .ne) (nx := 7) (r1 := 11) (r2 := 0) (r3 := 0) rfl (by omega) (fun (q91 : (h77 236 8) ≠ 0) => ?_) (fun (q91 : ¬ ((h77 236 8) ≠ 0)) => by exfalso; omega)
        refine wi_iconst (n := 0) (nx := 12) (r1 := 0) (r2 := 0) (r3 := 0) rfl ?_
        refine wi_zreturn (nx := 13) (r1 := 0) (r2 := 0) (r3 := 0) rfl rfl (by omega) ?_
        refine wk_i ?_
        refine wi_if (cd := .eq) (nx := 70) (r1 := 82) (r2 := 0) (r3 := 0) rfl (by omega) (fun (q92 : 0 = 0) => ?_) (fun (q92 : ¬ (0 = 0)) => by exfalso; omega)
        have b94 := gi_b (lo := -2147483648) (hi := 2147483647) g77 236 9 rfl
        have RE93 := sc_REq (SCI.bad y77_1 (by omega))
        refine wi_aload_n (i := 0) (x := 236) (nx := 83) (r1 := 0) (r2 := 0) (r3 := 0) rfl rfl ?_
        refine wr_V (k0 := 236) (rest := []) (as := [.ref 236]) (nx := 86) (r1 := 237) (r2 := 0) (r3 := 11) rfl rfl rfl (of_decide_eq_true rfl) rfl rfl (by decide) rfl rfl (of_decide_eq_true rfl) (of_decide_eq_true rfl) ?_
        refine wi_aload_n (i := 0) (x := 236) (nx := 1) (r1 := 0) (r2 := 0) (r3 := 0) rfl rfl ?_
        refine wi_aload_n (i := 0) (x := 236) (nx := 2) (r1 := 0) (r2 := 0) (r3 := 0) rfl rfl ?_
        refine wr_gi0 (k0 := 236) (x := h77 236 8) (nx := 5) (r1 := 11) (r2 := 8) (r3 := 0) rfl rfl (by decide) rfl ⟨rfl, rfl⟩ rfl rfl ?_
        refine wr_pf0 (k0 := 236) (x := h77 236 8) (bl := -2147483648) (bh := 2147483647) (nx := 8) (r1 := 11) (r2 := 10) (r3 := 0) rfl (by decide) rfl ⟨rfl, rfl⟩ rfl rfl g77 rfl (by omega) (fun h95 g95 w95 u95 => ?_)
        have F96 := F81.then rfl u95
        refine wi_aload_n (i := 0) (x := 236) (nx := 9) (r1 := 0) (r2 := 0) (r3 := 0) rfl rfl ?_
        refine wi_aload_n (i := 0) (x := 236) (nx := 10) (r1 := 0) (r2 := 0) (r3 := 0) rfl rfl ?_
        refine wr_gi0 (k0 := 236) (x := h77 236 9) (nx := 13) (r1 := 11) (r2 := 9) (r3 := 0) rfl rfl (by decide) rfl ⟨rfl, rfl⟩ rfl (u95 236 9 rfl) ?_
        refine wr_pf0 (k0 := 236) (x := h77 236 9) (bl := -2147483648) (bh := 2147483647) (nx := 16) (r1 := 11) (r2 := 11) (r3 := 0) rfl (by decide) rfl ⟨rfl, rfl⟩ rfl rfl g95 rfl (by omega) (fun h97 g97 w97 u97 => ?_)
        have F98 := F96.then rfl u97
        refine wi_aload_n (i := 0) (x := 236) (nx := 17) (r1 := 0) (r2 := 0) (r3 := 0) rfl rfl ?_
        refine wi_aload_n (i := 0) (x := 236) (nx := 18) (r1 := 0) (r2 := 0) (r3 := 0) rfl rfl ?_
        refine wr_gi0 (k0 := 236) (x := h77 236 8) (nx := 21) (r1 := 11) (r2 := 8) (r3 := 0) rfl rfl (by decide) rfl ⟨rfl, rfl⟩ rfl ((u97 236 8 rfl).trans (u95 236 8 rfl)) ?_
        refine wi_if (cd := .ne) (nx := 24) (r1 := 28) (r2 := 0) (r3 := 0) rfl (by omega) (fun (q99 : (h77 236 8) ≠ 0) => ?_) (fun (q99 : ¬ ((h77 236 8) ≠ 0)) => by exfalso; omega)
        refine wi_iconst (n := 0) (nx := 29) (r1 := 0) (r2 := 0) (r3 := 0) rfl ?_
        refine wr_V (k0 := 236) (rest := []) (as := [.ref 236, vi 0]) (nx := 32) (r1 := 206) (r2 := 1) (r3 := 11) rfl rfl rfl (of_decide_eq_true rfl) rfl rfl (by decide) rfl rfl (of_decide_eq_true rfl) (of_decide_eq_true rfl) ?_
        refine wi_aload_n (i := 0) (x := 236) (nx := 1) (r1 := 0) (r2 := 0) (r3 := 0) rfl rfl ?_
        refine wi_iload_n (i := 1) (e := 0) (nx := 2) (r1 := 0) (r2 := 0) (r3 := 0) rfl rfl ?_
        refine wi_if (cd := .ne) (nx := 5) (r1 := 9) (r2 := 0) (r3 := 0) rfl (by omega) (fun (q100 : 0 ≠ 0) => by exfalso; omega) (fun (q100 : ¬ (0 ≠ 0)) => ?_)
        refine wi_iconst (n := 1) (nx := 6) (r1 := 0) (r2 := 0) (r3 := 0) rfl ?_
        refine wi_goto (nx := 9) (r1 := 10) (r2 := 0) (r3 := 0) rfl ?_
        refine wi_S (rest := [.ref 236]) (as := [vi 1]) (nx := 13) (r1 := 207) (r2 := 17) (r3 := 0) rfl rfl rfl (of_decide_eq_true rfl) rfl rfl (of_decide_eq_true rfl) (of_decide_eq_true rfl) ?_
        refine wi_iload_n (i := 0) (e := 1) (nx := 1) (r1 := 0) (r2 := 0) (r3 := 0) rfl rfl ?_
        refine wi_if (cd := .eq) (nx := 4) (r1 := 8) (r2 := 0) (r3 := 0) rfl (by omega) (fun (q101 : 1 = 0) => by exfalso; omega) (fun (q101 : ¬ (1 = 0)) => ?_)
        refine wi_iconst (n := 1) (nx := 5) (r1 := 0) (r2 := 0) (r3 := 0) rfl ?_
        refine wi_goto (nx := 8) (r1 := 9) (r2 := 0) (r3 := 0) rfl ?_
        refine wi_ireturn (nx := 10) (r1 := 0) (r2 := 0) (r3 := 0) rfl rfl ?_
        refine wk_i ?_
        refine wr_pf0 (k0 := 236) (x := 1) (bl := 0) (bh := 2) (nx := 16) (r1 := 11) (r2 := 0) (r3 := 0) rfl (by decide) rfl ⟨rfl, rfl⟩ rfl rfl g97 rfl (by omega) (fun h102 g102 w102 u102 => ?_)
        have F103 := F98.then rfl u102
        refine wi_iload_n (i := 1) (e := 0) (nx := 17) (r1 := 0) (r2 := 0) (r3 := 0) rfl rfl ?_
        refine wi_zreturn (nx := 18) (r1 := 0) (r2 := 0) (r3 := 0) rfl rfl (by omega) ?_
        refine wk_i ?_
        refine wi_zreturn (nx := 33) (r1 := 0) (r2 := 0) (r3 := 0) rfl rfl (by omega) ?_
        refine wk_i ?_
        refine wi_if (cd := .ne) (nx := 89) (r1 := 91) (r2 := 0) (r3 := 0) rfl (by omega) (fun (q104 : 0 ≠ 0) => by exfalso; omega) (fun (q104 : ¬ (0 ≠ 0)) => ?_)
        refine wi_iconst (n := 0) (nx := 90) (r1 := 0) (r2 := 0) (r3 := 0) rfl ?_
        refine wi_ireturn (nx := 91) (r1 := 0) (r2 := 0) (r3 := 0) rfl rfl ?_
        have e105 : h102 238 98 = h 238 98 := ((u102 238 98 rfl).trans ((u97 238 98 rfl).trans ((u95 238 98 rfl).trans ((u77 238 98 rfl).trans ((u60 238 98 rfl).trans ((u34 238 98 rfl).trans ((u29 238 98 rfl).trans ((u27 238 98 rfl).trans ((u25 238 98 rfl).trans (u13 238 98 rfl))))))))))
        have e106 : h102 238 99 = h 238 99 := ((u102 238 99 rfl).trans ((u97 238 99 rfl).trans ((u95 238 99 rfl).trans ((u77 238 99 rfl).trans ((u60 238 99 rfl).trans ((u34 238 99 rfl).trans ((u29 238 99 rfl).trans ((u27 238 99 rfl).trans ((u25 238 99 rfl).trans (u13 238 99 rfl))))))))))
        have e107 : h102 238 100 = h 238 100 := ((u102 238 100 rfl).trans ((u97 238 100 rfl).trans ((u95 238 100 rfl).trans ((u77 238 100 rfl).trans ((u60 238 100 rfl).trans ((u34 238 100 rfl).trans ((u29 238 100 rfl).trans ((u27 238 100 rfl).trans ((u25 238 100 rfl).trans (u13 238 100 rfl))))))))))
        have e108 : h102 238 101 = h 238 101 := ((u102 238 101 rfl).trans ((u97 238 101 rfl).trans ((u95 238 101 rfl).trans ((u77 238 101 rfl).trans ((u60 238 101 rfl).trans ((u34 238 101 rfl).trans ((u29 238 101 rfl).trans ((u27 238 101 rfl).trans ((u25 238 101 rfl).trans (u13 238 101 rfl))))))))))
        have e109 : h102 238 102 = h 238 102 := ((u102 238 102 rfl).trans ((u97 238 102 rfl).trans ((u95 238 102 rfl).trans ((u77 238 102 rfl).trans ((u60 238 102 rfl).trans ((u34 238 102 rfl).trans ((u29 238 102 rfl).trans ((u27 238 102 rfl).trans ((u25 238 102 rfl).trans (u13 238 102 rfl))))))))))
        have e110 : h102 238 106 = h 238 106 := ((u102 238 106 rfl).trans ((u97 238 106 rfl).trans ((u95 238 106 rfl).trans ((u77 238 106 rfl).trans ((u60 238 106 rfl).trans ((u34 238 106 rfl).trans ((u29 238 106 rfl).trans ((u27 238 106 rfl).trans ((u25 238 106 rfl).trans (u13 238 106 rfl))))))))))
        have e111 : h102 238 73 = h 238 73 := ((u102 238 73 rfl).trans ((u97 238 73 rfl).trans ((u95 238 73 rfl).trans ((u77 238 73 rfl).trans ((u60 238 73 rfl).trans ((u34 238 73 rfl).trans ((u29 238 73 rfl).trans ((u27 238 73 rfl).trans ((u25 238 73 rfl).trans (u13 238 73 rfl))))))))))
        have e112 : h102 238 2 = h 238 2 := ((u102 238 2 rfl).trans ((u97 238 2 rfl).trans ((u95 238 2 rfl).trans ((u77 238 2 rfl).trans ((u60 238 2 rfl).trans ((u34 238 2 rfl).trans ((u29 238 2 rfl).trans ((u27 238 2 rfl).trans ((u25 238 2 rfl).trans (u13 238 2 rfl))))))))))
        have e113 : h102 238 119 = h 238 119 := ((u102 238 119 rfl).trans ((u97 238 119 rfl).trans ((u95 238 119 rfl).trans ((u77 238 119 rfl).trans ((u60 238 119 rfl).trans ((u34 238 119 rfl).trans ((u29 238 119 rfl).trans ((u27 238 119 rfl).trans ((u25 238 119 rfl).trans (u13 238 119 rfl))))))))))
        have e114 : h102 238 67 = h 238 67 := ((u102 238 67 rfl).trans ((u97 238 67 rfl).trans ((u95 238 67 rfl).trans ((u77 238 67 rfl).trans ((u60 238 67 rfl).trans ((u34 238 67 rfl).trans ((u29 238 67 rfl).trans ((u27 238 67 rfl).trans ((u25 238 67 rfl).trans (u13 238 67 rfl))))))))))
        have e115 : h102 238 69 = h 238 69 := ((u102 238 69 rfl).trans ((u97 238 69 rfl).trans ((u95 238 69 rfl).trans ((u77 238 69 rfl).trans ((u60 238 69 rfl).trans ((u34 238 69 rfl).trans ((u29 238 69 rfl).trans ((u27 238 69 rfl).trans ((u25 238 69 rfl).trans (u13 238 69 rfl))))))))))
        have e116 : h102 238 5 = h 238 5 := ((u102 238 5 rfl).trans ((u97 238 5 rfl).trans ((u95 238 5 rfl).trans ((u77 238 5 rfl).trans ((u60 238 5 rfl).trans ((u34 238 5 rfl).trans ((u29 238 5 rfl).trans ((u27 238 5 rfl).trans ((u25 238 5 rfl).trans (u13 238 5 rfl))))))))))
        have e117 : h102 236 2 = h13 236 2 := ((u102 236 2 rfl).trans ((u97 236 2 rfl).trans ((u95 236 2 rfl).trans ((u77 236 2 rfl).trans ((u60 236 2 rfl).trans ((u34 236 2 rfl).trans ((u29 236 2 rfl).trans ((u27 236 2 rfl).trans (u25 236 2 rfl)))))))))
        have e118 : h102 236 10 = h77 236 8 := ((u102 236 10 rfl).trans ((u97 236 10 rfl).trans w95))
        have e119 : h102 236 11 = h77 236 9 := ((u102 236 11 rfl).trans w97)
        have gs120 := GPS.fr u13 rfl xq1
        have gs121 := GPS.fr u25 rfl gs120
        have gs122 := GPS.fr u27 rfl gs121
        have gs123 := GPS.fr u29 rfl gs122
        have gs124 := GPS.fr u34 rfl gs123
        have gs125 := GPS.fr u60 rfl gs124
        have gs126 := GPS.fr u77 rfl gs125
        have gs127 := GPS.fr u95 rfl gs126
        have gs128 := GPS.fr u97 rfl gs127
        have gs129 := GPS.fr u102 rfl gs128
        have gp130 := GPH.fr u13 rfl gp0
        have gp131 := GPH.fr u25 rfl gp130
        have gp132 := GPH.fr u27 rfl gp131
        have gp133 := GPH.fr u29 rfl gp132
        have gp134 := GPH.fr u34 rfl gp133
        have gp135 := GPH.fr u60 rfl gp134
        have gp136 := GPH.fr u77 rfl gp135
        have gp137 := GPH.fr u95 rfl gp136
        have gp138 := GPH.fr u97 rfl gp137
        have gp139 := GPH.fr u102 rfl gp138
        exact k h102 0 g102 F103 (by omega) (show (h102 238 98) + (h102 238 99) + (h102 238 100) + (h102 238 101) + (h102 238 102) + (h102 238 106) = (h102 238 73) by omega) (show (h102 238 73) ≤ (h102 238 2) by omega) (show (h102 238 119) ≤ (h102 238 67) by omega) (show (h102 238 69) ≤ (h102 238 5) by omega) (show (h102 238 2) ≤ 12 * (h102 238 5) by omega) (show (h102 236 2) = 0 by omega) (show (h102 236 10) = sc_ec tB tn by omega) (show (h102 236 11) = sc_ep tB tn by omega) gs129 gp139
      ·
        refine wi_aload_n (i := 0) (x := 236) (nx := 51) (r1 := 0) (r2 := 0) (r3 := 0) rfl rfl ?_
        refine wi_bipush (n := 59) (nx := 53) (r1 := 0) (r2 := 0) (r3 := 0) rfl (by decide) ?_
        refine wr_V (k0 := 236) (rest := []) (as := [.ref 236, vi 59]) (nx := 56) (r1 := 235) (r2 := 1) (r3 := 11) rfl rfl rfl (of_decide_eq_true rfl) rfl rfl (by decide) rfl rfl (of_decide_eq_true rfl) (of_decide_eq_true rfl) ?_
        have e78 : h60 236 3 = h13 236 3 := ((u60 236 3 rfl).trans ((u34 236 3 rfl).trans ((u29 236 3 rfl).trans ((u27 236 3 rfl).trans (u25 236 3 rfl)))))
        have b79 := gi_b (lo := 0) (hi := 800) g60 236 5 rfl
        have b80 := gi_b (lo := -9223372036854775808) (hi := 9223372036854775807) g60 236 12 rfl
        have b81 := gi_b (lo := 0) (hi := 999) g60 236 7 rfl
        have rb82 := RefB.fr u60 rfl rb65
        refine ct_235_236_L59 hcr  g60   (show (h60 236 4) ≤ (h60 236 3) by omega) (show 0 ≤ ps58 by omega) (show ps58 ≤ tn by omega) (show ps58 ≤ tk_nx tB tn ps58 ∧ tk_nx tB tn ps58 ≤ tn by omega) (show 1 ≤ (h60 236 8) ∨ ((h60 236 4) = tk_nx tB tn ps58 ∧ (h60 236 5) = tk_st tB tn ps58 ∧ ((tk_kd tB tn ps58 = 0 ∧ (h60 236 6) = 0) ∨ (tk_kd tB tn ps58 = 1 ∧ (h60 236 6) = 1 ∧ (h60 236 12) = tk_sw tB tn ps58) ∨ (tk_kd tB tn ps58 = 2 ∧ (h60 236 6) = 2 ∧ (h60 236 7) = tk_nb tB tn ps58) ∨ (tk_kd tB tn ps58 = 3 ∧ (h60 236 6) = 3 ∧ (h60 236 7) = 59) ∨ (tk_kd tB tn ps58 = 4 ∧ (h60 236 6) = 3 ∧ (h60 236 7) = 40) ∨ (tk_kd tB tn ps58 = 5 ∧ (h60 236 6) = 3 ∧ (h60 236 7) = 41) ∨ (tk_kd tB tn ps58 = 6 ∧ (h60 236 6) = 4))) from (Or.inl (by omega))) rb82 (fun h77 g77 u77 (p77_0 : (1 ≤ (h60 236 8) ∧ (h77 236 8) = (h60 236 8) ∧ (h77 236 9) = (h60 236 9)) ∨ ((h60 236 8) = 0 ∧ tk_kd tB tn ps58 = 3 ∧ (h77 236 8) = (h60 236 8) ∧ (h77 236 9) = (h60 236 9) ∧ ((h77 236 4) = tk_nx tB tn (tk_nx tB tn ps58) ∧ (h77 236 5) = tk_st tB tn (tk_nx tB tn ps58) ∧ ((tk_kd tB tn (tk_nx tB tn ps58) = 0 ∧ (h77 236 6) = 0) ∨ (tk_kd tB tn (tk_nx tB tn ps58) = 1 ∧ (h77 236 6) = 1 ∧ (h77 236 12) = tk_sw tB tn (tk_nx tB tn ps58)) ∨ (tk_kd tB tn (tk_nx tB tn ps58) = 2 ∧ (h77 236 6) = 2 ∧ (h77 236 7) = tk_nb tB tn (tk_nx tB tn ps58)) ∨ (tk_kd tB tn (tk_nx tB tn ps58) = 3 ∧ (h77 236 6) = 3 ∧ (h77 236 7) = 59) ∨ (tk_kd tB tn (tk_nx tB tn ps58) = 4 ∧ (h77 236 6) = 3 ∧ (h77 236 7) = 40) ∨ (tk_kd tB tn (tk_nx tB tn ps58) = 5 ∧ (h77 236 6) = 3 ∧ (h77 236 7) = 41) ∨ (tk_kd tB tn (tk_nx tB tn ps58) = 6 ∧ (h77 236 6) = 4)))) ∨ ((h60 236 8) = 0 ∧ tk_kd tB tn ps58 ≠ 3 ∧ (h77 236 8) = 1 ∧ (h77 236 9) = tk_st tB tn ps58)) (p77_1 : (h60 236 4) ≤ (h77 236 4)) (p77_2 : (h77 236 4) ≤ (h60 236 3)) (p77_3 : 1 ≤ (h77 236 8) ∨ (h60 236 8) = 0) (p77_4 : 1 ≤ (h77 236 8) ∨ (h77 236 6) = 0 ∨ (h60 236 4) + 1 ≤ (h77 236 4)) => ?_)
        have F83 := F66.then (by decide +kernel) u77
        have F84 := F67.then (by decide +kernel) u77
        have b85 := gi_b (lo := 0) (hi := 5) g77 236 8 rfl
        have b86 := gi_b (lo := -2147483648) (hi := 2147483647) g77 236 9 rfl
        have b87 := gi_b (lo := 0) (hi := 800) g77 236 4 rfl
        have b88 := gi_b (lo := 0) (hi := 800) g77 236 5 rfl
        have b89 := gi_b (lo := 0) (hi := 4) g77 236 6 rfl
        have b90 := gi_b (lo := -9223372036854775808) (hi := 9223372036854775807) g77 236 12 rfl
        have b91 := gi_b (lo := 0) (hi := 999) g77 236 7 rfl
        refine wk_n ?_
        rcases p77_0 with p77_0 | p77_0 | p77_0
        ·
          refine wi_aload_n (i := 0) (x := 236) (nx := 57) (r1 := 0) (r2 := 0) (r3 := 0) rfl rfl ?_
          refine wr_V (k0 := 236) (rest := []) (as := [.ref 236]) (nx := 60) (r1 := 338) (r2 := 0) (r3 := 11) rfl rfl rfl (of_decide_eq_true rfl) rfl rfl (by decide) rfl rfl (of_decide_eq_true rfl) (of_decide_eq_true rfl) ?_
          have e93 : h77 236 3 = h13 236 3 := ((u77 236 3 rfl).trans ((u60 236 3 rfl).trans ((u34 236 3 rfl).trans ((u29 236 3 rfl).trans ((u27 236 3 rfl).trans (u25 236 3 rfl))))))
          have e94 : h77 236 42 = h60 236 42 := (u77 236 42 rfl)
          have e95 : h77 236 44 = h60 236 44 := (u77 236 44 rfl)
          have e96 : h77 236 43 = h60 236 43 := (u77 236 43 rfl)
          have q97 : h77 253 = h60 253 := funext (fun i => (u77 253 i (fo_no_ok (by decide) i)))
          have rb98 := RefB.fr u77 rfl rb82
          refine ct_338_236 hcr  g77   (show (h77 236 4) ≤ (h77 236 3) by omega) (show 1 ≤ (h77 236 8) ∨ (h77 236 42) + (h77 236 44) ≤ 2 * (h77 236 43) by omega) (fun e => by rw [q97, show h77 236 42 = h60 236 42 by omega, show h77 236 44 = h60 236 44 by omega]; exact y60_0 (by omega)) rb98 (SCI.er rfl rfl (by omega) (frs58.symm.trans (sc_m1 (by omega) (by omega) (by rw [eqq75]; exact sc_inl (by omega) (by omega))))) (fun h92 g92 u92 (p92_0 : (h77 236 4) ≤ (h92 236 4)) (p92_1 : (h92 236 4) ≤ (h77 236 3)) (p92_2 : 1 ≤ (h92 236 8) ∨ (h77 236 8) = 0) (p92_3 : (h77 236 6) ≠ 0 ∨ (h92 236 6) = 0) (p92_4 : 1 ≤ (h92 236 8) ∨ (h92 236 42) + (h92 236 44) ≤ 2 * (h92 236 43)) y92_0 y92_1 => ?_)
          have F99 := F83.then (by decide +kernel) u92
          have F100 := F84.then (by decide +kernel) u92
          have b101 := gi_b (lo := 0) (hi := 800) g92 236 4 rfl
          have b102 := gi_b (lo := 0) (hi := 5) g92 236 8 rfl
          have b103 := gi_b (lo := 0) (hi := 4) g92 236 6 rfl
          have b104 := gi_b (lo := 0) (hi := 80) g92 236 42 rfl
          have b105 := gi_b (lo := 0) (hi := 2) g92 236 44 rfl
          have e106 : h92 236 43 = h60 236 43 := ((u92 236 43 rfl).trans (u77 236 43 rfl))
          refine wk_n ?_
          refine wi_goto (nx := 63) (r1 := 19) (r2 := 0) (r3 := 0) rfl ?_
          refine wi_aload_n (i := 0) (x := 236) (nx := 20) (r1 := 0) (r2 := 0) (r3 := 0) rfl rfl ?_
          refine wr_V (k0 := 236) (rest := []) (as := [.ref 236]) (nx := 23) (r1 := 219) (r2 := 0) (r3 := 11) rfl rfl rfl (of_decide_eq_true rfl) rfl rfl (by decide) rfl rfl (of_decide_eq_true rfl) (of_decide_eq_true rfl) ?_
          refine wi_aload_n (i := 0) (x := 236) (nx := 1) (r1 := 0) (r2 := 0) (r3 := 0) rfl rfl ?_
          refine wr_gi0 (k0 := 236) (x := h92 236 8) (nx := 4) (r1 := 11) (r2 := 8) (r3 := 0) rfl rfl (by decide) rfl ⟨rfl, rfl⟩ rfl rfl ?_
          refine wi_if (cd := .ne) (nx := 7) (r1 := 11) (r2 := 0) (r3 := 0) rfl (by omega) (fun (q107 : (h92 236 8) ≠ 0) => ?_) (fun (q107 : ¬ ((h92 236 8) ≠ 0)) => by exfalso; omega)
          refine wi_iconst (n := 0) (nx := 12) (r1 := 0) (r2 := 0) (r3 := 0) rfl ?_
          refine wi_zreturn (nx := 13) (r1 := 0) (r2 := 0) (r3 := 0) rfl rfl (by omega) ?_
          refine wk_i ?_
          refine wi_if (cd := .eq) (nx := 26) (r1 := 63) (r2 := 0) (r3 := 0) rfl (by omega) (fun (q108 : 0 = 0) => ?_) (fun (q108 : ¬ (0 = 0)) => by exfalso; omega)
          refine wi_aload_n (i := 0) (x := 236) (nx := 64) (r1 := 0) (r2 := 0) (r3 := 0) rfl rfl ?_
          refine wr_V (k0 := 236) (rest := []) (as := [.ref 236]) (nx := 67) (r1 := 219) (r2 := 0) (r3 := 11) rfl rfl rfl (of_decide_eq_true rfl) rfl rfl (by decide) rfl rfl (of_decide_eq_true rfl) (of_decide_eq_true rfl) ?_
          refine wi_aload_n (i := 0) (x := 236) (nx := 1) (r1 := 0) (r2 := 0) (r3 := 0) rfl rfl ?_
          refine wr_gi0 (k0 := 236) (x := h92 236 8) (nx := 4) (r1 := 11) (r2 := 8) (r3 := 0) rfl rfl (by decide) rfl ⟨rfl, rfl⟩ rfl rfl ?_
          refine wi_if (cd := .ne) (nx := 7) (r1 := 11) (r2 := 0) (r3 := 0) rfl (by omega) (fun (q109 : (h92 236 8) ≠ 0) => ?_) (fun (q109 : ¬ ((h92 236 8) ≠ 0)) => by exfalso; omega)
          refine wi_iconst (n := 0) (nx := 12) (r1 := 0) (r2 := 0) (r3 := 0) rfl ?_
          refine wi_zreturn (nx := 13) (r1 := 0) (r2 := 0) (r3 := 0) rfl rfl (by omega) ?_
          refine wk_i ?_
          refine wi_if (cd := .eq) (nx := 70) (r1 := 82) (r2 := 0) (r3 := 0) rfl (by omega) (fun (q110 : 0 = 0) => ?_) (fun (q110 : ¬ (0 = 0)) => by exfalso; omega)
          have b112 := gi_b (lo := -2147483648) (hi := 2147483647) g92 236 9 rfl
          have RE111 := sc_REq (SCI.bad y92_1 (by omega))
          refine wi_aload_n (i := 0) (x := 236) (nx := 83) (r1 := 0) (r2 := 0) (r3 := 0) rfl rfl ?_
          refine wr_V (k0 := 236) (rest := []) (as := [.ref 236]) (nx := 86) (r1 := 237) (r2 := 0) (r3 := 11) rfl rfl rfl (of_decide_eq_true rfl) rfl rfl (by decide) rfl rfl (of_decide_eq_true rfl) (of_decide_eq_true rfl) ?_
          refine wi_aload_n (i := 0) (x := 236) (nx := 1) (r1 := 0) (r2 := 0) (r3 := 0) rfl rfl ?_
          refine wi_aload_n (i := 0) (x := 236) (nx := 2) (r1 := 0) (r2 := 0) (r3 := 0) rfl rfl ?_
          refine wr_gi0 (k0 := 236) (x := h92 236 8) (nx := 5) (r1 := 11) (r2 := 8) (r3 := 0) rfl rfl (by decide) rfl ⟨rfl, rfl⟩ rfl rfl ?_
          refine wr_pf0 (k0 := 236) (x := h92 236 8) (bl := -2147483648) (bh := 2147483647) (nx := 8) (r1 := 11) (r2 := 10) (r3 := 0) rfl (by decide) rfl ⟨rfl, rfl⟩ rfl rfl g92 rfl (by omega) (fun h113 g113 w113 u113 => ?_)
          have F114 := F99.then rfl u113
          refine wi_aload_n (i := 0) (x := 236) (nx := 9) (r1 := 0) (r2 := 0) (r3 := 0) rfl rfl ?_
          refine wi_aload_n (i := 0) (x := 236) (nx := 10) (r1 := 0) (r2 := 0) (r3 := 0) rfl rfl ?_
          refine wr_gi0 (k0 := 236) (x := h92 236 9) (nx := 13) (r1 := 11) (r2 := 9) (r3 := 0) rfl rfl (by decide) rfl ⟨rfl, rfl⟩ rfl (u113 236 9 rfl) ?_
          refine wr_pf0 (k0 := 236) (x := h92 236 9) (bl := -2147483648) (bh := 2147483647) (nx := 16) (r1 := 11) (r2 := 11) (r3 := 0) rfl (by decide) rfl ⟨rfl, rfl⟩ rfl rfl g113 rfl (by omega) (fun h115 g115 w115 u115 => ?_)
          have F116 := F114.then rfl u115
          refine wi_aload_n (i := 0) (x := 236) (nx := 17) (r1 := 0) (r2 := 0) (r3 := 0) rfl rfl ?_
          refine wi_aload_n (i := 0) (x := 236) (nx := 18) (r1 := 0) (r2 := 0) (r3 := 0) rfl rfl ?_
          refine wr_gi0 (k0 := 236) (x := h92 236 8) (nx := 21) (r1 := 11) (r2 := 8) (r3 := 0) rfl rfl (by decide) rfl ⟨rfl, rfl⟩ rfl ((u115 236 8 rfl).trans (u113 236 8 rfl)) ?_
          refine wi_if (cd := .ne) (nx := 24) (r1 := 28) (r2 := 0) (r3 := 0) rfl (by omega) (fun (q117 : (h92 236 8) ≠ 0) => ?_) (fun (q117 : ¬ ((h92 236 8) ≠ 0)) => by exfalso; omega)
          refine wi_iconst (n := 0) (nx := 29) (r1 := 0) (r2 := 0) (r3 := 0) rfl ?_
          refine wr_V (k0 := 236) (rest := []) (as := [.ref 236, vi 0]) (nx := 32) (r1 := 206) (r2 := 1) (r3 := 11) rfl rfl rfl (of_decide_eq_true rfl) rfl rfl (by decide) rfl rfl (of_decide_eq_true rfl) (of_decide_eq_true rfl) ?_
          refine wi_aload_n (i := 0) (x := 236) (nx := 1) (r1 := 0) (r2 := 0) (r3 := 0) rfl rfl ?_
          refine wi_iload_n (i := 1) (e := 0) (nx := 2) (r1 := 0) (r2 := 0) (r3 := 0) rfl rfl ?_
          refine wi_if (cd := .ne) (nx := 5) (r1 := 9) (r2 := 0) (r3 := 0) rfl (by omega) (fun (q118 : 0 ≠ 0) => by exfalso; omega) (fun (q118 : ¬ (0 ≠ 0)) => ?_)
          refine wi_iconst (n := 1) (nx := 6) (r1 := 0) (r2 := 0) (r3 := 0) rfl ?_
          refine wi_goto (nx := 9) (r1 := 10) (r2 := 0) (r3 := 0) rfl ?_
          refine wi_S (rest := [.ref 236]) (as := [vi 1]) (nx := 13) (r1 := 207) (r2 := 17) (r3 := 0) rfl rfl rfl (of_decide_eq_true rfl) rfl rfl (of_decide_eq_true rfl) (of_decide_eq_true rfl) ?_
          refine wi_iload_n (i := 0) (e := 1) (nx := 1) (r1 := 0) (r2 := 0) (r3 := 0) rfl rfl ?_
          refine wi_if (cd := .eq) (nx := 4) (r1 := 8) (r2 := 0) (r3 := 0) rfl (by omega) (fun (q119 : 1 = 0) => by exfalso; omega) (fun (q119 : ¬ (1 = 0)) => ?_)
          refine wi_iconst (n := 1) (nx := 5) (r1 := 0) (r2 := 0) (r3 := 0) rfl ?_
          refine wi_goto (nx := 8) (r1 := 9) (r2 := 0) (r3 := 0) rfl ?_
          refine wi_ireturn (nx := 10) (r1 := 0) (r2 := 0) (r3 := 0) rfl rfl ?_
          refine wk_i ?_
          refine wr_pf0 (k0 := 236) (x := 1) (bl := 0) (bh := 2) (nx := 16) (r1 := 11) (r2 := 0) (r3 := 0) rfl (by decide) rfl ⟨rfl, rfl⟩ rfl rfl g115 rfl (by omega) (fun h120 g120 w120 u120 => ?_)
          have F121 := F116.then rfl u120
          refine wi_iload_n (i := 1) (e := 0) (nx := 17) (r1 := 0) (r2 := 0) (r3 := 0) rfl rfl ?_
          refine wi_zreturn (nx := 18) (r1 := 0) (r2 := 0) (r3 := 0) rfl rfl (by omega) ?_
          refine wk_i ?_
          refine wi_zreturn (nx := 33) (r1 := 0) (r2 := 0) (r3 := 0) rfl rfl (by omega) ?_
          refine wk_i ?_
          refine wi_if (cd := .ne) (nx := 89) (r1 := 91) (r2 := 0) (r3 := 0) rfl (by omega) (fun (q122 : 0 ≠ 0) => by exfalso; omega) (fun (q122 : ¬ (0 ≠ 0)) => ?_)
          refine wi_iconst (n := 0) (nx := 90) (r1 := 0) (r2 := 0) (r3 := 0) rfl ?_
          refine wi_ireturn (nx := 91) (r1 := 0) (r2 := 0) (r3 := 0) rfl rfl ?_
          have e123 : h120 238 98 = h 238 98 := ((u120 238 98 rfl).trans ((u115 238 98 rfl).trans ((u113 238 98 rfl).trans ((u92 238 98 rfl).trans ((u77 238 98 rfl).trans ((u60 238 98 rfl).trans ((u34 238 98 rfl).trans ((u29 238 98 rfl).trans ((u27 238 98 rfl).trans ((u25 238 98 rfl).trans (u13 238 98 rfl)))))))))))
          have e124 : h120 238 99 = h 238 99 := ((u120 238 99 rfl).trans ((u115 238 99 rfl).trans ((u113 238 99 rfl).trans ((u92 238 99 rfl).trans ((u77 238 99 rfl).trans ((u60 238 99 rfl).trans ((u34 238 99 rfl).trans ((u29 238 99 rfl).trans ((u27 238 99 rfl).trans ((u25 238 99 rfl).trans (u13 238 99 rfl)))))))))))
          have e125 : h120 238 100 = h 238 100 := ((u120 238 100 rfl).trans ((u115 238 100 rfl).trans ((u113 238 100 rfl).trans ((u92 238 100 rfl).trans ((u77 238 100 rfl).trans ((u60 238 100 rfl).trans ((u34 238 100 rfl).trans ((u29 238 100 rfl).trans ((u27 238 100 rfl).trans ((u25 238 100 rfl).trans (u13 238 100 rfl)))))))))))
          have e126 : h120 238 101 = h 238 101 := ((u120 238 101 rfl).trans ((u115 238 101 rfl).trans ((u113 238 101 rfl).trans ((u92 238 101 rfl).trans ((u77 238 101 rfl).trans ((u60 238 101 rfl).trans ((u34 238 101 rfl).trans ((u29 238 101 rfl).trans ((u27 238 101 rfl).trans ((u25 238 101 rfl).trans (u13 238 101 rfl)))))))))))
          have e127 : h120 238 102 = h 238 102 := ((u120 238 102 rfl).trans ((u115 238 102 rfl).trans ((u113 238 102 rfl).trans ((u92 238 102 rfl).trans ((u77 238 102 rfl).trans ((u60 238 102 rfl).trans ((u34 238 102 rfl).trans ((u29 238 102 rfl).trans ((u27 238 102 rfl).trans ((u25 238 102 rfl).trans (u13 238 102 rfl)))))))))))
          have e128 : h120 238 106 = h 238 106 := ((u120 238 106 rfl).trans ((u115 238 106 rfl).trans ((u113 238 106 rfl).trans ((u92 238 106 rfl).trans ((u77 238 106 rfl).trans ((u60 238 106 rfl).trans ((u34 238 106 rfl).trans ((u29 238 106 rfl).trans ((u27 238 106 rfl).trans ((u25 238 106 rfl).trans (u13 238 106 rfl)))))))))))
          have e129 : h120 238 73 = h 238 73 := ((u120 238 73 rfl).trans ((u115 238 73 rfl).trans ((u113 238 73 rfl).trans ((u92 238 73 rfl).trans ((u77 238 73 rfl).trans ((u60 238 73 rfl).trans ((u34 238 73 rfl).trans ((u29 238 73 rfl).trans ((u27 238 73 rfl).trans ((u25 238 73 rfl).trans (u13 238 73 rfl)))))))))))
          have e130 : h120 238 2 = h 238 2 := ((u120 238 2 rfl).trans ((u115 238 2 rfl).trans ((u113 238 2 rfl).trans ((u92 238 2 rfl).trans ((u77 238 2 rfl).trans ((u60 238 2 rfl).trans ((u34 238 2 rfl).trans ((u29 238 2 rfl).trans ((u27 238 2 rfl).trans ((u25 238 2 rfl).trans (u13 238 2 rfl)))))))))))
          have e131 : h120 238 119 = h 238 119 := ((u120 238 119 rfl).trans ((u115 238 119 rfl).trans ((u113 238 119 rfl).trans ((u92 238 119 rfl).trans ((u77 238 119 rfl).trans ((u60 238 119 rfl).trans ((u34 238 119 rfl).trans ((u29 238 119 rfl).trans ((u27 238 119 rfl).trans ((u25 238 119 rfl).trans (u13 238 119 rfl)))))))))))
          have e132 : h120 238 67 = h 238 67 := ((u120 238 67 rfl).trans ((u115 238 67 rfl).trans ((u113 238 67 rfl).trans ((u92 238 67 rfl).trans ((u77 238 67 rfl).trans ((u60 238 67 rfl).trans ((u34 238 67 rfl).trans ((u29 238 67 rfl).trans ((u27 238 67 rfl).trans ((u25 238 67 rfl).trans (u13 238 67 rfl)))))))))))
          have e133 : h120 238 69 = h 238 69 := ((u120 238 69 rfl).trans ((u115 238 69 rfl).trans ((u113 238 69 rfl).trans ((u92 238 69 rfl).trans ((u77 238 69 rfl).trans ((u60 238 69 rfl).trans ((u34 238 69 rfl).trans ((u29 238 69 rfl).trans ((u27 238 69 rfl).trans ((u25 238 69 rfl).trans (u13 238 69 rfl)))))))))))
          have e134 : h120 238 5 = h 238 5 := ((u120 238 5 rfl).trans ((u115 238 5 rfl).trans ((u113 238 5 rfl).trans ((u92 238 5 rfl).trans ((u77 238 5 rfl).trans ((u60 238 5 rfl).trans ((u34 238 5 rfl).trans ((u29 238 5 rfl).trans ((u27 238 5 rfl).trans ((u25 238 5 rfl).trans (u13 238 5 rfl)))))))))))
          have e135 : h120 236 2 = h13 236 2 := ((u120 236 2 rfl).trans ((u115 236 2 rfl).trans ((u113 236 2 rfl).trans ((u92 236 2 rfl).trans ((u77 236 2 rfl).trans ((u60 236 2 rfl).trans ((u34 236 2 rfl).trans ((u29 236 2 rfl).trans ((u27 236 2 rfl).trans (u25 236 2 rfl))))))))))
          have e136 : h120 236 10 = h92 236 8 := ((u120 236 10 rfl).trans ((u115 236 10 rfl).trans w113))
          have e137 : h120 236 11 = h92 236 9 := ((u120 236 11 rfl).trans w115)
          have gs138 := GPS.fr u13 rfl xq1
          have gs139 := GPS.fr u25 rfl gs138
          have gs140 := GPS.fr u27 rfl gs139
          have gs141 := GPS.fr u29 rfl gs140
          have gs142 := GPS.fr u34 rfl gs141
          have gs143 := GPS.fr u60 rfl gs142
          have gs144 := GPS.fr u77 rfl gs143
          have gs145 := GPS.fr u92 rfl gs144
          have gs146 := GPS.fr u113 rfl gs145
          have gs147 := GPS.fr u115 rfl gs146
          have gs148 := GPS.fr u120 rfl gs147
          have gp149 := GPH.fr u13 rfl gp0
          have gp150 := GPH.fr u25 rfl gp149
          have gp151 := GPH.fr u27 rfl gp150
          have gp152 := GPH.fr u29 rfl gp151
          have gp153 := GPH.fr u34 rfl gp152
          have gp154 := GPH.fr u60 rfl gp153
          have gp155 := GPH.fr u77 rfl gp154
          have gp156 := GPH.fr u92 rfl gp155
          have gp157 := GPH.fr u113 rfl gp156
          have gp158 := GPH.fr u115 rfl gp157
          have gp159 := GPH.fr u120 rfl gp158
          exact k h120 0 g120 F121 (by omega) (show (h120 238 98) + (h120 238 99) + (h120 238 100) + (h120 238 101) + (h120 238 102) + (h120 238 106) = (h120 238 73) by omega) (show (h120 238 73) ≤ (h120 238 2) by omega) (show (h120 238 119) ≤ (h120 238 67) by omega) (show (h120 238 69) ≤ (h120 238 5) by omega) (show (h120 238 2) ≤ 12 * (h120 238 5) by omega) (show (h120 236 2) = 0 by omega) (show (h120 236 10) = sc_ec tB tn by omega) (show (h120 236 11) = sc_ep tB tn by omega) gs148 gp159
        ·
          have tk92 := p77_0.2.2.2.2
          have tN93 := @tk_nx_b tB tn (tk_nx tB tn ps58) (by omega) (by omega)
          exfalso; omega
        ·
          exfalso; omega
    ·
      have b76 := gi_b (lo := 0) (hi := 800) g60 236 5 rfl
      have b77 := gi_b (lo := 0) (hi := 999) g60 236 7 rfl
      have b78 := gi_b (lo := -9223372036854775808) (hi := 9223372036854775807) g60 236 12 rfl
      obtain ⟨emq75, q75, eaq75, ecq75, edq75, tkq75, eqq75⟩ := sc_OM2 y60_1 (by omega) (by omega)
      obtain ⟨taq75, tbq75, tcq75⟩ := id tkq75
      have tN79 := @tk_nx_b tB tn q75 (by omega) (by omega)
      refine wi_aload_n (i := 0) (x := 236) (nx := 43) (r1 := 0) (r2 := 0) (r3 := 0) rfl rfl ?_
      refine wr_gi0 (k0 := 236) (x := h60 236 44) (nx := 46) (r1 := 11) (r2 := 44) (r3 := 0) rfl rfl (by decide) rfl ⟨rfl, rfl⟩ rfl rfl ?_
      refine wi_iload_n (i := 1) (e := h34 236 44) (nx := 47) (r1 := 0) (r2 := 0) (r3 := 0) rfl rfl ?_
      refine wi_icmp (cd := .ne) (nx := 50) (r1 := 56) (r2 := 0) (r3 := 0) rfl (by omega) (by omega) (fun (q80 : (h60 236 44) ≠ (h34 236 44)) => ?_) (fun (q80 : ¬ ((h60 236 44) ≠ (h34 236 44))) => by exfalso; omega)
      refine wi_aload_n (i := 0) (x := 236) (nx := 57) (r1 := 0) (r2 := 0) (r3 := 0) rfl rfl ?_
      refine wr_V (k0 := 236) (rest := []) (as := [.ref 236]) (nx := 60) (r1 := 338) (r2 := 0) (r3 := 11) rfl rfl rfl (of_decide_eq_true rfl) rfl rfl (by decide) rfl rfl (of_decide_eq_true rfl) (of_decide_eq_true rfl) ?_
      have e82 : h60 236 3 = h13 236 3 := ((u60 236 3 rfl).trans ((u34 236 3 rfl).trans ((u29 236 3 rfl).trans ((u27 236 3 rfl).trans (u25 236 3 rfl)))))
      have q83 : h60 253 = h60 253 := funext (fun i => rfl)
      have rb84 := RefB.fr u60 rfl rb65
      refine ct_338_236 hcr  g60   (show (h60 236 4) ≤ (h60 236 3) by omega) (show 1 ≤ (h60 236 8) ∨ (h60 236 42) + (h60 236 44) ≤ 2 * (h60 236 43) by omega) (fun e => by rw [q83, show h60 236 42 = h60 236 42 by omega, show h60 236 44 = h60 236 44 by omega]; exact y60_0 (by omega)) rb84 (SCI.mk ks58 q75 (by omega) (by omega) (by omega) (by omega) (by omega) (by first | assumption | exact tk_mv (by assumption) (by omega) (by omega) (by omega) (by omega) (by omega)) (by rw [show h60 236 44 = h34 236 44 + 1 by omega, show h60 236 43 = h34 236 43 + 1 by omega]; exact (sc_m2 (by omega) (by omega) eqq75).symm.trans frs58)) (fun h81 g81 u81 (p81_0 : (h60 236 4) ≤ (h81 236 4)) (p81_1 : (h81 236 4) ≤ (h60 236 3)) (p81_2 : 1 ≤ (h81 236 8) ∨ (h60 236 8) = 0) (p81_3 : (h60 236 6) ≠ 0 ∨ (h81 236 6) = 0) (p81_4 : 1 ≤ (h81 236 8) ∨ (h81 236 42) + (h81 236 44) ≤ 2 * (h81 236 43)) y81_0 y81_1 => ?_)
      have F85 := F66.then (by decide +kernel) u81
      have F86 := F67.then (by decide +kernel) u81
      have b87 := gi_b (lo := 0) (hi := 800) g81 236 4 rfl
      have b88 := gi_b (lo := 0) (hi := 5) g81 236 8 rfl
      have b89 := gi_b (lo := 0) (hi := 4) g81 236 6 rfl
      have b90 := gi_b (lo := 0) (hi := 80) g81 236 42 rfl
      have b91 := gi_b (lo := 0) (hi := 2) g81 236 44 rfl
      have e92 : h81 236 43 = h60 236 43 := (u81 236 43 rfl)
      refine wk_n ?_
      refine wi_goto (nx := 63) (r1 := 19) (r2 := 0) (r3 := 0) rfl ?_
      refine wi_aload_n (i := 0) (x := 236) (nx := 20) (r1 := 0) (r2 := 0) (r3 := 0) rfl rfl ?_
      refine wr_V (k0 := 236) (rest := []) (as := [.ref 236]) (nx := 23) (r1 := 219) (r2 := 0) (r3 := 11) rfl rfl rfl (of_decide_eq_true rfl) rfl rfl (by decide) rfl rfl (of_decide_eq_true rfl) (of_decide_eq_true rfl) ?_
      refine wi_aload_n (i := 0) (x := 236) (nx := 1) (r1 := 0) (r2 := 0) (r3 := 0) rfl rfl ?_
      refine wr_gi0 (k0 := 236) (x := h81 236 8) (nx := 4) (r1 := 11) (r2 := 8) (r3 := 0) rfl rfl (by decide) rfl ⟨rfl, rfl⟩ rfl rfl ?_
      refine wi_if (cd := .ne) (nx := 7) (r1 := 11) (r2 := 0) (r3 := 0) rfl (by omega) (fun (q93 : (h81 236 8) ≠ 0) => ?_) (fun (q93 : ¬ ((h81 236 8) ≠ 0)) => ?_)
      ·
        refine wi_iconst (n := 0) (nx := 12) (r1 := 0) (r2 := 0) (r3 := 0) rfl ?_
        refine wi_zreturn (nx := 13) (r1 := 0) (r2 := 0) (r3 := 0) rfl rfl (by omega) ?_
        refine wk_i ?_
        refine wi_if (cd := .eq) (nx := 26) (r1 := 63) (r2 := 0) (r3 := 0) rfl (by omega) (fun (q94 : 0 = 0) => ?_) (fun (q94 : ¬ (0 = 0)) => by exfalso; omega)
        refine wi_aload_n (i := 0) (x := 236) (nx := 64) (r1 := 0) (r2 := 0) (r3 := 0) rfl rfl ?_
        refine wr_V (k0 := 236) (rest := []) (as := [.ref 236]) (nx := 67) (r1 := 219) (r2 := 0) (r3 := 11) rfl rfl rfl (of_decide_eq_true rfl) rfl rfl (by decide) rfl rfl (of_decide_eq_true rfl) (of_decide_eq_true rfl) ?_
        refine wi_aload_n (i := 0) (x := 236) (nx := 1) (r1 := 0) (r2 := 0) (r3 := 0) rfl rfl ?_
        refine wr_gi0 (k0 := 236) (x := h81 236 8) (nx := 4) (r1 := 11) (r2 := 8) (r3 := 0) rfl rfl (by decide) rfl ⟨rfl, rfl⟩ rfl rfl ?_
        refine wi_if (cd := .ne) (nx := 7) (r1 := 11) (r2 := 0) (r3 := 0) rfl (by omega) (fun (q95 : (h81 236 8) ≠ 0) => ?_) (fun (q95 : ¬ ((h81 236 8) ≠ 0)) => by exfalso; omega)
        refine wi_iconst (n := 0) (nx := 12) (r1 := 0) (r2 := 0) (r3 := 0) rfl ?_
        refine wi_zreturn (nx := 13) (r1 := 0) (r2 := 0) (r3 := 0) rfl rfl (by omega) ?_
        refine wk_i ?_
        refine wi_if (cd := .eq) (nx := 70) (r1 := 82) (r2 := 0) (r3 := 0) rfl (by omega) (fun (q96 : 0 = 0) => ?_) (fun (q96 : ¬ (0 = 0)) => by exfalso; omega)
        have b98 := gi_b (lo := -2147483648) (hi := 2147483647) g81 236 9 rfl
        have RE97 := sc_REq (SCI.bad y81_1 (by omega))
        refine wi_aload_n (i := 0) (x := 236) (nx := 83) (r1 := 0) (r2 := 0) (r3 := 0) rfl rfl ?_
        refine wr_V (k0 := 236) (rest := []) (as := [.ref 236]) (nx := 86) (r1 := 237) (r2 := 0) (r3 := 11) rfl rfl rfl (of_decide_eq_true rfl) rfl rfl (by decide) rfl rfl (of_decide_eq_true rfl) (of_decide_eq_true rfl) ?_
        refine wi_aload_n (i := 0) (x := 236) (nx := 1) (r1 := 0) (r2 := 0) (r3 := 0) rfl rfl ?_
        refine wi_aload_n (i := 0) (x := 236) (nx := 2) (r1 := 0) (r2 := 0) (r3 := 0) rfl rfl ?_
        refine wr_gi0 (k0 := 236) (x := h81 236 8) (nx := 5) (r1 := 11) (r2 := 8) (r3 := 0) rfl rfl (by decide) rfl ⟨rfl, rfl⟩ rfl rfl ?_
        refine wr_pf0 (k0 := 236) (x := h81 236 8) (bl := -2147483648) (bh := 2147483647) (nx := 8) (r1 := 11) (r2 := 10) (r3 := 0) rfl (by decide) rfl ⟨rfl, rfl⟩ rfl rfl g81 rfl (by omega) (fun h99 g99 w99 u99 => ?_)
        have F100 := F85.then rfl u99
        refine wi_aload_n (i := 0) (x := 236) (nx := 9) (r1 := 0) (r2 := 0) (r3 := 0) rfl rfl ?_
        refine wi_aload_n (i := 0) (x := 236) (nx := 10) (r1 := 0) (r2 := 0) (r3 := 0) rfl rfl ?_
        refine wr_gi0 (k0 := 236) (x := h81 236 9) (nx := 13) (r1 := 11) (r2 := 9) (r3 := 0) rfl rfl (by decide) rfl ⟨rfl, rfl⟩ rfl (u99 236 9 rfl) ?_
        refine wr_pf0 (k0 := 236) (x := h81 236 9) (bl := -2147483648) (bh := 2147483647) (nx := 16) (r1 := 11) (r2 := 11) (r3 := 0) rfl (by decide) rfl ⟨rfl, rfl⟩ rfl rfl g99 rfl (by omega) (fun h101 g101 w101 u101 => ?_)
        have F102 := F100.then rfl u101
        refine wi_aload_n (i := 0) (x := 236) (nx := 17) (r1 := 0) (r2 := 0) (r3 := 0) rfl rfl ?_
        refine wi_aload_n (i := 0) (x := 236) (nx := 18) (r1 := 0) (r2 := 0) (r3 := 0) rfl rfl ?_
        refine wr_gi0 (k0 := 236) (x := h81 236 8) (nx := 21) (r1 := 11) (r2 := 8) (r3 := 0) rfl rfl (by decide) rfl ⟨rfl, rfl⟩ rfl ((u101 236 8 rfl).trans (u99 236 8 rfl)) ?_
        refine wi_if (cd := .ne) (nx := 24) (r1 := 28) (r2 := 0) (r3 := 0) rfl (by omega) (fun (q103 : (h81 236 8) ≠ 0) => ?_) (fun (q103 : ¬ ((h81 236 8) ≠ 0)) => by exfalso; omega)
        refine wi_iconst (n := 0) (nx := 29) (r1 := 0) (r2 := 0) (r3 := 0) rfl ?_
        refine wr_V (k0 := 236) (rest := []) (as := [.ref 236, vi 0]) (nx := 32) (r1 := 206) (r2 := 1) (r3 := 11) rfl rfl rfl (of_decide_eq_true rfl) rfl rfl (by decide) rfl rfl (of_decide_eq_true rfl) (of_decide_eq_true rfl) ?_
        refine wi_aload_n (i := 0) (x := 236) (nx := 1) (r1 := 0) (r2 := 0) (r3 := 0) rfl rfl ?_
        refine wi_iload_n (i := 1) (e := 0) (nx := 2) (r1 := 0) (r2 := 0) (r3 := 0) rfl rfl ?_
        refine wi_if (cd := .ne) (nx := 5) (r1 := 9) (r2 := 0) (r3 := 0) rfl (by omega) (fun (q104 : 0 ≠ 0) => by exfalso; omega) (fun (q104 : ¬ (0 ≠ 0)) => ?_)
        refine wi_iconst (n := 1) (nx := 6) (r1 := 0) (r2 := 0) (r3 := 0) rfl ?_
        refine wi_goto (nx := 9) (r1 := 10) (r2 := 0) (r3 := 0) rfl ?_
        refine wi_S (rest := [.ref 236]) (as := [vi 1]) (nx := 13) (r1 := 207) (r2 := 17) (r3 := 0) rfl rfl rfl (of_decide_eq_true rfl) rfl rfl (of_decide_eq_true rfl) (of_decide_eq_true rfl) ?_
        refine wi_iload_n (i := 0) (e := 1) (nx := 1) (r1 := 0) (r2 := 0) (r3 := 0) rfl rfl ?_
        refine wi_if (cd := .eq) (nx := 4) (r1 := 8) (r2 := 0) (r3 := 0) rfl (by omega) (fun (q105 : 1 = 0) => by exfalso; omega) (fun (q105 : ¬ (1 = 0)) => ?_)
        refine wi_iconst (n := 1) (nx := 5) (r1 := 0) (r2 := 0) (r3 := 0) rfl ?_
        refine wi_goto (nx := 8) (r1 := 9) (r2 := 0) (r3 := 0) rfl ?_
        refine wi_ireturn (nx := 10) (r1 := 0) (r2 := 0) (r3 := 0) rfl rfl ?_
        refine wk_i ?_
        refine wr_pf0 (k0 := 236) (x := 1) (bl := 0) (bh := 2) (nx := 16) (r1 := 11) (r2 := 0) (r3 := 0) rfl (by decide) rfl ⟨rfl, rfl⟩ rfl rfl g101 rfl (by omega) (fun h106 g106 w106 u106 => ?_)
        have F107 := F102.then rfl u106
        refine wi_iload_n (i := 1) (e := 0) (nx := 17) (r1 := 0) (r2 := 0) (r3 := 0) rfl rfl ?_
        refine wi_zreturn (nx := 18) (r1 := 0) (r2 := 0) (r3 := 0) rfl rfl (by omega) ?_
        refine wk_i ?_
        refine wi_zreturn (nx := 33) (r1 := 0) (r2 := 0) (r3 := 0) rfl rfl (by omega) ?_
        refine wk_i ?_
        refine wi_if (cd := .ne) (nx := 89) (r1 := 91) (r2 := 0) (r3 := 0) rfl (by omega) (fun (q108 : 0 ≠ 0) => by exfalso; omega) (fun (q108 : ¬ (0 ≠ 0)) => ?_)
        refine wi_iconst (n := 0) (nx := 90) (r1 := 0) (r2 := 0) (r3 := 0) rfl ?_
        refine wi_ireturn (nx := 91) (r1 := 0) (r2 := 0) (r3 := 0) rfl rfl ?_
        have e109 : h106 238 98 = h 238 98 := ((u106 238 98 rfl).trans ((u101 238 98 rfl).trans ((u99 238 98 rfl).trans ((u81 238 98 rfl).trans ((u60 238 98 rfl).trans ((u34 238 98 rfl).trans ((u29 238 98 rfl).trans ((u27 238 98 rfl).trans ((u25 238 98 rfl).trans (u13 238 98 rfl))))))))))
        have e110 : h106 238 99 = h 238 99 := ((u106 238 99 rfl).trans ((u101 238 99 rfl).trans ((u99 238 99 rfl).trans ((u81 238 99 rfl).trans ((u60 238 99 rfl).trans ((u34 238 99 rfl).trans ((u29 238 99 rfl).trans ((u27 238 99 rfl).trans ((u25 238 99 rfl).trans (u13 238 99 rfl))))))))))
        have e111 : h106 238 100 = h 238 100 := ((u106 238 100 rfl).trans ((u101 238 100 rfl).trans ((u99 238 100 rfl).trans ((u81 238 100 rfl).trans ((u60 238 100 rfl).trans ((u34 238 100 rfl).trans ((u29 238 100 rfl).trans ((u27 238 100 rfl).trans ((u25 238 100 rfl).trans (u13 238 100 rfl))))))))))
        have e112 : h106 238 101 = h 238 101 := ((u106 238 101 rfl).trans ((u101 238 101 rfl).trans ((u99 238 101 rfl).trans ((u81 238 101 rfl).trans ((u60 238 101 rfl).trans ((u34 238 101 rfl).trans ((u29 238 101 rfl).trans ((u27 238 101 rfl).trans ((u25 238 101 rfl).trans (u13 238 101 rfl))))))))))
        have e113 : h106 238 102 = h 238 102 := ((u106 238 102 rfl).trans ((u101 238 102 rfl).trans ((u99 238 102 rfl).trans ((u81 238 102 rfl).trans ((u60 238 102 rfl).trans ((u34 238 102 rfl).trans ((u29 238 102 rfl).trans ((u27 238 102 rfl).trans ((u25 238 102 rfl).trans (u13 238 102 rfl))))))))))
        have e114 : h106 238 106 = h 238 106 := ((u106 238 106 rfl).trans ((u101 238 106 rfl).trans ((u99 238 106 rfl).trans ((u81 238 106 rfl).trans ((u60 238 106 rfl).trans ((u34 238 106 rfl).trans ((u29 238 106 rfl).trans ((u27 238 106 rfl).trans ((u25 238 106 rfl).trans (u13 238 106 rfl))))))))))
        have e115 : h106 238 73 = h 238 73 := ((u106 238 73 rfl).trans ((u101 238 73 rfl).trans ((u99 238 73 rfl).trans ((u81 238 73 rfl).trans ((u60 238 73 rfl).trans ((u34 238 73 rfl).trans ((u29 238 73 rfl).trans ((u27 238 73 rfl).trans ((u25 238 73 rfl).trans (u13 238 73 rfl))))))))))
        have e116 : h106 238 2 = h 238 2 := ((u106 238 2 rfl).trans ((u101 238 2 rfl).trans ((u99 238 2 rfl).trans ((u81 238 2 rfl).trans ((u60 238 2 rfl).trans ((u34 238 2 rfl).trans ((u29 238 2 rfl).trans ((u27 238 2 rfl).trans ((u25 238 2 rfl).trans (u13 238 2 rfl))))))))))
        have e117 : h106 238 119 = h 238 119 := ((u106 238 119 rfl).trans ((u101 238 119 rfl).trans ((u99 238 119 rfl).trans ((u81 238 119 rfl).trans ((u60 238 119 rfl).trans ((u34 238 119 rfl).trans ((u29 238 119 rfl).trans ((u27 238 119 rfl).trans ((u25 238 119 rfl).trans (u13 238 119 rfl))))))))))
        have e118 : h106 238 67 = h 238 67 := ((u106 238 67 rfl).trans ((u101 238 67 rfl).trans ((u99 238 67 rfl).trans ((u81 238 67 rfl).trans ((u60 238 67 rfl).trans ((u34 238 67 rfl).trans ((u29 238 67 rfl).trans ((u27 238 67 rfl).trans ((u25 238 67 rfl).trans (u13 238 67 rfl))))))))))
        have e119 : h106 238 69 = h 238 69 := ((u106 238 69 rfl).trans ((u101 238 69 rfl).trans ((u99 238 69 rfl).trans ((u81 238 69 rfl).trans ((u60 238 69 rfl).trans ((u34 238 69 rfl).trans ((u29 238 69 rfl).trans ((u27 238 69 rfl).trans ((u25 238 69 rfl).trans (u13 238 69 rfl))))))))))
        have e120 : h106 238 5 = h 238 5 := ((u106 238 5 rfl).trans ((u101 238 5 rfl).trans ((u99 238 5 rfl).trans ((u81 238 5 rfl).trans ((u60 238 5 rfl).trans ((u34 238 5 rfl).trans ((u29 238 5 rfl).trans ((u27 238 5 rfl).trans ((u25 238 5 rfl).trans (u13 238 5 rfl))))))))))
        have e121 : h106 236 2 = h13 236 2 := ((u106 236 2 rfl).trans ((u101 236 2 rfl).trans ((u99 236 2 rfl).trans ((u81 236 2 rfl).trans ((u60 236 2 rfl).trans ((u34 236 2 rfl).trans ((u29 236 2 rfl).trans ((u27 236 2 rfl).trans (u25 236 2 rfl)))))))))
        have e122 : h106 236 10 = h81 236 8 := ((u106 236 10 rfl).trans ((u101 236 10 rfl).trans w99))
        have e123 : h106 236 11 = h81 236 9 := ((u106 236 11 rfl).trans w101)
        have gs124 := GPS.fr u13 rfl xq1
        have gs125 := GPS.fr u25 rfl gs124
        have gs126 := GPS.fr u27 rfl gs125
        have gs127 := GPS.fr u29 rfl gs126
        have gs128 := GPS.fr u34 rfl gs127
        have gs129 := GPS.fr u60 rfl gs128
        have gs130 := GPS.fr u81 rfl gs129
        have gs131 := GPS.fr u99 rfl gs130
        have gs132 := GPS.fr u101 rfl gs131
        have gs133 := GPS.fr u106 rfl gs132
        have gp134 := GPH.fr u13 rfl gp0
        have gp135 := GPH.fr u25 rfl gp134
        have gp136 := GPH.fr u27 rfl gp135
        have gp137 := GPH.fr u29 rfl gp136
        have gp138 := GPH.fr u34 rfl gp137
        have gp139 := GPH.fr u60 rfl gp138
        have gp140 := GPH.fr u81 rfl gp139
        have gp141 := GPH.fr u99 rfl gp140
        have gp142 := GPH.fr u101 rfl gp141
        have gp143 := GPH.fr u106 rfl gp142
        exact k h106 0 g106 F107 (by omega) (show (h106 238 98) + (h106 238 99) + (h106 238 100) + (h106 238 101) + (h106 238 102) + (h106 238 106) = (h106 238 73) by omega) (show (h106 238 73) ≤ (h106 238 2) by omega) (show (h106 238 119) ≤ (h106 238 67) by omega) (show (h106 238 69) ≤ (h106 238 5) by omega) (show (h106 238 2) ≤ 12 * (h106 238 5) by omega) (show (h106 236 2) = 0 by omega) (show (h106 236 10) = sc_ec tB tn by omega) (show (h106 236 11) = sc_ep tB tn by omega) gs133 gp143
      ·
        refine wi_iconst (n := 1) (nx := 8) (r1 := 0) (r2 := 0) (r3 := 0) rfl ?_
        refine wi_goto (nx := 11) (r1 := 12) (r2 := 0) (r3 := 0) rfl ?_
        refine wi_zreturn (nx := 13) (r1 := 0) (r2 := 0) (r3 := 0) rfl rfl (by omega) ?_
        refine wk_i ?_
        refine wi_if (cd := .eq) (nx := 26) (r1 := 63) (r2 := 0) (r3 := 0) rfl (by omega) (fun (q94 : 1 = 0) => by exfalso; omega) (fun (q94 : ¬ (1 = 0)) => ?_)
        refine wi_aload_n (i := 0) (x := 236) (nx := 27) (r1 := 0) (r2 := 0) (r3 := 0) rfl rfl ?_
        refine wr_gi0 (k0 := 236) (x := h81 236 6) (nx := 30) (r1 := 11) (r2 := 6) (r3 := 0) rfl rfl (by decide) rfl ⟨rfl, rfl⟩ rfl rfl ?_
        refine wi_if (cd := .eq) (nx := 33) (r1 := 63) (r2 := 0) (r3 := 0) rfl (by omega) (fun (q95 : (h81 236 6) = 0) => ?_) (fun (q95 : ¬ ((h81 236 6) = 0)) => ?_)
        ·
          refine wi_aload_n (i := 0) (x := 236) (nx := 64) (r1 := 0) (r2 := 0) (r3 := 0) rfl rfl ?_
          refine wr_V (k0 := 236) (rest := []) (as := [.ref 236]) (nx := 67) (r1 := 219) (r2 := 0) (r3 := 11) rfl rfl rfl (of_decide_eq_true rfl) rfl rfl (by decide) rfl rfl (of_decide_eq_true rfl) (of_decide_eq_true rfl) ?_
          refine wi_aload_n (i := 0) (x := 236) (nx := 1) (r1 := 0) (r2 := 0) (r3 := 0) rfl rfl ?_
          refine wr_gi0 (k0 := 236) (x := h81 236 8) (nx := 4) (r1 := 11) (r2 := 8) (r3 := 0) rfl rfl (by decide) rfl ⟨rfl, rfl⟩ rfl rfl ?_
          refine wi_if (cd := .ne) (nx := 7) (r1 := 11) (r2 := 0) (r3 := 0) rfl (by omega) (fun (q96 : (h81 236 8) ≠ 0) => by exfalso; omega) (fun (q96 : ¬ ((h81 236 8) ≠ 0)) => ?_)
          refine wi_iconst (n := 1) (nx := 8) (r1 := 0) (r2 := 0) (r3 := 0) rfl ?_
          refine wi_goto (nx := 11) (r1 := 12) (r2 := 0) (r3 := 0) rfl ?_
          refine wi_zreturn (nx := 13) (r1 := 0) (r2 := 0) (r3 := 0) rfl rfl (by omega) ?_
          refine wk_i ?_
          refine wi_if (cd := .eq) (nx := 70) (r1 := 82) (r2 := 0) (r3 := 0) rfl (by omega) (fun (q97 : 1 = 0) => by exfalso; omega) (fun (q97 : ¬ (1 = 0)) => ?_)
          have b98 := gi_b (lo := 0) (hi := 800) g81 236 5 rfl
          have b99 := gi_b (lo := 0) (hi := 999) g81 236 7 rfl
          have b100 := gi_b (lo := -9223372036854775808) (hi := 9223372036854775807) g81 236 12 rfl
          have b101 := gi_b (lo := -2147483648) (hi := 2147483647) g81 236 9 rfl
          obtain ⟨e9s102, ks102, ps102, pas102, pbs102, pcs102, tks102, frs102⟩ := SCI.go y81_1 (by omega) (by omega)
          obtain ⟨tas102, tbs102, tcs102⟩ := id tks102
          have tN103 := @tk_nx_b tB tn ps102 (by omega) (by omega)
          refine wi_aload_n (i := 0) (x := 236) (nx := 71) (r1 := 0) (r2 := 0) (r3 := 0) rfl rfl ?_
          refine wr_gi0 (k0 := 236) (x := h81 236 44) (nx := 74) (r1 := 11) (r2 := 44) (r3 := 0) rfl rfl (by decide) rfl ⟨rfl, rfl⟩ rfl rfl ?_
          refine wi_if (cd := .le) (nx := 77) (r1 := 82) (r2 := 0) (r3 := 0) rfl (by omega) (fun (q104 : (h81 236 44) ≤ 0) => ?_) (fun (q104 : ¬ ((h81 236 44) ≤ 0)) => ?_)
          ·
            have RE105 := sc_REq (frs102.symm.trans (sc_e0 (by omega) (by omega)))
            refine wi_aload_n (i := 0) (x := 236) (nx := 83) (r1 := 0) (r2 := 0) (r3 := 0) rfl rfl ?_
            refine wr_V (k0 := 236) (rest := []) (as := [.ref 236]) (nx := 86) (r1 := 237) (r2 := 0) (r3 := 11) rfl rfl rfl (of_decide_eq_true rfl) rfl rfl (by decide) rfl rfl (of_decide_eq_true rfl) (of_decide_eq_true rfl) ?_
            refine wi_aload_n (i := 0) (x := 236) (nx := 1) (r1 := 0) (r2 := 0) (r3 := 0) rfl rfl ?_
            refine wi_aload_n (i := 0) (x := 236) (nx := 2) (r1 := 0) (r2 := 0) (r3 := 0) rfl rfl ?_
            refine wr_gi0 (k0 := 236) (x := h81 236 8) (nx := 5) (r1 := 11) (r2 := 8) (r3 := 0) rfl rfl (by decide) rfl ⟨rfl, rfl⟩ rfl rfl ?_
            refine wr_pf0 (k0 := 236) (x := h81 236 8) (bl := -2147483648) (bh := 2147483647) (nx := 8) (r1 := 11) (r2 := 10) (r3 := 0) rfl (by decide) rfl ⟨rfl, rfl⟩ rfl rfl g81 rfl (by omega) (fun h106 g106 w106 u106 => ?_)
            have F107 := F85.then rfl u106
            refine wi_aload_n (i := 0) (x := 236) (nx := 9) (r1 := 0) (r2 := 0) (r3 := 0) rfl rfl ?_
            refine wi_aload_n (i := 0) (x := 236) (nx := 10) (r1 := 0) (r2 := 0) (r3 := 0) rfl rfl ?_
            refine wr_gi0 (k0 := 236) (x := h81 236 9) (nx := 13) (r1 := 11) (r2 := 9) (r3 := 0) rfl rfl (by decide) rfl ⟨rfl, rfl⟩ rfl (u106 236 9 rfl) ?_
            refine wr_pf0 (k0 := 236) (x := h81 236 9) (bl := -2147483648) (bh := 2147483647) (nx := 16) (r1 := 11) (r2 := 11) (r3 := 0) rfl (by decide) rfl ⟨rfl, rfl⟩ rfl rfl g106 rfl (by omega) (fun h108 g108 w108 u108 => ?_)
            have F109 := F107.then rfl u108
            refine wi_aload_n (i := 0) (x := 236) (nx := 17) (r1 := 0) (r2 := 0) (r3 := 0) rfl rfl ?_
            refine wi_aload_n (i := 0) (x := 236) (nx := 18) (r1 := 0) (r2 := 0) (r3 := 0) rfl rfl ?_
            refine wr_gi0 (k0 := 236) (x := h81 236 8) (nx := 21) (r1 := 11) (r2 := 8) (r3 := 0) rfl rfl (by decide) rfl ⟨rfl, rfl⟩ rfl ((u108 236 8 rfl).trans (u106 236 8 rfl)) ?_
            refine wi_if (cd := .ne) (nx := 24) (r1 := 28) (r2 := 0) (r3 := 0) rfl (by omega) (fun (q110 : (h81 236 8) ≠ 0) => by exfalso; omega) (fun (q110 : ¬ ((h81 236 8) ≠ 0)) => ?_)
            refine wi_iconst (n := 1) (nx := 25) (r1 := 0) (r2 := 0) (r3 := 0) rfl ?_
            refine wi_goto (nx := 28) (r1 := 29) (r2 := 0) (r3 := 0) rfl ?_
            refine wr_V (k0 := 236) (rest := []) (as := [.ref 236, vi 1]) (nx := 32) (r1 := 206) (r2 := 1) (r3 := 11) rfl rfl rfl (of_decide_eq_true rfl) rfl rfl (by decide) rfl rfl (of_decide_eq_true rfl) (of_decide_eq_true rfl) ?_
            refine wi_aload_n (i := 0) (x := 236) (nx := 1) (r1 := 0) (r2 := 0) (r3 := 0) rfl rfl ?_
            refine wi_iload_n (i := 1) (e := 1) (nx := 2) (r1 := 0) (r2 := 0) (r3 := 0) rfl rfl ?_
            refine wi_if (cd := .ne) (nx := 5) (r1 := 9) (r2 := 0) (r3 := 0) rfl (by omega) (fun (q111 : 1 ≠ 0) => ?_) (fun (q111 : ¬ (1 ≠ 0)) => by exfalso; omega)
            refine wi_iconst (n := 0) (nx := 10) (r1 := 0) (r2 := 0) (r3 := 0) rfl ?_
            refine wi_S (rest := [.ref 236]) (as := [vi 0]) (nx := 13) (r1 := 207) (r2 := 17) (r3 := 0) rfl rfl rfl (of_decide_eq_true rfl) rfl rfl (of_decide_eq_true rfl) (of_decide_eq_true rfl) ?_
            refine wi_iload_n (i := 0) (e := 0) (nx := 1) (r1 := 0) (r2 := 0) (r3 := 0) rfl rfl ?_
            refine wi_if (cd := .eq) (nx := 4) (r1 := 8) (r2 := 0) (r3 := 0) rfl (by omega) (fun (q112 : 0 = 0) => ?_) (fun (q112 : ¬ (0 = 0)) => by exfalso; omega)
            refine wi_iconst (n := 0) (nx := 9) (r1 := 0) (r2 := 0) (r3 := 0) rfl ?_
            refine wi_ireturn (nx := 10) (r1 := 0) (r2 := 0) (r3 := 0) rfl rfl ?_
            refine wk_i ?_
            refine wr_pf0 (k0 := 236) (x := 0) (bl := 0) (bh := 2) (nx := 16) (r1 := 11) (r2 := 0) (r3 := 0) rfl (by decide) rfl ⟨rfl, rfl⟩ rfl rfl g108 rfl (by omega) (fun h113 g113 w113 u113 => ?_)
            have F114 := F109.then rfl u113
            refine wi_iload_n (i := 1) (e := 1) (nx := 17) (r1 := 0) (r2 := 0) (r3 := 0) rfl rfl ?_
            refine wi_zreturn (nx := 18) (r1 := 0) (r2 := 0) (r3 := 0) rfl rfl (by omega) ?_
            refine wk_i ?_
            refine wi_zreturn (nx := 33) (r1 := 0) (r2 := 0) (r3 := 0) rfl rfl (by omega) ?_
            refine wk_i ?_
            refine wi_if (cd := .ne) (nx := 89) (r1 := 91) (r2 := 0) (r3 := 0) rfl (by omega) (fun (q115 : 1 ≠ 0) => ?_) (fun (q115 : ¬ (1 ≠ 0)) => by exfalso; omega)
            refine wi_aload_n (i := 0) (x := 236) (nx := 92) (r1 := 0) (r2 := 0) (r3 := 0) rfl rfl ?_
            refine wr_gr (k0 := 236) (x := 238) (nx := 95) (r1 := 11) (r2 := 13) (r3 := 0) rfl rfl (by decide) rfl ⟨rfl, rfl⟩ rfl ?_
            refine wi_aload_n (i := 0) (x := 236) (nx := 96) (r1 := 0) (r2 := 0) (r3 := 0) rfl rfl ?_
            refine wr_gr (k0 := 236) (x := 257) (nx := 99) (r1 := 11) (r2 := 41) (r3 := 0) rfl rfl (by decide) rfl ⟨rfl, rfl⟩ rfl ?_
            refine wi_S (rest := []) (as := [.ref 238, .ref 257]) (nx := 102) (r1 := 238) (r2 := 18) (r3 := 0) rfl rfl rfl (of_decide_eq_true rfl) rfl rfl (of_decide_eq_true rfl) (of_decide_eq_true rfl) ?_
            refine ct_238_238_257 hcr  g113    (fun h116 g116 u116 y116_0 => ?_)
            have F117 := F114.then (by decide +kernel) u116
            refine wk_n ?_
            refine wi_aload_n (i := 0) (x := 236) (nx := 103) (r1 := 0) (r2 := 0) (r3 := 0) rfl rfl ?_
            refine wi_iconst (n := 0) (nx := 104) (r1 := 0) (r2 := 0) (r3 := 0) rfl ?_
            refine wr_pf2 (k0 := 236) (x := 0) (bl := 0) (bh := 1) (nx := 107) (r1 := 11) (r2 := 45) (r3 := 2) rfl (by decide) rfl ⟨rfl, rfl⟩ rfl (by omega) rfl g116 rfl (by omega) (fun h118 g118 w118 u118 => ?_)
            have F119 := F117.then rfl u118
            refine wi_aload_n (i := 0) (x := 236) (nx := 108) (r1 := 0) (r2 := 0) (r3 := 0) rfl rfl ?_
            refine wr_V (k0 := 236) (rest := []) (as := [.ref 236]) (nx := 111) (r1 := 339) (r2 := 0) (r3 := 11) rfl rfl rfl (of_decide_eq_true rfl) rfl rfl (by decide) rfl rfl (of_decide_eq_true rfl) (of_decide_eq_true rfl) ?_
            have e121 : h118 238 98 = h 238 98 := ((u118 238 98 rfl).trans ((u116 238 98 rfl).trans ((u113 238 98 rfl).trans ((u108 238 98 rfl).trans ((u106 238 98 rfl).trans ((u81 238 98 rfl).trans ((u60 238 98 rfl).trans ((u34 238 98 rfl).trans ((u29 238 98 rfl).trans ((u27 238 98 rfl).trans ((u25 238 98 rfl).trans (u13 238 98 rfl))))))))))))
            have e122 : h118 238 99 = h 238 99 := ((u118 238 99 rfl).trans ((u116 238 99 rfl).trans ((u113 238 99 rfl).trans ((u108 238 99 rfl).trans ((u106 238 99 rfl).trans ((u81 238 99 rfl).trans ((u60 238 99 rfl).trans ((u34 238 99 rfl).trans ((u29 238 99 rfl).trans ((u27 238 99 rfl).trans ((u25 238 99 rfl).trans (u13 238 99 rfl))))))))))))
            have e123 : h118 238 100 = h 238 100 := ((u118 238 100 rfl).trans ((u116 238 100 rfl).trans ((u113 238 100 rfl).trans ((u108 238 100 rfl).trans ((u106 238 100 rfl).trans ((u81 238 100 rfl).trans ((u60 238 100 rfl).trans ((u34 238 100 rfl).trans ((u29 238 100 rfl).trans ((u27 238 100 rfl).trans ((u25 238 100 rfl).trans (u13 238 100 rfl))))))))))))
            have e124 : h118 238 101 = h 238 101 := ((u118 238 101 rfl).trans ((u116 238 101 rfl).trans ((u113 238 101 rfl).trans ((u108 238 101 rfl).trans ((u106 238 101 rfl).trans ((u81 238 101 rfl).trans ((u60 238 101 rfl).trans ((u34 238 101 rfl).trans ((u29 238 101 rfl).trans ((u27 238 101 rfl).trans ((u25 238 101 rfl).trans (u13 238 101 rfl))))))))))))
            have e125 : h118 238 102 = h 238 102 := ((u118 238 102 rfl).trans ((u116 238 102 rfl).trans ((u113 238 102 rfl).trans ((u108 238 102 rfl).trans ((u106 238 102 rfl).trans ((u81 238 102 rfl).trans ((u60 238 102 rfl).trans ((u34 238 102 rfl).trans ((u29 238 102 rfl).trans ((u27 238 102 rfl).trans ((u25 238 102 rfl).trans (u13 238 102 rfl))))))))))))
            have e126 : h118 238 106 = h 238 106 := ((u118 238 106 rfl).trans ((u116 238 106 rfl).trans ((u113 238 106 rfl).trans ((u108 238 106 rfl).trans ((u106 238 106 rfl).trans ((u81 238 106 rfl).trans ((u60 238 106 rfl).trans ((u34 238 106 rfl).trans ((u29 238 106 rfl).trans ((u27 238 106 rfl).trans ((u25 238 106 rfl).trans (u13 238 106 rfl))))))))))))
            have e127 : h118 238 73 = h 238 73 := ((u118 238 73 rfl).trans ((u116 238 73 rfl).trans ((u113 238 73 rfl).trans ((u108 238 73 rfl).trans ((u106 238 73 rfl).trans ((u81 238 73 rfl).trans ((u60 238 73 rfl).trans ((u34 238 73 rfl).trans ((u29 238 73 rfl).trans ((u27 238 73 rfl).trans ((u25 238 73 rfl).trans (u13 238 73 rfl))))))))))))
            have e128 : h118 238 2 = h 238 2 := ((u118 238 2 rfl).trans ((u116 238 2 rfl).trans ((u113 238 2 rfl).trans ((u108 238 2 rfl).trans ((u106 238 2 rfl).trans ((u81 238 2 rfl).trans ((u60 238 2 rfl).trans ((u34 238 2 rfl).trans ((u29 238 2 rfl).trans ((u27 238 2 rfl).trans ((u25 238 2 rfl).trans (u13 238 2 rfl))))))))))))
            have e129 : h118 238 119 = h 238 119 := ((u118 238 119 rfl).trans ((u116 238 119 rfl).trans ((u113 238 119 rfl).trans ((u108 238 119 rfl).trans ((u106 238 119 rfl).trans ((u81 238 119 rfl).trans ((u60 238 119 rfl).trans ((u34 238 119 rfl).trans ((u29 238 119 rfl).trans ((u27 238 119 rfl).trans ((u25 238 119 rfl).trans (u13 238 119 rfl))))))))))))
            have e130 : h118 238 67 = h 238 67 := ((u118 238 67 rfl).trans ((u116 238 67 rfl).trans ((u113 238 67 rfl).trans ((u108 238 67 rfl).trans ((u106 238 67 rfl).trans ((u81 238 67 rfl).trans ((u60 238 67 rfl).trans ((u34 238 67 rfl).trans ((u29 238 67 rfl).trans ((u27 238 67 rfl).trans ((u25 238 67 rfl).trans (u13 238 67 rfl))))))))))))
            have e131 : h118 238 69 = h 238 69 := ((u118 238 69 rfl).trans ((u116 238 69 rfl).trans ((u113 238 69 rfl).trans ((u108 238 69 rfl).trans ((u106 238 69 rfl).trans ((u81 238 69 rfl).trans ((u60 238 69 rfl).trans ((u34 238 69 rfl).trans ((u29 238 69 rfl).trans ((u27 238 69 rfl).trans ((u25 238 69 rfl).trans (u13 238 69 rfl))))))))))))
            have e132 : h118 238 5 = h 238 5 := ((u118 238 5 rfl).trans ((u116 238 5 rfl).trans ((u113 238 5 rfl).trans ((u108 238 5 rfl).trans ((u106 238 5 rfl).trans ((u81 238 5 rfl).trans ((u60 238 5 rfl).trans ((u34 238 5 rfl).trans ((u29 238 5 rfl).trans ((u27 238 5 rfl).trans ((u25 238 5 rfl).trans (u13 238 5 rfl))))))))))))
            have e134 : h118 236 42 = h81 236 42 := ((u118 236 42 rfl).trans ((u116 236 42 rfl).trans ((u113 236 42 rfl).trans ((u108 236 42 rfl).trans (u106 236 42 rfl)))))
            have e135 : h118 236 44 = h81 236 44 := ((u118 236 44 rfl).trans ((u116 236 44 rfl).trans ((u113 236 44 rfl).trans ((u108 236 44 rfl).trans (u106 236 44 rfl)))))
            have e136 : h118 236 8 = h81 236 8 := ((u118 236 8 rfl).trans ((u116 236 8 rfl).trans ((u113 236 8 rfl).trans ((u108 236 8 rfl).trans (u106 236 8 rfl)))))
            have q137 : h118 253 = h81 253 := funext (fun i => ((u118 253 i rfl).trans ((u116 253 i (fo_no_ok (by decide) i)).trans ((u113 253 i rfl).trans ((u108 253 i rfl).trans (u106 253 i rfl))))))
            refine ct_339_236 hcr  g118   (show (h118 238 98) + (h118 238 99) + (h118 238 100) + (h118 238 101) + (h118 238 102) + (h118 238 106) = (h118 238 73) by omega) (show (h118 238 73) ≤ (h118 238 2) by omega) (show (h118 238 119) ≤ (h118 238 67) by omega) (show (h118 238 69) ≤ (h118 238 5) by omega) (show (h118 238 2) ≤ 12 * (h118 238 5) by omega) (by rw [q137, show h118 236 42 = h81 236 42 by omega, show h118 236 44 = h81 236 44 by omega]; exact y81_0 (by omega)) (fun h120 z133 g120 u120 (fz133 : 0 ≤ z133 ∧ z133 ≤ 100) (p120_0 : (h120 238 98) + (h120 238 99) + (h120 238 100) + (h120 238 101) + (h120 238 102) + (h120 238 106) = (h120 238 73)) (p120_1 : (h120 238 73) ≤ (h120 238 2)) (p120_2 : (h120 238 119) ≤ (h120 238 67)) (p120_3 : (h120 238 69) ≤ (h120 238 5)) (p120_4 : (h120 238 2) ≤ 12 * (h120 238 5)) => ?_)
            have F138 := F119.then (by decide +kernel) u120
            have b139 := gi_b (lo := 0) (hi := 6) g120 238 98 rfl
            have b140 := gi_b (lo := 0) (hi := 6) g120 238 99 rfl
            have b141 := gi_b (lo := 0) (hi := 6) g120 238 100 rfl
            have b142 := gi_b (lo := 0) (hi := 6) g120 238 101 rfl
            have b143 := gi_b (lo := 0) (hi := 3) g120 238 102 rfl
            have b144 := gi_b (lo := 0) (hi := 12) g120 238 106 rfl
            have b145 := gi_b (lo := 0) (hi := 12) g120 238 73 rfl
            have e146 : h120 238 2 = h 238 2 := ((u120 238 2 rfl).trans ((u118 238 2 rfl).trans ((u116 238 2 rfl).trans ((u113 238 2 rfl).trans ((u108 238 2 rfl).trans ((u106 238 2 rfl).trans ((u81 238 2 rfl).trans ((u60 238 2 rfl).trans ((u34 238 2 rfl).trans ((u29 238 2 rfl).trans ((u27 238 2 rfl).trans ((u25 238 2 rfl).trans (u13 238 2 rfl)))))))))))))
            have b147 := gi_b (lo := 0) (hi := 9999) g120 238 119 rfl
            have b148 := gi_b (lo := 0) (hi := 9999) g120 238 67 rfl
            have b149 := gi_b (lo := 0) (hi := 9) g120 238 69 rfl
            have e150 : h120 238 5 = h 238 5 := ((u120 238 5 rfl).trans ((u118 238 5 rfl).trans ((u116 238 5 rfl).trans ((u113 238 5 rfl).trans ((u108 238 5 rfl).trans ((u106 238 5 rfl).trans ((u81 238 5 rfl).trans ((u60 238 5 rfl).trans ((u34 238 5 rfl).trans ((u29 238 5 rfl).trans ((u27 238 5 rfl).trans ((u25 238 5 rfl).trans (u13 238 5 rfl)))))))))))))
            refine wk_i ?_
            refine wi_istore_n (i := 1) (e := z133) (lo2 := [(1, vi z133), (0, .ref 236)]) (nx := 112) (r1 := 0) (r2 := 0) (r3 := 0) rfl rfl ?_
            refine wi_aload_n (i := 0) (x := 236) (nx := 113) (r1 := 0) (r2 := 0) (r3 := 0) rfl rfl ?_
            have b151 := gi_b (lo := 0) (hi := 1) g120 236 45 rfl
            refine wr_gi2 (k0 := 236) (x := h120 236 45) (nx := 116) (r1 := 11) (r2 := 45) (r3 := 0) rfl rfl (by decide) rfl ⟨rfl, rfl⟩ rfl rfl ?_
            refine wi_if (cd := .ne) (nx := 119) (r1 := 121) (r2 := 0) (r3 := 0) rfl (by omega) (fun (q152 : (h120 236 45) ≠ 0) => ?_) (fun (q152 : ¬ ((h120 236 45) ≠ 0)) => ?_)
            ·
              refine wi_aload_n (i := 0) (x := 236) (nx := 122) (r1 := 0) (r2 := 0) (r3 := 0) rfl rfl ?_
              refine wr_gr (k0 := 236) (x := 257) (nx := 125) (r1 := 11) (r2 := 41) (r3 := 0) rfl rfl (by decide) rfl ⟨rfl, rfl⟩ rfl ?_
              refine wi_aload_n (i := 0) (x := 236) (nx := 126) (r1 := 0) (r2 := 0) (r3 := 0) rfl rfl ?_
              refine wr_gr (k0 := 236) (x := 240) (nx := 129) (r1 := 11) (r2 := 15) (r3 := 0) rfl rfl (by decide) rfl ⟨rfl, rfl⟩ rfl ?_
              refine wi_S (rest := []) (as := [.ref 257, .ref 240]) (nx := 132) (r1 := 238) (r2 := 18) (r3 := 0) rfl rfl rfl (of_decide_eq_true rfl) rfl rfl (of_decide_eq_true rfl) (of_decide_eq_true rfl) ?_
              refine ct_238_257_240 hcr  g120    (fun h153 g153 u153 y153_0 => ?_)
              have F154 := F138.then (by decide +kernel) u153
              refine wk_n ?_
              refine wi_aload_n (i := 0) (x := 236) (nx := 133) (r1 := 0) (r2 := 0) (r3 := 0) rfl rfl ?_
              refine wr_V (k0 := 236) (rest := []) (as := [.ref 236]) (nx := 136) (r1 := 315) (r2 := 0) (r3 := 11) rfl rfl rfl (of_decide_eq_true rfl) rfl rfl (by decide) rfl rfl (of_decide_eq_true rfl) (of_decide_eq_true rfl) ?_
              have e156 : h153 238 98 = h120 238 98 := (u153 238 98 rfl)
              have e157 : h153 238 99 = h120 238 99 := (u153 238 99 rfl)
              have e158 : h153 238 100 = h120 238 100 := (u153 238 100 rfl)
              have e159 : h153 238 101 = h120 238 101 := (u153 238 101 rfl)
              have e160 : h153 238 102 = h120 238 102 := (u153 238 102 rfl)
              have e161 : h153 238 106 = h120 238 106 := (u153 238 106 rfl)
              have e162 : h153 238 73 = h120 238 73 := (u153 238 73 rfl)
              have e163 : h153 238 2 = h 238 2 := ((u153 238 2 rfl).trans ((u120 238 2 rfl).trans ((u118 238 2 rfl).trans ((u116 238 2 rfl).trans ((u113 238 2 rfl).trans ((u108 238 2 rfl).trans ((u106 238 2 rfl).trans ((u81 238 2 rfl).trans ((u60 238 2 rfl).trans ((u34 238 2 rfl).trans ((u29 238 2 rfl).trans ((u27 238 2 rfl).trans ((u25 238 2 rfl).trans (u13 238 2 rfl))))))))))))))
              have e164 : h153 238 119 = h120 238 119 := (u153 238 119 rfl)
              have e165 : h153 238 67 = h120 238 67 := (u153 238 67 rfl)
              have e166 : h153 238 69 = h120 238 69 := (u153 238 69 rfl)
              have e167 : h153 238 5 = h 238 5 := ((u153 238 5 rfl).trans ((u120 238 5 rfl).trans ((u118 238 5 rfl).trans ((u116 238 5 rfl).trans ((u113 238 5 rfl).trans ((u108 238 5 rfl).trans ((u106 238 5 rfl).trans ((u81 238 5 rfl).trans ((u60 238 5 rfl).trans ((u34 238 5 rfl).trans ((u29 238 5 rfl).trans ((u27 238 5 rfl).trans ((u25 238 5 rfl).trans (u13 238 5 rfl))))))))))))))
              have e168 : h153 240 98 = h 238 98 := ((y153_0 98 (by decide)).trans ((u120 257 98 rfl).trans ((u118 257 98 rfl).trans ((y116_0 98 (by decide)).trans ((u113 238 98 rfl).trans ((u108 238 98 rfl).trans ((u106 238 98 rfl).trans ((u81 238 98 rfl).trans ((u60 238 98 rfl).trans ((u34 238 98 rfl).trans ((u29 238 98 rfl).trans ((u27 238 98 rfl).trans ((u25 238 98 rfl).trans (u13 238 98 rfl))))))))))))))
              have e169 : h153 240 99 = h 238 99 := ((y153_0 99 (by decide)).trans ((u120 257 99 rfl).trans ((u118 257 99 rfl).trans ((y116_0 99 (by decide)).trans ((u113 238 99 rfl).trans ((u108 238 99 rfl).trans ((u106 238 99 rfl).trans ((u81 238 99 rfl).trans ((u60 238 99 rfl).trans ((u34 238 99 rfl).trans ((u29 238 99 rfl).trans ((u27 238 99 rfl).trans ((u25 238 99 rfl).trans (u13 238 99 rfl))))))))))))))
              have e170 : h153 240 100 = h 238 100 := ((y153_0 100 (by decide)).trans ((u120 257 100 rfl).trans ((u118 257 100 rfl).trans ((y116_0 100 (by decide)).trans ((u113 238 100 rfl).trans ((u108 238 100 rfl).trans ((u106 238 100 rfl).trans ((u81 238 100 rfl).trans ((u60 238 100 rfl).trans ((u34 238 100 rfl).trans ((u29 238 100 rfl).trans ((u27 238 100 rfl).trans ((u25 238 100 rfl).trans (u13 238 100 rfl))))))))))))))
              have e171 : h153 240 101 = h 238 101 := ((y153_0 101 (by decide)).trans ((u120 257 101 rfl).trans ((u118 257 101 rfl).trans ((y116_0 101 (by decide)).trans ((u113 238 101 rfl).trans ((u108 238 101 rfl).trans ((u106 238 101 rfl).trans ((u81 238 101 rfl).trans ((u60 238 101 rfl).trans ((u34 238 101 rfl).trans ((u29 238 101 rfl).trans ((u27 238 101 rfl).trans ((u25 238 101 rfl).trans (u13 238 101 rfl))))))))))))))
              have e172 : h153 240 102 = h 238 102 := ((y153_0 102 (by decide)).trans ((u120 257 102 rfl).trans ((u118 257 102 rfl).trans ((y116_0 102 (by decide)).trans ((u113 238 102 rfl).trans ((u108 238 102 rfl).trans ((u106 238 102 rfl).trans ((u81 238 102 rfl).trans ((u60 238 102 rfl).trans ((u34 238 102 rfl).trans ((u29 238 102 rfl).trans ((u27 238 102 rfl).trans ((u25 238 102 rfl).trans (u13 238 102 rfl))))))))))))))
              have e173 : h153 240 106 = h 238 106 := ((y153_0 106 (by decide)).trans ((u120 257 106 rfl).trans ((u118 257 106 rfl).trans ((y116_0 106 (by decide)).trans ((u113 238 106 rfl).trans ((u108 238 106 rfl).trans ((u106 238 106 rfl).trans ((u81 238 106 rfl).trans ((u60 238 106 rfl).trans ((u34 238 106 rfl).trans ((u29 238 106 rfl).trans ((u27 238 106 rfl).trans ((u25 238 106 rfl).trans (u13 238 106 rfl))))))))))))))
              have e174 : h153 240 73 = h 238 73 := ((y153_0 73 (by decide)).trans ((u120 257 73 rfl).trans ((u118 257 73 rfl).trans ((y116_0 73 (by decide)).trans ((u113 238 73 rfl).trans ((u108 238 73 rfl).trans ((u106 238 73 rfl).trans ((u81 238 73 rfl).trans ((u60 238 73 rfl).trans ((u34 238 73 rfl).trans ((u29 238 73 rfl).trans ((u27 238 73 rfl).trans ((u25 238 73 rfl).trans (u13 238 73 rfl))))))))))))))
              have e175 : h153 240 2 = h 238 2 := ((y153_0 2 (by decide)).trans ((u120 257 2 rfl).trans ((u118 257 2 rfl).trans ((y116_0 2 (by decide)).trans ((u113 238 2 rfl).trans ((u108 238 2 rfl).trans ((u106 238 2 rfl).trans ((u81 238 2 rfl).trans ((u60 238 2 rfl).trans ((u34 238 2 rfl).trans ((u29 238 2 rfl).trans ((u27 238 2 rfl).trans ((u25 238 2 rfl).trans (u13 238 2 rfl))))))))))))))
              have e176 : h153 240 119 = h 238 119 := ((y153_0 119 (by decide)).trans ((u120 257 119 rfl).trans ((u118 257 119 rfl).trans ((y116_0 119 (by decide)).trans ((u113 238 119 rfl).trans ((u108 238 119 rfl).trans ((u106 238 119 rfl).trans ((u81 238 119 rfl).trans ((u60 238 119 rfl).trans ((u34 238 119 rfl).trans ((u29 238 119 rfl).trans ((u27 238 119 rfl).trans ((u25 238 119 rfl).trans (u13 238 119 rfl))))))))))))))
              have e177 : h153 240 67 = h 238 67 := ((y153_0 67 (by decide)).trans ((u120 257 67 rfl).trans ((u118 257 67 rfl).trans ((y116_0 67 (by decide)).trans ((u113 238 67 rfl).trans ((u108 238 67 rfl).trans ((u106 238 67 rfl).trans ((u81 238 67 rfl).trans ((u60 238 67 rfl).trans ((u34 238 67 rfl).trans ((u29 238 67 rfl).trans ((u27 238 67 rfl).trans ((u25 238 67 rfl).trans (u13 238 67 rfl))))))))))))))
              have e178 : h153 240 69 = h 238 69 := ((y153_0 69 (by decide)).trans ((u120 257 69 rfl).trans ((u118 257 69 rfl).trans ((y116_0 69 (by decide)).trans ((u113 238 69 rfl).trans ((u108 238 69 rfl).trans ((u106 238 69 rfl).trans ((u81 238 69 rfl).trans ((u60 238 69 rfl).trans ((u34 238 69 rfl).trans ((u29 238 69 rfl).trans ((u27 238 69 rfl).trans ((u25 238 69 rfl).trans (u13 238 69 rfl))))))))))))))
              have e179 : h153 240 5 = h 238 5 := ((y153_0 5 (by decide)).trans ((u120 257 5 rfl).trans ((u118 257 5 rfl).trans ((y116_0 5 (by decide)).trans ((u113 238 5 rfl).trans ((u108 238 5 rfl).trans ((u106 238 5 rfl).trans ((u81 238 5 rfl).trans ((u60 238 5 rfl).trans ((u34 238 5 rfl).trans ((u29 238 5 rfl).trans ((u27 238 5 rfl).trans ((u25 238 5 rfl).trans (u13 238 5 rfl))))))))))))))
              have gs180 := GPS.fr u13 rfl xq1
              have gs181 := GPS.fr u25 rfl gs180
              have gs182 := GPS.fr u27 rfl gs181
              have gs183 := GPS.fr u29 rfl gs182
              have gs184 := GPS.fr u34 rfl gs183
              have gs185 := GPS.fr u60 rfl gs184
              have gs186 := GPS.fr u81 rfl gs185
              have gs187 := GPS.fr u106 rfl gs186
              have gs188 := GPS.fr u108 rfl gs187
              have gs189 := GPS.fr u113 rfl gs188
              have gs190 := GPS.fr u116 rfl gs189
              have gs191 := GPS.fr u118 rfl gs190
              have gs192 := GPS.fr u120 rfl gs191
              have gs193 := GPS.fr u153 rfl gs192
              have gp194 := GPH.fr u13 rfl gp0
              have gp195 := GPH.fr u25 rfl gp194
              have gp196 := GPH.fr u27 rfl gp195
              have gp197 := GPH.fr u29 rfl gp196
              have gp198 := GPH.fr u34 rfl gp197
              have gp199 := GPH.fr u60 rfl gp198
              have gp200 := GPH.fr u81 rfl gp199
              have gp201 := GPH.fr u106 rfl gp200
              have gp202 := GPH.fr u108 rfl gp201
              have gp203 := GPH.fr u113 rfl gp202
              have gp204 := GPH.fr u116 rfl gp203
              have gp205 := GPH.fr u118 rfl gp204
              have gp206 := GPH.fr u120 rfl gp205
              have gp207 := GPH.fr u153 rfl gp206
              refine ct_315_236 hcr  g153   (show (h153 238 98) + (h153 238 99) + (h153 238 100) + (h153 238 101) + (h153 238 102) + (h153 238 106) = (h153 238 73) by omega) (show (h153 238 73) ≤ (h153 238 2) by omega) (show (h153 238 119) ≤ (h153 238 67) by omega) (show (h153 238 69) ≤ (h153 238 5) by omega) (show (h153 238 2) ≤ 12 * (h153 238 5) by omega) (show (h153 240 98) + (h153 240 99) + (h153 240 100) + (h153 240 101) + (h153 240 102) + (h153 240 106) = (h153 240 73) by omega) (show (h153 240 73) ≤ (h153 240 2) by omega) (show (h153 240 119) ≤ (h153 240 67) by omega) (show (h153 240 69) ≤ (h153 240 5) by omega) (show (h153 240 2) ≤ 12 * (h153 240 5) by omega) gs193 (fun i _ => (((y153_0 i (by omega)).trans ((u120 257 i (fo_nk rfl)).trans ((u118 257 i (fn_a (by omega) fn_0)).trans ((y116_0 i (by omega)).trans ((u113 238 i (fn_a (by omega) fn_0)).trans ((u108 238 i (fn_a (by omega) fn_0)).trans ((u106 238 i (fn_a (by omega) fn_0)).trans ((u81 238 i (fo_nk rfl)).trans ((u60 238 i (fo_nk rfl)).trans ((u34 238 i (fo_nk rfl)).trans ((u29 238 i (fn_a (by omega) fn_0)).trans ((u27 238 i (fn_a (by omega) fn_0)).trans ((u25 238 i (fn_a (by omega) fn_0)).trans (u13 238 i (fo_nk rfl)))))))))))))))).trans (((u153 238 i (fn_a (by omega) fn_0)).trans ((u120 238 i (fo_lk (m := 31) (by omega) rfl)).trans ((u118 238 i (fn_a (by omega) fn_0)).trans ((u116 238 i (fn_a (by omega) fn_0)).trans ((u113 238 i (fn_a (by omega) fn_0)).trans ((u108 238 i (fn_a (by omega) fn_0)).trans ((u106 238 i (fn_a (by omega) fn_0)).trans ((u81 238 i (fo_nk rfl)).trans ((u60 238 i (fo_nk rfl)).trans ((u34 238 i (fo_nk rfl)).trans ((u29 238 i (fn_a (by omega) fn_0)).trans ((u27 238 i (fn_a (by omega) fn_0)).trans ((u25 238 i (fn_a (by omega) fn_0)).trans (u13 238 i (fo_nk rfl)))))))))))))))).symm) gp207 (fun h155 g155 u155 y155_0 y155_1 => ?_)
              have F208 := F154.then (by decide +kernel) u155
              refine wk_n ?_
              refine wi_iload_n (i := 1) (e := z133) (nx := 137) (r1 := 0) (r2 := 0) (r3 := 0) rfl rfl ?_
              refine wi_ireturn (nx := 138) (r1 := 0) (r2 := 0) (r3 := 0) rfl rfl ?_
              have e209 : h155 238 98 = h120 238 98 := ((u155 238 98 rfl).trans (u153 238 98 rfl))
              have e210 : h155 238 99 = h120 238 99 := ((u155 238 99 rfl).trans (u153 238 99 rfl))
              have e211 : h155 238 100 = h120 238 100 := ((u155 238 100 rfl).trans (u153 238 100 rfl))
              have e212 : h155 238 101 = h120 238 101 := ((u155 238 101 rfl).trans (u153 238 101 rfl))
              have e213 : h155 238 102 = h120 238 102 := ((u155 238 102 rfl).trans (u153 238 102 rfl))
              have e214 : h155 238 106 = h120 238 106 := ((u155 238 106 rfl).trans (u153 238 106 rfl))
              have e215 : h155 238 73 = h120 238 73 := ((u155 238 73 rfl).trans (u153 238 73 rfl))
              have e216 : h155 238 2 = h 238 2 := ((u155 238 2 rfl).trans ((u153 238 2 rfl).trans ((u120 238 2 rfl).trans ((u118 238 2 rfl).trans ((u116 238 2 rfl).trans ((u113 238 2 rfl).trans ((u108 238 2 rfl).trans ((u106 238 2 rfl).trans ((u81 238 2 rfl).trans ((u60 238 2 rfl).trans ((u34 238 2 rfl).trans ((u29 238 2 rfl).trans ((u27 238 2 rfl).trans ((u25 238 2 rfl).trans (u13 238 2 rfl)))))))))))))))
              have e217 : h155 238 119 = h120 238 119 := ((u155 238 119 rfl).trans (u153 238 119 rfl))
              have e218 : h155 238 67 = h120 238 67 := ((u155 238 67 rfl).trans (u153 238 67 rfl))
              have e219 : h155 238 69 = h120 238 69 := ((u155 238 69 rfl).trans (u153 238 69 rfl))
              have e220 : h155 238 5 = h 238 5 := ((u155 238 5 rfl).trans ((u153 238 5 rfl).trans ((u120 238 5 rfl).trans ((u118 238 5 rfl).trans ((u116 238 5 rfl).trans ((u113 238 5 rfl).trans ((u108 238 5 rfl).trans ((u106 238 5 rfl).trans ((u81 238 5 rfl).trans ((u60 238 5 rfl).trans ((u34 238 5 rfl).trans ((u29 238 5 rfl).trans ((u27 238 5 rfl).trans ((u25 238 5 rfl).trans (u13 238 5 rfl)))))))))))))))
              have e221 : h155 236 2 = h13 236 2 := ((u155 236 2 rfl).trans ((u153 236 2 rfl).trans ((u120 236 2 rfl).trans ((u118 236 2 rfl).trans ((u116 236 2 rfl).trans ((u113 236 2 rfl).trans ((u108 236 2 rfl).trans ((u106 236 2 rfl).trans ((u81 236 2 rfl).trans ((u60 236 2 rfl).trans ((u34 236 2 rfl).trans ((u29 236 2 rfl).trans ((u27 236 2 rfl).trans (u25 236 2 rfl))))))))))))))
              have e222 : h155 236 10 = h81 236 8 := ((u155 236 10 rfl).trans ((u153 236 10 rfl).trans ((u120 236 10 rfl).trans ((u118 236 10 rfl).trans ((u116 236 10 rfl).trans ((u113 236 10 rfl).trans ((u108 236 10 rfl).trans w106)))))))
              have e223 : h155 236 11 = h81 236 9 := ((u155 236 11 rfl).trans ((u153 236 11 rfl).trans ((u120 236 11 rfl).trans ((u118 236 11 rfl).trans ((u116 236 11 rfl).trans ((u113 236 11 rfl).trans w108))))))
              exact k h155 z133 g155 F208 (by omega) (show (h155 238 98) + (h155 238 99) + (h155 238 100) + (h155 238 101) + (h155 238 102) + (h155 238 106) = (h155 238 73) by omega) (show (h155 238 73) ≤ (h155 238 2) by omega) (show (h155 238 119) ≤ (h155 238 67) by omega) (show (h155 238 69) ≤ (h155 238 5) by omega) (show (h155 238 2) ≤ 12 * (h155 238 5) by omega) (show (h155 236 2) = 0 by omega) (show (h155 236 10) = sc_ec tB tn by omega) (show (h155 236 11) = sc_ep tB tn by omega) y155_0 y155_1
            ·
              refine wi_iload_n (i := 1) (e := z133) (nx := 120) (r1 := 0) (r2 := 0) (r3 := 0) rfl rfl ?_
              refine wi_ireturn (nx := 121) (r1 := 0) (r2 := 0) (r3 := 0) rfl rfl ?_
              have e153 : h120 236 2 = h13 236 2 := ((u120 236 2 rfl).trans ((u118 236 2 rfl).trans ((u116 236 2 rfl).trans ((u113 236 2 rfl).trans ((u108 236 2 rfl).trans ((u106 236 2 rfl).trans ((u81 236 2 rfl).trans ((u60 236 2 rfl).trans ((u34 236 2 rfl).trans ((u29 236 2 rfl).trans ((u27 236 2 rfl).trans (u25 236 2 rfl))))))))))))
              have e154 : h120 236 10 = h81 236 8 := ((u120 236 10 rfl).trans ((u118 236 10 rfl).trans ((u116 236 10 rfl).trans ((u113 236 10 rfl).trans ((u108 236 10 rfl).trans w106)))))
              have e155 : h120 236 11 = h81 236 9 := ((u120 236 11 rfl).trans ((u118 236 11 rfl).trans ((u116 236 11 rfl).trans ((u113 236 11 rfl).trans w108))))
              have gs156 := GPS.fr u13 rfl xq1
              have gs157 := GPS.fr u25 rfl gs156
              have gs158 := GPS.fr u27 rfl gs157
              have gs159 := GPS.fr u29 rfl gs158
              have gs160 := GPS.fr u34 rfl gs159
              have gs161 := GPS.fr u60 rfl gs160
              have gs162 := GPS.fr u81 rfl gs161
              have gs163 := GPS.fr u106 rfl gs162
              have gs164 := GPS.fr u108 rfl gs163
              have gs165 := GPS.fr u113 rfl gs164
              have gs166 := GPS.fr u116 rfl gs165
              have gs167 := GPS.fr u118 rfl gs166
              have gs168 := GPS.fr u120 rfl gs167
              have gp169 := GPH.fr u13 rfl gp0
              have gp170 := GPH.fr u25 rfl gp169
              have gp171 := GPH.fr u27 rfl gp170
              have gp172 := GPH.fr u29 rfl gp171
              have gp173 := GPH.fr u34 rfl gp172
              have gp174 := GPH.fr u60 rfl gp173
              have gp175 := GPH.fr u81 rfl gp174
              have gp176 := GPH.fr u106 rfl gp175
              have gp177 := GPH.fr u108 rfl gp176
              have gp178 := GPH.fr u113 rfl gp177
              have gp179 := GPH.fr u116 rfl gp178
              have gp180 := GPH.fr u118 rfl gp179
              have gp181 := GPH.fr u120 rfl gp180
              exact k h120 z133 g120 F138 (by omega) (show (h120 238 98) + (h120 238 99) + (h120 238 100) + (h120 238 101) + (h120 238 102) + (h120 238 106) = (h120 238 73) by omega) (show (h120 238 73) ≤ (h120 238 2) by omega) (show (h120 238 119) ≤ (h120 238 67) by omega) (show (h120 238 69) ≤ (h120 238 5) by omega) (show (h120 238 2) ≤ 12 * (h120 238 5) by omega) (show (h120 236 2) = 0 by omega) (show (h120 236 10) = sc_ec tB tn by omega) (show (h120 236 11) = sc_ep tB tn by omega) gs168 gp181
          ·
            refine wi_aload_n (i := 0) (x := 236) (nx := 78) (r1 := 0) (r2 := 0) (r3 := 0) rfl rfl ?_
            refine wi_iconst (n := 1) (nx := 79) (r1 := 0) (r2 := 0) (r3 := 0) rfl ?_
            refine wr_V (k0 := 236) (rest := []) (as := [.ref 236, vi 1]) (nx := 82) (r1 := 224) (r2 := 1) (r3 := 11) rfl rfl rfl (of_decide_eq_true rfl) rfl rfl (by decide) rfl rfl (of_decide_eq_true rfl) (of_decide_eq_true rfl) ?_
            refine ct_224_236 hcr  g81 1 (by omega)  (fun h105 g105 u105 (p105_0 : 1 ≤ (h105 236 8)) (p105_1 : (1 ≤ (h81 236 8) ∧ (h105 236 8) = (h81 236 8) ∧ (h105 236 9) = (h81 236 9)) ∨ ((h81 236 8) = 0 ∧ (h105 236 9) = (h81 236 5) ∧ (((h81 236 6) = 4 ∧ (h105 236 8) = 1) ∨ ((h81 236 6) ≠ 4 ∧ (h105 236 8) = 1)))) => ?_)
            have F106 := F85.then (by decide +kernel) u105
            have b107 := gi_b (lo := 0) (hi := 5) g105 236 8 rfl
            have b108 := gi_b (lo := -2147483648) (hi := 2147483647) g105 236 9 rfl
            refine wk_n ?_
            have e110 : h105 236 44 = h81 236 44 := (u105 236 44 rfl)
            have RE109 := sc_REq (frs102.symm.trans (sc_e1 (by omega) (by omega)))
            refine wi_aload_n (i := 0) (x := 236) (nx := 83) (r1 := 0) (r2 := 0) (r3 := 0) rfl rfl ?_
            refine wr_V (k0 := 236) (rest := []) (as := [.ref 236]) (nx := 86) (r1 := 237) (r2 := 0) (r3 := 11) rfl rfl rfl (of_decide_eq_true rfl) rfl rfl (by decide) rfl rfl (of_decide_eq_true rfl) (of_decide_eq_true rfl) ?_
            refine wi_aload_n (i := 0) (x := 236) (nx := 1) (r1 := 0) (r2 := 0) (r3 := 0) rfl rfl ?_
            refine wi_aload_n (i := 0) (x := 236) (nx := 2) (r1 := 0) (r2 := 0) (r3 := 0) rfl rfl ?_
            refine wr_gi0 (k0 := 236) (x := h105 236 8) (nx := 5) (r1 := 11) (r2 := 8) (r3 := 0) rfl rfl (by decide) rfl ⟨rfl, rfl⟩ rfl rfl ?_
            refine wr_pf0 (k0 := 236) (x := h105 236 8) (bl := -2147483648) (bh := 2147483647) (nx := 8) (r1 := 11) (r2 := 10) (r3 := 0) rfl (by decide) rfl ⟨rfl, rfl⟩ rfl rfl g105 rfl (by omega) (fun h111 g111 w111 u111 => ?_)
            have F112 := F106.then rfl u111
            refine wi_aload_n (i := 0) (x := 236) (nx := 9) (r1 := 0) (r2 := 0) (r3 := 0) rfl rfl ?_
            refine wi_aload_n (i := 0) (x := 236) (nx := 10) (r1 := 0) (r2 := 0) (r3 := 0) rfl rfl ?_
            refine wr_gi0 (k0 := 236) (x := h105 236 9) (nx := 13) (r1 := 11) (r2 := 9) (r3 := 0) rfl rfl (by decide) rfl ⟨rfl, rfl⟩ rfl (u111 236 9 rfl) ?_
            refine wr_pf0 (k0 := 236) (x := h105 236 9) (bl := -2147483648) (bh := 2147483647) (nx := 16) (r1 := 11) (r2 := 11) (r3 := 0) rfl (by decide) rfl ⟨rfl, rfl⟩ rfl rfl g111 rfl (by omega) (fun h113 g113 w113 u113 => ?_)
            have F114 := F112.then rfl u113
            refine wi_aload_n (i := 0) (x := 236) (nx := 17) (r1 := 0) (r2 := 0) (r3 := 0) rfl rfl ?_
            refine wi_aload_n (i := 0) (x := 236) (nx := 18) (r1 := 0) (r2 := 0) (r3 := 0) rfl rfl ?_
            refine wr_gi0 (k0 := 236) (x := h105 236 8) (nx := 21) (r1 := 11) (r2 := 8) (r3 := 0) rfl rfl (by decide) rfl ⟨rfl, rfl⟩ rfl ((u113 236 8 rfl).trans (u111 236 8 rfl)) ?_
            refine wi_if (cd := .ne) (nx := 24) (r1 := 28) (r2 := 0) (r3 := 0) rfl (by omega) (fun (q115 : (h105 236 8) ≠ 0) => ?_) (fun (q115 : ¬ ((h105 236 8) ≠ 0)) => by exfalso; omega)
            refine wi_iconst (n := 0) (nx := 29) (r1 := 0) (r2 := 0) (r3 := 0) rfl ?_
            refine wr_V (k0 := 236) (rest := []) (as := [.ref 236, vi 0]) (nx := 32) (r1 := 206) (r2 := 1) (r3 := 11) rfl rfl rfl (of_decide_eq_true rfl) rfl rfl (by decide) rfl rfl (of_decide_eq_true rfl) (of_decide_eq_true rfl) ?_
            refine wi_aload_n (i := 0) (x := 236) (nx := 1) (r1 := 0) (r2 := 0) (r3 := 0) rfl rfl ?_
            refine wi_iload_n (i := 1) (e := 0) (nx := 2) (r1 := 0) (r2 := 0) (r3 := 0) rfl rfl ?_
            refine wi_if (cd := .ne) (nx := 5) (r1 := 9) (r2 := 0) (r3 := 0) rfl (by omega) (fun (q116 : 0 ≠ 0) => by exfalso; omega) (fun (q116 : ¬ (0 ≠ 0)) => ?_)
            refine wi_iconst (n := 1) (nx := 6) (r1 := 0) (r2 := 0) (r3 := 0) rfl ?_
            refine wi_goto (nx := 9) (r1 := 10) (r2 := 0) (r3 := 0) rfl ?_
            refine wi_S (rest := [.ref 236]) (as := [vi 1]) (nx := 13) (r1 := 207) (r2 := 17) (r3 := 0) rfl rfl rfl (of_decide_eq_true rfl) rfl rfl (of_decide_eq_true rfl) (of_decide_eq_true rfl) ?_
            refine wi_iload_n (i := 0) (e := 1) (nx := 1) (r1 := 0) (r2 := 0) (r3 := 0) rfl rfl ?_
            refine wi_if (cd := .eq) (nx := 4) (r1 := 8) (r2 := 0) (r3 := 0) rfl (by omega) (fun (q117 : 1 = 0) => by exfalso; omega) (fun (q117 : ¬ (1 = 0)) => ?_)
            refine wi_iconst (n := 1) (nx := 5) (r1 := 0) (r2 := 0) (r3 := 0) rfl ?_
            refine wi_goto (nx := 8) (r1 := 9) (r2 := 0) (r3 := 0) rfl ?_
            refine wi_ireturn (nx := 10) (r1 := 0) (r2 := 0) (r3 := 0) rfl rfl ?_
            refine wk_i ?_
            refine wr_pf0 (k0 := 236) (x := 1) (bl := 0) (bh := 2) (nx := 16) (r1 := 11) (r2 := 0) (r3 := 0) rfl (by decide) rfl ⟨rfl, rfl⟩ rfl rfl g113 rfl (by omega) (fun h118 g118 w118 u118 => ?_)
            have F119 := F114.then rfl u118
            refine wi_iload_n (i := 1) (e := 0) (nx := 17) (r1 := 0) (r2 := 0) (r3 := 0) rfl rfl ?_
            refine wi_zreturn (nx := 18) (r1 := 0) (r2 := 0) (r3 := 0) rfl rfl (by omega) ?_
            refine wk_i ?_
            refine wi_zreturn (nx := 33) (r1 := 0) (r2 := 0) (r3 := 0) rfl rfl (by omega) ?_
            refine wk_i ?_
            refine wi_if (cd := .ne) (nx := 89) (r1 := 91) (r2 := 0) (r3 := 0) rfl (by omega) (fun (q120 : 0 ≠ 0) => by exfalso; omega) (fun (q120 : ¬ (0 ≠ 0)) => ?_)
            refine wi_iconst (n := 0) (nx := 90) (r1 := 0) (r2 := 0) (r3 := 0) rfl ?_
            refine wi_ireturn (nx := 91) (r1 := 0) (r2 := 0) (r3 := 0) rfl rfl ?_
            have e121 : h118 238 98 = h 238 98 := ((u118 238 98 rfl).trans ((u113 238 98 rfl).trans ((u111 238 98 rfl).trans ((u105 238 98 rfl).trans ((u81 238 98 rfl).trans ((u60 238 98 rfl).trans ((u34 238 98 rfl).trans ((u29 238 98 rfl).trans ((u27 238 98 rfl).trans ((u25 238 98 rfl).trans (u13 238 98 rfl)))))))))))
            have e122 : h118 238 99 = h 238 99 := ((u118 238 99 rfl).trans ((u113 238 99 rfl).trans ((u111 238 99 rfl).trans ((u105 238 99 rfl).trans ((u81 238 99 rfl).trans ((u60 238 99 rfl).trans ((u34 238 99 rfl).trans ((u29 238 99 rfl).trans ((u27 238 99 rfl).trans ((u25 238 99 rfl).trans (u13 238 99 rfl)))))))))))
            have e123 : h118 238 100 = h 238 100 := ((u118 238 100 rfl).trans ((u113 238 100 rfl).trans ((u111 238 100 rfl).trans ((u105 238 100 rfl).trans ((u81 238 100 rfl).trans ((u60 238 100 rfl).trans ((u34 238 100 rfl).trans ((u29 238 100 rfl).trans ((u27 238 100 rfl).trans ((u25 238 100 rfl).trans (u13 238 100 rfl)))))))))))
            have e124 : h118 238 101 = h 238 101 := ((u118 238 101 rfl).trans ((u113 238 101 rfl).trans ((u111 238 101 rfl).trans ((u105 238 101 rfl).trans ((u81 238 101 rfl).trans ((u60 238 101 rfl).trans ((u34 238 101 rfl).trans ((u29 238 101 rfl).trans ((u27 238 101 rfl).trans ((u25 238 101 rfl).trans (u13 238 101 rfl)))))))))))
            have e125 : h118 238 102 = h 238 102 := ((u118 238 102 rfl).trans ((u113 238 102 rfl).trans ((u111 238 102 rfl).trans ((u105 238 102 rfl).trans ((u81 238 102 rfl).trans ((u60 238 102 rfl).trans ((u34 238 102 rfl).trans ((u29 238 102 rfl).trans ((u27 238 102 rfl).trans ((u25 238 102 rfl).trans (u13 238 102 rfl)))))))))))
            have e126 : h118 238 106 = h 238 106 := ((u118 238 106 rfl).trans ((u113 238 106 rfl).trans ((u111 238 106 rfl).trans ((u105 238 106 rfl).trans ((u81 238 106 rfl).trans ((u60 238 106 rfl).trans ((u34 238 106 rfl).trans ((u29 238 106 rfl).trans ((u27 238 106 rfl).trans ((u25 238 106 rfl).trans (u13 238 106 rfl)))))))))))
            have e127 : h118 238 73 = h 238 73 := ((u118 238 73 rfl).trans ((u113 238 73 rfl).trans ((u111 238 73 rfl).trans ((u105 238 73 rfl).trans ((u81 238 73 rfl).trans ((u60 238 73 rfl).trans ((u34 238 73 rfl).trans ((u29 238 73 rfl).trans ((u27 238 73 rfl).trans ((u25 238 73 rfl).trans (u13 238 73 rfl)))))))))))
            have e128 : h118 238 2 = h 238 2 := ((u118 238 2 rfl).trans ((u113 238 2 rfl).trans ((u111 238 2 rfl).trans ((u105 238 2 rfl).trans ((u81 238 2 rfl).trans ((u60 238 2 rfl).trans ((u34 238 2 rfl).trans ((u29 238 2 rfl).trans ((u27 238 2 rfl).trans ((u25 238 2 rfl).trans (u13 238 2 rfl)))))))))))
            have e129 : h118 238 119 = h 238 119 := ((u118 238 119 rfl).trans ((u113 238 119 rfl).trans ((u111 238 119 rfl).trans ((u105 238 119 rfl).trans ((u81 238 119 rfl).trans ((u60 238 119 rfl).trans ((u34 238 119 rfl).trans ((u29 238 119 rfl).trans ((u27 238 119 rfl).trans ((u25 238 119 rfl).trans (u13 238 119 rfl)))))))))))
            have e130 : h118 238 67 = h 238 67 := ((u118 238 67 rfl).trans ((u113 238 67 rfl).trans ((u111 238 67 rfl).trans ((u105 238 67 rfl).trans ((u81 238 67 rfl).trans ((u60 238 67 rfl).trans ((u34 238 67 rfl).trans ((u29 238 67 rfl).trans ((u27 238 67 rfl).trans ((u25 238 67 rfl).trans (u13 238 67 rfl)))))))))))
            have e131 : h118 238 69 = h 238 69 := ((u118 238 69 rfl).trans ((u113 238 69 rfl).trans ((u111 238 69 rfl).trans ((u105 238 69 rfl).trans ((u81 238 69 rfl).trans ((u60 238 69 rfl).trans ((u34 238 69 rfl).trans ((u29 238 69 rfl).trans ((u27 238 69 rfl).trans ((u25 238 69 rfl).trans (u13 238 69 rfl)))))))))))
            have e132 : h118 238 5 = h 238 5 := ((u118 238 5 rfl).trans ((u113 238 5 rfl).trans ((u111 238 5 rfl).trans ((u105 238 5 rfl).trans ((u81 238 5 rfl).trans ((u60 238 5 rfl).trans ((u34 238 5 rfl).trans ((u29 238 5 rfl).trans ((u27 238 5 rfl).trans ((u25 238 5 rfl).trans (u13 238 5 rfl)))))))))))
            have e133 : h118 236 2 = h13 236 2 := ((u118 236 2 rfl).trans ((u113 236 2 rfl).trans ((u111 236 2 rfl).trans ((u105 236 2 rfl).trans ((u81 236 2 rfl).trans ((u60 236 2 rfl).trans ((u34 236 2 rfl).trans ((u29 236 2 rfl).trans ((u27 236 2 rfl).trans (u25 236 2 rfl))))))))))
            have e134 : h118 236 10 = h105 236 8 := ((u118 236 10 rfl).trans ((u113 236 10 rfl).trans w111))
            have e135 : h118 236 11 = h105 236 9 := ((u118 236 11 rfl).trans w113)
            have gs136 := GPS.fr u13 rfl xq1
            have gs137 := GPS.fr u25 rfl gs136
            have gs138 := GPS.fr u27 rfl gs137
            have gs139 := GPS.fr u29 rfl gs138
            have gs140 := GPS.fr u34 rfl gs139
            have gs141 := GPS.fr u60 rfl gs140
            have gs142 := GPS.fr u81 rfl gs141
            have gs143 := GPS.fr u105 rfl gs142
            have gs144 := GPS.fr u111 rfl gs143
            have gs145 := GPS.fr u113 rfl gs144
            have gs146 := GPS.fr u118 rfl gs145
            have gp147 := GPH.fr u13 rfl gp0
            have gp148 := GPH.fr u25 rfl gp147
            have gp149 := GPH.fr u27 rfl gp148
            have gp150 := GPH.fr u29 rfl gp149
            have gp151 := GPH.fr u34 rfl gp150
            have gp152 := GPH.fr u60 rfl gp151
            have gp153 := GPH.fr u81 rfl gp152
            have gp154 := GPH.fr u105 rfl gp153
            have gp155 := GPH.fr u111 rfl gp154
            have gp156 := GPH.fr u113 rfl gp155
            have gp157 := GPH.fr u118 rfl gp156
            exact k h118 0 g118 F119 (by omega) (show (h118 238 98) + (h118 238 99) + (h118 238 100) + (h118 238 101) + (h118 238 102) + (h118 238 106) = (h118 238 73) by omega) (show (h118 238 73) ≤ (h118 238 2) by omega) (show (h118 238 119) ≤ (h118 238 67) by omega) (show (h118 238 69) ≤ (h118 238 5) by omega) (show (h118 238 2) ≤ 12 * (h118 238 5) by omega) (show (h118 236 2) = 0 by omega) (show (h118 236 10) = sc_ec tB tn by omega) (show (h118 236 11) = sc_ep tB tn by omega) gs146 gp157
        ·
          have e96 : h81 236 3 = h13 236 3 := ((u81 236 3 rfl).trans ((u60 236 3 rfl).trans ((u34 236 3 rfl).trans ((u29 236 3 rfl).trans ((u27 236 3 rfl).trans (u25 236 3 rfl))))))
          refine wp.lo (lo := [(0, .ref 236)]) ⟨rfl, trivial⟩ rfl ?_
          have q97 : h81 253 = h81 253 := funext (fun i => rfl)
          exact I34 h81 ⟨g81, F85, F86, (show ((h81 236 4) ≤ (h81 236 3)) ∧ ((h81 236 8) = 0) ∧ ((h81 236 6) ≠ 0) ∧ ((h81 236 42) + (h81 236 44) ≤ 2 * (h81 236 43)) by omega), (by rw [q97, show h81 236 42 = h81 236 42 by omega, show h81 236 44 = h81 236 44 by omega]; exact y81_0 (by omega)), y81_1⟩ (show ((h81 236 3) - (h81 236 4)).toNat < ((h34 236 3) - (h34 236 4)).toNat by omega)
    ·
      have b76 := gi_b (lo := 0) (hi := 800) g60 236 5 rfl
      have b77 := gi_b (lo := 0) (hi := 999) g60 236 7 rfl
      have b78 := gi_b (lo := -9223372036854775808) (hi := 9223372036854775807) g60 236 12 rfl
      obtain ⟨emq75, q75, eaq75, ecq75, edq75, tkq75, egq75, ebq75⟩ := sc_OM3 y60_1 (by omega) (by omega)
      obtain ⟨taq75, tbq75, tcq75⟩ := id tkq75
      have tN79 := @tk_nx_b tB tn q75 (by omega) (by omega)
      refine wi_aload_n (i := 0) (x := 236) (nx := 43) (r1 := 0) (r2 := 0) (r3 := 0) rfl rfl ?_
      refine wr_gi0 (k0 := 236) (x := h60 236 44) (nx := 46) (r1 := 11) (r2 := 44) (r3 := 0) rfl rfl (by decide) rfl ⟨rfl, rfl⟩ rfl rfl ?_
      refine wi_iload_n (i := 1) (e := h34 236 44) (nx := 47) (r1 := 0) (r2 := 0) (r3 := 0) rfl rfl ?_
      refine wi_icmp (cd := .ne) (nx := 50) (r1 := 56) (r2 := 0) (r3 := 0) rfl (by omega) (by omega) (fun (q80 : (h60 236 44) ≠ (h34 236 44)) => by exfalso; omega) (fun (q80 : ¬ ((h60 236 44) ≠ (h34 236 44))) => ?_)
      refine wi_aload_n (i := 0) (x := 236) (nx := 51) (r1 := 0) (r2 := 0) (r3 := 0) rfl rfl ?_
      refine wi_bipush (n := 59) (nx := 53) (r1 := 0) (r2 := 0) (r3 := 0) rfl (by decide) ?_
      refine wr_V (k0 := 236) (rest := []) (as := [.ref 236, vi 59]) (nx := 56) (r1 := 235) (r2 := 1) (r3 := 11) rfl rfl rfl (of_decide_eq_true rfl) rfl rfl (by decide) rfl rfl (of_decide_eq_true rfl) (of_decide_eq_true rfl) ?_
      have e82 : h60 236 3 = h13 236 3 := ((u60 236 3 rfl).trans ((u34 236 3 rfl).trans ((u29 236 3 rfl).trans ((u27 236 3 rfl).trans (u25 236 3 rfl)))))
      have rb83 := RefB.fr u60 rfl rb65
      refine ct_235_236_L59 hcr  g60   (show (h60 236 4) ≤ (h60 236 3) by omega) (show 0 ≤ q75 by omega) (show q75 ≤ tn by omega) (show q75 ≤ tk_nx tB tn q75 ∧ tk_nx tB tn q75 ≤ tn by omega) (show 1 ≤ (h60 236 8) ∨ ((h60 236 4) = tk_nx tB tn q75 ∧ (h60 236 5) = tk_st tB tn q75 ∧ ((tk_kd tB tn q75 = 0 ∧ (h60 236 6) = 0) ∨ (tk_kd tB tn q75 = 1 ∧ (h60 236 6) = 1 ∧ (h60 236 12) = tk_sw tB tn q75) ∨ (tk_kd tB tn q75 = 2 ∧ (h60 236 6) = 2 ∧ (h60 236 7) = tk_nb tB tn q75) ∨ (tk_kd tB tn q75 = 3 ∧ (h60 236 6) = 3 ∧ (h60 236 7) = 59) ∨ (tk_kd tB tn q75 = 4 ∧ (h60 236 6) = 3 ∧ (h60 236 7) = 40) ∨ (tk_kd tB tn q75 = 5 ∧ (h60 236 6) = 3 ∧ (h60 236 7) = 41) ∨ (tk_kd tB tn q75 = 6 ∧ (h60 236 6) = 4))) from (Or.inr (show ((h60 236 4) = tk_nx tB tn q75 ∧ (h60 236 5) = tk_st tB tn q75 ∧ ((tk_kd tB tn q75 = 0 ∧ (h60 236 6) = 0) ∨ (tk_kd tB tn q75 = 1 ∧ (h60 236 6) = 1 ∧ (h60 236 12) = tk_sw tB tn q75) ∨ (tk_kd tB tn q75 = 2 ∧ (h60 236 6) = 2 ∧ (h60 236 7) = tk_nb tB tn q75) ∨ (tk_kd tB tn q75 = 3 ∧ (h60 236 6) = 3 ∧ (h60 236 7) = 59) ∨ (tk_kd tB tn q75 = 4 ∧ (h60 236 6) = 3 ∧ (h60 236 7) = 40) ∨ (tk_kd tB tn q75 = 5 ∧ (h60 236 6) = 3 ∧ (h60 236 7) = 41) ∨ (tk_kd tB tn q75 = 6 ∧ (h60 236 6) = 4))) by first | assumption | exact tk_mv (by assumption) (by omega) (by omega) (by omega) (by omega) (by omega)))) rb83 (fun h81 g81 u81 (p81_0 : (1 ≤ (h60 236 8) ∧ (h81 236 8) = (h60 236 8) ∧ (h81 236 9) = (h60 236 9)) ∨ ((h60 236 8) = 0 ∧ tk_kd tB tn q75 = 3 ∧ (h81 236 8) = (h60 236 8) ∧ (h81 236 9) = (h60 236 9) ∧ ((h81 236 4) = tk_nx tB tn (tk_nx tB tn q75) ∧ (h81 236 5) = tk_st tB tn (tk_nx tB tn q75) ∧ ((tk_kd tB tn (tk_nx tB tn q75) = 0 ∧ (h81 236 6) = 0) ∨ (tk_kd tB tn (tk_nx tB tn q75) = 1 ∧ (h81 236 6) = 1 ∧ (h81 236 12) = tk_sw tB tn (tk_nx tB tn q75)) ∨ (tk_kd tB tn (tk_nx tB tn q75) = 2 ∧ (h81 236 6) = 2 ∧ (h81 236 7) = tk_nb tB tn (tk_nx tB tn q75)) ∨ (tk_kd tB tn (tk_nx tB tn q75) = 3 ∧ (h81 236 6) = 3 ∧ (h81 236 7) = 59) ∨ (tk_kd tB tn (tk_nx tB tn q75) = 4 ∧ (h81 236 6) = 3 ∧ (h81 236 7) = 40) ∨ (tk_kd tB tn (tk_nx tB tn q75) = 5 ∧ (h81 236 6) = 3 ∧ (h81 236 7) = 41) ∨ (tk_kd tB tn (tk_nx tB tn q75) = 6 ∧ (h81 236 6) = 4)))) ∨ ((h60 236 8) = 0 ∧ tk_kd tB tn q75 ≠ 3 ∧ (h81 236 8) = 1 ∧ (h81 236 9) = tk_st tB tn q75)) (p81_1 : (h60 236 4) ≤ (h81 236 4)) (p81_2 : (h81 236 4) ≤ (h60 236 3)) (p81_3 : 1 ≤ (h81 236 8) ∨ (h60 236 8) = 0) (p81_4 : 1 ≤ (h81 236 8) ∨ (h81 236 6) = 0 ∨ (h60 236 4) + 1 ≤ (h81 236 4)) => ?_)
      have F84 := F66.then (by decide +kernel) u81
      have F85 := F67.then (by decide +kernel) u81
      have b86 := gi_b (lo := 0) (hi := 5) g81 236 8 rfl
      have b87 := gi_b (lo := -2147483648) (hi := 2147483647) g81 236 9 rfl
      have b88 := gi_b (lo := 0) (hi := 800) g81 236 4 rfl
      have b89 := gi_b (lo := 0) (hi := 800) g81 236 5 rfl
      have b90 := gi_b (lo := 0) (hi := 4) g81 236 6 rfl
      have b91 := gi_b (lo := -9223372036854775808) (hi := 9223372036854775807) g81 236 12 rfl
      have b92 := gi_b (lo := 0) (hi := 999) g81 236 7 rfl
      refine wk_n ?_
      rcases p81_0 with p81_0 | p81_0 | p81_0
      ·
        exfalso; omega
      ·
        have tk93 := p81_0.2.2.2.2
        have tN94 := @tk_nx_b tB tn (tk_nx tB tn q75) (by omega) (by omega)
        refine wi_aload_n (i := 0) (x := 236) (nx := 57) (r1 := 0) (r2 := 0) (r3 := 0) rfl rfl ?_
        refine wr_V (k0 := 236) (rest := []) (as := [.ref 236]) (nx := 60) (r1 := 338) (r2 := 0) (r3 := 11) rfl rfl rfl (of_decide_eq_true rfl) rfl rfl (by decide) rfl rfl (of_decide_eq_true rfl) (of_decide_eq_true rfl) ?_
        have e96 : h81 236 3 = h13 236 3 := ((u81 236 3 rfl).trans ((u60 236 3 rfl).trans ((u34 236 3 rfl).trans ((u29 236 3 rfl).trans ((u27 236 3 rfl).trans (u25 236 3 rfl))))))
        have e97 : h81 236 42 = h60 236 42 := (u81 236 42 rfl)
        have e98 : h81 236 44 = h60 236 44 := (u81 236 44 rfl)
        have e99 : h81 236 43 = h60 236 43 := (u81 236 43 rfl)
        have q100 : h81 253 = h60 253 := funext (fun i => (u81 253 i (fo_no_ok (by decide) i)))
        have rb101 := RefB.fr u81 rfl rb83
        refine ct_338_236 hcr  g81   (show (h81 236 4) ≤ (h81 236 3) by omega) (show 1 ≤ (h81 236 8) ∨ (h81 236 42) + (h81 236 44) ≤ 2 * (h81 236 43) by omega) (fun e => by rw [q100, show h81 236 42 = h60 236 42 by omega, show h81 236 44 = h60 236 44 by omega]; exact y60_0 (by omega)) rb101 (SCI.mk ks58 (tk_nx tB tn q75) (by omega) (by omega) (by omega) (by omega) (by omega) (by first | assumption | exact tk_mv (by assumption) (by omega) (by omega) (by omega) (by omega) (by omega)) (by rw [show h81 236 44 = h34 236 44 by omega, show h81 236 43 = h34 236 43 + 1 by omega]; exact (sc_m2 (by omega) (by omega) (egq75 (by omega))).symm.trans frs58)) (fun h95 g95 u95 (p95_0 : (h81 236 4) ≤ (h95 236 4)) (p95_1 : (h95 236 4) ≤ (h81 236 3)) (p95_2 : 1 ≤ (h95 236 8) ∨ (h81 236 8) = 0) (p95_3 : (h81 236 6) ≠ 0 ∨ (h95 236 6) = 0) (p95_4 : 1 ≤ (h95 236 8) ∨ (h95 236 42) + (h95 236 44) ≤ 2 * (h95 236 43)) y95_0 y95_1 => ?_)
        have F102 := F84.then (by decide +kernel) u95
        have F103 := F85.then (by decide +kernel) u95
        have b104 := gi_b (lo := 0) (hi := 800) g95 236 4 rfl
        have b105 := gi_b (lo := 0) (hi := 5) g95 236 8 rfl
        have b106 := gi_b (lo := 0) (hi := 4) g95 236 6 rfl
        have b107 := gi_b (lo := 0) (hi := 80) g95 236 42 rfl
        have b108 := gi_b (lo := 0) (hi := 2) g95 236 44 rfl
        have e109 : h95 236 43 = h60 236 43 := ((u95 236 43 rfl).trans (u81 236 43 rfl))
        refine wk_n ?_
        refine wi_goto (nx := 63) (r1 := 19) (r2 := 0) (r3 := 0) rfl ?_
        refine wi_aload_n (i := 0) (x := 236) (nx := 20) (r1 := 0) (r2 := 0) (r3 := 0) rfl rfl ?_
        refine wr_V (k0 := 236) (rest := []) (as := [.ref 236]) (nx := 23) (r1 := 219) (r2 := 0) (r3 := 11) rfl rfl rfl (of_decide_eq_true rfl) rfl rfl (by decide) rfl rfl (of_decide_eq_true rfl) (of_decide_eq_true rfl) ?_
        refine wi_aload_n (i := 0) (x := 236) (nx := 1) (r1 := 0) (r2 := 0) (r3 := 0) rfl rfl ?_
        refine wr_gi0 (k0 := 236) (x := h95 236 8) (nx := 4) (r1 := 11) (r2 := 8) (r3 := 0) rfl rfl (by decide) rfl ⟨rfl, rfl⟩ rfl rfl ?_
        refine wi_if (cd := .ne) (nx := 7) (r1 := 11) (r2 := 0) (r3 := 0) rfl (by omega) (fun (q110 : (h95 236 8) ≠ 0) => ?_) (fun (q110 : ¬ ((h95 236 8) ≠ 0)) => ?_)
        ·
          refine wi_iconst (n := 0) (nx := 12) (r1 := 0) (r2 := 0) (r3 := 0) rfl ?_
          refine wi_zreturn (nx := 13) (r1 := 0) (r2 := 0) (r3 := 0) rfl rfl (by omega) ?_
          refine wk_i ?_
          refine wi_if (cd := .eq) (nx := 26) (r1 := 63) (r2 := 0) (r3 := 0) rfl (by omega) (fun (q111 : 0 = 0) => ?_) (fun (q111 : ¬ (0 = 0)) => by exfalso; omega)
          refine wi_aload_n (i := 0) (x := 236) (nx := 64) (r1 := 0) (r2 := 0) (r3 := 0) rfl rfl ?_
          refine wr_V (k0 := 236) (rest := []) (as := [.ref 236]) (nx := 67) (r1 := 219) (r2 := 0) (r3 := 11) rfl rfl rfl (of_decide_eq_true rfl) rfl rfl (by decide) rfl rfl (of_decide_eq_true rfl) (of_decide_eq_true rfl) ?_
          refine wi_aload_n (i := 0) (x := 236) (nx := 1) (r1 := 0) (r2 := 0) (r3 := 0) rfl rfl ?_
          refine wr_gi0 (k0 := 236) (x := h95 236 8) (nx := 4) (r1 := 11) (r2 := 8) (r3 := 0) rfl rfl (by decide) rfl ⟨rfl, rfl⟩ rfl rfl ?_
          refine wi_if (cd := .ne) (nx := 7) (r1 := 11) (r2 := 0) (r3 := 0) rfl (by omega) (fun (q112 : (h95 236 8) ≠ 0) => ?_) (fun (q112 : ¬ ((h95 236 8) ≠ 0)) => by exfalso; omega)
          refine wi_iconst (n := 0) (nx := 12) (r1 := 0) (r2 := 0) (r3 := 0) rfl ?_
          refine wi_zreturn (nx := 13) (r1 := 0) (r2 := 0) (r3 := 0) rfl rfl (by omega) ?_
          refine wk_i ?_
          refine wi_if (cd := .eq) (nx := 70) (r1 := 82) (r2 := 0) (r3 := 0) rfl (by omega) (fun (q113 : 0 = 0) => ?_) (fun (q113 : ¬ (0 = 0)) => by exfalso; omega)
          have b115 := gi_b (lo := -2147483648) (hi := 2147483647) g95 236 9 rfl
          have RE114 := sc_REq (SCI.bad y95_1 (by omega))
          refine wi_aload_n (i := 0) (x := 236) (nx := 83) (r1 := 0) (r2 := 0) (r3 := 0) rfl rfl ?_
          refine wr_V (k0 := 236) (rest := []) (as := [.ref 236]) (nx := 86) (r1 := 237) (r2 := 0) (r3 := 11) rfl rfl rfl (of_decide_eq_true rfl) rfl rfl (by decide) rfl rfl (of_decide_eq_true rfl) (of_decide_eq_true rfl) ?_
          refine wi_aload_n (i := 0) (x := 236) (nx := 1) (r1 := 0) (r2 := 0) (r3 := 0) rfl rfl ?_
          refine wi_aload_n (i := 0) (x := 236) (nx := 2) (r1 := 0) (r2 := 0) (r3 := 0) rfl rfl ?_
          refine wr_gi0 (k0 := 236) (x := h95 236 8) (nx := 5) (r1 := 11) (r2 := 8) (r3 := 0) rfl rfl (by decide) rfl ⟨rfl, rfl⟩ rfl rfl ?_
          refine wr_pf0 (k0 := 236) (x := h95 236 8) (bl := -2147483648) (bh := 2147483647) (nx := 8) (r1 := 11) (r2 := 10) (r3 := 0) rfl (by decide) rfl ⟨rfl, rfl⟩ rfl rfl g95 rfl (by omega) (fun h116 g116 w116 u116 => ?_)
          have F117 := F102.then rfl u116
          refine wi_aload_n (i := 0) (x := 236) (nx := 9) (r1 := 0) (r2 := 0) (r3 := 0) rfl rfl ?_
          refine wi_aload_n (i := 0) (x := 236) (nx := 10) (r1 := 0) (r2 := 0) (r3 := 0) rfl rfl ?_
          refine wr_gi0 (k0 := 236) (x := h95 236 9) (nx := 13) (r1 := 11) (r2 := 9) (r3 := 0) rfl rfl (by decide) rfl ⟨rfl, rfl⟩ rfl (u116 236 9 rfl) ?_
          refine wr_pf0 (k0 := 236) (x := h95 236 9) (bl := -2147483648) (bh := 2147483647) (nx := 16) (r1 := 11) (r2 := 11) (r3 := 0) rfl (by decide) rfl ⟨rfl, rfl⟩ rfl rfl g116 rfl (by omega) (fun h118 g118 w118 u118 => ?_)
          have F119 := F117.then rfl u118
          refine wi_aload_n (i := 0) (x := 236) (nx := 17) (r1 := 0) (r2 := 0) (r3 := 0) rfl rfl ?_
          refine wi_aload_n (i := 0) (x := 236) (nx := 18) (r1 := 0) (r2 := 0) (r3 := 0) rfl rfl ?_
          refine wr_gi0 (k0 := 236) (x := h95 236 8) (nx := 21) (r1 := 11) (r2 := 8) (r3 := 0) rfl rfl (by decide) rfl ⟨rfl, rfl⟩ rfl ((u118 236 8 rfl).trans (u116 236 8 rfl)) ?_
          refine wi_if (cd := .ne) (nx := 24) (r1 := 28) (r2 := 0) (r3 := 0) rfl (by omega) (fun (q120 : (h95 236 8) ≠ 0) => ?_) (fun (q120 : ¬ ((h95 236 8) ≠ 0)) => by exfalso; omega)
          refine wi_iconst (n := 0) (nx := 29) (r1 := 0) (r2 := 0) (r3 := 0) rfl ?_
          refine wr_V (k0 := 236) (rest := []) (as := [.ref 236, vi 0]) (nx := 32) (r1 := 206) (r2 := 1) (r3 := 11) rfl rfl rfl (of_decide_eq_true rfl) rfl rfl (by decide) rfl rfl (of_decide_eq_true rfl) (of_decide_eq_true rfl) ?_
          refine wi_aload_n (i := 0) (x := 236) (nx := 1) (r1 := 0) (r2 := 0) (r3 := 0) rfl rfl ?_
          refine wi_iload_n (i := 1) (e := 0) (nx := 2) (r1 := 0) (r2 := 0) (r3 := 0) rfl rfl ?_
          refine wi_if (cd := .ne) (nx := 5) (r1 := 9) (r2 := 0) (r3 := 0) rfl (by omega) (fun (q121 : 0 ≠ 0) => by exfalso; omega) (fun (q121 : ¬ (0 ≠ 0)) => ?_)
          refine wi_iconst (n := 1) (nx := 6) (r1 := 0) (r2 := 0) (r3 := 0) rfl ?_
          refine wi_goto (nx := 9) (r1 := 10) (r2 := 0) (r3 := 0) rfl ?_
          refine wi_S (rest := [.ref 236]) (as := [vi 1]) (nx := 13) (r1 := 207) (r2 := 17) (r3 := 0) rfl rfl rfl (of_decide_eq_true rfl) rfl rfl (of_decide_eq_true rfl) (of_decide_eq_true rfl) ?_
          refine wi_iload_n (i := 0) (e := 1) (nx := 1) (r1 := 0) (r2 := 0) (r3 := 0) rfl rfl ?_
          refine wi_if (cd := .eq) (nx := 4) (r1 := 8) (r2 := 0) (r3 := 0) rfl (by omega) (fun (q122 : 1 = 0) => by exfalso; omega) (fun (q122 : ¬ (1 = 0)) => ?_)
          refine wi_iconst (n := 1) (nx := 5) (r1 := 0) (r2 := 0) (r3 := 0) rfl ?_
          refine wi_goto (nx := 8) (r1 := 9) (r2 := 0) (r3 := 0) rfl ?_
          refine wi_ireturn (nx := 10) (r1 := 0) (r2 := 0) (r3 := 0) rfl rfl ?_
          refine wk_i ?_
          refine wr_pf0 (k0 := 236) (x := 1) (bl := 0) (bh := 2) (nx := 16) (r1 := 11) (r2 := 0) (r3 := 0) rfl (by decide) rfl ⟨rfl, rfl⟩ rfl rfl g118 rfl (by omega) (fun h123 g123 w123 u123 => ?_)
          have F124 := F119.then rfl u123
          refine wi_iload_n (i := 1) (e := 0) (nx := 17) (r1 := 0) (r2 := 0) (r3 := 0) rfl rfl ?_
          refine wi_zreturn (nx := 18) (r1 := 0) (r2 := 0) (r3 := 0) rfl rfl (by omega) ?_
          refine wk_i ?_
          refine wi_zreturn (nx := 33) (r1 := 0) (r2 := 0) (r3 := 0) rfl rfl (by omega) ?_
          refine wk_i ?_
          refine wi_if (cd := .ne) (nx := 89) (r1 := 91) (r2 := 0) (r3 := 0) rfl (by omega) (fun (q125 : 0 ≠ 0) => by exfalso; omega) (fun (q125 : ¬ (0 ≠ 0)) => ?_)
          refine wi_iconst (n := 0) (nx := 90) (r1 := 0) (r2 := 0) (r3 := 0) rfl ?_
          refine wi_ireturn (nx := 91) (r1 := 0) (r2 := 0) (r3 := 0) rfl rfl ?_
          have e126 : h123 238 98 = h 238 98 := ((u123 238 98 rfl).trans ((u118 238 98 rfl).trans ((u116 238 98 rfl).trans ((u95 238 98 rfl).trans ((u81 238 98 rfl).trans ((u60 238 98 rfl).trans ((u34 238 98 rfl).trans ((u29 238 98 rfl).trans ((u27 238 98 rfl).trans ((u25 238 98 rfl).trans (u13 238 98 rfl)))))))))))
          have e127 : h123 238 99 = h 238 99 := ((u123 238 99 rfl).trans ((u118 238 99 rfl).trans ((u116 238 99 rfl).trans ((u95 238 99 rfl).trans ((u81 238 99 rfl).trans ((u60 238 99 rfl).trans ((u34 238 99 rfl).trans ((u29 238 99 rfl).trans ((u27 238 99 rfl).trans ((u25 238 99 rfl).trans (u13 238 99 rfl)))))))))))
          have e128 : h123 238 100 = h 238 100 := ((u123 238 100 rfl).trans ((u118 238 100 rfl).trans ((u116 238 100 rfl).trans ((u95 238 100 rfl).trans ((u81 238 100 rfl).trans ((u60 238 100 rfl).trans ((u34 238 100 rfl).trans ((u29 238 100 rfl).trans ((u27 238 100 rfl).trans ((u25 238 100 rfl).trans (u13 238 100 rfl)))))))))))
          have e129 : h123 238 101 = h 238 101 := ((u123 238 101 rfl).trans ((u118 238 101 rfl).trans ((u116 238 101 rfl).trans ((u95 238 101 rfl).trans ((u81 238 101 rfl).trans ((u60 238 101 rfl).trans ((u34 238 101 rfl).trans ((u29 238 101 rfl).trans ((u27 238 101 rfl).trans ((u25 238 101 rfl).trans (u13 238 101 rfl)))))))))))
          have e130 : h123 238 102 = h 238 102 := ((u123 238 102 rfl).trans ((u118 238 102 rfl).trans ((u116 238 102 rfl).trans ((u95 238 102 rfl).trans ((u81 238 102 rfl).trans ((u60 238 102 rfl).trans ((u34 238 102 rfl).trans ((u29 238 102 rfl).trans ((u27 238 102 rfl).trans ((u25 238 102 rfl).trans (u13 238 102 rfl)))))))))))
          have e131 : h123 238 106 = h 238 106 := ((u123 238 106 rfl).trans ((u118 238 106 rfl).trans ((u116 238 106 rfl).trans ((u95 238 106 rfl).trans ((u81 238 106 rfl).trans ((u60 238 106 rfl).trans ((u34 238 106 rfl).trans ((u29 238 106 rfl).trans ((u27 238 106 rfl).trans ((u25 238 106 rfl).trans (u13 238 106 rfl)))))))))))
          have e132 : h123 238 73 = h 238 73 := ((u123 238 73 rfl).trans ((u118 238 73 rfl).trans ((u116 238 73 rfl).trans ((u95 238 73 rfl).trans ((u81 238 73 rfl).trans ((u60 238 73 rfl).trans ((u34 238 73 rfl).trans ((u29 238 73 rfl).trans ((u27 238 73 rfl).trans ((u25 238 73 rfl).trans (u13 238 73 rfl)))))))))))
          have e133 : h123 238 2 = h 238 2 := ((u123 238 2 rfl).trans ((u118 238 2 rfl).trans ((u116 238 2 rfl).trans ((u95 238 2 rfl).trans ((u81 238 2 rfl).trans ((u60 238 2 rfl).trans ((u34 238 2 rfl).trans ((u29 238 2 rfl).trans ((u27 238 2 rfl).trans ((u25 238 2 rfl).trans (u13 238 2 rfl)))))))))))
          have e134 : h123 238 119 = h 238 119 := ((u123 238 119 rfl).trans ((u118 238 119 rfl).trans ((u116 238 119 rfl).trans ((u95 238 119 rfl).trans ((u81 238 119 rfl).trans ((u60 238 119 rfl).trans ((u34 238 119 rfl).trans ((u29 238 119 rfl).trans ((u27 238 119 rfl).trans ((u25 238 119 rfl).trans (u13 238 119 rfl)))))))))))
          have e135 : h123 238 67 = h 238 67 := ((u123 238 67 rfl).trans ((u118 238 67 rfl).trans ((u116 238 67 rfl).trans ((u95 238 67 rfl).trans ((u81 238 67 rfl).trans ((u60 238 67 rfl).trans ((u34 238 67 rfl).trans ((u29 238 67 rfl).trans ((u27 238 67 rfl).trans ((u25 238 67 rfl).trans (u13 238 67 rfl)))))))))))
          have e136 : h123 238 69 = h 238 69 := ((u123 238 69 rfl).trans ((u118 238 69 rfl).trans ((u116 238 69 rfl).trans ((u95 238 69 rfl).trans ((u81 238 69 rfl).trans ((u60 238 69 rfl).trans ((u34 238 69 rfl).trans ((u29 238 69 rfl).trans ((u27 238 69 rfl).trans ((u25 238 69 rfl).trans (u13 238 69 rfl)))))))))))
          have e137 : h123 238 5 = h 238 5 := ((u123 238 5 rfl).trans ((u118 238 5 rfl).trans ((u116 238 5 rfl).trans ((u95 238 5 rfl).trans ((u81 238 5 rfl).trans ((u60 238 5 rfl).trans ((u34 238 5 rfl).trans ((u29 238 5 rfl).trans ((u27 238 5 rfl).trans ((u25 238 5 rfl).trans (u13 238 5 rfl)))))))))))
          have e138 : h123 236 2 = h13 236 2 := ((u123 236 2 rfl).trans ((u118 236 2 rfl).trans ((u116 236 2 rfl).trans ((u95 236 2 rfl).trans ((u81 236 2 rfl).trans ((u60 236 2 rfl).trans ((u34 236 2 rfl).trans ((u29 236 2 rfl).trans ((u27 236 2 rfl).trans (u25 236 2 rfl))))))))))
          have e139 : h123 236 10 = h95 236 8 := ((u123 236 10 rfl).trans ((u118 236 10 rfl).trans w116))
          have e140 : h123 236 11 = h95 236 9 := ((u123 236 11 rfl).trans w118)
          have gs141 := GPS.fr u13 rfl xq1
          have gs142 := GPS.fr u25 rfl gs141
          have gs143 := GPS.fr u27 rfl gs142
          have gs144 := GPS.fr u29 rfl gs143
          have gs145 := GPS.fr u34 rfl gs144
          have gs146 := GPS.fr u60 rfl gs145
          have gs147 := GPS.fr u81 rfl gs146
          have gs148 := GPS.fr u95 rfl gs147
          have gs149 := GPS.fr u116 rfl gs148
          have gs150 := GPS.fr u118 rfl gs149
          have gs151 := GPS.fr u123 rfl gs150
          have gp152 := GPH.fr u13 rfl gp0
          have gp153 := GPH.fr u25 rfl gp152
          have gp154 := GPH.fr u27 rfl gp153
          have gp155 := GPH.fr u29 rfl gp154
          have gp156 := GPH.fr u34 rfl gp155
          have gp157 := GPH.fr u60 rfl gp156
          have gp158 := GPH.fr u81 rfl gp157
          have gp159 := GPH.fr u95 rfl gp158
          have gp160 := GPH.fr u116 rfl gp159
          have gp161 := GPH.fr u118 rfl gp160
          have gp162 := GPH.fr u123 rfl gp161
          exact k h123 0 g123 F124 (by omega) (show (h123 238 98) + (h123 238 99) + (h123 238 100) + (h123 238 101) + (h123 238 102) + (h123 238 106) = (h123 238 73) by omega) (show (h123 238 73) ≤ (h123 238 2) by omega) (show (h123 238 119) ≤ (h123 238 67) by omega) (show (h123 238 69) ≤ (h123 238 5) by omega) (show (h123 238 2) ≤ 12 * (h123 238 5) by omega) (show (h123 236 2) = 0 by omega) (show (h123 236 10) = sc_ec tB tn by omega) (show (h123 236 11) = sc_ep tB tn by omega) gs151 gp162
        ·
          refine wi_iconst (n := 1) (nx := 8) (r1 := 0) (r2 := 0) (r3 := 0) rfl ?_
          refine wi_goto (nx := 11) (r1 := 12) (r2 := 0) (r3 := 0) rfl ?_
          refine wi_zreturn (nx := 13) (r1 := 0) (r2 := 0) (r3 := 0) rfl rfl (by omega) ?_
          refine wk_i ?_
          refine wi_if (cd := .eq) (nx := 26) (r1 := 63) (r2 := 0) (r3 := 0) rfl (by omega) (fun (q111 : 1 = 0) => by exfalso; omega) (fun (q111 : ¬ (1 = 0)) => ?_)
          refine wi_aload_n (i := 0) (x := 236) (nx := 27) (r1 := 0) (r2 := 0) (r3 := 0) rfl rfl ?_
          refine wr_gi0 (k0 := 236) (x := h95 236 6) (nx := 30) (r1 := 11) (r2 := 6) (r3 := 0) rfl rfl (by decide) rfl ⟨rfl, rfl⟩ rfl rfl ?_
          refine wi_if (cd := .eq) (nx := 33) (r1 := 63) (r2 := 0) (r3 := 0) rfl (by omega) (fun (q112 : (h95 236 6) = 0) => ?_) (fun (q112 : ¬ ((h95 236 6) = 0)) => ?_)
          ·
            refine wi_aload_n (i := 0) (x := 236) (nx := 64) (r1 := 0) (r2 := 0) (r3 := 0) rfl rfl ?_
            refine wr_V (k0 := 236) (rest := []) (as := [.ref 236]) (nx := 67) (r1 := 219) (r2 := 0) (r3 := 11) rfl rfl rfl (of_decide_eq_true rfl) rfl rfl (by decide) rfl rfl (of_decide_eq_true rfl) (of_decide_eq_true rfl) ?_
            refine wi_aload_n (i := 0) (x := 236) (nx := 1) (r1 := 0) (r2 := 0) (r3 := 0) rfl rfl ?_
            refine wr_gi0 (k0 := 236) (x := h95 236 8) (nx := 4) (r1 := 11) (r2 := 8) (r3 := 0) rfl rfl (by decide) rfl ⟨rfl, rfl⟩ rfl rfl ?_
            refine wi_if (cd := .ne) (nx := 7) (r1 := 11) (r2 := 0) (r3 := 0) rfl (by omega) (fun (q113 : (h95 236 8) ≠ 0) => by exfalso; omega) (fun (q113 : ¬ ((h95 236 8) ≠ 0)) => ?_)
            refine wi_iconst (n := 1) (nx := 8) (r1 := 0) (r2 := 0) (r3 := 0) rfl ?_
            refine wi_goto (nx := 11) (r1 := 12) (r2 := 0) (r3 := 0) rfl ?_
            refine wi_zreturn (nx := 13) (r1 := 0) (r2 := 0) (r3 := 0) rfl rfl (by omega) ?_
            refine wk_i ?_
            refine wi_if (cd := .eq) (nx := 70) (r1 := 82) (r2 := 0) (r3 := 0) rfl (by omega) (fun (q114 : 1 = 0) => by exfalso; omega) (fun (q114 : ¬ (1 = 0)) => ?_)
            have b115 := gi_b (lo := 0) (hi := 800) g95 236 5 rfl
            have b116 := gi_b (lo := 0) (hi := 999) g95 236 7 rfl
            have b117 := gi_b (lo := -9223372036854775808) (hi := 9223372036854775807) g95 236 12 rfl
            have b118 := gi_b (lo := -2147483648) (hi := 2147483647) g95 236 9 rfl
            obtain ⟨e9s119, ks119, ps119, pas119, pbs119, pcs119, tks119, frs119⟩ := SCI.go y95_1 (by omega) (by omega)
            obtain ⟨tas119, tbs119, tcs119⟩ := id tks119
            have tN120 := @tk_nx_b tB tn ps119 (by omega) (by omega)
            refine wi_aload_n (i := 0) (x := 236) (nx := 71) (r1 := 0) (r2 := 0) (r3 := 0) rfl rfl ?_
            refine wr_gi0 (k0 := 236) (x := h95 236 44) (nx := 74) (r1 := 11) (r2 := 44) (r3 := 0) rfl rfl (by decide) rfl ⟨rfl, rfl⟩ rfl rfl ?_
            refine wi_if (cd := .le) (nx := 77) (r1 := 82) (r2 := 0) (r3 := 0) rfl (by omega) (fun (q121 : (h95 236 44) ≤ 0) => ?_) (fun (q121 : ¬ ((h95 236 44) ≤ 0)) => ?_)
            ·
              have RE122 := sc_REq (frs119.symm.trans (sc_e0 (by omega) (by omega)))
              refine wi_aload_n (i := 0) (x := 236) (nx := 83) (r1 := 0) (r2 := 0) (r3 := 0) rfl rfl ?_
              refine wr_V (k0 := 236) (rest := []) (as := [.ref 236]) (nx := 86) (r1 := 237) (r2 := 0) (r3 := 11) rfl rfl rfl (of_decide_eq_true rfl) rfl rfl (by decide) rfl rfl (of_decide_eq_true rfl) (of_decide_eq_true rfl) ?_
              refine wi_aload_n (i := 0) (x := 236) (nx := 1) (r1 := 0) (r2 := 0) (r3 := 0) rfl rfl ?_
              refine wi_aload_n (i := 0) (x := 236) (nx := 2) (r1 := 0) (r2 := 0) (r3 := 0) rfl rfl ?_
              refine wr_gi0 (k0 := 236) (x := h95 236 8) (nx := 5) (r1 := 11) (r2 := 8) (r3 := 0) rfl rfl (by decide) rfl ⟨rfl, rfl⟩ rfl rfl ?_
              refine wr_pf0 (k0 := 236) (x := h95 236 8) (bl := -2147483648) (bh := 2147483647) (nx := 8) (r1 := 11) (r2 := 10) (r3 := 0) rfl (by decide) rfl ⟨rfl, rfl⟩ rfl rfl g95 rfl (by omega) (fun h123 g123 w123 u123 => ?_)
              have F124 := F102.then rfl u123
              refine wi_aload_n (i := 0) (x := 236) (nx := 9) (r1 := 0) (r2 := 0) (r3 := 0) rfl rfl ?_
              refine wi_aload_n (i := 0) (x := 236) (nx := 10) (r1 := 0) (r2 := 0) (r3 := 0) rfl rfl ?_
              refine wr_gi0 (k0 := 236) (x := h95 236 9) (nx := 13) (r1 := 11) (r2 := 9) (r3 := 0) rfl rfl (by decide) rfl ⟨rfl, rfl⟩ rfl (u123 236 9 rfl) ?_
              refine wr_pf0 (k0 := 236) (x := h95 236 9) (bl := -2147483648) (bh := 2147483647) (nx := 16) (r1 := 11) (r2 := 11) (r3 := 0) rfl (by decide) rfl ⟨rfl, rfl⟩ rfl rfl g123 rfl (by omega) (fun h125 g125 w125 u125 => ?_)
              have F126 := F124.then rfl u125
              refine wi_aload_n (i := 0) (x := 236) (nx := 17) (r1 := 0) (r2 := 0) (r3 := 0) rfl rfl ?_
              refine wi_aload_n (i := 0) (x := 236) (nx := 18) (r1 := 0) (r2 := 0) (r3 := 0) rfl rfl ?_
              refine wr_gi0 (k0 := 236) (x := h95 236 8) (nx := 21) (r1 := 11) (r2 := 8) (r3 := 0) rfl rfl (by decide) rfl ⟨rfl, rfl⟩ rfl ((u125 236 8 rfl).trans (u123 236 8 rfl)) ?_
              refine wi_if (cd := .ne) (nx := 24) (r1 := 28) (r2 := 0) (r3 := 0) rfl (by omega) (fun (q127 : (h95 236 8) ≠ 0) => by exfalso; omega) (fun (q127 : ¬ ((h95 236 8) ≠ 0)) => ?_)
              refine wi_iconst (n := 1) (nx := 25) (r1 := 0) (r2 := 0) (r3 := 0) rfl ?_
              refine wi_goto (nx := 28) (r1 := 29) (r2 := 0) (r3 := 0) rfl ?_
              refine wr_V (k0 := 236) (rest := []) (as := [.ref 236, vi 1]) (nx := 32) (r1 := 206) (r2 := 1) (r3 := 11) rfl rfl rfl (of_decide_eq_true rfl) rfl rfl (by decide) rfl rfl (of_decide_eq_true rfl) (of_decide_eq_true rfl) ?_
              refine wi_aload_n (i := 0) (x := 236) (nx := 1) (r1 := 0) (r2 := 0) (r3 := 0) rfl rfl ?_
              refine wi_iload_n (i := 1) (e := 1) (nx := 2) (r1 := 0) (r2 := 0) (r3 := 0) rfl rfl ?_
              refine wi_if (cd := .ne) (nx := 5) (r1 := 9) (r2 := 0) (r3 := 0) rfl (by omega) (fun (q128 : 1 ≠ 0) => ?_) (fun (q128 : ¬ (1 ≠ 0)) => by exfalso; omega)
              refine wi_iconst (n := 0) (nx := 10) (r1 := 0) (r2 := 0) (r3 := 0) rfl ?_
              refine wi_S (rest := [.ref 236]) (as := [vi 0]) (nx := 13) (r1 := 207) (r2 := 17) (r3 := 0) rfl rfl rfl (of_decide_eq_true rfl) rfl rfl (of_decide_eq_true rfl) (of_decide_eq_true rfl) ?_
              refine wi_iload_n (i := 0) (e := 0) (nx := 1) (r1 := 0) (r2 := 0) (r3 := 0) rfl rfl ?_
              refine wi_if (cd := .eq) (nx := 4) (r1 := 8) (r2 := 0) (r3 := 0) rfl (by omega) (fun (q129 : 0 = 0) => ?_) (fun (q129 : ¬ (0 = 0)) => by exfalso; omega)
              refine wi_iconst (n := 0) (nx := 9) (r1 := 0) (r2 := 0) (r3 := 0) rfl ?_
              refine wi_ireturn (nx := 10) (r1 := 0) (r2 := 0) (r3 := 0) rfl rfl ?_
              refine wk_i ?_
              refine wr_pf0 (k0 := 236) (x := 0) (bl := 0) (bh := 2) (nx := 16) (r1 := 11) (r2 := 0) (r3 := 0) rfl (by decide) rfl ⟨rfl, rfl⟩ rfl rfl g125 rfl (by omega) (fun h130 g130 w130 u130 => ?_)
              have F131 := F126.then rfl u130
              refine wi_iload_n (i := 1) (e := 1) (nx := 17) (r1 := 0) (r2 := 0) (r3 := 0) rfl rfl ?_
              refine wi_zreturn (nx := 18) (r1 := 0) (r2 := 0) (r3 := 0) rfl rfl (by omega) ?_
              refine wk_i ?_
              refine wi_zreturn (nx := 33) (r1 := 0) (r2 := 0) (r3 := 0) rfl rfl (by omega) ?_
              refine wk_i ?_
              refine wi_if (cd := .ne) (nx := 89) (r1 := 91) (r2 := 0) (r3 := 0) rfl (by omega) (fun (q132 : 1 ≠ 0) => ?_) (fun (q132 : ¬ (1 ≠ 0)) => by exfalso; omega)
              refine wi_aload_n (i := 0) (x := 236) (nx := 92) (r1 := 0) (r2 := 0) (r3 := 0) rfl rfl ?_
              refine wr_gr (k0 := 236) (x := 238) (nx := 95) (r1 := 11) (r2 := 13) (r3 := 0) rfl rfl (by decide) rfl ⟨rfl, rfl⟩ rfl ?_
              refine wi_aload_n (i := 0) (x := 236) (nx := 96) (r1 := 0) (r2 := 0) (r3 := 0) rfl rfl ?_
              refine wr_gr (k0 := 236) (x := 257) (nx := 99) (r1 := 11) (r2 := 41) (r3 := 0) rfl rfl (by decide) rfl ⟨rfl, rfl⟩ rfl ?_
              refine wi_S (rest := []) (as := [.ref 238, .ref 257]) (nx := 102) (r1 := 238) (r2 := 18) (r3 := 0) rfl rfl rfl (of_decide_eq_true rfl) rfl rfl (of_decide_eq_true rfl) (of_decide_eq_true rfl) ?_
              refine ct_238_238_257 hcr  g130    (fun h133 g133 u133 y133_0 => ?_)
              have F134 := F131.then (by decide +kernel) u133
              refine wk_n ?_
              refine wi_aload_n (i := 0) (x := 236) (nx := 103) (r1 := 0) (r2 := 0) (r3 := 0) rfl rfl ?_
              refine wi_iconst (n := 0) (nx := 104) (r1 := 0) (r2 := 0) (r3 := 0) rfl ?_
              refine wr_pf2 (k0 := 236) (x := 0) (bl := 0) (bh := 1) (nx := 107) (r1 := 11) (r2 := 45) (r3 := 2) rfl (by decide) rfl ⟨rfl, rfl⟩ rfl (by omega) rfl g133 rfl (by omega) (fun h135 g135 w135 u135 => ?_)
              have F136 := F134.then rfl u135
              refine wi_aload_n (i := 0) (x := 236) (nx := 108) (r1 := 0) (r2 := 0) (r3 := 0) rfl rfl ?_
              refine wr_V (k0 := 236) (rest := []) (as := [.ref 236]) (nx := 111) (r1 := 339) (r2 := 0) (r3 := 11) rfl rfl rfl (of_decide_eq_true rfl) rfl rfl (by decide) rfl rfl (of_decide_eq_true rfl) (of_decide_eq_true rfl) ?_
              have e138 : h135 238 98 = h 238 98 := ((u135 238 98 rfl).trans ((u133 238 98 rfl).trans ((u130 238 98 rfl).trans ((u125 238 98 rfl).trans ((u123 238 98 rfl).trans ((u95 238 98 rfl).trans ((u81 238 98 rfl).trans ((u60 238 98 rfl).trans ((u34 238 98 rfl).trans ((u29 238 98 rfl).trans ((u27 238 98 rfl).trans ((u25 238 98 rfl).trans (u13 238 98 rfl)))))))))))))
              have e139 : h135 238 99 = h 238 99 := ((u135 238 99 rfl).trans ((u133 238 99 rfl).trans ((u130 238 99 rfl).trans ((u125 238 99 rfl).trans ((u123 238 99 rfl).trans ((u95 238 99 rfl).trans ((u81 238 99 rfl).trans ((u60 238 99 rfl).trans ((u34 238 99 rfl).trans ((u29 238 99 rfl).trans ((u27 238 99 rfl).trans ((u25 238 99 rfl).trans (u13 238 99 rfl)))))))))))))
              have e140 : h135 238 100 = h 238 100 := ((u135 238 100 rfl).trans ((u133 238 100 rfl).trans ((u130 238 100 rfl).trans ((u125 238 100 rfl).trans ((u123 238 100 rfl).trans ((u95 238 100 rfl).trans ((u81 238 100 rfl).trans ((u60 238 100 rfl).trans ((u34 238 100 rfl).trans ((u29 238 100 rfl).trans ((u27 238 100 rfl).trans ((u25 238 100 rfl).trans (u13 238 100 rfl)))))))))))))
              have e141 : h135 238 101 = h 238 101 := ((u135 238 101 rfl).trans ((u133 238 101 rfl).trans ((u130 238 101 rfl).trans ((u125 238 101 rfl).trans ((u123 238 101 rfl).trans ((u95 238 101 rfl).trans ((u81 238 101 rfl).trans ((u60 238 101 rfl).trans ((u34 238 101 rfl).trans ((u29 238 101 rfl).trans ((u27 238 101 rfl).trans ((u25 238 101 rfl).trans (u13 238 101 rfl)))))))))))))
              have e142 : h135 238 102 = h 238 102 := ((u135 238 102 rfl).trans ((u133 238 102 rfl).trans ((u130 238 102 rfl).trans ((u125 238 102 rfl).trans ((u123 238 102 rfl).trans ((u95 238 102 rfl).trans ((u81 238 102 rfl).trans ((u60 238 102 rfl).trans ((u34 238 102 rfl).trans ((u29 238 102 rfl).trans ((u27 238 102 rfl).trans ((u25 238 102 rfl).trans (u13 238 102 rfl)))))))))))))
              have e143 : h135 238 106 = h 238 106 := ((u135 238 106 rfl).trans ((u133 238 106 rfl).trans ((u130 238 106 rfl).trans ((u125 238 106 rfl).trans ((u123 238 106 rfl).trans ((u95 238 106 rfl).trans ((u81 238 106 rfl).trans ((u60 238 106 rfl).trans ((u34 238 106 rfl).trans ((u29 238 106 rfl).trans ((u27 238 106 rfl).trans ((u25 238 106 rfl).trans (u13 238 106 rfl)))))))))))))
              have e144 : h135 238 73 = h 238 73 := ((u135 238 73 rfl).trans ((u133 238 73 rfl).trans ((u130 238 73 rfl).trans ((u125 238 73 rfl).trans ((u123 238 73 rfl).trans ((u95 238 73 rfl).trans ((u81 238 73 rfl).trans ((u60 238 73 rfl).trans ((u34 238 73 rfl).trans ((u29 238 73 rfl).trans ((u27 238 73 rfl).trans ((u25 238 73 rfl).trans (u13 238 73 rfl)))))))))))))
              have e145 : h135 238 2 = h 238 2 := ((u135 238 2 rfl).trans ((u133 238 2 rfl).trans ((u130 238 2 rfl).trans ((u125 238 2 rfl).trans ((u123 238 2 rfl).trans ((u95 238 2 rfl).trans ((u81 238 2 rfl).trans ((u60 238 2 rfl).trans ((u34 238 2 rfl).trans ((u29 238 2 rfl).trans ((u27 238 2 rfl).trans ((u25 238 2 rfl).trans (u13 238 2 rfl)))))))))))))
              have e146 : h135 238 119 = h 238 119 := ((u135 238 119 rfl).trans ((u133 238 119 rfl).trans ((u130 238 119 rfl).trans ((u125 238 119 rfl).trans ((u123 238 119 rfl).trans ((u95 238 119 rfl).trans ((u81 238 119 rfl).trans ((u60 238 119 rfl).trans ((u34 238 119 rfl).trans ((u29 238 119 rfl).trans ((u27 238 119 rfl).trans ((u25 238 119 rfl).trans (u13 238 119 rfl)))))))))))))
              have e147 : h135 238 67 = h 238 67 := ((u135 238 67 rfl).trans ((u133 238 67 rfl).trans ((u130 238 67 rfl).trans ((u125 238 67 rfl).trans ((u123 238 67 rfl).trans ((u95 238 67 rfl).trans ((u81 238 67 rfl).trans ((u60 238 67 rfl).trans ((u34 238 67 rfl).trans ((u29 238 67 rfl).trans ((u27 238 67 rfl).trans ((u25 238 67 rfl).trans (u13 238 67 rfl)))))))))))))
              have e148 : h135 238 69 = h 238 69 := ((u135 238 69 rfl).trans ((u133 238 69 rfl).trans ((u130 238 69 rfl).trans ((u125 238 69 rfl).trans ((u123 238 69 rfl).trans ((u95 238 69 rfl).trans ((u81 238 69 rfl).trans ((u60 238 69 rfl).trans ((u34 238 69 rfl).trans ((u29 238 69 rfl).trans ((u27 238 69 rfl).trans ((u25 238 69 rfl).trans (u13 238 69 rfl)))))))))))))
              have e149 : h135 238 5 = h 238 5 := ((u135 238 5 rfl).trans ((u133 238 5 rfl).trans ((u130 238 5 rfl).trans ((u125 238 5 rfl).trans ((u123 238 5 rfl).trans ((u95 238 5 rfl).trans ((u81 238 5 rfl).trans ((u60 238 5 rfl).trans ((u34 238 5 rfl).trans ((u29 238 5 rfl).trans ((u27 238 5 rfl).trans ((u25 238 5 rfl).trans (u13 238 5 rfl)))))))))))))
              have e151 : h135 236 42 = h95 236 42 := ((u135 236 42 rfl).trans ((u133 236 42 rfl).trans ((u130 236 42 rfl).trans ((u125 236 42 rfl).trans (u123 236 42 rfl)))))
              have e152 : h135 236 44 = h95 236 44 := ((u135 236 44 rfl).trans ((u133 236 44 rfl).trans ((u130 236 44 rfl).trans ((u125 236 44 rfl).trans (u123 236 44 rfl)))))
              have e153 : h135 236 8 = h95 236 8 := ((u135 236 8 rfl).trans ((u133 236 8 rfl).trans ((u130 236 8 rfl).trans ((u125 236 8 rfl).trans (u123 236 8 rfl)))))
              have q154 : h135 253 = h95 253 := funext (fun i => ((u135 253 i rfl).trans ((u133 253 i (fo_no_ok (by decide) i)).trans ((u130 253 i rfl).trans ((u125 253 i rfl).trans (u123 253 i rfl))))))
              refine ct_339_236 hcr  g135   (show (h135 238 98) + (h135 238 99) + (h135 238 100) + (h135 238 101) + (h135 238 102) + (h135 238 106) = (h135 238 73) by omega) (show (h135 238 73) ≤ (h135 238 2) by omega) (show (h135 238 119) ≤ (h135 238 67) by omega) (show (h135 238 69) ≤ (h135 238 5) by omega) (show (h135 238 2) ≤ 12 * (h135 238 5) by omega) (by rw [q154, show h135 236 42 = h95 236 42 by omega, show h135 236 44 = h95 236 44 by omega]; exact y95_0 (by omega)) (fun h137 z150 g137 u137 (fz150 : 0 ≤ z150 ∧ z150 ≤ 100) (p137_0 : (h137 238 98) + (h137 238 99) + (h137 238 100) + (h137 238 101) + (h137 238 102) + (h137 238 106) = (h137 238 73)) (p137_1 : (h137 238 73) ≤ (h137 238 2)) (p137_2 : (h137 238 119) ≤ (h137 238 67)) (p137_3 : (h137 238 69) ≤ (h137 238 5)) (p137_4 : (h137 238 2) ≤ 12 * (h137 238 5)) => ?_)
              have F155 := F136.then (by decide +kernel) u137
              have b156 := gi_b (lo := 0) (hi := 6) g137 238 98 rfl
              have b157 := gi_b (lo := 0) (hi := 6) g137 238 99 rfl
              have b158 := gi_b (lo := 0) (hi := 6) g137 238 100 rfl
              have b159 := gi_b (lo := 0) (hi := 6) g137 238 101 rfl
              have b160 := gi_b (lo := 0) (hi := 3) g137 238 102 rfl
              have b161 := gi_b (lo := 0) (hi := 12) g137 238 106 rfl
              have b162 := gi_b (lo := 0) (hi := 12) g137 238 73 rfl
              have e163 : h137 238 2 = h 238 2 := ((u137 238 2 rfl).trans ((u135 238 2 rfl).trans ((u133 238 2 rfl).trans ((u130 238 2 rfl).trans ((u125 238 2 rfl).trans ((u123 238 2 rfl).trans ((u95 238 2 rfl).trans ((u81 238 2 rfl).trans ((u60 238 2 rfl).trans ((u34 238 2 rfl).trans ((u29 238 2 rfl).trans ((u27 238 2 rfl).trans ((u25 238 2 rfl).trans (u13 238 2 rfl))))))))))))))
              have b164 := gi_b (lo := 0) (hi := 9999) g137 238 119 rfl
              have b165 := gi_b (lo := 0) (hi := 9999) g137 238 67 rfl
              have b166 := gi_b (lo := 0) (hi := 9) g137 238 69 rfl
              have e167 : h137 238 5 = h 238 5 := ((u137 238 5 rfl).trans ((u135 238 5 rfl).trans ((u133 238 5 rfl).trans ((u130 238 5 rfl).trans ((u125 238 5 rfl).trans ((u123 238 5 rfl).trans ((u95 238 5 rfl).trans ((u81 238 5 rfl).trans ((u60 238 5 rfl).trans ((u34 238 5 rfl).trans ((u29 238 5 rfl).trans ((u27 238 5 rfl).trans ((u25 238 5 rfl).trans (u13 238 5 rfl))))))))))))))
              refine wk_i ?_
              refine wi_istore_n (i := 1) (e := z150) (lo2 := [(1, vi z150), (0, .ref 236)]) (nx := 112) (r1 := 0) (r2 := 0) (r3 := 0) rfl rfl ?_
              refine wi_aload_n (i := 0) (x := 236) (nx := 113) (r1 := 0) (r2 := 0) (r3 := 0) rfl rfl ?_
              have b168 := gi_b (lo := 0) (hi := 1) g137 236 45 rfl
              refine wr_gi2 (k0 := 236) (x := h137 236 45) (nx := 116) (r1 := 11) (r2 := 45) (r3 := 0) rfl rfl (by decide) rfl ⟨rfl, rfl⟩ rfl rfl ?_
              refine wi_if (cd := .ne) (nx := 119) (r1 := 121) (r2 := 0) (r3 := 0) rfl (by omega) (fun (q169 : (h137 236 45) ≠ 0) => ?_) (fun (q169 : ¬ ((h137 236 45) ≠ 0)) => ?_)
              ·
                refine wi_aload_n (i := 0) (x := 236) (nx := 122) (r1 := 0) (r2 := 0) (r3 := 0) rfl rfl ?_
                refine wr_gr (k0 := 236) (x := 257) (nx := 125) (r1 := 11) (r2 := 41) (r3 := 0) rfl rfl (by decide) rfl ⟨rfl, rfl⟩ rfl ?_
                refine wi_aload_n (i := 0) (x := 236) (nx := 126) (r1 := 0) (r2 := 0) (r3 := 0) rfl rfl ?_
                refine wr_gr (k0 := 236) (x := 240) (nx := 129) (r1 := 11) (r2 := 15) (r3 := 0) rfl rfl (by decide) rfl ⟨rfl, rfl⟩ rfl ?_
                refine wi_S (rest := []) (as := [.ref 257, .ref 240]) (nx := 132) (r1 := 238) (r2 := 18) (r3 := 0) rfl rfl rfl (of_decide_eq_true rfl) rfl rfl (of_decide_eq_true rfl) (of_decide_eq_true rfl) ?_
                refine ct_238_257_240 hcr  g137    (fun h170 g170 u170 y170_0 => ?_)
                have F171 := F155.then (by decide +kernel) u170
                refine wk_n ?_
                refine wi_aload_n (i := 0) (x := 236) (nx := 133) (r1 := 0) (r2 := 0) (r3 := 0) rfl rfl ?_
                refine wr_V (k0 := 236) (rest := []) (as := [.ref 236]) (nx := 136) (r1 := 315) (r2 := 0) (r3 := 11) rfl rfl rfl (of_decide_eq_true rfl) rfl rfl (by decide) rfl rfl (of_decide_eq_true rfl) (of_decide_eq_true rfl) ?_
                have e173 : h170 238 98 = h137 238 98 := (u170 238 98 rfl)
                have e174 : h170 238 99 = h137 238 99 := (u170 238 99 rfl)
                have e175 : h170 238 100 = h137 238 100 := (u170 238 100 rfl)
                have e176 : h170 238 101 = h137 238 101 := (u170 238 101 rfl)
                have e177 : h170 238 102 = h137 238 102 := (u170 238 102 rfl)
                have e178 : h170 238 106 = h137 238 106 := (u170 238 106 rfl)
                have e179 : h170 238 73 = h137 238 73 := (u170 238 73 rfl)
                have e180 : h170 238 2 = h 238 2 := ((u170 238 2 rfl).trans ((u137 238 2 rfl).trans ((u135 238 2 rfl).trans ((u133 238 2 rfl).trans ((u130 238 2 rfl).trans ((u125 238 2 rfl).trans ((u123 238 2 rfl).trans ((u95 238 2 rfl).trans ((u81 238 2 rfl).trans ((u60 238 2 rfl).trans ((u34 238 2 rfl).trans ((u29 238 2 rfl).trans ((u27 238 2 rfl).trans ((u25 238 2 rfl).trans (u13 238 2 rfl)))))))))))))))
                have e181 : h170 238 119 = h137 238 119 := (u170 238 119 rfl)
                have e182 : h170 238 67 = h137 238 67 := (u170 238 67 rfl)
                have e183 : h170 238 69 = h137 238 69 := (u170 238 69 rfl)
                have e184 : h170 238 5 = h 238 5 := ((u170 238 5 rfl).trans ((u137 238 5 rfl).trans ((u135 238 5 rfl).trans ((u133 238 5 rfl).trans ((u130 238 5 rfl).trans ((u125 238 5 rfl).trans ((u123 238 5 rfl).trans ((u95 238 5 rfl).trans ((u81 238 5 rfl).trans ((u60 238 5 rfl).trans ((u34 238 5 rfl).trans ((u29 238 5 rfl).trans ((u27 238 5 rfl).trans ((u25 238 5 rfl).trans (u13 238 5 rfl)))))))))))))))
                have e185 : h170 240 98 = h 238 98 := ((y170_0 98 (by decide)).trans ((u137 257 98 rfl).trans ((u135 257 98 rfl).trans ((y133_0 98 (by decide)).trans ((u130 238 98 rfl).trans ((u125 238 98 rfl).trans ((u123 238 98 rfl).trans ((u95 238 98 rfl).trans ((u81 238 98 rfl).trans ((u60 238 98 rfl).trans ((u34 238 98 rfl).trans ((u29 238 98 rfl).trans ((u27 238 98 rfl).trans ((u25 238 98 rfl).trans (u13 238 98 rfl)))))))))))))))
                have e186 : h170 240 99 = h 238 99 := ((y170_0 99 (by decide)).trans ((u137 257 99 rfl).trans ((u135 257 99 rfl).trans ((y133_0 99 (by decide)).trans ((u130 238 99 rfl).trans ((u125 238 99 rfl).trans ((u123 238 99 rfl).trans ((u95 238 99 rfl).trans ((u81 238 99 rfl).trans ((u60 238 99 rfl).trans ((u34 238 99 rfl).trans ((u29 238 99 rfl).trans ((u27 238 99 rfl).trans ((u25 238 99 rfl).trans (u13 238 99 rfl)))))))))))))))
                have e187 : h170 240 100 = h 238 100 := ((y170_0 100 (by decide)).trans ((u137 257 100 rfl).trans ((u135 257 100 rfl).trans ((y133_0 100 (by decide)).trans ((u130 238 100 rfl).trans ((u125 238 100 rfl).trans ((u123 238 100 rfl).trans ((u95 238 100 rfl).trans ((u81 238 100 rfl).trans ((u60 238 100 rfl).trans ((u34 238 100 rfl).trans ((u29 238 100 rfl).trans ((u27 238 100 rfl).trans ((u25 238 100 rfl).trans (u13 238 100 rfl)))))))))))))))
                have e188 : h170 240 101 = h 238 101 := ((y170_0 101 (by decide)).trans ((u137 257 101 rfl).trans ((u135 257 101 rfl).trans ((y133_0 101 (by decide)).trans ((u130 238 101 rfl).trans ((u125 238 101 rfl).trans ((u123 238 101 rfl).trans ((u95 238 101 rfl).trans ((u81 238 101 rfl).trans ((u60 238 101 rfl).trans ((u34 238 101 rfl).trans ((u29 238 101 rfl).trans ((u27 238 101 rfl).trans ((u25 238 101 rfl).trans (u13 238 101 rfl)))))))))))))))
                have e189 : h170 240 102 = h 238 102 := ((y170_0 102 (by decide)).trans ((u137 257 102 rfl).trans ((u135 257 102 rfl).trans ((y133_0 102 (by decide)).trans ((u130 238 102 rfl).trans ((u125 238 102 rfl).trans ((u123 238 102 rfl).trans ((u95 238 102 rfl).trans ((u81 238 102 rfl).trans ((u60 238 102 rfl).trans ((u34 238 102 rfl).trans ((u29 238 102 rfl).trans ((u27 238 102 rfl).trans ((u25 238 102 rfl).trans (u13 238 102 rfl)))))))))))))))
                have e190 : h170 240 106 = h 238 106 := ((y170_0 106 (by decide)).trans ((u137 257 106 rfl).trans ((u135 257 106 rfl).trans ((y133_0 106 (by decide)).trans ((u130 238 106 rfl).trans ((u125 238 106 rfl).trans ((u123 238 106 rfl).trans ((u95 238 106 rfl).trans ((u81 238 106 rfl).trans ((u60 238 106 rfl).trans ((u34 238 106 rfl).trans ((u29 238 106 rfl).trans ((u27 238 106 rfl).trans ((u25 238 106 rfl).trans (u13 238 106 rfl)))))))))))))))
                have e191 : h170 240 73 = h 238 73 := ((y170_0 73 (by decide)).trans ((u137 257 73 rfl).trans ((u135 257 73 rfl).trans ((y133_0 73 (by decide)).trans ((u130 238 73 rfl).trans ((u125 238 73 rfl).trans ((u123 238 73 rfl).trans ((u95 238 73 rfl).trans ((u81 238 73 rfl).trans ((u60 238 73 rfl).trans ((u34 238 73 rfl).trans ((u29 238 73 rfl).trans ((u27 238 73 rfl).trans ((u25 238 73 rfl).trans (u13 238 73 rfl)))))))))))))))
                have e192 : h170 240 2 = h 238 2 := ((y170_0 2 (by decide)).trans ((u137 257 2 rfl).trans ((u135 257 2 rfl).trans ((y133_0 2 (by decide)).trans ((u130 238 2 rfl).trans ((u125 238 2 rfl).trans ((u123 238 2 rfl).trans ((u95 238 2 rfl).trans ((u81 238 2 rfl).trans ((u60 238 2 rfl).trans ((u34 238 2 rfl).trans ((u29 238 2 rfl).trans ((u27 238 2 rfl).trans ((u25 238 2 rfl).trans (u13 238 2 rfl)))))))))))))))
                have e193 : h170 240 119 = h 238 119 := ((y170_0 119 (by decide)).trans ((u137 257 119 rfl).trans ((u135 257 119 rfl).trans ((y133_0 119 (by decide)).trans ((u130 238 119 rfl).trans ((u125 238 119 rfl).trans ((u123 238 119 rfl).trans ((u95 238 119 rfl).trans ((u81 238 119 rfl).trans ((u60 238 119 rfl).trans ((u34 238 119 rfl).trans ((u29 238 119 rfl).trans ((u27 238 119 rfl).trans ((u25 238 119 rfl).trans (u13 238 119 rfl)))))))))))))))
                have e194 : h170 240 67 = h 238 67 := ((y170_0 67 (by decide)).trans ((u137 257 67 rfl).trans ((u135 257 67 rfl).trans ((y133_0 67 (by decide)).trans ((u130 238 67 rfl).trans ((u125 238 67 rfl).trans ((u123 238 67 rfl).trans ((u95 238 67 rfl).trans ((u81 238 67 rfl).trans ((u60 238 67 rfl).trans ((u34 238 67 rfl).trans ((u29 238 67 rfl).trans ((u27 238 67 rfl).trans ((u25 238 67 rfl).trans (u13 238 67 rfl)))))))))))))))
                have e195 : h170 240 69 = h 238 69 := ((y170_0 69 (by decide)).trans ((u137 257 69 rfl).trans ((u135 257 69 rfl).trans ((y133_0 69 (by decide)).trans ((u130 238 69 rfl).trans ((u125 238 69 rfl).trans ((u123 238 69 rfl).trans ((u95 238 69 rfl).trans ((u81 238 69 rfl).trans ((u60 238 69 rfl).trans ((u34 238 69 rfl).trans ((u29 238 69 rfl).trans ((u27 238 69 rfl).trans ((u25 238 69 rfl).trans (u13 238 69 rfl)))))))))))))))
                have e196 : h170 240 5 = h 238 5 := ((y170_0 5 (by decide)).trans ((u137 257 5 rfl).trans ((u135 257 5 rfl).trans ((y133_0 5 (by decide)).trans ((u130 238 5 rfl).trans ((u125 238 5 rfl).trans ((u123 238 5 rfl).trans ((u95 238 5 rfl).trans ((u81 238 5 rfl).trans ((u60 238 5 rfl).trans ((u34 238 5 rfl).trans ((u29 238 5 rfl).trans ((u27 238 5 rfl).trans ((u25 238 5 rfl).trans (u13 238 5 rfl)))))))))))))))
                have gs197 := GPS.fr u13 rfl xq1
                have gs198 := GPS.fr u25 rfl gs197
                have gs199 := GPS.fr u27 rfl gs198
                have gs200 := GPS.fr u29 rfl gs199
                have gs201 := GPS.fr u34 rfl gs200
                have gs202 := GPS.fr u60 rfl gs201
                have gs203 := GPS.fr u81 rfl gs202
                have gs204 := GPS.fr u95 rfl gs203
                have gs205 := GPS.fr u123 rfl gs204
                have gs206 := GPS.fr u125 rfl gs205
                have gs207 := GPS.fr u130 rfl gs206
                have gs208 := GPS.fr u133 rfl gs207
                have gs209 := GPS.fr u135 rfl gs208
                have gs210 := GPS.fr u137 rfl gs209
                have gs211 := GPS.fr u170 rfl gs210
                have gp212 := GPH.fr u13 rfl gp0
                have gp213 := GPH.fr u25 rfl gp212
                have gp214 := GPH.fr u27 rfl gp213
                have gp215 := GPH.fr u29 rfl gp214
                have gp216 := GPH.fr u34 rfl gp215
                have gp217 := GPH.fr u60 rfl gp216
                have gp218 := GPH.fr u81 rfl gp217
                have gp219 := GPH.fr u95 rfl gp218
                have gp220 := GPH.fr u123 rfl gp219
                have gp221 := GPH.fr u125 rfl gp220
                have gp222 := GPH.fr u130 rfl gp221
                have gp223 := GPH.fr u133 rfl gp222
                have gp224 := GPH.fr u135 rfl gp223
                have gp225 := GPH.fr u137 rfl gp224
                have gp226 := GPH.fr u170 rfl gp225
                refine ct_315_236 hcr  g170   (show (h170 238 98) + (h170 238 99) + (h170 238 100) + (h170 238 101) + (h170 238 102) + (h170 238 106) = (h170 238 73) by omega) (show (h170 238 73) ≤ (h170 238 2) by omega) (show (h170 238 119) ≤ (h170 238 67) by omega) (show (h170 238 69) ≤ (h170 238 5) by omega) (show (h170 238 2) ≤ 12 * (h170 238 5) by omega) (show (h170 240 98) + (h170 240 99) + (h170 240 100) + (h170 240 101) + (h170 240 102) + (h170 240 106) = (h170 240 73) by omega) (show (h170 240 73) ≤ (h170 240 2) by omega) (show (h170 240 119) ≤ (h170 240 67) by omega) (show (h170 240 69) ≤ (h170 240 5) by omega) (show (h170 240 2) ≤ 12 * (h170 240 5) by omega) gs211 (fun i _ => (((y170_0 i (by omega)).trans ((u137 257 i (fo_nk rfl)).trans ((u135 257 i (fn_a (by omega) fn_0)).trans ((y133_0 i (by omega)).trans ((u130 238 i (fn_a (by omega) fn_0)).trans ((u125 238 i (fn_a (by omega) fn_0)).trans ((u123 238 i (fn_a (by omega) fn_0)).trans ((u95 238 i (fo_nk rfl)).trans ((u81 238 i (fo_nk rfl)).trans ((u60 238 i (fo_nk rfl)).trans ((u34 238 i (fo_nk rfl)).trans ((u29 238 i (fn_a (by omega) fn_0)).trans ((u27 238 i (fn_a (by omega) fn_0)).trans ((u25 238 i (fn_a (by omega) fn_0)).trans (u13 238 i (fo_nk rfl))))))))))))))))).trans (((u170 238 i (fn_a (by omega) fn_0)).trans ((u137 238 i (fo_lk (m := 31) (by omega) rfl)).trans ((u135 238 i (fn_a (by omega) fn_0)).trans ((u133 238 i (fn_a (by omega) fn_0)).trans ((u130 238 i (fn_a (by omega) fn_0)).trans ((u125 238 i (fn_a (by omega) fn_0)).trans ((u123 238 i (fn_a (by omega) fn_0)).trans ((u95 238 i (fo_nk rfl)).trans ((u81 238 i (fo_nk rfl)).trans ((u60 238 i (fo_nk rfl)).trans ((u34 238 i (fo_nk rfl)).trans ((u29 238 i (fn_a (by omega) fn_0)).trans ((u27 238 i (fn_a (by omega) fn_0)).trans ((u25 238 i (fn_a (by omega) fn_0)).trans (u13 238 i (fo_nk rfl))))))))))))))))).symm) gp226 (fun h172 g172 u172 y172_0 y172_1 => ?_)
                have F227 := F171.then (by decide +kernel) u172
                refine wk_n ?_
                refine wi_iload_n (i := 1) (e := z150) (nx := 137) (r1 := 0) (r2 := 0) (r3 := 0) rfl rfl ?_
                refine wi_ireturn (nx := 138) (r1 := 0) (r2 := 0) (r3 := 0) rfl rfl ?_
                have e228 : h172 238 98 = h137 238 98 := ((u172 238 98 rfl).trans (u170 238 98 rfl))
                have e229 : h172 238 99 = h137 238 99 := ((u172 238 99 rfl).trans (u170 238 99 rfl))
                have e230 : h172 238 100 = h137 238 100 := ((u172 238 100 rfl).trans (u170 238 100 rfl))
                have e231 : h172 238 101 = h137 238 101 := ((u172 238 101 rfl).trans (u170 238 101 rfl))
                have e232 : h172 238 102 = h137 238 102 := ((u172 238 102 rfl).trans (u170 238 102 rfl))
                have e233 : h172 238 106 = h137 238 106 := ((u172 238 106 rfl).trans (u170 238 106 rfl))
                have e234 : h172 238 73 = h137 238 73 := ((u172 238 73 rfl).trans (u170 238 73 rfl))
                have e235 : h172 238 2 = h 238 2 := ((u172 238 2 rfl).trans ((u170 238 2 rfl).trans ((u137 238 2 rfl).trans ((u135 238 2 rfl).trans ((u133 238 2 rfl).trans ((u130 238 2 rfl).trans ((u125 238 2 rfl).trans ((u123 238 2 rfl).trans ((u95 238 2 rfl).trans ((u81 238 2 rfl).trans ((u60 238 2 rfl).trans ((u34 238 2 rfl).trans ((u29 238 2 rfl).trans ((u27 238 2 rfl).trans ((u25 238 2 rfl).trans (u13 238 2 rfl))))))))))))))))
                have e236 : h172 238 119 = h137 238 119 := ((u172 238 119 rfl).trans (u170 238 119 rfl))
                have e237 : h172 238 67 = h137 238 67 := ((u172 238 67 rfl).trans (u170 238 67 rfl))
                have e238 : h172 238 69 = h137 238 69 := ((u172 238 69 rfl).trans (u170 238 69 rfl))
                have e239 : h172 238 5 = h 238 5 := ((u172 238 5 rfl).trans ((u170 238 5 rfl).trans ((u137 238 5 rfl).trans ((u135 238 5 rfl).trans ((u133 238 5 rfl).trans ((u130 238 5 rfl).trans ((u125 238 5 rfl).trans ((u123 238 5 rfl).trans ((u95 238 5 rfl).trans ((u81 238 5 rfl).trans ((u60 238 5 rfl).trans ((u34 238 5 rfl).trans ((u29 238 5 rfl).trans ((u27 238 5 rfl).trans ((u25 238 5 rfl).trans (u13 238 5 rfl))))))))))))))))
                have e240 : h172 236 2 = h13 236 2 := ((u172 236 2 rfl).trans ((u170 236 2 rfl).trans ((u137 236 2 rfl).trans ((u135 236 2 rfl).trans ((u133 236 2 rfl).trans ((u130 236 2 rfl).trans ((u125 236 2 rfl).trans ((u123 236 2 rfl).trans ((u95 236 2 rfl).trans ((u81 236 2 rfl).trans ((u60 236 2 rfl).trans ((u34 236 2 rfl).trans ((u29 236 2 rfl).trans ((u27 236 2 rfl).trans (u25 236 2 rfl)))))))))))))))
                have e241 : h172 236 10 = h95 236 8 := ((u172 236 10 rfl).trans ((u170 236 10 rfl).trans ((u137 236 10 rfl).trans ((u135 236 10 rfl).trans ((u133 236 10 rfl).trans ((u130 236 10 rfl).trans ((u125 236 10 rfl).trans w123)))))))
                have e242 : h172 236 11 = h95 236 9 := ((u172 236 11 rfl).trans ((u170 236 11 rfl).trans ((u137 236 11 rfl).trans ((u135 236 11 rfl).trans ((u133 236 11 rfl).trans ((u130 236 11 rfl).trans w125))))))
                exact k h172 z150 g172 F227 (by omega) (show (h172 238 98) + (h172 238 99) + (h172 238 100) + (h172 238 101) + (h172 238 102) + (h172 238 106) = (h172 238 73) by omega) (show (h172 238 73) ≤ (h172 238 2) by omega) (show (h172 238 119) ≤ (h172 238 67) by omega) (show (h172 238 69) ≤ (h172 238 5) by omega) (show (h172 238 2) ≤ 12 * (h172 238 5) by omega) (show (h172 236 2) = 0 by omega) (show (h172 236 10) = sc_ec tB tn by omega) (show (h172 236 11) = sc_ep tB tn by omega) y172_0 y172_1
              ·
                refine wi_iload_n (i := 1) (e := z150) (nx := 120) (r1 := 0) (r2 := 0) (r3 := 0) rfl rfl ?_
                refine wi_ireturn (nx := 121) (r1 := 0) (r2 := 0) (r3 := 0) rfl rfl ?_
                have e170 : h137 236 2 = h13 236 2 := ((u137 236 2 rfl).trans ((u135 236 2 rfl).trans ((u133 236 2 rfl).trans ((u130 236 2 rfl).trans ((u125 236 2 rfl).trans ((u123 236 2 rfl).trans ((u95 236 2 rfl).trans ((u81 236 2 rfl).trans ((u60 236 2 rfl).trans ((u34 236 2 rfl).trans ((u29 236 2 rfl).trans ((u27 236 2 rfl).trans (u25 236 2 rfl)))))))))))))
                have e171 : h137 236 10 = h95 236 8 := ((u137 236 10 rfl).trans ((u135 236 10 rfl).trans ((u133 236 10 rfl).trans ((u130 236 10 rfl).trans ((u125 236 10 rfl).trans w123)))))
                have e172 : h137 236 11 = h95 236 9 := ((u137 236 11 rfl).trans ((u135 236 11 rfl).trans ((u133 236 11 rfl).trans ((u130 236 11 rfl).trans w125))))
                have gs173 := GPS.fr u13 rfl xq1
                have gs174 := GPS.fr u25 rfl gs173
                have gs175 := GPS.fr u27 rfl gs174
                have gs176 := GPS.fr u29 rfl gs175
                have gs177 := GPS.fr u34 rfl gs176
                have gs178 := GPS.fr u60 rfl gs177
                have gs179 := GPS.fr u81 rfl gs178
                have gs180 := GPS.fr u95 rfl gs179
                have gs181 := GPS.fr u123 rfl gs180
                have gs182 := GPS.fr u125 rfl gs181
                have gs183 := GPS.fr u130 rfl gs182
                have gs184 := GPS.fr u133 rfl gs183
                have gs185 := GPS.fr u135 rfl gs184
                have gs186 := GPS.fr u137 rfl gs185
                have gp187 := GPH.fr u13 rfl gp0
                have gp188 := GPH.fr u25 rfl gp187
                have gp189 := GPH.fr u27 rfl gp188
                have gp190 := GPH.fr u29 rfl gp189
                have gp191 := GPH.fr u34 rfl gp190
                have gp192 := GPH.fr u60 rfl gp191
                have gp193 := GPH.fr u81 rfl gp192
                have gp194 := GPH.fr u95 rfl gp193
                have gp195 := GPH.fr u123 rfl gp194
                have gp196 := GPH.fr u125 rfl gp195
                have gp197 := GPH.fr u130 rfl gp196
                have gp198 := GPH.fr u133 rfl gp197
                have gp199 := GPH.fr u135 rfl gp198
                have gp200 := GPH.fr u137 rfl gp199
                exact k h137 z150 g137 F155 (by omega) (show (h137 238 98) + (h137 238 99) + (h137 238 100) + (h137 238 101) + (h137 238 102) + (h137 238 106) = (h137 238 73) by omega) (show (h137 238 73) ≤ (h137 238 2) by omega) (show (h137 238 119) ≤ (h137 238 67) by omega) (show (h137 238 69) ≤ (h137 238 5) by omega) (show (h137 238 2) ≤ 12 * (h137 238 5) by omega) (show (h137 236 2) = 0 by omega) (show (h137 236 10) = sc_ec tB tn by omega) (show (h137 236 11) = sc_ep tB tn by omega) gs186 gp200
            ·
              refine wi_aload_n (i := 0) (x := 236) (nx := 78) (r1 := 0) (r2 := 0) (r3 := 0) rfl rfl ?_
              refine wi_iconst (n := 1) (nx := 79) (r1 := 0) (r2 := 0) (r3 := 0) rfl ?_
              refine wr_V (k0 := 236) (rest := []) (as := [.ref 236, vi 1]) (nx := 82) (r1 := 224) (r2 := 1) (r3 := 11) rfl rfl rfl (of_decide_eq_true rfl) rfl rfl (by decide) rfl rfl (of_decide_eq_true rfl) (of_decide_eq_true rfl) ?_
              refine ct_224_236 hcr  g95 1 (by omega)  (fun h122 g122 u122 (p122_0 : 1 ≤ (h122 236 8)) (p122_1 : (1 ≤ (h95 236 8) ∧ (h122 236 8) = (h95 236 8) ∧ (h122 236 9) = (h95 236 9)) ∨ ((h95 236 8) = 0 ∧ (h122 236 9) = (h95 236 5) ∧ (((h95 236 6) = 4 ∧ (h122 236 8) = 1) ∨ ((h95 236 6) ≠ 4 ∧ (h122 236 8) = 1)))) => ?_)
              have F123 := F102.then (by decide +kernel) u122
              have b124 := gi_b (lo := 0) (hi := 5) g122 236 8 rfl
              have b125 := gi_b (lo := -2147483648) (hi := 2147483647) g122 236 9 rfl
              refine wk_n ?_
              have e127 : h122 236 44 = h95 236 44 := (u122 236 44 rfl)
              have RE126 := sc_REq (frs119.symm.trans (sc_e1 (by omega) (by omega)))
              refine wi_aload_n (i := 0) (x := 236) (nx := 83) (r1 := 0) (r2 := 0) (r3 := 0) rfl rfl ?_
              refine wr_V (k0 := 236) (rest := []) (as := [.ref 236]) (nx := 86) (r1 := 237) (r2 := 0) (r3 := 11) rfl rfl rfl (of_decide_eq_true rfl) rfl rfl (by decide) rfl rfl (of_decide_eq_true rfl) (of_decide_eq_true rfl) ?_
              refine wi_aload_n (i := 0) (x := 236) (nx := 1) (r1 := 0) (r2 := 0) (r3 := 0) rfl rfl ?_
              refine wi_aload_n (i := 0) (x := 236) (nx := 2) (r1 := 0) (r2 := 0) (r3 := 0) rfl rfl ?_
              refine wr_gi0 (k0 := 236) (x := h122 236 8) (nx := 5) (r1 := 11) (r2 := 8) (r3 := 0) rfl rfl (by decide) rfl ⟨rfl, rfl⟩ rfl rfl ?_
              refine wr_pf0 (k0 := 236) (x := h122 236 8) (bl := -2147483648) (bh := 2147483647) (nx := 8) (r1 := 11) (r2 := 10) (r3 := 0) rfl (by decide) rfl ⟨rfl, rfl⟩ rfl rfl g122 rfl (by omega) (fun h128 g128 w128 u128 => ?_)
              have F129 := F123.then rfl u128
              refine wi_aload_n (i := 0) (x := 236) (nx := 9) (r1 := 0) (r2 := 0) (r3 := 0) rfl rfl ?_
              refine wi_aload_n (i := 0) (x := 236) (nx := 10) (r1 := 0) (r2 := 0) (r3 := 0) rfl rfl ?_
              refine wr_gi0 (k0 := 236) (x := h122 236 9) (nx := 13) (r1 := 11) (r2 := 9) (r3 := 0) rfl rfl (by decide) rfl ⟨rfl, rfl⟩ rfl (u128 236 9 rfl) ?_
              refine wr_pf0 (k0 := 236) (x := h122 236 9) (bl := -2147483648) (bh := 2147483647) (nx := 16) (r1 := 11) (r2 := 11) (r3 := 0) rfl (by decide) rfl ⟨rfl, rfl⟩ rfl rfl g128 rfl (by omega) (fun h130 g130 w130 u130 => ?_)
              have F131 := F129.then rfl u130
              refine wi_aload_n (i := 0) (x := 236) (nx := 17) (r1 := 0) (r2 := 0) (r3 := 0) rfl rfl ?_
              refine wi_aload_n (i := 0) (x := 236) (nx := 18) (r1 := 0) (r2 := 0) (r3 := 0) rfl rfl ?_
              refine wr_gi0 (k0 := 236) (x := h122 236 8) (nx := 21) (r1 := 11) (r2 := 8) (r3 := 0) rfl rfl (by decide) rfl ⟨rfl, rfl⟩ rfl ((u130 236 8 rfl).trans (u128 236 8 rfl)) ?_
              refine wi_if (cd := .ne) (nx := 24) (r1 := 28) (r2 := 0) (r3 := 0) rfl (by omega) (fun (q132 : (h122 236 8) ≠ 0) => ?_) (fun (q132 : ¬ ((h122 236 8) ≠ 0)) => by exfalso; omega)
              refine wi_iconst (n := 0) (nx := 29) (r1 := 0) (r2 := 0) (r3 := 0) rfl ?_
              refine wr_V (k0 := 236) (rest := []) (as := [.ref 236, vi 0]) (nx := 32) (r1 := 206) (r2 := 1) (r3 := 11) rfl rfl rfl (of_decide_eq_true rfl) rfl rfl (by decide) rfl rfl (of_decide_eq_true rfl) (of_decide_eq_true rfl) ?_
              refine wi_aload_n (i := 0) (x := 236) (nx := 1) (r1 := 0) (r2 := 0) (r3 := 0) rfl rfl ?_
              refine wi_iload_n (i := 1) (e := 0) (nx := 2) (r1 := 0) (r2 := 0) (r3 := 0) rfl rfl ?_
              refine wi_if (cd := .ne) (nx := 5) (r1 := 9) (r2 := 0) (r3 := 0) rfl (by omega) (fun (q133 : 0 ≠ 0) => by exfalso; omega) (fun (q133 : ¬ (0 ≠ 0)) => ?_)
              refine wi_iconst (n := 1) (nx := 6) (r1 := 0) (r2 := 0) (r3 := 0) rfl ?_
              refine wi_goto (nx := 9) (r1 := 10) (r2 := 0) (r3 := 0) rfl ?_
              refine wi_S (rest := [.ref 236]) (as := [vi 1]) (nx := 13) (r1 := 207) (r2 := 17) (r3 := 0) rfl rfl rfl (of_decide_eq_true rfl) rfl rfl (of_decide_eq_true rfl) (of_decide_eq_true rfl) ?_
              refine wi_iload_n (i := 0) (e := 1) (nx := 1) (r1 := 0) (r2 := 0) (r3 := 0) rfl rfl ?_
              refine wi_if (cd := .eq) (nx := 4) (r1 := 8) (r2 := 0) (r3 := 0) rfl (by omega) (fun (q134 : 1 = 0) => by exfalso; omega) (fun (q134 : ¬ (1 = 0)) => ?_)
              refine wi_iconst (n := 1) (nx := 5) (r1 := 0) (r2 := 0) (r3 := 0) rfl ?_
              refine wi_goto (nx := 8) (r1 := 9) (r2 := 0) (r3 := 0) rfl ?_
              refine wi_ireturn (nx := 10) (r1 := 0) (r2 := 0) (r3 := 0) rfl rfl ?_
              refine wk_i ?_
              refine wr_pf0 (k0 := 236) (x := 1) (bl := 0) (bh := 2) (nx := 16) (r1 := 11) (r2 := 0) (r3 := 0) rfl (by decide) rfl ⟨rfl, rfl⟩ rfl rfl g130 rfl (by omega) (fun h135 g135 w135 u135 => ?_)
              have F136 := F131.then rfl u135
              refine wi_iload_n (i := 1) (e := 0) (nx := 17) (r1 := 0) (r2 := 0) (r3 := 0) rfl rfl ?_
              refine wi_zreturn (nx := 18) (r1 := 0) (r2 := 0) (r3 := 0) rfl rfl (by omega) ?_
              refine wk_i ?_
              refine wi_zreturn (nx := 33) (r1 := 0) (r2 := 0) (r3 := 0) rfl rfl (by omega) ?_
              refine wk_i ?_
              refine wi_if (cd := .ne) (nx := 89) (r1 := 91) (r2 := 0) (r3 := 0) rfl (by omega) (fun (q137 : 0 ≠ 0) => by exfalso; omega) (fun (q137 : ¬ (0 ≠ 0)) => ?_)
              refine wi_iconst (n := 0) (nx := 90) (r1 := 0) (r2 := 0) (r3 := 0) rfl ?_
              refine wi_ireturn (nx := 91) (r1 := 0) (r2 := 0) (r3 := 0) rfl rfl ?_
              have e138 : h135 238 98 = h 238 98 := ((u135 238 98 rfl).trans ((u130 238 98 rfl).trans ((u128 238 98 rfl).trans ((u122 238 98 rfl).trans ((u95 238 98 rfl).trans ((u81 238 98 rfl).trans ((u60 238 98 rfl).trans ((u34 238 98 rfl).trans ((u29 238 98 rfl).trans ((u27 238 98 rfl).trans ((u25 238 98 rfl).trans (u13 238 98 rfl))))))))))))
              have e139 : h135 238 99 = h 238 99 := ((u135 238 99 rfl).trans ((u130 238 99 rfl).trans ((u128 238 99 rfl).trans ((u122 238 99 rfl).trans ((u95 238 99 rfl).trans ((u81 238 99 rfl).trans ((u60 238 99 rfl).trans ((u34 238 99 rfl).trans ((u29 238 99 rfl).trans ((u27 238 99 rfl).trans ((u25 238 99 rfl).trans (u13 238 99 rfl))))))))))))
              have e140 : h135 238 100 = h 238 100 := ((u135 238 100 rfl).trans ((u130 238 100 rfl).trans ((u128 238 100 rfl).trans ((u122 238 100 rfl).trans ((u95 238 100 rfl).trans ((u81 238 100 rfl).trans ((u60 238 100 rfl).trans ((u34 238 100 rfl).trans ((u29 238 100 rfl).trans ((u27 238 100 rfl).trans ((u25 238 100 rfl).trans (u13 238 100 rfl))))))))))))
              have e141 : h135 238 101 = h 238 101 := ((u135 238 101 rfl).trans ((u130 238 101 rfl).trans ((u128 238 101 rfl).trans ((u122 238 101 rfl).trans ((u95 238 101 rfl).trans ((u81 238 101 rfl).trans ((u60 238 101 rfl).trans ((u34 238 101 rfl).trans ((u29 238 101 rfl).trans ((u27 238 101 rfl).trans ((u25 238 101 rfl).trans (u13 238 101 rfl))))))))))))
              have e142 : h135 238 102 = h 238 102 := ((u135 238 102 rfl).trans ((u130 238 102 rfl).trans ((u128 238 102 rfl).trans ((u122 238 102 rfl).trans ((u95 238 102 rfl).trans ((u81 238 102 rfl).trans ((u60 238 102 rfl).trans ((u34 238 102 rfl).trans ((u29 238 102 rfl).trans ((u27 238 102 rfl).trans ((u25 238 102 rfl).trans (u13 238 102 rfl))))))))))))
              have e143 : h135 238 106 = h 238 106 := ((u135 238 106 rfl).trans ((u130 238 106 rfl).trans ((u128 238 106 rfl).trans ((u122 238 106 rfl).trans ((u95 238 106 rfl).trans ((u81 238 106 rfl).trans ((u60 238 106 rfl).trans ((u34 238 106 rfl).trans ((u29 238 106 rfl).trans ((u27 238 106 rfl).trans ((u25 238 106 rfl).trans (u13 238 106 rfl))))))))))))
              have e144 : h135 238 73 = h 238 73 := ((u135 238 73 rfl).trans ((u130 238 73 rfl).trans ((u128 238 73 rfl).trans ((u122 238 73 rfl).trans ((u95 238 73 rfl).trans ((u81 238 73 rfl).trans ((u60 238 73 rfl).trans ((u34 238 73 rfl).trans ((u29 238 73 rfl).trans ((u27 238 73 rfl).trans ((u25 238 73 rfl).trans (u13 238 73 rfl))))))))))))
              have e145 : h135 238 2 = h 238 2 := ((u135 238 2 rfl).trans ((u130 238 2 rfl).trans ((u128 238 2 rfl).trans ((u122 238 2 rfl).trans ((u95 238 2 rfl).trans ((u81 238 2 rfl).trans ((u60 238 2 rfl).trans ((u34 238 2 rfl).trans ((u29 238 2 rfl).trans ((u27 238 2 rfl).trans ((u25 238 2 rfl).trans (u13 238 2 rfl))))))))))))
              have e146 : h135 238 119 = h 238 119 := ((u135 238 119 rfl).trans ((u130 238 119 rfl).trans ((u128 238 119 rfl).trans ((u122 238 119 rfl).trans ((u95 238 119 rfl).trans ((u81 238 119 rfl).trans ((u60 238 119 rfl).trans ((u34 238 119 rfl).trans ((u29 238 119 rfl).trans ((u27 238 119 rfl).trans ((u25 238 119 rfl).trans (u13 238 119 rfl))))))))))))
              have e147 : h135 238 67 = h 238 67 := ((u135 238 67 rfl).trans ((u130 238 67 rfl).trans ((u128 238 67 rfl).trans ((u122 238 67 rfl).trans ((u95 238 67 rfl).trans ((u81 238 67 rfl).trans ((u60 238 67 rfl).trans ((u34 238 67 rfl).trans ((u29 238 67 rfl).trans ((u27 238 67 rfl).trans ((u25 238 67 rfl).trans (u13 238 67 rfl))))))))))))
              have e148 : h135 238 69 = h 238 69 := ((u135 238 69 rfl).trans ((u130 238 69 rfl).trans ((u128 238 69 rfl).trans ((u122 238 69 rfl).trans ((u95 238 69 rfl).trans ((u81 238 69 rfl).trans ((u60 238 69 rfl).trans ((u34 238 69 rfl).trans ((u29 238 69 rfl).trans ((u27 238 69 rfl).trans ((u25 238 69 rfl).trans (u13 238 69 rfl))))))))))))
              have e149 : h135 238 5 = h 238 5 := ((u135 238 5 rfl).trans ((u130 238 5 rfl).trans ((u128 238 5 rfl).trans ((u122 238 5 rfl).trans ((u95 238 5 rfl).trans ((u81 238 5 rfl).trans ((u60 238 5 rfl).trans ((u34 238 5 rfl).trans ((u29 238 5 rfl).trans ((u27 238 5 rfl).trans ((u25 238 5 rfl).trans (u13 238 5 rfl))))))))))))
              have e150 : h135 236 2 = h13 236 2 := ((u135 236 2 rfl).trans ((u130 236 2 rfl).trans ((u128 236 2 rfl).trans ((u122 236 2 rfl).trans ((u95 236 2 rfl).trans ((u81 236 2 rfl).trans ((u60 236 2 rfl).trans ((u34 236 2 rfl).trans ((u29 236 2 rfl).trans ((u27 236 2 rfl).trans (u25 236 2 rfl)))))))))))
              have e151 : h135 236 10 = h122 236 8 := ((u135 236 10 rfl).trans ((u130 236 10 rfl).trans w128))
              have e152 : h135 236 11 = h122 236 9 := ((u135 236 11 rfl).trans w130)
              have gs153 := GPS.fr u13 rfl xq1
              have gs154 := GPS.fr u25 rfl gs153
              have gs155 := GPS.fr u27 rfl gs154
              have gs156 := GPS.fr u29 rfl gs155
              have gs157 := GPS.fr u34 rfl gs156
              have gs158 := GPS.fr u60 rfl gs157
              have gs159 := GPS.fr u81 rfl gs158
              have gs160 := GPS.fr u95 rfl gs159
              have gs161 := GPS.fr u122 rfl gs160
              have gs162 := GPS.fr u128 rfl gs161
              have gs163 := GPS.fr u130 rfl gs162
              have gs164 := GPS.fr u135 rfl gs163
              have gp165 := GPH.fr u13 rfl gp0
              have gp166 := GPH.fr u25 rfl gp165
              have gp167 := GPH.fr u27 rfl gp166
              have gp168 := GPH.fr u29 rfl gp167
              have gp169 := GPH.fr u34 rfl gp168
              have gp170 := GPH.fr u60 rfl gp169
              have gp171 := GPH.fr u81 rfl gp170
              have gp172 := GPH.fr u95 rfl gp171
              have gp173 := GPH.fr u122 rfl gp172
              have gp174 := GPH.fr u128 rfl gp173
              have gp175 := GPH.fr u130 rfl gp174
              have gp176 := GPH.fr u135 rfl gp175
              exact k h135 0 g135 F136 (by omega) (show (h135 238 98) + (h135 238 99) + (h135 238 100) + (h135 238 101) + (h135 238 102) + (h135 238 106) = (h135 238 73) by omega) (show (h135 238 73) ≤ (h135 238 2) by omega) (show (h135 238 119) ≤ (h135 238 67) by omega) (show (h135 238 69) ≤ (h135 238 5) by omega) (show (h135 238 2) ≤ 12 * (h135 238 5) by omega) (show (h135 236 2) = 0 by omega) (show (h135 236 10) = sc_ec tB tn by omega) (show (h135 236 11) = sc_ep tB tn by omega) gs164 gp176
          ·
            have e113 : h95 236 3 = h13 236 3 := ((u95 236 3 rfl).trans ((u81 236 3 rfl).trans ((u60 236 3 rfl).trans ((u34 236 3 rfl).trans ((u29 236 3 rfl).trans ((u27 236 3 rfl).trans (u25 236 3 rfl)))))))
            refine wp.lo (lo := [(0, .ref 236)]) ⟨rfl, trivial⟩ rfl ?_
            have q114 : h95 253 = h95 253 := funext (fun i => rfl)
            exact I34 h95 ⟨g95, F102, F103, (show ((h95 236 4) ≤ (h95 236 3)) ∧ ((h95 236 8) = 0) ∧ ((h95 236 6) ≠ 0) ∧ ((h95 236 42) + (h95 236 44) ≤ 2 * (h95 236 43)) by omega), (by rw [q114, show h95 236 42 = h95 236 42 by omega, show h95 236 44 = h95 236 44 by omega]; exact y95_0 (by omega)), y95_1⟩ (show ((h95 236 3) - (h95 236 4)).toNat < ((h34 236 3) - (h34 236 4)).toNat by omega)
      ·
        refine wi_aload_n (i := 0) (x := 236) (nx := 57) (r1 := 0) (r2 := 0) (r3 := 0) rfl rfl ?_
        refine wr_V (k0 := 236) (rest := []) (as := [.ref 236]) (nx := 60) (r1 := 338) (r2 := 0) (r3 := 11) rfl rfl rfl (of_decide_eq_true rfl) rfl rfl (by decide) rfl rfl (of_decide_eq_true rfl) (of_decide_eq_true rfl) ?_
        have e94 : h81 236 3 = h13 236 3 := ((u81 236 3 rfl).trans ((u60 236 3 rfl).trans ((u34 236 3 rfl).trans ((u29 236 3 rfl).trans ((u27 236 3 rfl).trans (u25 236 3 rfl))))))
        have e95 : h81 236 42 = h60 236 42 := (u81 236 42 rfl)
        have e96 : h81 236 44 = h60 236 44 := (u81 236 44 rfl)
        have e97 : h81 236 43 = h60 236 43 := (u81 236 43 rfl)
        have q98 : h81 253 = h60 253 := funext (fun i => (u81 253 i (fo_no_ok (by decide) i)))
        have rb99 := RefB.fr u81 rfl rb83
        refine ct_338_236 hcr  g81   (show (h81 236 4) ≤ (h81 236 3) by omega) (show 1 ≤ (h81 236 8) ∨ (h81 236 42) + (h81 236 44) ≤ 2 * (h81 236 43) by omega) (fun e => by rw [q98, show h81 236 42 = h60 236 42 by omega, show h81 236 44 = h60 236 44 by omega]; exact y60_0 (by omega)) rb99 (SCI.er (c := 1) (by omega) (by omega) (by omega) (frs58.symm.trans (sc_m1 (by omega) (by omega) (ebq75 (by omega))))) (fun h93 g93 u93 (p93_0 : (h81 236 4) ≤ (h93 236 4)) (p93_1 : (h93 236 4) ≤ (h81 236 3)) (p93_2 : 1 ≤ (h93 236 8) ∨ (h81 236 8) = 0) (p93_3 : (h81 236 6) ≠ 0 ∨ (h93 236 6) = 0) (p93_4 : 1 ≤ (h93 236 8) ∨ (h93 236 42) + (h93 236 44) ≤ 2 * (h93 236 43)) y93_0 y93_1 => ?_)
        have F100 := F84.then (by decide +kernel) u93
        have F101 := F85.then (by decide +kernel) u93
        have b102 := gi_b (lo := 0) (hi := 800) g93 236 4 rfl
        have b103 := gi_b (lo := 0) (hi := 5) g93 236 8 rfl
        have b104 := gi_b (lo := 0) (hi := 4) g93 236 6 rfl
        have b105 := gi_b (lo := 0) (hi := 80) g93 236 42 rfl
        have b106 := gi_b (lo := 0) (hi := 2) g93 236 44 rfl
        have e107 : h93 236 43 = h60 236 43 := ((u93 236 43 rfl).trans (u81 236 43 rfl))
        refine wk_n ?_
        refine wi_goto (nx := 63) (r1 := 19) (r2 := 0) (r3 := 0) rfl ?_
        refine wi_aload_n (i := 0) (x := 236) (nx := 20) (r1 := 0) (r2 := 0) (r3 := 0) rfl rfl ?_
        refine wr_V (k0 := 236) (rest := []) (as := [.ref 236]) (nx := 23) (r1 := 219) (r2 := 0) (r3 := 11) rfl rfl rfl (of_decide_eq_true rfl) rfl rfl (by decide) rfl rfl (of_decide_eq_true rfl) (of_decide_eq_true rfl) ?_
        refine wi_aload_n (i := 0) (x := 236) (nx := 1) (r1 := 0) (r2 := 0) (r3 := 0) rfl rfl ?_
        refine wr_gi0 (k0 := 236) (x := h93 236 8) (nx := 4) (r1 := 11) (r2 := 8) (r3 := 0) rfl rfl (by decide) rfl ⟨rfl, rfl⟩ rfl rfl ?_
        refine wi_if (cd := .ne) (nx := 7) (r1 := 11) (r2 := 0) (r3 := 0) rfl (by omega) (fun (q108 : (h93 236 8) ≠ 0) => ?_) (fun (q108 : ¬ ((h93 236 8) ≠ 0)) => by exfalso; omega)
        refine wi_iconst (n := 0) (nx := 12) (r1 := 0) (r2 := 0) (r3 := 0) rfl ?_
        refine wi_zreturn (nx := 13) (r1 := 0) (r2 := 0) (r3 := 0) rfl rfl (by omega) ?_
        refine wk_i ?_
        refine wi_if (cd := .eq) (nx := 26) (r1 := 63) (r2 := 0) (r3 := 0) rfl (by omega) (fun (q109 : 0 = 0) => ?_) (fun (q109 : ¬ (0 = 0)) => by exfalso; omega)
        refine wi_aload_n (i := 0) (x := 236) (nx := 64) (r1 := 0) (r2 := 0) (r3 := 0) rfl rfl ?_
        refine wr_V (k0 := 236) (rest := []) (as := [.ref 236]) (nx := 67) (r1 := 219) (r2 := 0) (r3 := 11) rfl rfl rfl (of_decide_eq_true rfl) rfl rfl (by decide) rfl rfl (of_decide_eq_true rfl) (of_decide_eq_true rfl) ?_
        refine wi_aload_n (i := 0) (x := 236) (nx := 1) (r1 := 0) (r2 := 0) (r3 := 0) rfl rfl ?_
        refine wr_gi0 (k0 := 236) (x := h93 236 8) (nx := 4) (r1 := 11) (r2 := 8) (r3 := 0) rfl rfl (by decide) rfl ⟨rfl, rfl⟩ rfl rfl ?_
        refine wi_if (cd := .ne) (nx := 7) (r1 := 11) (r2 := 0) (r3 := 0) rfl (by omega) (fun (q110 : (h93 236 8) ≠ 0) => ?_) (fun (q110 : ¬ ((h93 236 8) ≠ 0)) => by exfalso; omega)
        refine wi_iconst (n := 0) (nx := 12) (r1 := 0) (r2 := 0) (r3 := 0) rfl ?_
        refine wi_zreturn (nx := 13) (r1 := 0) (r2 := 0) (r3 := 0) rfl rfl (by omega) ?_
        refine wk_i ?_
        refine wi_if (cd := .eq) (nx := 70) (r1 := 82) (r2 := 0) (r3 := 0) rfl (by omega) (fun (q111 : 0 = 0) => ?_) (fun (q111 : ¬ (0 = 0)) => by exfalso; omega)
        have b113 := gi_b (lo := -2147483648) (hi := 2147483647) g93 236 9 rfl
        have RE112 := sc_REq (SCI.bad y93_1 (by omega))
        refine wi_aload_n (i := 0) (x := 236) (nx := 83) (r1 := 0) (r2 := 0) (r3 := 0) rfl rfl ?_
        refine wr_V (k0 := 236) (rest := []) (as := [.ref 236]) (nx := 86) (r1 := 237) (r2 := 0) (r3 := 11) rfl rfl rfl (of_decide_eq_true rfl) rfl rfl (by decide) rfl rfl (of_decide_eq_true rfl) (of_decide_eq_true rfl) ?_
        refine wi_aload_n (i := 0) (x := 236) (nx := 1) (r1 := 0) (r2 := 0) (r3 := 0) rfl rfl ?_
        refine wi_aload_n (i := 0) (x := 236) (nx := 2) (r1 := 0) (r2 := 0) (r3 := 0) rfl rfl ?_
        refine wr_gi0 (k0 := 236) (x := h93 236 8) (nx := 5) (r1 := 11) (r2 := 8) (r3 := 0) rfl rfl (by decide) rfl ⟨rfl, rfl⟩ rfl rfl ?_
        refine wr_pf0 (k0 := 236) (x := h93 236 8) (bl := -2147483648) (bh := 2147483647) (nx := 8) (r1 := 11) (r2 := 10) (r3 := 0) rfl (by decide) rfl ⟨rfl, rfl⟩ rfl rfl g93 rfl (by omega) (fun h114 g114 w114 u114 => ?_)
        have F115 := F100.then rfl u114
        refine wi_aload_n (i := 0) (x := 236) (nx := 9) (r1 := 0) (r2 := 0) (r3 := 0) rfl rfl ?_
        refine wi_aload_n (i := 0) (x := 236) (nx := 10) (r1 := 0) (r2 := 0) (r3 := 0) rfl rfl ?_
        refine wr_gi0 (k0 := 236) (x := h93 236 9) (nx := 13) (r1 := 11) (r2 := 9) (r3 := 0) rfl rfl (by decide) rfl ⟨rfl, rfl⟩ rfl (u114 236 9 rfl) ?_
        refine wr_pf0 (k0 := 236) (x := h93 236 9) (bl := -2147483648) (bh := 2147483647) (nx := 16) (r1 := 11) (r2 := 11) (r3 := 0) rfl (by decide) rfl ⟨rfl, rfl⟩ rfl rfl g114 rfl (by omega) (fun h116 g116 w116 u116 => ?_)
        have F117 := F115.then rfl u116
        refine wi_aload_n (i := 0) (x := 236) (nx := 17) (r1 := 0) (r2 := 0) (r3 := 0) rfl rfl ?_
        refine wi_aload_n (i := 0) (x := 236) (nx := 18) (r1 := 0) (r2 := 0) (r3 := 0) rfl rfl ?_
        refine wr_gi0 (k0 := 236) (x := h93 236 8) (nx := 21) (r1 := 11) (r2 := 8) (r3 := 0) rfl rfl (by decide) rfl ⟨rfl, rfl⟩ rfl ((u116 236 8 rfl).trans (u114 236 8 rfl)) ?_
        refine wi_if (cd := .ne) (nx := 24) (r1 := 28) (r2 := 0) (r3 := 0) rfl (by omega) (fun (q118 : (h93 236 8) ≠ 0) => ?_) (fun (q118 : ¬ ((h93 236 8) ≠ 0)) => by exfalso; omega)
        refine wi_iconst (n := 0) (nx := 29) (r1 := 0) (r2 := 0) (r3 := 0) rfl ?_
        refine wr_V (k0 := 236) (rest := []) (as := [.ref 236, vi 0]) (nx := 32) (r1 := 206) (r2 := 1) (r3 := 11) rfl rfl rfl (of_decide_eq_true rfl) rfl rfl (by decide) rfl rfl (of_decide_eq_true rfl) (of_decide_eq_true rfl) ?_
        refine wi_aload_n (i := 0) (x := 236) (nx := 1) (r1 := 0) (r2 := 0) (r3 := 0) rfl rfl ?_
        refine wi_iload_n (i := 1) (e := 0) (nx := 2) (r1 := 0) (r2 := 0) (r3 := 0) rfl rfl ?_
        refine wi_if (cd := .ne) (nx := 5) (r1 := 9) (r2 := 0) (r3 := 0) rfl (by omega) (fun (q119 : 0 ≠ 0) => by exfalso; omega) (fun (q119 : ¬ (0 ≠ 0)) => ?_)
        refine wi_iconst (n := 1) (nx := 6) (r1 := 0) (r2 := 0) (r3 := 0) rfl ?_
        refine wi_goto (nx := 9) (r1 := 10) (r2 := 0) (r3 := 0) rfl ?_
        refine wi_S (rest := [.ref 236]) (as := [vi 1]) (nx := 13) (r1 := 207) (r2 := 17) (r3 := 0) rfl rfl rfl (of_decide_eq_true rfl) rfl rfl (of_decide_eq_true rfl) (of_decide_eq_true rfl) ?_
        refine wi_iload_n (i := 0) (e := 1) (nx := 1) (r1 := 0) (r2 := 0) (r3 := 0) rfl rfl ?_
        refine wi_if (cd := .eq) (nx := 4) (r1 := 8) (r2 := 0) (r3 := 0) rfl (by omega) (fun (q120 : 1 = 0) => by exfalso; omega) (fun (q120 : ¬ (1 = 0)) => ?_)
        refine wi_iconst (n := 1) (nx := 5) (r1 := 0) (r2 := 0) (r3 := 0) rfl ?_
        refine wi_goto (nx := 8) (r1 := 9) (r2 := 0) (r3 := 0) rfl ?_
        refine wi_ireturn (nx := 10) (r1 := 0) (r2 := 0) (r3 := 0) rfl rfl ?_
        refine wk_i ?_
        refine wr_pf0 (k0 := 236) (x := 1) (bl := 0) (bh := 2) (nx := 16) (r1 := 11) (r2 := 0) (r3 := 0) rfl (by decide) rfl ⟨rfl, rfl⟩ rfl rfl g116 rfl (by omega) (fun h121 g121 w121 u121 => ?_)
        have F122 := F117.then rfl u121
        refine wi_iload_n (i := 1) (e := 0) (nx := 17) (r1 := 0) (r2 := 0) (r3 := 0) rfl rfl ?_
        refine wi_zreturn (nx := 18) (r1 := 0) (r2 := 0) (r3 := 0) rfl rfl (by omega) ?_
        refine wk_i ?_
        refine wi_zreturn (nx := 33) (r1 := 0) (r2 := 0) (r3 := 0) rfl rfl (by omega) ?_
        refine wk_i ?_
        refine wi_if (cd := .ne) (nx := 89) (r1 := 91) (r2 := 0) (r3 := 0) rfl (by omega) (fun (q123 : 0 ≠ 0) => by exfalso; omega) (fun (q123 : ¬ (0 ≠ 0)) => ?_)
        refine wi_iconst (n := 0) (nx := 90) (r1 := 0) (r2 := 0) (r3 := 0) rfl ?_
        refine wi_ireturn (nx := 91) (r1 := 0) (r2 := 0) (r3 := 0) rfl rfl ?_
        have e124 : h121 238 98 = h 238 98 := ((u121 238 98 rfl).trans ((u116 238 98 rfl).trans ((u114 238 98 rfl).trans ((u93 238 98 rfl).trans ((u81 238 98 rfl).trans ((u60 238 98 rfl).trans ((u34 238 98 rfl).trans ((u29 238 98 rfl).trans ((u27 238 98 rfl).trans ((u25 238 98 rfl).trans (u13 238 98 rfl)))))))))))
        have e125 : h121 238 99 = h 238 99 := ((u121 238 99 rfl).trans ((u116 238 99 rfl).trans ((u114 238 99 rfl).trans ((u93 238 99 rfl).trans ((u81 238 99 rfl).trans ((u60 238 99 rfl).trans ((u34 238 99 rfl).trans ((u29 238 99 rfl).trans ((u27 238 99 rfl).trans ((u25 238 99 rfl).trans (u13 238 99 rfl)))))))))))
        have e126 : h121 238 100 = h 238 100 := ((u121 238 100 rfl).trans ((u116 238 100 rfl).trans ((u114 238 100 rfl).trans ((u93 238 100 rfl).trans ((u81 238 100 rfl).trans ((u60 238 100 rfl).trans ((u34 238 100 rfl).trans ((u29 238 100 rfl).trans ((u27 238 100 rfl).trans ((u25 238 100 rfl).trans (u13 238 100 rfl)))))))))))
        have e127 : h121 238 101 = h 238 101 := ((u121 238 101 rfl).trans ((u116 238 101 rfl).trans ((u114 238 101 rfl).trans ((u93 238 101 rfl).trans ((u81 238 101 rfl).trans ((u60 238 101 rfl).trans ((u34 238 101 rfl).trans ((u29 238 101 rfl).trans ((u27 238 101 rfl).trans ((u25 238 101 rfl).trans (u13 238 101 rfl)))))))))))
        have e128 : h121 238 102 = h 238 102 := ((u121 238 102 rfl).trans ((u116 238 102 rfl).trans ((u114 238 102 rfl).trans ((u93 238 102 rfl).trans ((u81 238 102 rfl).trans ((u60 238 102 rfl).trans ((u34 238 102 rfl).trans ((u29 238 102 rfl).trans ((u27 238 102 rfl).trans ((u25 238 102 rfl).trans (u13 238 102 rfl)))))))))))
        have e129 : h121 238 106 = h 238 106 := ((u121 238 106 rfl).trans ((u116 238 106 rfl).trans ((u114 238 106 rfl).trans ((u93 238 106 rfl).trans ((u81 238 106 rfl).trans ((u60 238 106 rfl).trans ((u34 238 106 rfl).trans ((u29 238 106 rfl).trans ((u27 238 106 rfl).trans ((u25 238 106 rfl).trans (u13 238 106 rfl)))))))))))
        have e130 : h121 238 73 = h 238 73 := ((u121 238 73 rfl).trans ((u116 238 73 rfl).trans ((u114 238 73 rfl).trans ((u93 238 73 rfl).trans ((u81 238 73 rfl).trans ((u60 238 73 rfl).trans ((u34 238 73 rfl).trans ((u29 238 73 rfl).trans ((u27 238 73 rfl).trans ((u25 238 73 rfl).trans (u13 238 73 rfl)))))))))))
        have e131 : h121 238 2 = h 238 2 := ((u121 238 2 rfl).trans ((u116 238 2 rfl).trans ((u114 238 2 rfl).trans ((u93 238 2 rfl).trans ((u81 238 2 rfl).trans ((u60 238 2 rfl).trans ((u34 238 2 rfl).trans ((u29 238 2 rfl).trans ((u27 238 2 rfl).trans ((u25 238 2 rfl).trans (u13 238 2 rfl)))))))))))
        have e132 : h121 238 119 = h 238 119 := ((u121 238 119 rfl).trans ((u116 238 119 rfl).trans ((u114 238 119 rfl).trans ((u93 238 119 rfl).trans ((u81 238 119 rfl).trans ((u60 238 119 rfl).trans ((u34 238 119 rfl).trans ((u29 238 119 rfl).trans ((u27 238 119 rfl).trans ((u25 238 119 rfl).trans (u13 238 119 rfl)))))))))))
        have e133 : h121 238 67 = h 238 67 := ((u121 238 67 rfl).trans ((u116 238 67 rfl).trans ((u114 238 67 rfl).trans ((u93 238 67 rfl).trans ((u81 238 67 rfl).trans ((u60 238 67 rfl).trans ((u34 238 67 rfl).trans ((u29 238 67 rfl).trans ((u27 238 67 rfl).trans ((u25 238 67 rfl).trans (u13 238 67 rfl)))))))))))
        have e134 : h121 238 69 = h 238 69 := ((u121 238 69 rfl).trans ((u116 238 69 rfl).trans ((u114 238 69 rfl).trans ((u93 238 69 rfl).trans ((u81 238 69 rfl).trans ((u60 238 69 rfl).trans ((u34 238 69 rfl).trans ((u29 238 69 rfl).trans ((u27 238 69 rfl).trans ((u25 238 69 rfl).trans (u13 238 69 rfl)))))))))))
        have e135 : h121 238 5 = h 238 5 := ((u121 238 5 rfl).trans ((u116 238 5 rfl).trans ((u114 238 5 rfl).trans ((u93 238 5 rfl).trans ((u81 238 5 rfl).trans ((u60 238 5 rfl).trans ((u34 238 5 rfl).trans ((u29 238 5 rfl).trans ((u27 238 5 rfl).trans ((u25 238 5 rfl).trans (u13 238 5 rfl)))))))))))
        have e136 : h121 236 2 = h13 236 2 := ((u121 236 2 rfl).trans ((u116 236 2 rfl).trans ((u114 236 2 rfl).trans ((u93 236 2 rfl).trans ((u81 236 2 rfl).trans ((u60 236 2 rfl).trans ((u34 236 2 rfl).trans ((u29 236 2 rfl).trans ((u27 236 2 rfl).trans (u25 236 2 rfl))))))))))
        have e137 : h121 236 10 = h93 236 8 := ((u121 236 10 rfl).trans ((u116 236 10 rfl).trans w114))
        have e138 : h121 236 11 = h93 236 9 := ((u121 236 11 rfl).trans w116)
        have gs139 := GPS.fr u13 rfl xq1
        have gs140 := GPS.fr u25 rfl gs139
        have gs141 := GPS.fr u27 rfl gs140
        have gs142 := GPS.fr u29 rfl gs141
        have gs143 := GPS.fr u34 rfl gs142
        have gs144 := GPS.fr u60 rfl gs143
        have gs145 := GPS.fr u81 rfl gs144
        have gs146 := GPS.fr u93 rfl gs145
        have gs147 := GPS.fr u114 rfl gs146
        have gs148 := GPS.fr u116 rfl gs147
        have gs149 := GPS.fr u121 rfl gs148
        have gp150 := GPH.fr u13 rfl gp0
        have gp151 := GPH.fr u25 rfl gp150
        have gp152 := GPH.fr u27 rfl gp151
        have gp153 := GPH.fr u29 rfl gp152
        have gp154 := GPH.fr u34 rfl gp153
        have gp155 := GPH.fr u60 rfl gp154
        have gp156 := GPH.fr u81 rfl gp155
        have gp157 := GPH.fr u93 rfl gp156
        have gp158 := GPH.fr u114 rfl gp157
        have gp159 := GPH.fr u116 rfl gp158
        have gp160 := GPH.fr u121 rfl gp159
        exact k h121 0 g121 F122 (by omega) (show (h121 238 98) + (h121 238 99) + (h121 238 100) + (h121 238 101) + (h121 238 102) + (h121 238 106) = (h121 238 73) by omega) (show (h121 238 73) ≤ (h121 238 2) by omega) (show (h121 238 119) ≤ (h121 238 67) by omega) (show (h121 238 69) ≤ (h121 238 5) by omega) (show (h121 238 2) ≤ 12 * (h121 238 5) by omega) (show (h121 236 2) = 0 by omega) (show (h121 236 10) = sc_ec tB tn by omega) (show (h121 236 11) = sc_ep tB tn by omega) gs149 gp160
-- method 238: Model.copies([I[I)V
set_option maxRecDepth 100000 in
set_option maxHeartbeats 100000000 in
theorem ct_238_238_241 {L : Nat} {xs : Nat → Int32} {d b c : Nat} {h : hp} {cr : Nat → Nat → Option Nat} {Q : hp_Q} (hcr : CR cr)  (g : GI h)    (k : ∀ (h2 : hp) , GI h2 → FR [(241, 241, none)] h h2 → (∀ q : Nat, q < 200 → h2 241 q = h 238 q) → Q (.inl none) (hp_w h2 cr) b c) : wp (md_xa (L, xs)) d 238 (0, [(0, .ref 238), (1, .ref 241)], [], hp_w h cr, b, c) Q := by
  have F0 : FR [(241, 241, none)] h h := FR.refl
  refine wi_iconst (n := 0) (nx := 1) (r1 := 0) (r2 := 0) (r3 := 0) rfl ?_
  refine wi_istore_n (i := 2) (e := 0) (lo2 := [(2, vi 0), (0, .ref 238), (1, .ref 241)]) (nx := 2) (r1 := 0) (r2 := 0) (r3 := 0) rfl rfl ?_
  refine wp.lo (lo := [(0, .ref 238), (1, .ref 241), (2, vi 0)]) ⟨rfl, rfl, rfl, trivial⟩ rfl ?_
  refine wl_1 (fun x1 h2 => GI h2 ∧ FR [(241, 241, none)] h h2 ∧ FR [(241, 241, none)] h h2 ∧ ((0 ≤ x1 ∧ x1 ≤ 200)) ∧ (∀ q : Nat, (q : Int) < x1 → h2 241 q = h 238 q) ∧ (∀ q : Nat, x1 ≤ (q : Int) → h2 241 q = h 241 q)) (fun x1 h2 => ((200 : Int) + 1 - x1).toNat) (fun x1 h2 => (2, [(0, .ref 238), (1, .ref 241), (2, vi x1)], [], hp_w h2 cr, b, c)) ?_ 0 h ⟨g, F0, FR.refl, (show (0 ≤ 0 ∧ 0 ≤ 200) by omega), (fun q e => absurd e (by omega)), (fun _ _ => rfl)⟩
  intro x1 h2 ⟨g2, F3, u2, f2, XA2, XB2⟩ I2
  refine wi_iload_n (i := 2) (e := x1) (nx := 3) (r1 := 0) (r2 := 0) (r3 := 0) rfl rfl ?_
  refine wi_sipush (n := 200) (nx := 6) (r1 := 0) (r2 := 0) (r3 := 0) rfl (by decide) ?_
  refine wi_icmp (cd := .ge) (nx := 9) (r1 := 21) (r2 := 0) (r3 := 0) rfl (by omega) (by omega) (fun (q4 : 200 ≤ x1) => ?_) (fun (q4 : ¬ (200 ≤ x1)) => ?_)
  ·
    refine wi_return (nx := 22) (r1 := 0) (r2 := 0) (r3 := 0) rfl rfl ?_
    exact k h2 g2 F3 (fun q e => XA2 q (by omega))
  ·
    refine wi_aload_n (i := 1) (x := 241) (nx := 10) (r1 := 0) (r2 := 0) (r3 := 0) rfl rfl ?_
    refine wi_iload_n (i := 2) (e := x1) (nx := 11) (r1 := 0) (r2 := 0) (r3 := 0) rfl rfl ?_
    refine wi_aload_n (i := 0) (x := 238) (nx := 12) (r1 := 0) (r2 := 0) (r3 := 0) rfl rfl ?_
    refine wi_iload_n (i := 2) (e := x1) (nx := 13) (r1 := 0) (r2 := 0) (r3 := 0) rfl rfl ?_
    obtain ⟨i5, ei5⟩ : ∃ q : Nat, x1 = (q : Int) := ⟨(x1).toNat, by omega⟩
    refine wr_ia (k0 := 238) (a := x1) (f := i5) (x := h 238 i5) (nx := 14) (r1 := 0) (r2 := 0) (r3 := 0) rfl (by decide) rfl (by omega) (by omega) (by decide) (u2 238 i5 (fn_a (by omega) fn_0)) ?_
    refine wr_iv (k0 := 241) (a := x1) (f := i5) (x := h 238 i5) (nx := 15) (r1 := 0) (r2 := 0) (r3 := 0) rfl (by decide) rfl (by omega) (by omega) (by decide) g2 (g 238 i5) (fun h6 g6 w6 u6 => ?_)
    have F7 := F3.then rfl (FR.rngp (lo := 241) (hi := 241) u6 (by decide))
    have F8 := u2.then rfl (FR.rngp (lo := 241) (hi := 241) u6 (by decide))
    refine wr_iinc (i := 2) (n := 1) (v := x1) (fun e9 => [(2, vi e9), (0, .ref 238), (1, .ref 241)]) (nx := 18) (r1 := 0) (r2 := 0) (r3 := 0) rfl rfl (fun _ => rfl) (fun e9 (fe9 : e9 = x1 + 1) => ?_)
    refine wi_goto (nx := 21) (r1 := 2) (r2 := 0) (r3 := 0) rfl ?_
    refine wp.lo (lo := [(0, .ref 238), (1, .ref 241), (2, vi e9)]) ⟨rfl, rfl, rfl, trivial⟩ rfl ?_
    exact I2 e9 h6 ⟨g6, F7, F8, (show (0 ≤ e9 ∧ e9 ≤ 200) by omega), (fun q e => by
        by_cases e1 : (q : Int) < x1
        · exact (u6 241 _ (fn_i (by omega) fn_0)).trans (XA2 q e1)
        · have e2 : q = i5 := by omega
          have e3 : q = i5 := by omega
          exact (congrArg (h6 241) e2).trans (w6.trans ((Eq.refl _).trans (congrArg (h 238) e3).symm))), (fun q e => (u6 241 q (fn_i (by omega) fn_0)).trans (XB2 q (by omega)))⟩ (show ((200 : Int) + 1 - e9).toNat < ((200 : Int) + 1 - x1).toNat by omega)
-- method 352: Model.save()I
set_option maxRecDepth 100000 in
set_option maxHeartbeats 100000000 in
theorem ct_352_236 {L : Nat} {xs : Nat → Int32} {d b c : Nat} {h : hp} {cr : Nat → Nat → Option Nat} {Q : hp_Q} (hcr : CR cr)  (g : GI h)   (pp0 : h 238 98 + h 238 99 + h 238 100 + h 238 101 + h 238 102 + h 238 106 = h 238 73) (pp1 : h 238 73 ≤ h 238 2) (pp2 : h 238 119 ≤ h 238 67) (pp3 : h 238 69 ≤ h 238 5) (pp4 : h 238 2 ≤ 12 * h 238 5) (k : ∀ (h2 : hp) (z0 : Int) , GI h2 → FR [(241, 241, none), (245, 245, none), (236, 236, some (0, 0)), (236, 236, some (21, 21))] h h2 → (0 ≤ z0 ∧ z0 ≤ 9999) → (h2 241 98 + h2 241 99 + h2 241 100 + h2 241 101 + h2 241 102 + h2 241 106 = h2 241 73) → (h2 241 73 ≤ h2 241 2) → (h2 241 119 ≤ h2 241 67) → (h2 241 69 ≤ h2 241 5) → (h2 241 2 ≤ 12 * h2 241 5) → (h2 236 21 = 1) → (∀ q : Nat, q < 200 → h2 241 q = h 238 q) → Q (.inl (some (vi z0))) (hp_w h2 cr) b c) : wp (md_xa (L, xs)) (d + 1) 352 (0, [(0, .ref 236)], [], hp_w h cr, b, c) Q := by
  have F0 : FR [(241, 241, none), (245, 245, none), (236, 236, some (0, 0)), (236, 236, some (21, 21))] h h := FR.refl
  have b1 := gi_b (lo := 0) (hi := 6) g 238 98 rfl
  have b2 := gi_b (lo := 0) (hi := 6) g 238 99 rfl
  have b3 := gi_b (lo := 0) (hi := 6) g 238 100 rfl
  have b4 := gi_b (lo := 0) (hi := 6) g 238 101 rfl
  have b5 := gi_b (lo := 0) (hi := 3) g 238 102 rfl
  have b6 := gi_b (lo := 0) (hi := 12) g 238 106 rfl
  have b7 := gi_b (lo := 0) (hi := 12) g 238 73 rfl
  have b8 := gi_b (lo := 0) (hi := 12) g 238 2 rfl
  have b9 := gi_b (lo := 0) (hi := 9999) g 238 119 rfl
  have b10 := gi_b (lo := 0) (hi := 9999) g 238 67 rfl
  have b11 := gi_b (lo := 0) (hi := 9) g 238 69 rfl
  have b12 := gi_b (lo := 0) (hi := 9) g 238 5 rfl
  refine wi_aload_n (i := 0) (x := 236) (nx := 1) (r1 := 0) (r2 := 0) (r3 := 0) rfl rfl ?_
  refine wi_iconst (n := 0) (nx := 2) (r1 := 0) (r2 := 0) (r3 := 0) rfl ?_
  refine wr_pf0 (k0 := 236) (x := 0) (bl := 0) (bh := 2) (nx := 5) (r1 := 11) (r2 := 0) (r3 := 0) rfl (by decide) rfl ⟨rfl, rfl⟩ rfl rfl g rfl (by omega) (fun h13 g13 w13 u13 => ?_)
  have F14 := F0.then rfl u13
  refine wi_aload_n (i := 0) (x := 236) (nx := 6) (r1 := 0) (r2 := 0) (r3 := 0) rfl rfl ?_
  refine wr_gr (k0 := 236) (x := 238) (nx := 9) (r1 := 11) (r2 := 13) (r3 := 0) rfl rfl (by decide) rfl ⟨rfl, rfl⟩ rfl ?_
  refine wi_aload_n (i := 0) (x := 236) (nx := 10) (r1 := 0) (r2 := 0) (r3 := 0) rfl rfl ?_
  refine wr_gr (k0 := 236) (x := 241) (nx := 13) (r1 := 11) (r2 := 16) (r3 := 0) rfl rfl (by decide) rfl ⟨rfl, rfl⟩ rfl ?_
  refine wi_S (rest := []) (as := [.ref 238, .ref 241]) (nx := 16) (r1 := 238) (r2 := 18) (r3 := 0) rfl rfl rfl (of_decide_eq_true rfl) rfl rfl (of_decide_eq_true rfl) (of_decide_eq_true rfl) ?_
  refine ct_238_238_241 hcr  g13    (fun h15 g15 u15 y15_0 => ?_)
  have F16 := F14.then (by decide +kernel) u15
  refine wk_n ?_
  refine wi_iconst (n := 0) (nx := 17) (r1 := 0) (r2 := 0) (r3 := 0) rfl ?_
  refine wi_istore_n (i := 1) (e := 0) (lo2 := [(1, vi 0), (0, .ref 236)]) (nx := 18) (r1 := 0) (r2 := 0) (r3 := 0) rfl rfl ?_
  refine wp.lo (lo := [(0, .ref 236), (1, vi 0)]) ⟨rfl, rfl, trivial⟩ rfl ?_
  refine wl_1 (fun x17 h18 => GI h18 ∧ FR [(241, 241, none), (245, 245, none), (236, 236, some (0, 0)), (236, 236, some (21, 21))] h h18 ∧ FR [(245, 245, none)] h15 h18 ∧ ((0 ≤ x17 ∧ x17 ≤ 5))) (fun x17 h18 => ((5 : Int) + 1 - x17).toNat) (fun x17 h18 => (18, [(0, .ref 236), (1, vi x17)], [], hp_w h18 cr, b, c)) ?_ 0 h15 ⟨g15, F16, FR.refl, (show (0 ≤ 0 ∧ 0 ≤ 5) by omega)⟩
  intro x17 h18 ⟨g18, F19, u18, f18⟩ I18
  refine wi_iload_n (i := 1) (e := x17) (nx := 19) (r1 := 0) (r2 := 0) (r3 := 0) rfl rfl ?_
  refine wi_iconst (n := 5) (nx := 20) (r1 := 0) (r2 := 0) (r3 := 0) rfl ?_
  refine wi_icmp (cd := .ge) (nx := 23) (r1 := 41) (r2 := 0) (r3 := 0) rfl (by omega) (by omega) (fun (q20 : 5 ≤ x17) => ?_) (fun (q20 : ¬ (5 ≤ x17)) => ?_)
  ·
    refine wi_aload_n (i := 0) (x := 236) (nx := 42) (r1 := 0) (r2 := 0) (r3 := 0) rfl rfl ?_
    refine wi_iconst (n := 1) (nx := 43) (r1 := 0) (r2 := 0) (r3 := 0) rfl ?_
    refine wr_pf2 (k0 := 236) (x := 1) (bl := 0) (bh := 1) (nx := 46) (r1 := 11) (r2 := 21) (r3 := 2) rfl (by decide) rfl ⟨rfl, rfl⟩ rfl (by omega) rfl g18 rfl (by omega) (fun h21 g21 w21 u21 => ?_)
    have F22 := F19.then rfl u21
    refine wi_aload_n (i := 0) (x := 236) (nx := 47) (r1 := 0) (r2 := 0) (r3 := 0) rfl rfl ?_
    refine wr_gr (k0 := 236) (x := 238) (nx := 50) (r1 := 11) (r2 := 13) (r3 := 0) rfl rfl (by decide) rfl ⟨rfl, rfl⟩ rfl ?_
    refine wi_bipush (n := 67) (nx := 52) (r1 := 0) (r2 := 0) (r3 := 0) rfl (by decide) ?_
    refine wr_ia (k0 := 238) (a := 67) (f := 67) (x := h 238 67) (nx := 53) (r1 := 0) (r2 := 0) (r3 := 0) rfl (by decide) rfl (by omega) (by omega) (by decide) ((u21 238 67 rfl).trans ((u18 238 67 rfl).trans ((u15 238 67 rfl).trans (u13 238 67 rfl)))) ?_
    refine wi_ireturn (nx := 54) (r1 := 0) (r2 := 0) (r3 := 0) rfl rfl ?_
    have e23 : h21 241 98 = h 238 98 := ((u21 241 98 rfl).trans ((u18 241 98 rfl).trans ((y15_0 98 (by decide)).trans (u13 238 98 rfl))))
    have e24 : h21 241 99 = h 238 99 := ((u21 241 99 rfl).trans ((u18 241 99 rfl).trans ((y15_0 99 (by decide)).trans (u13 238 99 rfl))))
    have e25 : h21 241 100 = h 238 100 := ((u21 241 100 rfl).trans ((u18 241 100 rfl).trans ((y15_0 100 (by decide)).trans (u13 238 100 rfl))))
    have e26 : h21 241 101 = h 238 101 := ((u21 241 101 rfl).trans ((u18 241 101 rfl).trans ((y15_0 101 (by decide)).trans (u13 238 101 rfl))))
    have e27 : h21 241 102 = h 238 102 := ((u21 241 102 rfl).trans ((u18 241 102 rfl).trans ((y15_0 102 (by decide)).trans (u13 238 102 rfl))))
    have e28 : h21 241 106 = h 238 106 := ((u21 241 106 rfl).trans ((u18 241 106 rfl).trans ((y15_0 106 (by decide)).trans (u13 238 106 rfl))))
    have e29 : h21 241 73 = h 238 73 := ((u21 241 73 rfl).trans ((u18 241 73 rfl).trans ((y15_0 73 (by decide)).trans (u13 238 73 rfl))))
    have e30 : h21 241 2 = h 238 2 := ((u21 241 2 rfl).trans ((u18 241 2 rfl).trans ((y15_0 2 (by decide)).trans (u13 238 2 rfl))))
    have e31 : h21 241 119 = h 238 119 := ((u21 241 119 rfl).trans ((u18 241 119 rfl).trans ((y15_0 119 (by decide)).trans (u13 238 119 rfl))))
    have e32 : h21 241 67 = h 238 67 := ((u21 241 67 rfl).trans ((u18 241 67 rfl).trans ((y15_0 67 (by decide)).trans (u13 238 67 rfl))))
    have e33 : h21 241 69 = h 238 69 := ((u21 241 69 rfl).trans ((u18 241 69 rfl).trans ((y15_0 69 (by decide)).trans (u13 238 69 rfl))))
    have e34 : h21 241 5 = h 238 5 := ((u21 241 5 rfl).trans ((u18 241 5 rfl).trans ((y15_0 5 (by decide)).trans (u13 238 5 rfl))))
    have e35 : h21 236 21 = 1 := w21
    exact k h21 (h 238 67) g21 F22 (by omega) (show (h21 241 98) + (h21 241 99) + (h21 241 100) + (h21 241 101) + (h21 241 102) + (h21 241 106) = (h21 241 73) by omega) (show (h21 241 73) ≤ (h21 241 2) by omega) (show (h21 241 119) ≤ (h21 241 67) by omega) (show (h21 241 69) ≤ (h21 241 5) by omega) (show (h21 241 2) ≤ 12 * (h21 241 5) by omega) (show (h21 236 21) = 1 by omega) (fun i _ => ((u21 241 i (fn_a (by omega) fn_0)).trans ((u18 241 i (fn_a (by omega) fn_0)).trans ((y15_0 i (by omega)).trans (u13 238 i (fn_a (by omega) fn_0))))))
  ·
    refine wi_aload_n (i := 0) (x := 236) (nx := 24) (r1 := 0) (r2 := 0) (r3 := 0) rfl rfl ?_
    refine wr_gr (k0 := 236) (x := 245) (nx := 27) (r1 := 11) (r2 := 20) (r3 := 0) rfl rfl (by decide) rfl ⟨rfl, rfl⟩ rfl ?_
    refine wi_iload_n (i := 1) (e := x17) (nx := 28) (r1 := 0) (r2 := 0) (r3 := 0) rfl rfl ?_
    refine wi_aload_n (i := 0) (x := 236) (nx := 29) (r1 := 0) (r2 := 0) (r3 := 0) rfl rfl ?_
    refine wr_gr (k0 := 236) (x := 243) (nx := 32) (r1 := 11) (r2 := 18) (r3 := 0) rfl rfl (by decide) rfl ⟨rfl, rfl⟩ rfl ?_
    refine wi_iload_n (i := 1) (e := x17) (nx := 33) (r1 := 0) (r2 := 0) (r3 := 0) rfl rfl ?_
    obtain ⟨i21, ei21⟩ : ∃ q : Nat, x17 = (q : Int) := ⟨(x17).toNat, by omega⟩
    have b22 := gi_b (lo := -9223372036854775808) (hi := 9223372036854775807) g 243 i21 rfl
    refine wr_la (k0 := 243) (a := x17) (f := i21) (x := h 243 i21) (nx := 34) (r1 := 0) (r2 := 0) (r3 := 0) rfl (by decide) rfl (by omega) (by omega) (by decide) ((u18 243 i21 (fn_a (by omega) fn_0)).trans ((u15 243 i21 (fn_a (by omega) fn_0)).trans (u13 243 i21 (fn_a (by omega) fn_0)))) ?_
    refine wr_ls (k0 := 245) (a := x17) (f := i21) (x := h 243 i21) (bl := -9223372036854775808) (bh := 9223372036854775807) (nx := 35) (r1 := 0) (r2 := 0) (r3 := 0) rfl (by decide) rfl (by omega) (by omega) (by decide) g18 rfl (by omega) (fun h23 g23 w23 u23 => ?_)
    have F24 := F19.then rfl (FR.rngp (lo := 245) (hi := 245) u23 (by decide))
    have F25 := u18.then rfl (FR.rngp (lo := 245) (hi := 245) u23 (by decide))
    refine wr_iinc (i := 1) (n := 1) (v := x17) (fun e26 => [(1, vi e26), (0, .ref 236)]) (nx := 38) (r1 := 0) (r2 := 0) (r3 := 0) rfl rfl (fun _ => rfl) (fun e26 (fe26 : e26 = x17 + 1) => ?_)
    refine wi_goto (nx := 41) (r1 := 18) (r2 := 0) (r3 := 0) rfl ?_
    refine wp.lo (lo := [(0, .ref 236), (1, vi e26)]) ⟨rfl, rfl, trivial⟩ rfl ?_
    exact I18 e26 h23 ⟨g23, F24, F25, (show (0 ≤ e26 ∧ e26 ≤ 5) by omega)⟩ (show ((5 : Int) + 1 - e26).toNat < ((5 : Int) + 1 - x17).toNat by omega)
-- method 239: Model.setting(I)I
set_option maxRecDepth 100000 in
set_option maxHeartbeats 100000000 in
theorem ct_239_236 {L : Nat} {xs : Nat → Int32} {d b c : Nat} {h : hp} {cr : Nat → Nat → Option Nat} {Q : hp_Q} (hcr : CR cr)  (g : GI h) (a0 : Int) (q0_ : -2147483648 ≤ a0 ∧ a0 ≤ 2147483647)  (k : ∀ (h2 : hp) (z0 : Int) , GI h2 → FR [(236, 236, some (0, 0))] h h2 → (0 ≤ z0 ∧ z0 ≤ 999) → ((0 ≤ a0 ∧ a0 ≤ 9 ∧ h2 236 0 = 0) ∨ ((a0 < 0 ∨ 9 < a0) ∧ h2 236 0 = 1)) → (0 ≤ a0 → a0 ≤ 9 → z0 = h 238 a0.toNat) → Q (.inl (some (vi z0))) (hp_w h2 cr) b c) : wp (md_xa (L, xs)) (d + 2) 239 (0, [(0, .ref 236), (1, vi a0)], [], hp_w h cr, b, c) Q := by
  have F0 : FR [(236, 236, some (0, 0))] h h := FR.refl
  refine wi_aload_n (i := 0) (x := 236) (nx := 1) (r1 := 0) (r2 := 0) (r3 := 0) rfl rfl ?_
  refine wi_iload_n (i := 1) (e := a0) (nx := 2) (r1 := 0) (r2 := 0) (r3 := 0) rfl rfl ?_
  refine wi_i2l (nx := 3) (r1 := 0) (r2 := 0) (r3 := 0) rfl (by omega) ?_
  refine wi_lconst (n := 0) (e := 0) (nx := 4) (r1 := 0) (r2 := 0) (r3 := 0) rfl (by decide) ?_
  refine wi_ldc2_w (e := 9) (nx := 7) (r1 := 9) (r2 := 0) (r3 := 0) rfl (by decide) ?_
  refine wi_S (rest := [.ref 236]) (as := [vl a0, vl 0, vl 9]) (nx := 10) (r1 := 210) (r2 := 19) (r3 := 0) rfl rfl rfl (of_decide_eq_true rfl) rfl rfl (of_decide_eq_true rfl) (of_decide_eq_true rfl) ?_
  refine wi_lload_n (i := 0) (e := a0) (nx := 1) (r1 := 0) (r2 := 0) (r3 := 0) rfl rfl ?_
  refine wi_lload_n (i := 2) (e := 0) (nx := 2) (r1 := 0) (r2 := 0) (r3 := 0) rfl rfl ?_
  refine wi_lcmp (a := a0) (e := 0) (nx := 3) (r1 := 0) (r2 := 0) (r3 := 0) rfl (by omega) (by omega) (fun r1 (fr1 : (r1 = -1 ∧ a0 < 0) ∨ (r1 = 0 ∧ a0 = 0) ∨ (r1 = 1 ∧ 0 < a0)) => ?_)
  refine wi_if (cd := .lt) (nx := 6) (r1 := 17) (r2 := 0) (r3 := 0) rfl (by omega) (fun (q2 : r1 < 0) => ?_) (fun (q2 : ¬ (r1 < 0)) => ?_)
  ·
    refine wi_iconst (n := 0) (nx := 18) (r1 := 0) (r2 := 0) (r3 := 0) rfl ?_
    refine wi_zreturn (nx := 19) (r1 := 0) (r2 := 0) (r3 := 0) rfl rfl (by omega) ?_
    refine wk_i ?_
    refine wr_V (k0 := 236) (rest := []) (as := [.ref 236, vi 0]) (nx := 13) (r1 := 206) (r2 := 1) (r3 := 11) rfl rfl rfl (of_decide_eq_true rfl) rfl rfl (by decide) rfl rfl (of_decide_eq_true rfl) (of_decide_eq_true rfl) ?_
    refine wi_aload_n (i := 0) (x := 236) (nx := 1) (r1 := 0) (r2 := 0) (r3 := 0) rfl rfl ?_
    refine wi_iload_n (i := 1) (e := 0) (nx := 2) (r1 := 0) (r2 := 0) (r3 := 0) rfl rfl ?_
    refine wi_if (cd := .ne) (nx := 5) (r1 := 9) (r2 := 0) (r3 := 0) rfl (by omega) (fun (q3 : 0 ≠ 0) => by exfalso; omega) (fun (q3 : ¬ (0 ≠ 0)) => ?_)
    refine wi_iconst (n := 1) (nx := 6) (r1 := 0) (r2 := 0) (r3 := 0) rfl ?_
    refine wi_goto (nx := 9) (r1 := 10) (r2 := 0) (r3 := 0) rfl ?_
    refine wi_S (rest := [.ref 236]) (as := [vi 1]) (nx := 13) (r1 := 207) (r2 := 17) (r3 := 0) rfl rfl rfl (of_decide_eq_true rfl) rfl rfl (of_decide_eq_true rfl) (of_decide_eq_true rfl) ?_
    refine wi_iload_n (i := 0) (e := 1) (nx := 1) (r1 := 0) (r2 := 0) (r3 := 0) rfl rfl ?_
    refine wi_if (cd := .eq) (nx := 4) (r1 := 8) (r2 := 0) (r3 := 0) rfl (by omega) (fun (q4 : 1 = 0) => by exfalso; omega) (fun (q4 : ¬ (1 = 0)) => ?_)
    refine wi_iconst (n := 1) (nx := 5) (r1 := 0) (r2 := 0) (r3 := 0) rfl ?_
    refine wi_goto (nx := 8) (r1 := 9) (r2 := 0) (r3 := 0) rfl ?_
    refine wi_ireturn (nx := 10) (r1 := 0) (r2 := 0) (r3 := 0) rfl rfl ?_
    refine wk_i ?_
    refine wr_pf0 (k0 := 236) (x := 1) (bl := 0) (bh := 2) (nx := 16) (r1 := 11) (r2 := 0) (r3 := 0) rfl (by decide) rfl ⟨rfl, rfl⟩ rfl rfl g rfl (by omega) (fun h5 g5 w5 u5 => ?_)
    have F6 := F0.then rfl u5
    refine wi_iload_n (i := 1) (e := 0) (nx := 17) (r1 := 0) (r2 := 0) (r3 := 0) rfl rfl ?_
    refine wi_zreturn (nx := 18) (r1 := 0) (r2 := 0) (r3 := 0) rfl rfl (by omega) ?_
    refine wk_i ?_
    refine wi_if (cd := .eq) (nx := 16) (r1 := 25) (r2 := 0) (r3 := 0) rfl (by omega) (fun (q7 : 0 = 0) => ?_) (fun (q7 : ¬ (0 = 0)) => by exfalso; omega)
    refine wi_iconst (n := 0) (nx := 26) (r1 := 0) (r2 := 0) (r3 := 0) rfl ?_
    refine wi_ireturn (nx := 27) (r1 := 0) (r2 := 0) (r3 := 0) rfl rfl ?_
    have e8 : h5 236 0 = 1 := w5
    exact k h5 0 g5 F6 (by omega) (show (0 ≤ a0 ∧ a0 ≤ 9 ∧ (h5 236 0) = 0) ∨ ((a0 < 0 ∨ 9 < a0) ∧ (h5 236 0) = 1) by omega) (fun e1 e2 => by exfalso; omega)
  ·
    refine wi_lload_n (i := 0) (e := a0) (nx := 7) (r1 := 0) (r2 := 0) (r3 := 0) rfl rfl ?_
    refine wi_lload (i := 4) (e := 9) (nx := 9) (r1 := 0) (r2 := 0) (r3 := 0) rfl rfl ?_
    refine wi_lcmp (a := a0) (e := 9) (nx := 10) (r1 := 0) (r2 := 0) (r3 := 0) rfl (by omega) (by omega) (fun r3 (fr3 : (r3 = -1 ∧ a0 < 9) ∨ (r3 = 0 ∧ a0 = 9) ∨ (r3 = 1 ∧ 9 < a0)) => ?_)
    refine wi_if (cd := .gt) (nx := 13) (r1 := 17) (r2 := 0) (r3 := 0) rfl (by omega) (fun (q4 : 0 < r3) => ?_) (fun (q4 : ¬ (0 < r3)) => ?_)
    ·
      refine wi_iconst (n := 0) (nx := 18) (r1 := 0) (r2 := 0) (r3 := 0) rfl ?_
      refine wi_zreturn (nx := 19) (r1 := 0) (r2 := 0) (r3 := 0) rfl rfl (by omega) ?_
      refine wk_i ?_
      refine wr_V (k0 := 236) (rest := []) (as := [.ref 236, vi 0]) (nx := 13) (r1 := 206) (r2 := 1) (r3 := 11) rfl rfl rfl (of_decide_eq_true rfl) rfl rfl (by decide) rfl rfl (of_decide_eq_true rfl) (of_decide_eq_true rfl) ?_
      refine wi_aload_n (i := 0) (x := 236) (nx := 1) (r1 := 0) (r2 := 0) (r3 := 0) rfl rfl ?_
      refine wi_iload_n (i := 1) (e := 0) (nx := 2) (r1 := 0) (r2 := 0) (r3 := 0) rfl rfl ?_
      refine wi_if (cd := .ne) (nx := 5) (r1 := 9) (r2 := 0) (r3 := 0) rfl (by omega) (fun (q5 : 0 ≠ 0) => by exfalso; omega) (fun (q5 : ¬ (0 ≠ 0)) => ?_)
      refine wi_iconst (n := 1) (nx := 6) (r1 := 0) (r2 := 0) (r3 := 0) rfl ?_
      refine wi_goto (nx := 9) (r1 := 10) (r2 := 0) (r3 := 0) rfl ?_
      refine wi_S (rest := [.ref 236]) (as := [vi 1]) (nx := 13) (r1 := 207) (r2 := 17) (r3 := 0) rfl rfl rfl (of_decide_eq_true rfl) rfl rfl (of_decide_eq_true rfl) (of_decide_eq_true rfl) ?_
      refine wi_iload_n (i := 0) (e := 1) (nx := 1) (r1 := 0) (r2 := 0) (r3 := 0) rfl rfl ?_
      refine wi_if (cd := .eq) (nx := 4) (r1 := 8) (r2 := 0) (r3 := 0) rfl (by omega) (fun (q6 : 1 = 0) => by exfalso; omega) (fun (q6 : ¬ (1 = 0)) => ?_)
      refine wi_iconst (n := 1) (nx := 5) (r1 := 0) (r2 := 0) (r3 := 0) rfl ?_
      refine wi_goto (nx := 8) (r1 := 9) (r2 := 0) (r3 := 0) rfl ?_
      refine wi_ireturn (nx := 10) (r1 := 0) (r2 := 0) (r3 := 0) rfl rfl ?_
      refine wk_i ?_
      refine wr_pf0 (k0 := 236) (x := 1) (bl := 0) (bh := 2) (nx := 16) (r1 := 11) (r2 := 0) (r3 := 0) rfl (by decide) rfl ⟨rfl, rfl⟩ rfl rfl g rfl (by omega) (fun h7 g7 w7 u7 => ?_)
      have F8 := F0.then rfl u7
      refine wi_iload_n (i := 1) (e := 0) (nx := 17) (r1 := 0) (r2 := 0) (r3 := 0) rfl rfl ?_
      refine wi_zreturn (nx := 18) (r1 := 0) (r2 := 0) (r3 := 0) rfl rfl (by omega) ?_
      refine wk_i ?_
      refine wi_if (cd := .eq) (nx := 16) (r1 := 25) (r2 := 0) (r3 := 0) rfl (by omega) (fun (q9 : 0 = 0) => ?_) (fun (q9 : ¬ (0 = 0)) => by exfalso; omega)
      refine wi_iconst (n := 0) (nx := 26) (r1 := 0) (r2 := 0) (r3 := 0) rfl ?_
      refine wi_ireturn (nx := 27) (r1 := 0) (r2 := 0) (r3 := 0) rfl rfl ?_
      have e10 : h7 236 0 = 1 := w7
      exact k h7 0 g7 F8 (by omega) (show (0 ≤ a0 ∧ a0 ≤ 9 ∧ (h7 236 0) = 0) ∨ ((a0 < 0 ∨ 9 < a0) ∧ (h7 236 0) = 1) by omega) (fun e1 e2 => by exfalso; omega)
    ·
      refine wi_iconst (n := 1) (nx := 14) (r1 := 0) (r2 := 0) (r3 := 0) rfl ?_
      refine wi_goto (nx := 17) (r1 := 18) (r2 := 0) (r3 := 0) rfl ?_
      refine wi_zreturn (nx := 19) (r1 := 0) (r2 := 0) (r3 := 0) rfl rfl (by omega) ?_
      refine wk_i ?_
      refine wr_V (k0 := 236) (rest := []) (as := [.ref 236, vi 1]) (nx := 13) (r1 := 206) (r2 := 1) (r3 := 11) rfl rfl rfl (of_decide_eq_true rfl) rfl rfl (by decide) rfl rfl (of_decide_eq_true rfl) (of_decide_eq_true rfl) ?_
      refine wi_aload_n (i := 0) (x := 236) (nx := 1) (r1 := 0) (r2 := 0) (r3 := 0) rfl rfl ?_
      refine wi_iload_n (i := 1) (e := 1) (nx := 2) (r1 := 0) (r2 := 0) (r3 := 0) rfl rfl ?_
      refine wi_if (cd := .ne) (nx := 5) (r1 := 9) (r2 := 0) (r3 := 0) rfl (by omega) (fun (q5 : 1 ≠ 0) => ?_) (fun (q5 : ¬ (1 ≠ 0)) => by exfalso; omega)
      refine wi_iconst (n := 0) (nx := 10) (r1 := 0) (r2 := 0) (r3 := 0) rfl ?_
      refine wi_S (rest := [.ref 236]) (as := [vi 0]) (nx := 13) (r1 := 207) (r2 := 17) (r3 := 0) rfl rfl rfl (of_decide_eq_true rfl) rfl rfl (of_decide_eq_true rfl) (of_decide_eq_true rfl) ?_
      refine wi_iload_n (i := 0) (e := 0) (nx := 1) (r1 := 0) (r2 := 0) (r3 := 0) rfl rfl ?_
      refine wi_if (cd := .eq) (nx := 4) (r1 := 8) (r2 := 0) (r3 := 0) rfl (by omega) (fun (q6 : 0 = 0) => ?_) (fun (q6 : ¬ (0 = 0)) => by exfalso; omega)
      refine wi_iconst (n := 0) (nx := 9) (r1 := 0) (r2 := 0) (r3 := 0) rfl ?_
      refine wi_ireturn (nx := 10) (r1 := 0) (r2 := 0) (r3 := 0) rfl rfl ?_
      refine wk_i ?_
      refine wr_pf0 (k0 := 236) (x := 0) (bl := 0) (bh := 2) (nx := 16) (r1 := 11) (r2 := 0) (r3 := 0) rfl (by decide) rfl ⟨rfl, rfl⟩ rfl rfl g rfl (by omega) (fun h7 g7 w7 u7 => ?_)
      have F8 := F0.then rfl u7
      refine wi_iload_n (i := 1) (e := 1) (nx := 17) (r1 := 0) (r2 := 0) (r3 := 0) rfl rfl ?_
      refine wi_zreturn (nx := 18) (r1 := 0) (r2 := 0) (r3 := 0) rfl rfl (by omega) ?_
      refine wk_i ?_
      refine wi_if (cd := .eq) (nx := 16) (r1 := 25) (r2 := 0) (r3 := 0) rfl (by omega) (fun (q9 : 1 = 0) => by exfalso; omega) (fun (q9 : ¬ (1 = 0)) => ?_)
      refine wi_aload_n (i := 0) (x := 236) (nx := 17) (r1 := 0) (r2 := 0) (r3 := 0) rfl rfl ?_
      refine wr_gr (k0 := 236) (x := 238) (nx := 20) (r1 := 11) (r2 := 13) (r3 := 0) rfl rfl (by decide) rfl ⟨rfl, rfl⟩ rfl ?_
      refine wi_iload_n (i := 1) (e := a0) (nx := 21) (r1 := 0) (r2 := 0) (r3 := 0) rfl rfl ?_
      obtain ⟨i10, ei10⟩ : ∃ q : Nat, a0 = (q : Int) := ⟨(a0).toNat, by omega⟩
      have b11 : 0 ≤ h 238 i10 ∧ h 238 i10 ≤ 999 := by
        rcases (show (0 ≤ i10 ∧ i10 < 0 + 1) ∨ (1 ≤ i10 ∧ i10 < 1 + 1) ∨ (2 ≤ i10 ∧ i10 < 2 + 1) ∨ (3 ≤ i10 ∧ i10 < 3 + 2) ∨ (5 ≤ i10 ∧ i10 < 5 + 1) ∨ (6 ≤ i10 ∧ i10 < 6 + 1) ∨ (7 ≤ i10 ∧ i10 < 7 + 1) ∨ (8 ≤ i10 ∧ i10 < 8 + 2) by omega) with bq | bq | bq | bq | bq | bq | bq | bq
        · have bz := gi_b (lo := 0) (hi := 5) g 238 i10 (gi_rg 0 1 (fun _ => rfl) (by decide +kernel) bq); omega
        · have bz := gi_b (lo := 0) (hi := 4) g 238 i10 (gi_rg 1 1 (fun _ => rfl) (by decide +kernel) bq); omega
        · have bz := gi_b (lo := 0) (hi := 12) g 238 i10 (gi_rg 2 1 (fun _ => rfl) (by decide +kernel) bq); omega
        · have bz := gi_b (lo := 0) (hi := 999) g 238 i10 (gi_rg 3 2 (fun _ => rfl) (by decide +kernel) bq); omega
        · have bz := gi_b (lo := 0) (hi := 9) g 238 i10 (gi_rg 5 1 (fun _ => rfl) (by decide +kernel) bq); omega
        · have bz := gi_b (lo := 0) (hi := 999) g 238 i10 (gi_rg 6 1 (fun _ => rfl) (by decide +kernel) bq); omega
        · have bz := gi_b (lo := 0) (hi := 3) g 238 i10 (gi_rg 7 1 (fun _ => rfl) (by decide +kernel) bq); omega
        · have bz := gi_b (lo := 0) (hi := 999) g 238 i10 (gi_rg 8 2 (fun _ => rfl) (by decide +kernel) bq); omega
      refine wr_ia (k0 := 238) (a := a0) (f := i10) (x := h 238 i10) (nx := 22) (r1 := 0) (r2 := 0) (r3 := 0) rfl (by decide) rfl (by omega) (by omega) (by decide) (u7 238 i10 (fn_a (by omega) fn_0)) ?_
      refine wi_goto (nx := 25) (r1 := 26) (r2 := 0) (r3 := 0) rfl ?_
      refine wi_ireturn (nx := 27) (r1 := 0) (r2 := 0) (r3 := 0) rfl rfl ?_
      have e12 : h7 236 0 = 0 := w7
      exact k h7 (h 238 i10) g7 F8 (by omega) (show (0 ≤ a0 ∧ a0 ≤ 9 ∧ (h7 236 0) = 0) ∨ ((a0 < 0 ∨ 9 < a0) ∧ (h7 236 0) = 1) by omega) (fun _ _ => (show h 238 i10 = h 238 a0.toNat by rw [show a0.toNat = i10 by omega]))
-- method 288: Model.step()I
set_option maxRecDepth 100000 in
set_option maxHeartbeats 100000000 in
theorem ct_288_236 {L : Nat} {xs : Nat → Int32} {d b c : Nat} {h : hp} {cr : Nat → Nat → Option Nat} {Q : hp_Q} (hcr : CR cr)  (g : GI h)   (pp0 : h 238 98 + h 238 99 + h 238 100 + h 238 101 + h 238 102 + h 238 106 = h 238 73) (pp1 : h 238 73 ≤ h 238 2) (pp2 : h 238 119 ≤ h 238 67) (pp3 : h 238 69 ≤ h 238 5) (pp4 : h 238 2 ≤ 12 * h 238 5) (xq0 : GPS h) (gp0 : GPH h) (k : ∀ (h2 : hp) (z0 : Int) , GI h2 → FR [(236, 236, some (0, 0)), (236, 236, some (22, 22)), (236, 236, some (28, 28)), (238, 238, some (43, 54)), (238, 238, some (55, 66)), (238, 238, some (67, 67)), (238, 238, some (68, 68)), (238, 238, some (69, 69)), (238, 238, some (70, 70)), (238, 238, some (71, 71)), (238, 238, some (72, 72)), (238, 238, some (73, 73)), (238, 238, some (74, 79)), (238, 238, some (80, 85)), (238, 238, some (86, 91)), (238, 238, some (92, 97)), (238, 238, some (98, 98)), (238, 238, some (99, 99)), (238, 238, some (100, 100)), (238, 238, some (101, 101)), (238, 238, some (102, 102)), (238, 238, some (103, 105)), (238, 238, some (106, 106)), (238, 238, some (107, 118)), (238, 238, some (119, 119)), (238, 238, some (120, 196)), (238, 238, some (121, 197)), (238, 238, some (122, 198)), (238, 238, some (123, 199)), (242, 242, some (0, 999)), (242, 242, some (1000, 1199))] h h2 → (-1 ≤ z0 ∧ z0 ≤ 3) → (h2 238 98 + h2 238 99 + h2 238 100 + h2 238 101 + h2 238 102 + h2 238 106 = h2 238 73) → (h2 238 73 ≤ h2 238 2) → (h2 238 119 ≤ h2 238 67) → (h2 238 69 ≤ h2 238 5) → (h2 238 2 ≤ 12 * h2 238 5) → (GPS h2) → (GPH h2) → Q (.inl (some (vi z0))) (hp_w h2 cr) b c) : wp (md_xa (L, xs)) (d + 5) 288 (0, [(0, .ref 236)], [], hp_w h cr, b, c) Q := by
  have F0 : FR [(236, 236, some (0, 0)), (236, 236, some (22, 22)), (236, 236, some (28, 28)), (238, 238, some (43, 54)), (238, 238, some (55, 66)), (238, 238, some (67, 67)), (238, 238, some (68, 68)), (238, 238, some (69, 69)), (238, 238, some (70, 70)), (238, 238, some (71, 71)), (238, 238, some (72, 72)), (238, 238, some (73, 73)), (238, 238, some (74, 79)), (238, 238, some (80, 85)), (238, 238, some (86, 91)), (238, 238, some (92, 97)), (238, 238, some (98, 98)), (238, 238, some (99, 99)), (238, 238, some (100, 100)), (238, 238, some (101, 101)), (238, 238, some (102, 102)), (238, 238, some (103, 105)), (238, 238, some (106, 106)), (238, 238, some (107, 118)), (238, 238, some (119, 119)), (238, 238, some (120, 196)), (238, 238, some (121, 197)), (238, 238, some (122, 198)), (238, 238, some (123, 199)), (242, 242, some (0, 999)), (242, 242, some (1000, 1199))] h h := FR.refl
  have b1 := gi_b (lo := 0) (hi := 6) g 238 98 rfl
  have b2 := gi_b (lo := 0) (hi := 6) g 238 99 rfl
  have b3 := gi_b (lo := 0) (hi := 6) g 238 100 rfl
  have b4 := gi_b (lo := 0) (hi := 6) g 238 101 rfl
  have b5 := gi_b (lo := 0) (hi := 3) g 238 102 rfl
  have b6 := gi_b (lo := 0) (hi := 12) g 238 106 rfl
  have b7 := gi_b (lo := 0) (hi := 12) g 238 73 rfl
  have b8 := gi_b (lo := 0) (hi := 12) g 238 2 rfl
  have b9 := gi_b (lo := 0) (hi := 9999) g 238 119 rfl
  have b10 := gi_b (lo := 0) (hi := 9999) g 238 67 rfl
  have b11 := gi_b (lo := 0) (hi := 9) g 238 69 rfl
  have b12 := gi_b (lo := 0) (hi := 9) g 238 5 rfl
  refine wi_aload_n (i := 0) (x := 236) (nx := 1) (r1 := 0) (r2 := 0) (r3 := 0) rfl rfl ?_
  refine wi_iconst (n := 0) (nx := 2) (r1 := 0) (r2 := 0) (r3 := 0) rfl ?_
  refine wr_pf0 (k0 := 236) (x := 0) (bl := 0) (bh := 2) (nx := 5) (r1 := 11) (r2 := 0) (r3 := 0) rfl (by decide) rfl ⟨rfl, rfl⟩ rfl rfl g rfl (by omega) (fun h13 g13 w13 u13 => ?_)
  have F14 := F0.then rfl u13
  refine wi_aload_n (i := 0) (x := 236) (nx := 6) (r1 := 0) (r2 := 0) (r3 := 0) rfl rfl ?_
  refine wr_V (k0 := 236) (rest := []) (as := [.ref 236]) (nx := 9) (r1 := 289) (r2 := 0) (r3 := 11) rfl rfl rfl (of_decide_eq_true rfl) rfl rfl (by decide) rfl rfl (of_decide_eq_true rfl) (of_decide_eq_true rfl) ?_
  refine ct_289_236 hcr  g13    (fun z16  (fz16 : -1 ≤ z16 ∧ z16 ≤ 3) y15_0 => ?_)
  refine wk_i ?_
  refine wi_iconst (n := (-1)) (nx := 10) (r1 := 0) (r2 := 0) (r3 := 0) rfl ?_
  refine wi_icmp (cd := .ne) (nx := 13) (r1 := 15) (r2 := 0) (r3 := 0) rfl (by omega) (by omega) (fun (q17 : z16 ≠ (-1)) => ?_) (fun (q17 : ¬ (z16 ≠ (-1))) => ?_)
  ·
    refine wi_aload_n (i := 0) (x := 236) (nx := 16) (r1 := 0) (r2 := 0) (r3 := 0) rfl rfl ?_
    refine wr_V (k0 := 236) (rest := []) (as := [.ref 236]) (nx := 19) (r1 := 278) (r2 := 0) (r3 := 11) rfl rfl rfl (of_decide_eq_true rfl) rfl rfl (by decide) rfl rfl (of_decide_eq_true rfl) (of_decide_eq_true rfl) ?_
    have e19 : h13 238 98 = h 238 98 := (u13 238 98 rfl)
    have e20 : h13 238 99 = h 238 99 := (u13 238 99 rfl)
    have e21 : h13 238 100 = h 238 100 := (u13 238 100 rfl)
    have e22 : h13 238 101 = h 238 101 := (u13 238 101 rfl)
    have e23 : h13 238 102 = h 238 102 := (u13 238 102 rfl)
    have e24 : h13 238 106 = h 238 106 := (u13 238 106 rfl)
    have e25 : h13 238 73 = h 238 73 := (u13 238 73 rfl)
    have e26 : h13 238 2 = h 238 2 := (u13 238 2 rfl)
    have e27 : h13 238 119 = h 238 119 := (u13 238 119 rfl)
    have e28 : h13 238 67 = h 238 67 := (u13 238 67 rfl)
    have e29 : h13 238 69 = h 238 69 := (u13 238 69 rfl)
    have e30 : h13 238 5 = h 238 5 := (u13 238 5 rfl)
    have gs31 := GPS.fr u13 rfl xq0
    have gp32 := GPH.fr u13 rfl gp0
    refine ct_278_236 hcr  g13   (show (h13 238 98) + (h13 238 99) + (h13 238 100) + (h13 238 101) + (h13 238 102) + (h13 238 106) = (h13 238 73) by omega) (show (h13 238 73) ≤ (h13 238 2) by omega) (show (h13 238 119) ≤ (h13 238 67) by omega) (show (h13 238 69) ≤ (h13 238 5) by omega) (show (h13 238 2) ≤ 12 * (h13 238 5) by omega) gs31 gp32 (fun h18 g18 u18 (p18_0 : 1 ≤ (h18 236 22)) y18_0 y18_1 => ?_)
    have F33 := F14.then (by decide +kernel) u18
    have b34 := gi_b (lo := 0) (hi := 6) g18 236 22 rfl
    refine wk_n ?_
    refine wi_aload_n (i := 0) (x := 236) (nx := 20) (r1 := 0) (r2 := 0) (r3 := 0) rfl rfl ?_
    refine wr_V (k0 := 236) (rest := []) (as := [.ref 236]) (nx := 23) (r1 := 292) (r2 := 0) (r3 := 11) rfl rfl rfl (of_decide_eq_true rfl) rfl rfl (by decide) rfl rfl (of_decide_eq_true rfl) (of_decide_eq_true rfl) ?_
    have e36 : h18 238 98 = h 238 98 := ((u18 238 98 rfl).trans (u13 238 98 rfl))
    have e37 : h18 238 99 = h 238 99 := ((u18 238 99 rfl).trans (u13 238 99 rfl))
    have e38 : h18 238 100 = h 238 100 := ((u18 238 100 rfl).trans (u13 238 100 rfl))
    have e39 : h18 238 101 = h 238 101 := ((u18 238 101 rfl).trans (u13 238 101 rfl))
    have e40 : h18 238 102 = h 238 102 := ((u18 238 102 rfl).trans (u13 238 102 rfl))
    have e41 : h18 238 106 = h 238 106 := ((u18 238 106 rfl).trans (u13 238 106 rfl))
    have e42 : h18 238 73 = h 238 73 := ((u18 238 73 rfl).trans (u13 238 73 rfl))
    have e43 : h18 238 2 = h 238 2 := ((u18 238 2 rfl).trans (u13 238 2 rfl))
    have e44 : h18 238 119 = h 238 119 := ((u18 238 119 rfl).trans (u13 238 119 rfl))
    have e45 : h18 238 67 = h 238 67 := ((u18 238 67 rfl).trans (u13 238 67 rfl))
    have e46 : h18 238 69 = h 238 69 := ((u18 238 69 rfl).trans (u13 238 69 rfl))
    have e47 : h18 238 5 = h 238 5 := ((u18 238 5 rfl).trans (u13 238 5 rfl))
    refine ct_292_236 hcr  g18   (show (h18 238 98) + (h18 238 99) + (h18 238 100) + (h18 238 101) + (h18 238 102) + (h18 238 106) = (h18 238 73) by omega) (show (h18 238 73) ≤ (h18 238 2) by omega) (show (h18 238 119) ≤ (h18 238 67) by omega) (show (h18 238 69) ≤ (h18 238 5) by omega) (show (h18 238 2) ≤ 12 * (h18 238 5) by omega) (fun h35 z48 g35 u35 (fz48 : -1 ≤ z48 ∧ z48 ≤ 3) (p35_0 : (h35 238 98) + (h35 238 99) + (h35 238 100) + (h35 238 101) + (h35 238 102) + (h35 238 106) = (h35 238 73)) (p35_1 : (h35 238 73) ≤ (h35 238 2)) (p35_2 : (h35 238 119) ≤ (h35 238 67)) (p35_3 : (h35 238 69) ≤ (h35 238 5)) (p35_4 : (h35 238 2) ≤ 12 * (h35 238 5)) => ?_)
    have F49 := F33.then (by decide +kernel) u35
    have b50 := gi_b (lo := 0) (hi := 6) g35 238 98 rfl
    have b51 := gi_b (lo := 0) (hi := 6) g35 238 99 rfl
    have b52 := gi_b (lo := 0) (hi := 6) g35 238 100 rfl
    have b53 := gi_b (lo := 0) (hi := 6) g35 238 101 rfl
    have b54 := gi_b (lo := 0) (hi := 3) g35 238 102 rfl
    have b55 := gi_b (lo := 0) (hi := 12) g35 238 106 rfl
    have b56 := gi_b (lo := 0) (hi := 12) g35 238 73 rfl
    have e57 : h35 238 2 = h 238 2 := ((u35 238 2 rfl).trans ((u18 238 2 rfl).trans (u13 238 2 rfl)))
    have b58 := gi_b (lo := 0) (hi := 9999) g35 238 119 rfl
    have b59 := gi_b (lo := 0) (hi := 9999) g35 238 67 rfl
    have b60 := gi_b (lo := 0) (hi := 9) g35 238 69 rfl
    have e61 : h35 238 5 = h 238 5 := ((u35 238 5 rfl).trans ((u18 238 5 rfl).trans (u13 238 5 rfl)))
    refine wk_i ?_
    refine wi_ireturn (nx := 24) (r1 := 0) (r2 := 0) (r3 := 0) rfl rfl ?_
    have gs62 := GPS.fr u35 rfl y18_0
    have gp63 := GPH.fr u35 rfl y18_1
    exact k h35 z48 g35 F49 (by omega) (show (h35 238 98) + (h35 238 99) + (h35 238 100) + (h35 238 101) + (h35 238 102) + (h35 238 106) = (h35 238 73) by omega) (show (h35 238 73) ≤ (h35 238 2) by omega) (show (h35 238 119) ≤ (h35 238 67) by omega) (show (h35 238 69) ≤ (h35 238 5) by omega) (show (h35 238 2) ≤ 12 * (h35 238 5) by omega) gs62 gp63
  ·
    refine wi_iconst (n := (-1)) (nx := 14) (r1 := 0) (r2 := 0) (r3 := 0) rfl ?_
    refine wi_ireturn (nx := 15) (r1 := 0) (r2 := 0) (r3 := 0) rfl rfl ?_
    have e18 : h13 238 98 = h 238 98 := (u13 238 98 rfl)
    have e19 : h13 238 99 = h 238 99 := (u13 238 99 rfl)
    have e20 : h13 238 100 = h 238 100 := (u13 238 100 rfl)
    have e21 : h13 238 101 = h 238 101 := (u13 238 101 rfl)
    have e22 : h13 238 102 = h 238 102 := (u13 238 102 rfl)
    have e23 : h13 238 106 = h 238 106 := (u13 238 106 rfl)
    have e24 : h13 238 73 = h 238 73 := (u13 238 73 rfl)
    have e25 : h13 238 2 = h 238 2 := (u13 238 2 rfl)
    have e26 : h13 238 119 = h 238 119 := (u13 238 119 rfl)
    have e27 : h13 238 67 = h 238 67 := (u13 238 67 rfl)
    have e28 : h13 238 69 = h 238 69 := (u13 238 69 rfl)
    have e29 : h13 238 5 = h 238 5 := (u13 238 5 rfl)
    have gs30 := GPS.fr u13 rfl xq0
    have gp31 := GPH.fr u13 rfl gp0
    exact k h13 (-1) g13 F14 (by omega) (show (h13 238 98) + (h13 238 99) + (h13 238 100) + (h13 238 101) + (h13 238 102) + (h13 238 106) = (h13 238 73) by omega) (show (h13 238 73) ≤ (h13 238 2) by omega) (show (h13 238 119) ≤ (h13 238 67) by omega) (show (h13 238 69) ≤ (h13 238 5) by omega) (show (h13 238 2) ≤ 12 * (h13 238 5) by omega) gs30 gp31
