-- method 220: Model.statement()V
set_option maxRecDepth 100000 in
set_option maxHeartbeats 100000000 in
theorem ct_220_236 {L : Nat} {xs : Nat → Int32} {d b c : Nat} {h : hp} {cr : Nat → Nat → Option Nat} {Q : hp_Q} (hcr : CR cr)  {tB : Nat → Int} {tn tp : Int} {tS : tk_S} (g : GI h)   (pp0 : h 236 4 ≤ h 236 3) (pp1 : 0 ≤ tp) (pp2 : tp ≤ tn) (pp3 : tp ≤ tk_nx tB tn tp ∧ tk_nx tB tn tp ≤ tn) (pp4 : h 236 8 = 0) (pp5 : h 239 5 ≤ 9) (pp6 : 1 ≤ h 239 5) (pp7 : h 239 7 ≤ 3) (pp8 : h 239 15 ≤ 6) (pp9 : h 239 16 ≤ 6) (pp10 : h 239 17 ≤ 6) (pp11 : h 239 18 ≤ 6) (pp12 : (h 236 4 = tk_nx tB tn tp ∧ h 236 5 = tk_st tB tn tp ∧ ((tk_kd tB tn tp = 0 ∧ h 236 6 = 0) ∨ (tk_kd tB tn tp = 1 ∧ h 236 6 = 1 ∧ h 236 12 = tk_sw tB tn tp) ∨ (tk_kd tB tn tp = 2 ∧ h 236 6 = 2 ∧ h 236 7 = tk_nb tB tn tp) ∨ (tk_kd tB tn tp = 3 ∧ h 236 6 = 3 ∧ h 236 7 = 59) ∨ (tk_kd tB tn tp = 4 ∧ h 236 6 = 3 ∧ h 236 7 = 40) ∨ (tk_kd tB tn tp = 5 ∧ h 236 6 = 3 ∧ h 236 7 = 41) ∨ (tk_kd tB tn tp = 6 ∧ h 236 6 = 4)))) (pp13 : tS 0 ≤ 5 ∧ tS 1 ≤ 4 ∧ tS 2 ≤ 12) (pp14 : h 236 9 = -1) (xq0 : RefB tB tn h) (xq1 : CVr tS h) (k : ∀ (h2 : hp) , GI h2 → FR [(244, 244, none), (236, 236, some (4, 4)), (236, 236, some (5, 5)), (236, 236, some (6, 6)), (236, 236, some (7, 7)), (236, 236, some (8, 8)), (236, 236, some (9, 9)), (236, 236, some (12, 12)), (236, 236, some (23, 23)), (236, 236, some (24, 24)), (236, 236, some (25, 25)), (236, 236, some (26, 26)), (239, 239, some (0, 0)), (239, 239, some (1, 1)), (239, 239, some (2, 2)), (239, 239, some (3, 3)), (239, 239, some (4, 4)), (239, 239, some (5, 5)), (239, 239, some (6, 6)), (239, 239, some (7, 7)), (239, 239, some (8, 8)), (239, 239, some (9, 9)), (239, 239, some (10, 14)), (239, 239, some (15, 15)), (239, 239, some (16, 16)), (239, 239, some (17, 17)), (239, 239, some (18, 18)), (239, 239, some (19, 30)), (239, 239, some (31, 42)), (239, 239, some (43, 54))] h h2 → (h2 236 8 = 0 ∨ 1 ≤ h2 236 8) → (h 236 4 ≤ h2 236 4) → (h2 236 4 ≤ h 236 3) → (1 ≤ h2 236 8 ∨ (h2 239 5 ≤ 9 ∧ 1 ≤ h2 239 5 ∧ h2 239 7 ≤ 3 ∧ h2 239 15 ≤ 6 ∧ h2 239 16 ≤ 6 ∧ h2 239 17 ≤ 6 ∧ h2 239 18 ≤ 6)) → (h2 236 8 ≠ 0 ∨ h2 236 9 = -1) → (tk_OR tB tn (tk_stm tB tn tp tS) h2) → Q (.inl none) (hp_w h2 cr) b c) : wp (md_xa (L, xs)) (d + 6) 220 (0, [(0, .ref 236)], [], hp_w h cr, b, c) Q := by
  have F0 : FR [(244, 244, none), (236, 236, some (4, 4)), (236, 236, some (5, 5)), (236, 236, some (6, 6)), (236, 236, some (7, 7)), (236, 236, some (8, 8)), (236, 236, some (9, 9)), (236, 236, some (12, 12)), (236, 236, some (23, 23)), (236, 236, some (24, 24)), (236, 236, some (25, 25)), (236, 236, some (26, 26)), (239, 239, some (0, 0)), (239, 239, some (1, 1)), (239, 239, some (2, 2)), (239, 239, some (3, 3)), (239, 239, some (4, 4)), (239, 239, some (5, 5)), (239, 239, some (6, 6)), (239, 239, some (7, 7)), (239, 239, some (8, 8)), (239, 239, some (9, 9)), (239, 239, some (10, 14)), (239, 239, some (15, 15)), (239, 239, some (16, 16)), (239, 239, some (17, 17)), (239, 239, some (18, 18)), (239, 239, some (19, 30)), (239, 239, some (31, 42)), (239, 239, some (43, 54))] h h := FR.refl
  have tb_1 : h 236 3 = tn := xq0.2.1
  have tb_2 : 0 ≤ tn ∧ tn ≤ 800 := xq0.2.2
  obtain ⟨⟨rv_0, rv_1, rv_2, rv_3, rv_4, rv_5, rv_6, rv_7, rv_8, rv_9⟩, ⟨rf_0, rf_1, rf_2, rf_3⟩, -⟩ := id xq1
  have b1 := gi_b (lo := 0) (hi := 5) g 239 0 rfl
  have b2 := gi_b (lo := 0) (hi := 4) g 239 1 rfl
  have b3 := gi_b (lo := 0) (hi := 12) g 239 2 rfl
  have b4 := gi_b (lo := 0) (hi := 800) g 236 4 rfl
  have b5 := gi_b (lo := 0) (hi := 800) g 236 3 rfl
  have b6 := gi_b (lo := 0) (hi := 5) g 236 8 rfl
  have b7 := gi_b (lo := 0) (hi := 999) g 239 5 rfl
  have b8 := gi_b (lo := 0) (hi := 999) g 239 7 rfl
  have b9 := gi_b (lo := 0) (hi := 999) g 239 15 rfl
  have b10 := gi_b (lo := 0) (hi := 999) g 239 16 rfl
  have b11 := gi_b (lo := 0) (hi := 999) g 239 17 rfl
  have b12 := gi_b (lo := 0) (hi := 999) g 239 18 rfl
  have b13 := gi_b (lo := 0) (hi := 800) g 236 5 rfl
  have b14 := gi_b (lo := 0) (hi := 4) g 236 6 rfl
  have b15 := gi_b (lo := -9223372036854775808) (hi := 9223372036854775807) g 236 12 rfl
  have b16 := gi_b (lo := 0) (hi := 999) g 236 7 rfl
  have b17 := gi_b (lo := -2147483648) (hi := 2147483647) g 236 9 rfl
  refine wi_aload_n (i := 0) (x := 236) (nx := 1) (r1 := 0) (r2 := 0) (r3 := 0) rfl rfl ?_
  refine wi_ldc2_w (e := 3650034) (nx := 4) (r1 := 3650034) (r2 := 0) (r3 := 0) rfl (by decide) ?_
  refine wr_V (k0 := 236) (rest := []) (as := [.ref 236, vl 3650034]) (nx := 7) (r1 := 221) (r2 := 1) (r3 := 11) rfl rfl rfl (of_decide_eq_true rfl) rfl rfl (by decide) rfl rfl (of_decide_eq_true rfl) (of_decide_eq_true rfl) ?_
  refine wi_aload_n (i := 0) (x := 236) (nx := 1) (r1 := 0) (r2 := 0) (r3 := 0) rfl rfl ?_
  refine wr_gi0 (k0 := 236) (x := h 236 8) (nx := 4) (r1 := 11) (r2 := 8) (r3 := 0) rfl rfl (by decide) rfl ⟨rfl, rfl⟩ rfl rfl ?_
  refine wi_if (cd := .ne) (nx := 7) (r1 := 28) (r2 := 0) (r3 := 0) rfl (by omega) (fun (q18 : (h 236 8) ≠ 0) => by exfalso; omega) (fun (q18 : ¬ ((h 236 8) ≠ 0)) => ?_)
  refine wi_aload_n (i := 0) (x := 236) (nx := 8) (r1 := 0) (r2 := 0) (r3 := 0) rfl rfl ?_
  refine wr_gi0 (k0 := 236) (x := h 236 6) (nx := 11) (r1 := 11) (r2 := 6) (r3 := 0) rfl rfl (by decide) rfl ⟨rfl, rfl⟩ rfl rfl ?_
  refine wi_iconst (n := 1) (nx := 12) (r1 := 0) (r2 := 0) (r3 := 0) rfl ?_
  refine wi_icmp (cd := .ne) (nx := 15) (r1 := 28) (r2 := 0) (r3 := 0) rfl (by omega) (by omega) (fun (q19 : (h 236 6) ≠ 1) => ?_) (fun (q19 : ¬ ((h 236 6) ≠ 1)) => ?_)
  ·
    refine wi_iconst (n := 0) (nx := 29) (r1 := 0) (r2 := 0) (r3 := 0) rfl ?_
    refine wi_zreturn (nx := 30) (r1 := 0) (r2 := 0) (r3 := 0) rfl rfl (by omega) ?_
    refine wk_i ?_
    refine wi_if (cd := .eq) (nx := 10) (r1 := 17) (r2 := 0) (r3 := 0) rfl (by omega) (fun (q20 : 0 = 0) => ?_) (fun (q20 : ¬ (0 = 0)) => by exfalso; omega)
    refine wi_aload_n (i := 0) (x := 236) (nx := 18) (r1 := 0) (r2 := 0) (r3 := 0) rfl rfl ?_
    refine wi_ldc2_w (e := 394693) (nx := 21) (r1 := 394693) (r2 := 0) (r3 := 0) rfl (by decide) ?_
    refine wr_V (k0 := 236) (rest := []) (as := [.ref 236, vl 394693]) (nx := 24) (r1 := 221) (r2 := 1) (r3 := 11) rfl rfl rfl (of_decide_eq_true rfl) rfl rfl (by decide) rfl rfl (of_decide_eq_true rfl) (of_decide_eq_true rfl) ?_
    refine wi_aload_n (i := 0) (x := 236) (nx := 1) (r1 := 0) (r2 := 0) (r3 := 0) rfl rfl ?_
    refine wr_gi0 (k0 := 236) (x := h 236 8) (nx := 4) (r1 := 11) (r2 := 8) (r3 := 0) rfl rfl (by decide) rfl ⟨rfl, rfl⟩ rfl rfl ?_
    refine wi_if (cd := .ne) (nx := 7) (r1 := 28) (r2 := 0) (r3 := 0) rfl (by omega) (fun (q21 : (h 236 8) ≠ 0) => by exfalso; omega) (fun (q21 : ¬ ((h 236 8) ≠ 0)) => ?_)
    refine wi_aload_n (i := 0) (x := 236) (nx := 8) (r1 := 0) (r2 := 0) (r3 := 0) rfl rfl ?_
    refine wr_gi0 (k0 := 236) (x := h 236 6) (nx := 11) (r1 := 11) (r2 := 6) (r3 := 0) rfl rfl (by decide) rfl ⟨rfl, rfl⟩ rfl rfl ?_
    refine wi_iconst (n := 1) (nx := 12) (r1 := 0) (r2 := 0) (r3 := 0) rfl ?_
    refine wi_icmp (cd := .ne) (nx := 15) (r1 := 28) (r2 := 0) (r3 := 0) rfl (by omega) (by omega) (fun (q22 : (h 236 6) ≠ 1) => ?_) (fun (q22 : ¬ ((h 236 6) ≠ 1)) => by exfalso; omega)
    refine wi_iconst (n := 0) (nx := 29) (r1 := 0) (r2 := 0) (r3 := 0) rfl ?_
    refine wi_zreturn (nx := 30) (r1 := 0) (r2 := 0) (r3 := 0) rfl rfl (by omega) ?_
    refine wk_i ?_
    refine wi_if (cd := .eq) (nx := 27) (r1 := 34) (r2 := 0) (r3 := 0) rfl (by omega) (fun (q23 : 0 = 0) => ?_) (fun (q23 : ¬ (0 = 0)) => by exfalso; omega)
    refine wi_aload_n (i := 0) (x := 236) (nx := 35) (r1 := 0) (r2 := 0) (r3 := 0) rfl rfl ?_
    refine wi_ldc2_w (e := 3122) (nx := 38) (r1 := 3122) (r2 := 0) (r3 := 0) rfl (by decide) ?_
    refine wr_V (k0 := 236) (rest := []) (as := [.ref 236, vl 3122]) (nx := 41) (r1 := 221) (r2 := 1) (r3 := 11) rfl rfl rfl (of_decide_eq_true rfl) rfl rfl (by decide) rfl rfl (of_decide_eq_true rfl) (of_decide_eq_true rfl) ?_
    refine wi_aload_n (i := 0) (x := 236) (nx := 1) (r1 := 0) (r2 := 0) (r3 := 0) rfl rfl ?_
    refine wr_gi0 (k0 := 236) (x := h 236 8) (nx := 4) (r1 := 11) (r2 := 8) (r3 := 0) rfl rfl (by decide) rfl ⟨rfl, rfl⟩ rfl rfl ?_
    refine wi_if (cd := .ne) (nx := 7) (r1 := 28) (r2 := 0) (r3 := 0) rfl (by omega) (fun (q24 : (h 236 8) ≠ 0) => by exfalso; omega) (fun (q24 : ¬ ((h 236 8) ≠ 0)) => ?_)
    refine wi_aload_n (i := 0) (x := 236) (nx := 8) (r1 := 0) (r2 := 0) (r3 := 0) rfl rfl ?_
    refine wr_gi0 (k0 := 236) (x := h 236 6) (nx := 11) (r1 := 11) (r2 := 6) (r3 := 0) rfl rfl (by decide) rfl ⟨rfl, rfl⟩ rfl rfl ?_
    refine wi_iconst (n := 1) (nx := 12) (r1 := 0) (r2 := 0) (r3 := 0) rfl ?_
    refine wi_icmp (cd := .ne) (nx := 15) (r1 := 28) (r2 := 0) (r3 := 0) rfl (by omega) (by omega) (fun (q25 : (h 236 6) ≠ 1) => ?_) (fun (q25 : ¬ ((h 236 6) ≠ 1)) => by exfalso; omega)
    refine wi_iconst (n := 0) (nx := 29) (r1 := 0) (r2 := 0) (r3 := 0) rfl ?_
    refine wi_zreturn (nx := 30) (r1 := 0) (r2 := 0) (r3 := 0) rfl rfl (by omega) ?_
    refine wk_i ?_
    refine wi_if (cd := .eq) (nx := 44) (r1 := 51) (r2 := 0) (r3 := 0) rfl (by omega) (fun (q26 : 0 = 0) => ?_) (fun (q26 : ¬ (0 = 0)) => by exfalso; omega)
    refine wi_aload_n (i := 0) (x := 236) (nx := 52) (r1 := 0) (r2 := 0) (r3 := 0) rfl rfl ?_
    refine wi_ldc2_w (e := 781652471) (nx := 55) (r1 := 781652471) (r2 := 0) (r3 := 0) rfl (by decide) ?_
    refine wr_V (k0 := 236) (rest := []) (as := [.ref 236, vl 781652471]) (nx := 58) (r1 := 221) (r2 := 1) (r3 := 11) rfl rfl rfl (of_decide_eq_true rfl) rfl rfl (by decide) rfl rfl (of_decide_eq_true rfl) (of_decide_eq_true rfl) ?_
    refine wi_aload_n (i := 0) (x := 236) (nx := 1) (r1 := 0) (r2 := 0) (r3 := 0) rfl rfl ?_
    refine wr_gi0 (k0 := 236) (x := h 236 8) (nx := 4) (r1 := 11) (r2 := 8) (r3 := 0) rfl rfl (by decide) rfl ⟨rfl, rfl⟩ rfl rfl ?_
    refine wi_if (cd := .ne) (nx := 7) (r1 := 28) (r2 := 0) (r3 := 0) rfl (by omega) (fun (q27 : (h 236 8) ≠ 0) => by exfalso; omega) (fun (q27 : ¬ ((h 236 8) ≠ 0)) => ?_)
    refine wi_aload_n (i := 0) (x := 236) (nx := 8) (r1 := 0) (r2 := 0) (r3 := 0) rfl rfl ?_
    refine wr_gi0 (k0 := 236) (x := h 236 6) (nx := 11) (r1 := 11) (r2 := 6) (r3 := 0) rfl rfl (by decide) rfl ⟨rfl, rfl⟩ rfl rfl ?_
    refine wi_iconst (n := 1) (nx := 12) (r1 := 0) (r2 := 0) (r3 := 0) rfl ?_
    refine wi_icmp (cd := .ne) (nx := 15) (r1 := 28) (r2 := 0) (r3 := 0) rfl (by omega) (by omega) (fun (q28 : (h 236 6) ≠ 1) => ?_) (fun (q28 : ¬ ((h 236 6) ≠ 1)) => by exfalso; omega)
    refine wi_iconst (n := 0) (nx := 29) (r1 := 0) (r2 := 0) (r3 := 0) rfl ?_
    refine wi_zreturn (nx := 30) (r1 := 0) (r2 := 0) (r3 := 0) rfl rfl (by omega) ?_
    refine wk_i ?_
    refine wi_if (cd := .eq) (nx := 61) (r1 := 102) (r2 := 0) (r3 := 0) rfl (by omega) (fun (q29 : 0 = 0) => ?_) (fun (q29 : ¬ (0 = 0)) => by exfalso; omega)
    refine wi_aload_n (i := 0) (x := 236) (nx := 103) (r1 := 0) (r2 := 0) (r3 := 0) rfl rfl ?_
    refine wi_ldc2_w (e := 2150504) (nx := 106) (r1 := 2150504) (r2 := 0) (r3 := 0) rfl (by decide) ?_
    refine wr_V (k0 := 236) (rest := []) (as := [.ref 236, vl 2150504]) (nx := 109) (r1 := 221) (r2 := 1) (r3 := 11) rfl rfl rfl (of_decide_eq_true rfl) rfl rfl (by decide) rfl rfl (of_decide_eq_true rfl) (of_decide_eq_true rfl) ?_
    refine wi_aload_n (i := 0) (x := 236) (nx := 1) (r1 := 0) (r2 := 0) (r3 := 0) rfl rfl ?_
    refine wr_gi0 (k0 := 236) (x := h 236 8) (nx := 4) (r1 := 11) (r2 := 8) (r3 := 0) rfl rfl (by decide) rfl ⟨rfl, rfl⟩ rfl rfl ?_
    refine wi_if (cd := .ne) (nx := 7) (r1 := 28) (r2 := 0) (r3 := 0) rfl (by omega) (fun (q30 : (h 236 8) ≠ 0) => by exfalso; omega) (fun (q30 : ¬ ((h 236 8) ≠ 0)) => ?_)
    refine wi_aload_n (i := 0) (x := 236) (nx := 8) (r1 := 0) (r2 := 0) (r3 := 0) rfl rfl ?_
    refine wr_gi0 (k0 := 236) (x := h 236 6) (nx := 11) (r1 := 11) (r2 := 6) (r3 := 0) rfl rfl (by decide) rfl ⟨rfl, rfl⟩ rfl rfl ?_
    refine wi_iconst (n := 1) (nx := 12) (r1 := 0) (r2 := 0) (r3 := 0) rfl ?_
    refine wi_icmp (cd := .ne) (nx := 15) (r1 := 28) (r2 := 0) (r3 := 0) rfl (by omega) (by omega) (fun (q31 : (h 236 6) ≠ 1) => ?_) (fun (q31 : ¬ ((h 236 6) ≠ 1)) => by exfalso; omega)
    refine wi_iconst (n := 0) (nx := 29) (r1 := 0) (r2 := 0) (r3 := 0) rfl ?_
    refine wi_zreturn (nx := 30) (r1 := 0) (r2 := 0) (r3 := 0) rfl rfl (by omega) ?_
    refine wk_i ?_
    refine wi_if (cd := .eq) (nx := 112) (r1 := 157) (r2 := 0) (r3 := 0) rfl (by omega) (fun (q32 : 0 = 0) => ?_) (fun (q32 : ¬ (0 = 0)) => by exfalso; omega)
    refine wi_aload_n (i := 0) (x := 236) (nx := 158) (r1 := 0) (r2 := 0) (r3 := 0) rfl rfl ?_
    refine wi_ldc2_w (e := 609992267) (nx := 161) (r1 := 609992267) (r2 := 0) (r3 := 0) rfl (by decide) ?_
    refine wr_V (k0 := 236) (rest := []) (as := [.ref 236, vl 609992267]) (nx := 164) (r1 := 221) (r2 := 1) (r3 := 11) rfl rfl rfl (of_decide_eq_true rfl) rfl rfl (by decide) rfl rfl (of_decide_eq_true rfl) (of_decide_eq_true rfl) ?_
    refine wi_aload_n (i := 0) (x := 236) (nx := 1) (r1 := 0) (r2 := 0) (r3 := 0) rfl rfl ?_
    refine wr_gi0 (k0 := 236) (x := h 236 8) (nx := 4) (r1 := 11) (r2 := 8) (r3 := 0) rfl rfl (by decide) rfl ⟨rfl, rfl⟩ rfl rfl ?_
    refine wi_if (cd := .ne) (nx := 7) (r1 := 28) (r2 := 0) (r3 := 0) rfl (by omega) (fun (q33 : (h 236 8) ≠ 0) => by exfalso; omega) (fun (q33 : ¬ ((h 236 8) ≠ 0)) => ?_)
    refine wi_aload_n (i := 0) (x := 236) (nx := 8) (r1 := 0) (r2 := 0) (r3 := 0) rfl rfl ?_
    refine wr_gi0 (k0 := 236) (x := h 236 6) (nx := 11) (r1 := 11) (r2 := 6) (r3 := 0) rfl rfl (by decide) rfl ⟨rfl, rfl⟩ rfl rfl ?_
    refine wi_iconst (n := 1) (nx := 12) (r1 := 0) (r2 := 0) (r3 := 0) rfl ?_
    refine wi_icmp (cd := .ne) (nx := 15) (r1 := 28) (r2 := 0) (r3 := 0) rfl (by omega) (by omega) (fun (q34 : (h 236 6) ≠ 1) => ?_) (fun (q34 : ¬ ((h 236 6) ≠ 1)) => by exfalso; omega)
    refine wi_iconst (n := 0) (nx := 29) (r1 := 0) (r2 := 0) (r3 := 0) rfl ?_
    refine wi_zreturn (nx := 30) (r1 := 0) (r2 := 0) (r3 := 0) rfl rfl (by omega) ?_
    refine wk_i ?_
    refine wi_if (cd := .eq) (nx := 167) (r1 := 212) (r2 := 0) (r3 := 0) rfl (by omega) (fun (q35 : 0 = 0) => ?_) (fun (q35 : ¬ (0 = 0)) => by exfalso; omega)
    refine wi_aload_n (i := 0) (x := 236) (nx := 213) (r1 := 0) (r2 := 0) (r3 := 0) rfl rfl ?_
    refine wi_ldc2_w (e := 639022) (nx := 216) (r1 := 639022) (r2 := 0) (r3 := 0) rfl (by decide) ?_
    refine wr_V (k0 := 236) (rest := []) (as := [.ref 236, vl 639022]) (nx := 219) (r1 := 221) (r2 := 1) (r3 := 11) rfl rfl rfl (of_decide_eq_true rfl) rfl rfl (by decide) rfl rfl (of_decide_eq_true rfl) (of_decide_eq_true rfl) ?_
    refine wi_aload_n (i := 0) (x := 236) (nx := 1) (r1 := 0) (r2 := 0) (r3 := 0) rfl rfl ?_
    refine wr_gi0 (k0 := 236) (x := h 236 8) (nx := 4) (r1 := 11) (r2 := 8) (r3 := 0) rfl rfl (by decide) rfl ⟨rfl, rfl⟩ rfl rfl ?_
    refine wi_if (cd := .ne) (nx := 7) (r1 := 28) (r2 := 0) (r3 := 0) rfl (by omega) (fun (q36 : (h 236 8) ≠ 0) => by exfalso; omega) (fun (q36 : ¬ ((h 236 8) ≠ 0)) => ?_)
    refine wi_aload_n (i := 0) (x := 236) (nx := 8) (r1 := 0) (r2 := 0) (r3 := 0) rfl rfl ?_
    refine wr_gi0 (k0 := 236) (x := h 236 6) (nx := 11) (r1 := 11) (r2 := 6) (r3 := 0) rfl rfl (by decide) rfl ⟨rfl, rfl⟩ rfl rfl ?_
    refine wi_iconst (n := 1) (nx := 12) (r1 := 0) (r2 := 0) (r3 := 0) rfl ?_
    refine wi_icmp (cd := .ne) (nx := 15) (r1 := 28) (r2 := 0) (r3 := 0) rfl (by omega) (by omega) (fun (q37 : (h 236 6) ≠ 1) => ?_) (fun (q37 : ¬ ((h 236 6) ≠ 1)) => by exfalso; omega)
    refine wi_iconst (n := 0) (nx := 29) (r1 := 0) (r2 := 0) (r3 := 0) rfl ?_
    refine wi_zreturn (nx := 30) (r1 := 0) (r2 := 0) (r3 := 0) rfl rfl (by omega) ?_
    refine wk_i ?_
    refine wi_if (cd := .eq) (nx := 222) (r1 := 251) (r2 := 0) (r3 := 0) rfl (by omega) (fun (q38 : 0 = 0) => ?_) (fun (q38 : ¬ (0 = 0)) => by exfalso; omega)
    refine wi_aload_n (i := 0) (x := 236) (nx := 252) (r1 := 0) (r2 := 0) (r3 := 0) rfl rfl ?_
    refine wi_iconst (n := 1) (nx := 253) (r1 := 0) (r2 := 0) (r3 := 0) rfl ?_
    refine wr_V (k0 := 236) (rest := []) (as := [.ref 236, vi 1]) (nx := 256) (r1 := 224) (r2 := 1) (r3 := 11) rfl rfl rfl (of_decide_eq_true rfl) rfl rfl (by decide) rfl rfl (of_decide_eq_true rfl) (of_decide_eq_true rfl) ?_
    refine ct_224_236 hcr  g 1 (by omega)  (fun h39 g39 u39 (p39_0 : 1 ≤ (h39 236 8)) (p39_1 : (1 ≤ (h 236 8) ∧ (h39 236 8) = (h 236 8) ∧ (h39 236 9) = (h 236 9)) ∨ ((h 236 8) = 0 ∧ (h39 236 9) = (h 236 5) ∧ (((h 236 6) = 4 ∧ (h39 236 8) = 1) ∨ ((h 236 6) ≠ 4 ∧ (h39 236 8) = 1)))) => ?_)
    have F40 := F0.then (by decide +kernel) u39
    have b41 := gi_b (lo := 0) (hi := 5) g39 236 8 rfl
    have b42 := gi_b (lo := -2147483648) (hi := 2147483647) g39 236 9 rfl
    refine wk_n ?_
    refine wi_return (nx := 257) (r1 := 0) (r2 := 0) (r3 := 0) rfl rfl ?_
    have e43 : h39 236 4 = h 236 4 := (u39 236 4 rfl)
    have e44 : h39 239 5 = h 239 5 := (u39 239 5 rfl)
    have e45 : h39 239 7 = h 239 7 := (u39 239 7 rfl)
    have e46 : h39 239 15 = h 239 15 := (u39 239 15 rfl)
    have e47 : h39 239 16 = h 239 16 := (u39 239 16 rfl)
    have e48 : h39 239 17 = h 239 17 := (u39 239 17 rfl)
    have e49 : h39 239 18 = h 239 18 := (u39 239 18 rfl)
    exact k h39 g39 F40 (show (h39 236 8) = 0 ∨ 1 ≤ (h39 236 8) by omega) (show (h 236 4) ≤ (h39 236 4) by omega) (show (h39 236 4) ≤ (h 236 3) by omega) (show 1 ≤ (h39 236 8) ∨ ((h39 239 5) ≤ 9 ∧ 1 ≤ (h39 239 5) ∧ (h39 239 7) ≤ 3 ∧ (h39 239 15) ≤ 6 ∧ (h39 239 16) ≤ 6 ∧ (h39 239 17) ≤ 6 ∧ (h39 239 18) ≤ 6) by omega) (show (h39 236 8) ≠ 0 ∨ (h39 236 9) = -1 by omega) (by unfold tk_stm; (repeat (first | rw [if_pos (by omega)] | rw [if_neg (by omega)])); first | exact tk_ORe (by omega) (by omega) (by omega) | ((repeat' split) <;> (first | exact tk_ORe (by omega) (by omega) (by omega) | (exfalso; omega))))
  ·
    refine wi_aload_n (i := 0) (x := 236) (nx := 16) (r1 := 0) (r2 := 0) (r3 := 0) rfl rfl ?_
    refine wr_gi1 (k0 := 236) (x := h 236 12) (nx := 19) (r1 := 11) (r2 := 12) (r3 := 0) rfl rfl (by decide) rfl ⟨rfl, rfl⟩ rfl rfl ?_
    refine wi_lload_n (i := 1) (e := 3650034) (nx := 20) (r1 := 0) (r2 := 0) (r3 := 0) rfl rfl ?_
    have wk20 : tk_kd tB tn tp = 1 → (tk_sw tB tn tp = 3650034 ↔ tk_wd (tk_lw tB tn tp) = 1) := fun e => tk_wk 0 (by decide) (by omega) (by omega) e
    refine wi_lcmp (a := h 236 12) (e := 3650034) (nx := 21) (r1 := 0) (r2 := 0) (r3 := 0) rfl (by omega) (by omega) (fun r21 (fr21 : (r21 = -1 ∧ (h 236 12) < 3650034) ∨ (r21 = 0 ∧ (h 236 12) = 3650034) ∨ (r21 = 1 ∧ 3650034 < (h 236 12))) => ?_)
    refine wi_if (cd := .ne) (nx := 24) (r1 := 28) (r2 := 0) (r3 := 0) rfl (by omega) (fun (q22 : r21 ≠ 0) => ?_) (fun (q22 : ¬ (r21 ≠ 0)) => ?_)
    ·
      refine wi_iconst (n := 0) (nx := 29) (r1 := 0) (r2 := 0) (r3 := 0) rfl ?_
      refine wi_zreturn (nx := 30) (r1 := 0) (r2 := 0) (r3 := 0) rfl rfl (by omega) ?_
      refine wk_i ?_
      refine wi_if (cd := .eq) (nx := 10) (r1 := 17) (r2 := 0) (r3 := 0) rfl (by omega) (fun (q23 : 0 = 0) => ?_) (fun (q23 : ¬ (0 = 0)) => by exfalso; omega)
      refine wi_aload_n (i := 0) (x := 236) (nx := 18) (r1 := 0) (r2 := 0) (r3 := 0) rfl rfl ?_
      refine wi_ldc2_w (e := 394693) (nx := 21) (r1 := 394693) (r2 := 0) (r3 := 0) rfl (by decide) ?_
      refine wr_V (k0 := 236) (rest := []) (as := [.ref 236, vl 394693]) (nx := 24) (r1 := 221) (r2 := 1) (r3 := 11) rfl rfl rfl (of_decide_eq_true rfl) rfl rfl (by decide) rfl rfl (of_decide_eq_true rfl) (of_decide_eq_true rfl) ?_
      refine wi_aload_n (i := 0) (x := 236) (nx := 1) (r1 := 0) (r2 := 0) (r3 := 0) rfl rfl ?_
      refine wr_gi0 (k0 := 236) (x := h 236 8) (nx := 4) (r1 := 11) (r2 := 8) (r3 := 0) rfl rfl (by decide) rfl ⟨rfl, rfl⟩ rfl rfl ?_
      refine wi_if (cd := .ne) (nx := 7) (r1 := 28) (r2 := 0) (r3 := 0) rfl (by omega) (fun (q24 : (h 236 8) ≠ 0) => by exfalso; omega) (fun (q24 : ¬ ((h 236 8) ≠ 0)) => ?_)
      refine wi_aload_n (i := 0) (x := 236) (nx := 8) (r1 := 0) (r2 := 0) (r3 := 0) rfl rfl ?_
      refine wr_gi0 (k0 := 236) (x := h 236 6) (nx := 11) (r1 := 11) (r2 := 6) (r3 := 0) rfl rfl (by decide) rfl ⟨rfl, rfl⟩ rfl rfl ?_
      refine wi_iconst (n := 1) (nx := 12) (r1 := 0) (r2 := 0) (r3 := 0) rfl ?_
      refine wi_icmp (cd := .ne) (nx := 15) (r1 := 28) (r2 := 0) (r3 := 0) rfl (by omega) (by omega) (fun (q25 : (h 236 6) ≠ 1) => by exfalso; omega) (fun (q25 : ¬ ((h 236 6) ≠ 1)) => ?_)
      refine wi_aload_n (i := 0) (x := 236) (nx := 16) (r1 := 0) (r2 := 0) (r3 := 0) rfl rfl ?_
      refine wr_gi1 (k0 := 236) (x := h 236 12) (nx := 19) (r1 := 11) (r2 := 12) (r3 := 0) rfl rfl (by decide) rfl ⟨rfl, rfl⟩ rfl rfl ?_
      refine wi_lload_n (i := 1) (e := 394693) (nx := 20) (r1 := 0) (r2 := 0) (r3 := 0) rfl rfl ?_
      have wk26 : tk_kd tB tn tp = 1 → (tk_sw tB tn tp = 394693 ↔ tk_wd (tk_lw tB tn tp) = 3) := fun e => tk_wk 2 (by decide) (by omega) (by omega) e
      refine wi_lcmp (a := h 236 12) (e := 394693) (nx := 21) (r1 := 0) (r2 := 0) (r3 := 0) rfl (by omega) (by omega) (fun r27 (fr27 : (r27 = -1 ∧ (h 236 12) < 394693) ∨ (r27 = 0 ∧ (h 236 12) = 394693) ∨ (r27 = 1 ∧ 394693 < (h 236 12))) => ?_)
      refine wi_if (cd := .ne) (nx := 24) (r1 := 28) (r2 := 0) (r3 := 0) rfl (by omega) (fun (q28 : r27 ≠ 0) => ?_) (fun (q28 : ¬ (r27 ≠ 0)) => ?_)
      ·
        refine wi_iconst (n := 0) (nx := 29) (r1 := 0) (r2 := 0) (r3 := 0) rfl ?_
        refine wi_zreturn (nx := 30) (r1 := 0) (r2 := 0) (r3 := 0) rfl rfl (by omega) ?_
        refine wk_i ?_
        refine wi_if (cd := .eq) (nx := 27) (r1 := 34) (r2 := 0) (r3 := 0) rfl (by omega) (fun (q29 : 0 = 0) => ?_) (fun (q29 : ¬ (0 = 0)) => by exfalso; omega)
        refine wi_aload_n (i := 0) (x := 236) (nx := 35) (r1 := 0) (r2 := 0) (r3 := 0) rfl rfl ?_
        refine wi_ldc2_w (e := 3122) (nx := 38) (r1 := 3122) (r2 := 0) (r3 := 0) rfl (by decide) ?_
        refine wr_V (k0 := 236) (rest := []) (as := [.ref 236, vl 3122]) (nx := 41) (r1 := 221) (r2 := 1) (r3 := 11) rfl rfl rfl (of_decide_eq_true rfl) rfl rfl (by decide) rfl rfl (of_decide_eq_true rfl) (of_decide_eq_true rfl) ?_
        refine wi_aload_n (i := 0) (x := 236) (nx := 1) (r1 := 0) (r2 := 0) (r3 := 0) rfl rfl ?_
        refine wr_gi0 (k0 := 236) (x := h 236 8) (nx := 4) (r1 := 11) (r2 := 8) (r3 := 0) rfl rfl (by decide) rfl ⟨rfl, rfl⟩ rfl rfl ?_
        refine wi_if (cd := .ne) (nx := 7) (r1 := 28) (r2 := 0) (r3 := 0) rfl (by omega) (fun (q30 : (h 236 8) ≠ 0) => by exfalso; omega) (fun (q30 : ¬ ((h 236 8) ≠ 0)) => ?_)
        refine wi_aload_n (i := 0) (x := 236) (nx := 8) (r1 := 0) (r2 := 0) (r3 := 0) rfl rfl ?_
        refine wr_gi0 (k0 := 236) (x := h 236 6) (nx := 11) (r1 := 11) (r2 := 6) (r3 := 0) rfl rfl (by decide) rfl ⟨rfl, rfl⟩ rfl rfl ?_
        refine wi_iconst (n := 1) (nx := 12) (r1 := 0) (r2 := 0) (r3 := 0) rfl ?_
        refine wi_icmp (cd := .ne) (nx := 15) (r1 := 28) (r2 := 0) (r3 := 0) rfl (by omega) (by omega) (fun (q31 : (h 236 6) ≠ 1) => by exfalso; omega) (fun (q31 : ¬ ((h 236 6) ≠ 1)) => ?_)
        refine wi_aload_n (i := 0) (x := 236) (nx := 16) (r1 := 0) (r2 := 0) (r3 := 0) rfl rfl ?_
        refine wr_gi1 (k0 := 236) (x := h 236 12) (nx := 19) (r1 := 11) (r2 := 12) (r3 := 0) rfl rfl (by decide) rfl ⟨rfl, rfl⟩ rfl rfl ?_
        refine wi_lload_n (i := 1) (e := 3122) (nx := 20) (r1 := 0) (r2 := 0) (r3 := 0) rfl rfl ?_
        have wk32 : tk_kd tB tn tp = 1 → (tk_sw tB tn tp = 3122 ↔ tk_wd (tk_lw tB tn tp) = 4) := fun e => tk_wk 3 (by decide) (by omega) (by omega) e
        refine wi_lcmp (a := h 236 12) (e := 3122) (nx := 21) (r1 := 0) (r2 := 0) (r3 := 0) rfl (by omega) (by omega) (fun r33 (fr33 : (r33 = -1 ∧ (h 236 12) < 3122) ∨ (r33 = 0 ∧ (h 236 12) = 3122) ∨ (r33 = 1 ∧ 3122 < (h 236 12))) => ?_)
        refine wi_if (cd := .ne) (nx := 24) (r1 := 28) (r2 := 0) (r3 := 0) rfl (by omega) (fun (q34 : r33 ≠ 0) => ?_) (fun (q34 : ¬ (r33 ≠ 0)) => ?_)
        ·
          refine wi_iconst (n := 0) (nx := 29) (r1 := 0) (r2 := 0) (r3 := 0) rfl ?_
          refine wi_zreturn (nx := 30) (r1 := 0) (r2 := 0) (r3 := 0) rfl rfl (by omega) ?_
          refine wk_i ?_
          refine wi_if (cd := .eq) (nx := 44) (r1 := 51) (r2 := 0) (r3 := 0) rfl (by omega) (fun (q35 : 0 = 0) => ?_) (fun (q35 : ¬ (0 = 0)) => by exfalso; omega)
          refine wi_aload_n (i := 0) (x := 236) (nx := 52) (r1 := 0) (r2 := 0) (r3 := 0) rfl rfl ?_
          refine wi_ldc2_w (e := 781652471) (nx := 55) (r1 := 781652471) (r2 := 0) (r3 := 0) rfl (by decide) ?_
          refine wr_V (k0 := 236) (rest := []) (as := [.ref 236, vl 781652471]) (nx := 58) (r1 := 221) (r2 := 1) (r3 := 11) rfl rfl rfl (of_decide_eq_true rfl) rfl rfl (by decide) rfl rfl (of_decide_eq_true rfl) (of_decide_eq_true rfl) ?_
          refine wi_aload_n (i := 0) (x := 236) (nx := 1) (r1 := 0) (r2 := 0) (r3 := 0) rfl rfl ?_
          refine wr_gi0 (k0 := 236) (x := h 236 8) (nx := 4) (r1 := 11) (r2 := 8) (r3 := 0) rfl rfl (by decide) rfl ⟨rfl, rfl⟩ rfl rfl ?_
          refine wi_if (cd := .ne) (nx := 7) (r1 := 28) (r2 := 0) (r3 := 0) rfl (by omega) (fun (q36 : (h 236 8) ≠ 0) => by exfalso; omega) (fun (q36 : ¬ ((h 236 8) ≠ 0)) => ?_)
          refine wi_aload_n (i := 0) (x := 236) (nx := 8) (r1 := 0) (r2 := 0) (r3 := 0) rfl rfl ?_
          refine wr_gi0 (k0 := 236) (x := h 236 6) (nx := 11) (r1 := 11) (r2 := 6) (r3 := 0) rfl rfl (by decide) rfl ⟨rfl, rfl⟩ rfl rfl ?_
          refine wi_iconst (n := 1) (nx := 12) (r1 := 0) (r2 := 0) (r3 := 0) rfl ?_
          refine wi_icmp (cd := .ne) (nx := 15) (r1 := 28) (r2 := 0) (r3 := 0) rfl (by omega) (by omega) (fun (q37 : (h 236 6) ≠ 1) => by exfalso; omega) (fun (q37 : ¬ ((h 236 6) ≠ 1)) => ?_)
          refine wi_aload_n (i := 0) (x := 236) (nx := 16) (r1 := 0) (r2 := 0) (r3 := 0) rfl rfl ?_
          refine wr_gi1 (k0 := 236) (x := h 236 12) (nx := 19) (r1 := 11) (r2 := 12) (r3 := 0) rfl rfl (by decide) rfl ⟨rfl, rfl⟩ rfl rfl ?_
          refine wi_lload_n (i := 1) (e := 781652471) (nx := 20) (r1 := 0) (r2 := 0) (r3 := 0) rfl rfl ?_
          have wk38 : tk_kd tB tn tp = 1 → (tk_sw tB tn tp = 781652471 ↔ tk_wd (tk_lw tB tn tp) = 7) := fun e => tk_wk 6 (by decide) (by omega) (by omega) e
          refine wi_lcmp (a := h 236 12) (e := 781652471) (nx := 21) (r1 := 0) (r2 := 0) (r3 := 0) rfl (by omega) (by omega) (fun r39 (fr39 : (r39 = -1 ∧ (h 236 12) < 781652471) ∨ (r39 = 0 ∧ (h 236 12) = 781652471) ∨ (r39 = 1 ∧ 781652471 < (h 236 12))) => ?_)
          refine wi_if (cd := .ne) (nx := 24) (r1 := 28) (r2 := 0) (r3 := 0) rfl (by omega) (fun (q40 : r39 ≠ 0) => ?_) (fun (q40 : ¬ (r39 ≠ 0)) => ?_)
          ·
            refine wi_iconst (n := 0) (nx := 29) (r1 := 0) (r2 := 0) (r3 := 0) rfl ?_
            refine wi_zreturn (nx := 30) (r1 := 0) (r2 := 0) (r3 := 0) rfl rfl (by omega) ?_
            refine wk_i ?_
            refine wi_if (cd := .eq) (nx := 61) (r1 := 102) (r2 := 0) (r3 := 0) rfl (by omega) (fun (q41 : 0 = 0) => ?_) (fun (q41 : ¬ (0 = 0)) => by exfalso; omega)
            refine wi_aload_n (i := 0) (x := 236) (nx := 103) (r1 := 0) (r2 := 0) (r3 := 0) rfl rfl ?_
            refine wi_ldc2_w (e := 2150504) (nx := 106) (r1 := 2150504) (r2 := 0) (r3 := 0) rfl (by decide) ?_
            refine wr_V (k0 := 236) (rest := []) (as := [.ref 236, vl 2150504]) (nx := 109) (r1 := 221) (r2 := 1) (r3 := 11) rfl rfl rfl (of_decide_eq_true rfl) rfl rfl (by decide) rfl rfl (of_decide_eq_true rfl) (of_decide_eq_true rfl) ?_
            refine wi_aload_n (i := 0) (x := 236) (nx := 1) (r1 := 0) (r2 := 0) (r3 := 0) rfl rfl ?_
            refine wr_gi0 (k0 := 236) (x := h 236 8) (nx := 4) (r1 := 11) (r2 := 8) (r3 := 0) rfl rfl (by decide) rfl ⟨rfl, rfl⟩ rfl rfl ?_
            refine wi_if (cd := .ne) (nx := 7) (r1 := 28) (r2 := 0) (r3 := 0) rfl (by omega) (fun (q42 : (h 236 8) ≠ 0) => by exfalso; omega) (fun (q42 : ¬ ((h 236 8) ≠ 0)) => ?_)
            refine wi_aload_n (i := 0) (x := 236) (nx := 8) (r1 := 0) (r2 := 0) (r3 := 0) rfl rfl ?_
            refine wr_gi0 (k0 := 236) (x := h 236 6) (nx := 11) (r1 := 11) (r2 := 6) (r3 := 0) rfl rfl (by decide) rfl ⟨rfl, rfl⟩ rfl rfl ?_
            refine wi_iconst (n := 1) (nx := 12) (r1 := 0) (r2 := 0) (r3 := 0) rfl ?_
            refine wi_icmp (cd := .ne) (nx := 15) (r1 := 28) (r2 := 0) (r3 := 0) rfl (by omega) (by omega) (fun (q43 : (h 236 6) ≠ 1) => by exfalso; omega) (fun (q43 : ¬ ((h 236 6) ≠ 1)) => ?_)
            refine wi_aload_n (i := 0) (x := 236) (nx := 16) (r1 := 0) (r2 := 0) (r3 := 0) rfl rfl ?_
            refine wr_gi1 (k0 := 236) (x := h 236 12) (nx := 19) (r1 := 11) (r2 := 12) (r3 := 0) rfl rfl (by decide) rfl ⟨rfl, rfl⟩ rfl rfl ?_
            refine wi_lload_n (i := 1) (e := 2150504) (nx := 20) (r1 := 0) (r2 := 0) (r3 := 0) rfl rfl ?_
            have wk44 : tk_kd tB tn tp = 1 → (tk_sw tB tn tp = 2150504 ↔ tk_wd (tk_lw tB tn tp) = 8) := fun e => tk_wk 7 (by decide) (by omega) (by omega) e
            refine wi_lcmp (a := h 236 12) (e := 2150504) (nx := 21) (r1 := 0) (r2 := 0) (r3 := 0) rfl (by omega) (by omega) (fun r45 (fr45 : (r45 = -1 ∧ (h 236 12) < 2150504) ∨ (r45 = 0 ∧ (h 236 12) = 2150504) ∨ (r45 = 1 ∧ 2150504 < (h 236 12))) => ?_)
            refine wi_if (cd := .ne) (nx := 24) (r1 := 28) (r2 := 0) (r3 := 0) rfl (by omega) (fun (q46 : r45 ≠ 0) => ?_) (fun (q46 : ¬ (r45 ≠ 0)) => ?_)
            ·
              refine wi_iconst (n := 0) (nx := 29) (r1 := 0) (r2 := 0) (r3 := 0) rfl ?_
              refine wi_zreturn (nx := 30) (r1 := 0) (r2 := 0) (r3 := 0) rfl rfl (by omega) ?_
              refine wk_i ?_
              refine wi_if (cd := .eq) (nx := 112) (r1 := 157) (r2 := 0) (r3 := 0) rfl (by omega) (fun (q47 : 0 = 0) => ?_) (fun (q47 : ¬ (0 = 0)) => by exfalso; omega)
              refine wi_aload_n (i := 0) (x := 236) (nx := 158) (r1 := 0) (r2 := 0) (r3 := 0) rfl rfl ?_
              refine wi_ldc2_w (e := 609992267) (nx := 161) (r1 := 609992267) (r2 := 0) (r3 := 0) rfl (by decide) ?_
              refine wr_V (k0 := 236) (rest := []) (as := [.ref 236, vl 609992267]) (nx := 164) (r1 := 221) (r2 := 1) (r3 := 11) rfl rfl rfl (of_decide_eq_true rfl) rfl rfl (by decide) rfl rfl (of_decide_eq_true rfl) (of_decide_eq_true rfl) ?_
              refine wi_aload_n (i := 0) (x := 236) (nx := 1) (r1 := 0) (r2 := 0) (r3 := 0) rfl rfl ?_
              refine wr_gi0 (k0 := 236) (x := h 236 8) (nx := 4) (r1 := 11) (r2 := 8) (r3 := 0) rfl rfl (by decide) rfl ⟨rfl, rfl⟩ rfl rfl ?_
              refine wi_if (cd := .ne) (nx := 7) (r1 := 28) (r2 := 0) (r3 := 0) rfl (by omega) (fun (q48 : (h 236 8) ≠ 0) => by exfalso; omega) (fun (q48 : ¬ ((h 236 8) ≠ 0)) => ?_)
              refine wi_aload_n (i := 0) (x := 236) (nx := 8) (r1 := 0) (r2 := 0) (r3 := 0) rfl rfl ?_
              refine wr_gi0 (k0 := 236) (x := h 236 6) (nx := 11) (r1 := 11) (r2 := 6) (r3 := 0) rfl rfl (by decide) rfl ⟨rfl, rfl⟩ rfl rfl ?_
              refine wi_iconst (n := 1) (nx := 12) (r1 := 0) (r2 := 0) (r3 := 0) rfl ?_
              refine wi_icmp (cd := .ne) (nx := 15) (r1 := 28) (r2 := 0) (r3 := 0) rfl (by omega) (by omega) (fun (q49 : (h 236 6) ≠ 1) => by exfalso; omega) (fun (q49 : ¬ ((h 236 6) ≠ 1)) => ?_)
              refine wi_aload_n (i := 0) (x := 236) (nx := 16) (r1 := 0) (r2 := 0) (r3 := 0) rfl rfl ?_
              refine wr_gi1 (k0 := 236) (x := h 236 12) (nx := 19) (r1 := 11) (r2 := 12) (r3 := 0) rfl rfl (by decide) rfl ⟨rfl, rfl⟩ rfl rfl ?_
              refine wi_lload_n (i := 1) (e := 609992267) (nx := 20) (r1 := 0) (r2 := 0) (r3 := 0) rfl rfl ?_
              have wk50 : tk_kd tB tn tp = 1 → (tk_sw tB tn tp = 609992267 ↔ tk_wd (tk_lw tB tn tp) = 10) := fun e => tk_wk 9 (by decide) (by omega) (by omega) e
              refine wi_lcmp (a := h 236 12) (e := 609992267) (nx := 21) (r1 := 0) (r2 := 0) (r3 := 0) rfl (by omega) (by omega) (fun r51 (fr51 : (r51 = -1 ∧ (h 236 12) < 609992267) ∨ (r51 = 0 ∧ (h 236 12) = 609992267) ∨ (r51 = 1 ∧ 609992267 < (h 236 12))) => ?_)
              refine wi_if (cd := .ne) (nx := 24) (r1 := 28) (r2 := 0) (r3 := 0) rfl (by omega) (fun (q52 : r51 ≠ 0) => ?_) (fun (q52 : ¬ (r51 ≠ 0)) => ?_)
              ·
                refine wi_iconst (n := 0) (nx := 29) (r1 := 0) (r2 := 0) (r3 := 0) rfl ?_
                refine wi_zreturn (nx := 30) (r1 := 0) (r2 := 0) (r3 := 0) rfl rfl (by omega) ?_
                refine wk_i ?_
                refine wi_if (cd := .eq) (nx := 167) (r1 := 212) (r2 := 0) (r3 := 0) rfl (by omega) (fun (q53 : 0 = 0) => ?_) (fun (q53 : ¬ (0 = 0)) => by exfalso; omega)
                refine wi_aload_n (i := 0) (x := 236) (nx := 213) (r1 := 0) (r2 := 0) (r3 := 0) rfl rfl ?_
                refine wi_ldc2_w (e := 639022) (nx := 216) (r1 := 639022) (r2 := 0) (r3 := 0) rfl (by decide) ?_
                refine wr_V (k0 := 236) (rest := []) (as := [.ref 236, vl 639022]) (nx := 219) (r1 := 221) (r2 := 1) (r3 := 11) rfl rfl rfl (of_decide_eq_true rfl) rfl rfl (by decide) rfl rfl (of_decide_eq_true rfl) (of_decide_eq_true rfl) ?_
                refine wi_aload_n (i := 0) (x := 236) (nx := 1) (r1 := 0) (r2 := 0) (r3 := 0) rfl rfl ?_
                refine wr_gi0 (k0 := 236) (x := h 236 8) (nx := 4) (r1 := 11) (r2 := 8) (r3 := 0) rfl rfl (by decide) rfl ⟨rfl, rfl⟩ rfl rfl ?_
                refine wi_if (cd := .ne) (nx := 7) (r1 := 28) (r2 := 0) (r3 := 0) rfl (by omega) (fun (q54 : (h 236 8) ≠ 0) => by exfalso; omega) (fun (q54 : ¬ ((h 236 8) ≠ 0)) => ?_)
                refine wi_aload_n (i := 0) (x := 236) (nx := 8) (r1 := 0) (r2 := 0) (r3 := 0) rfl rfl ?_
                refine wr_gi0 (k0 := 236) (x := h 236 6) (nx := 11) (r1 := 11) (r2 := 6) (r3 := 0) rfl rfl (by decide) rfl ⟨rfl, rfl⟩ rfl rfl ?_
                refine wi_iconst (n := 1) (nx := 12) (r1 := 0) (r2 := 0) (r3 := 0) rfl ?_
                refine wi_icmp (cd := .ne) (nx := 15) (r1 := 28) (r2 := 0) (r3 := 0) rfl (by omega) (by omega) (fun (q55 : (h 236 6) ≠ 1) => by exfalso; omega) (fun (q55 : ¬ ((h 236 6) ≠ 1)) => ?_)
                refine wi_aload_n (i := 0) (x := 236) (nx := 16) (r1 := 0) (r2 := 0) (r3 := 0) rfl rfl ?_
                refine wr_gi1 (k0 := 236) (x := h 236 12) (nx := 19) (r1 := 11) (r2 := 12) (r3 := 0) rfl rfl (by decide) rfl ⟨rfl, rfl⟩ rfl rfl ?_
                refine wi_lload_n (i := 1) (e := 639022) (nx := 20) (r1 := 0) (r2 := 0) (r3 := 0) rfl rfl ?_
                have wk56 : tk_kd tB tn tp = 1 → (tk_sw tB tn tp = 639022 ↔ tk_wd (tk_lw tB tn tp) = 12) := fun e => tk_wk 11 (by decide) (by omega) (by omega) e
                refine wi_lcmp (a := h 236 12) (e := 639022) (nx := 21) (r1 := 0) (r2 := 0) (r3 := 0) rfl (by omega) (by omega) (fun r57 (fr57 : (r57 = -1 ∧ (h 236 12) < 639022) ∨ (r57 = 0 ∧ (h 236 12) = 639022) ∨ (r57 = 1 ∧ 639022 < (h 236 12))) => ?_)
                refine wi_if (cd := .ne) (nx := 24) (r1 := 28) (r2 := 0) (r3 := 0) rfl (by omega) (fun (q58 : r57 ≠ 0) => ?_) (fun (q58 : ¬ (r57 ≠ 0)) => ?_)
                ·
                  refine wi_iconst (n := 0) (nx := 29) (r1 := 0) (r2 := 0) (r3 := 0) rfl ?_
                  refine wi_zreturn (nx := 30) (r1 := 0) (r2 := 0) (r3 := 0) rfl rfl (by omega) ?_
                  refine wk_i ?_
                  refine wi_if (cd := .eq) (nx := 222) (r1 := 251) (r2 := 0) (r3 := 0) rfl (by omega) (fun (q59 : 0 = 0) => ?_) (fun (q59 : ¬ (0 = 0)) => by exfalso; omega)
                  refine wi_aload_n (i := 0) (x := 236) (nx := 252) (r1 := 0) (r2 := 0) (r3 := 0) rfl rfl ?_
                  refine wi_iconst (n := 1) (nx := 253) (r1 := 0) (r2 := 0) (r3 := 0) rfl ?_
                  refine wr_V (k0 := 236) (rest := []) (as := [.ref 236, vi 1]) (nx := 256) (r1 := 224) (r2 := 1) (r3 := 11) rfl rfl rfl (of_decide_eq_true rfl) rfl rfl (by decide) rfl rfl (of_decide_eq_true rfl) (of_decide_eq_true rfl) ?_
                  refine ct_224_236 hcr  g 1 (by omega)  (fun h60 g60 u60 (p60_0 : 1 ≤ (h60 236 8)) (p60_1 : (1 ≤ (h 236 8) ∧ (h60 236 8) = (h 236 8) ∧ (h60 236 9) = (h 236 9)) ∨ ((h 236 8) = 0 ∧ (h60 236 9) = (h 236 5) ∧ (((h 236 6) = 4 ∧ (h60 236 8) = 1) ∨ ((h 236 6) ≠ 4 ∧ (h60 236 8) = 1)))) => ?_)
                  have F61 := F0.then (by decide +kernel) u60
                  have b62 := gi_b (lo := 0) (hi := 5) g60 236 8 rfl
                  have b63 := gi_b (lo := -2147483648) (hi := 2147483647) g60 236 9 rfl
                  refine wk_n ?_
                  refine wi_return (nx := 257) (r1 := 0) (r2 := 0) (r3 := 0) rfl rfl ?_
                  have e64 : h60 236 4 = h 236 4 := (u60 236 4 rfl)
                  have e65 : h60 239 5 = h 239 5 := (u60 239 5 rfl)
                  have e66 : h60 239 7 = h 239 7 := (u60 239 7 rfl)
                  have e67 : h60 239 15 = h 239 15 := (u60 239 15 rfl)
                  have e68 : h60 239 16 = h 239 16 := (u60 239 16 rfl)
                  have e69 : h60 239 17 = h 239 17 := (u60 239 17 rfl)
                  have e70 : h60 239 18 = h 239 18 := (u60 239 18 rfl)
                  exact k h60 g60 F61 (show (h60 236 8) = 0 ∨ 1 ≤ (h60 236 8) by omega) (show (h 236 4) ≤ (h60 236 4) by omega) (show (h60 236 4) ≤ (h 236 3) by omega) (show 1 ≤ (h60 236 8) ∨ ((h60 239 5) ≤ 9 ∧ 1 ≤ (h60 239 5) ∧ (h60 239 7) ≤ 3 ∧ (h60 239 15) ≤ 6 ∧ (h60 239 16) ≤ 6 ∧ (h60 239 17) ≤ 6 ∧ (h60 239 18) ≤ 6) by omega) (show (h60 236 8) ≠ 0 ∨ (h60 236 9) = -1 by omega) (by unfold tk_stm; (repeat (first | rw [if_pos (by omega)] | rw [if_neg (by omega)])); first | exact tk_ORe (by omega) (by omega) (by omega) | ((repeat' split) <;> (first | exact tk_ORe (by omega) (by omega) (by omega) | (exfalso; omega))))
                ·
                  refine wi_iconst (n := 1) (nx := 25) (r1 := 0) (r2 := 0) (r3 := 0) rfl ?_
                  refine wi_goto (nx := 28) (r1 := 29) (r2 := 0) (r3 := 0) rfl ?_
                  refine wi_zreturn (nx := 30) (r1 := 0) (r2 := 0) (r3 := 0) rfl rfl (by omega) ?_
                  refine wk_i ?_
                  refine wi_if (cd := .eq) (nx := 222) (r1 := 251) (r2 := 0) (r3 := 0) rfl (by omega) (fun (q59 : 1 = 0) => by exfalso; omega) (fun (q59 : ¬ (1 = 0)) => ?_)
                  refine wi_aload_n (i := 0) (x := 236) (nx := 223) (r1 := 0) (r2 := 0) (r3 := 0) rfl rfl ?_
                  refine wi_aload_n (i := 0) (x := 236) (nx := 224) (r1 := 0) (r2 := 0) (r3 := 0) rfl rfl ?_
                  refine wi_aload_n (i := 0) (x := 236) (nx := 225) (r1 := 0) (r2 := 0) (r3 := 0) rfl rfl ?_
                  have b60 := gi_b (lo := 0) (hi := 1) g 236 26 rfl
                  refine wr_gi2 (k0 := 236) (x := h 236 26) (nx := 228) (r1 := 11) (r2 := 26) (r3 := 0) rfl rfl (by decide) rfl ⟨rfl, rfl⟩ rfl rfl ?_
                  refine wr_V (k0 := 236) (rest := [.ref 236]) (as := [.ref 236, vi (h 236 26)]) (nx := 231) (r1 := 234) (r2 := 1) (r3 := 11) rfl rfl rfl (of_decide_eq_true rfl) rfl rfl (by decide) rfl rfl (of_decide_eq_true rfl) (of_decide_eq_true rfl) ?_
                  refine ct_234_236 hcr  g (h 236 26) (by omega) (show (h 236 4) ≤ (h 236 3) by omega) (show 0 ≤ tp by omega) (show tp ≤ tn by omega) (show tp ≤ tk_nx tB tn tp ∧ tk_nx tB tn tp ≤ tn by omega) (show 1 ≤ (h 236 8) ∨ ((h 236 4) = tk_nx tB tn tp ∧ (h 236 5) = tk_st tB tn tp ∧ ((tk_kd tB tn tp = 0 ∧ (h 236 6) = 0) ∨ (tk_kd tB tn tp = 1 ∧ (h 236 6) = 1 ∧ (h 236 12) = tk_sw tB tn tp) ∨ (tk_kd tB tn tp = 2 ∧ (h 236 6) = 2 ∧ (h 236 7) = tk_nb tB tn tp) ∨ (tk_kd tB tn tp = 3 ∧ (h 236 6) = 3 ∧ (h 236 7) = 59) ∨ (tk_kd tB tn tp = 4 ∧ (h 236 6) = 3 ∧ (h 236 7) = 40) ∨ (tk_kd tB tn tp = 5 ∧ (h 236 6) = 3 ∧ (h 236 7) = 41) ∨ (tk_kd tB tn tp = 6 ∧ (h 236 6) = 4))) from (Or.inr (show ((h 236 4) = tk_nx tB tn tp ∧ (h 236 5) = tk_st tB tn tp ∧ ((tk_kd tB tn tp = 0 ∧ (h 236 6) = 0) ∨ (tk_kd tB tn tp = 1 ∧ (h 236 6) = 1 ∧ (h 236 12) = tk_sw tB tn tp) ∨ (tk_kd tB tn tp = 2 ∧ (h 236 6) = 2 ∧ (h 236 7) = tk_nb tB tn tp) ∨ (tk_kd tB tn tp = 3 ∧ (h 236 6) = 3 ∧ (h 236 7) = 59) ∨ (tk_kd tB tn tp = 4 ∧ (h 236 6) = 3 ∧ (h 236 7) = 40) ∨ (tk_kd tB tn tp = 5 ∧ (h 236 6) = 3 ∧ (h 236 7) = 41) ∨ (tk_kd tB tn tp = 6 ∧ (h 236 6) = 4))) by first | assumption | exact tk_mv (by assumption) (by omega) (by omega) (by omega) (by omega) (by omega)))) (show tk_kd tB tn tp = 1 by omega) xq0 (fun h61 z62 g61 u61 (fz62 : 1 ≤ z62 ∧ z62 ≤ 1) (p61_0 : (1 ≤ (h 236 8) ∧ (h61 236 8) = (h 236 8) ∧ (h61 236 9) = (h 236 9)) ∨ ((h 236 8) = 0 ∧ (h 236 26) = 0 ∧ (h61 236 8) = (h 236 8) ∧ (h61 236 9) = (h 236 9) ∧ ((h61 236 4) = tk_nx tB tn (tk_nx tB tn tp) ∧ (h61 236 5) = tk_st tB tn (tk_nx tB tn tp) ∧ ((tk_kd tB tn (tk_nx tB tn tp) = 0 ∧ (h61 236 6) = 0) ∨ (tk_kd tB tn (tk_nx tB tn tp) = 1 ∧ (h61 236 6) = 1 ∧ (h61 236 12) = tk_sw tB tn (tk_nx tB tn tp)) ∨ (tk_kd tB tn (tk_nx tB tn tp) = 2 ∧ (h61 236 6) = 2 ∧ (h61 236 7) = tk_nb tB tn (tk_nx tB tn tp)) ∨ (tk_kd tB tn (tk_nx tB tn tp) = 3 ∧ (h61 236 6) = 3 ∧ (h61 236 7) = 59) ∨ (tk_kd tB tn (tk_nx tB tn tp) = 4 ∧ (h61 236 6) = 3 ∧ (h61 236 7) = 40) ∨ (tk_kd tB tn (tk_nx tB tn tp) = 5 ∧ (h61 236 6) = 3 ∧ (h61 236 7) = 41) ∨ (tk_kd tB tn (tk_nx tB tn tp) = 6 ∧ (h61 236 6) = 4)))) ∨ ((h 236 8) = 0 ∧ (h 236 26) = 1 ∧ (h61 236 8) = 3 ∧ (h61 236 9) = tk_st tB tn tp)) (p61_1 : (h 236 4) ≤ (h61 236 4)) (p61_2 : (h61 236 4) ≤ (h 236 3)) (p61_3 : 1 ≤ (h61 236 8) ∨ (h 236 8) = 0) (p61_4 : z62 = 1) => ?_)
                  have F63 := F0.then (by decide +kernel) u61
                  have b64 := gi_b (lo := 0) (hi := 5) g61 236 8 rfl
                  have b65 := gi_b (lo := -2147483648) (hi := 2147483647) g61 236 9 rfl
                  have b66 := gi_b (lo := 0) (hi := 800) g61 236 4 rfl
                  have b67 := gi_b (lo := 0) (hi := 800) g61 236 5 rfl
                  have b68 := gi_b (lo := 0) (hi := 4) g61 236 6 rfl
                  have b69 := gi_b (lo := -9223372036854775808) (hi := 9223372036854775807) g61 236 12 rfl
                  have b70 := gi_b (lo := 0) (hi := 999) g61 236 7 rfl
                  refine wk_i ?_
                  rcases p61_0 with p61_0 | p61_0 | p61_0
                  ·
                    exfalso; omega
                  ·
                    have tk71 := p61_0.2.2.2.2
                    have tN72 := @tk_nx_b tB tn (tk_nx tB tn tp) (by omega) (by omega)
                    refine wr_pf2 (k0 := 236) (x := z62) (bl := 0) (bh := 1) (nx := 234) (r1 := 11) (r2 := 26) (r3 := 2) rfl (by decide) rfl ⟨rfl, rfl⟩ rfl (by omega) rfl g61 rfl (by omega) (fun h73 g73 w73 u73 => ?_)
                    have F74 := F63.then rfl u73
                    refine wi_aload_n (i := 0) (x := 236) (nx := 235) (r1 := 0) (r2 := 0) (r3 := 0) rfl rfl ?_
                    refine wr_gr (k0 := 236) (x := 239) (nx := 238) (r1 := 11) (r2 := 14) (r3 := 0) rfl rfl (by decide) rfl ⟨rfl, rfl⟩ rfl ?_
                    refine wi_bipush (n := 9) (nx := 240) (r1 := 0) (r2 := 0) (r3 := 0) rfl (by decide) ?_
                    refine wi_aload_n (i := 0) (x := 236) (nx := 241) (r1 := 0) (r2 := 0) (r3 := 0) rfl rfl ?_
                    refine wi_iconst (n := 0) (nx := 242) (r1 := 0) (r2 := 0) (r3 := 0) rfl ?_
                    refine wi_bipush (n := 11) (nx := 244) (r1 := 0) (r2 := 0) (r3 := 0) rfl (by decide) ?_
                    refine wr_V (k0 := 236) (rest := [vi 9, .ref 239]) (as := [.ref 236, vi 0, vi 11]) (nx := 247) (r1 := 231) (r2 := 2) (r3 := 11) rfl rfl rfl (of_decide_eq_true rfl) rfl rfl (by decide) rfl rfl (of_decide_eq_true rfl) (of_decide_eq_true rfl) ?_
                    have e76 : h73 236 4 = h61 236 4 := (u73 236 4 rfl)
                    have e77 : h73 236 3 = h 236 3 := ((u73 236 3 rfl).trans (u61 236 3 rfl))
                    have e78 : h73 236 8 = h61 236 8 := (u73 236 8 rfl)
                    have e79 : h73 236 5 = h61 236 5 := (u73 236 5 rfl)
                    have e80 : h73 236 6 = h61 236 6 := (u73 236 6 rfl)
                    have e81 : h73 236 12 = h61 236 12 := (u73 236 12 rfl)
                    have e82 : h73 236 7 = h61 236 7 := (u73 236 7 rfl)
                    have rb84 := RefB.fr u61 rfl xq0
                    have rb85 := RefB.fr u73 rfl rb84
                    refine ct_231_236 hcr  g73 0 11 (by omega) (by omega) (show (h73 236 4) ≤ (h73 236 3) by omega) (show 0 ≤ (tk_nx tB tn tp) by omega) (show (tk_nx tB tn tp) ≤ tn by omega) (show (tk_nx tB tn tp) ≤ tk_nx tB tn (tk_nx tB tn tp) ∧ tk_nx tB tn (tk_nx tB tn tp) ≤ tn by omega) (show 1 ≤ (h73 236 8) ∨ ((h73 236 4) = tk_nx tB tn (tk_nx tB tn tp) ∧ (h73 236 5) = tk_st tB tn (tk_nx tB tn tp) ∧ ((tk_kd tB tn (tk_nx tB tn tp) = 0 ∧ (h73 236 6) = 0) ∨ (tk_kd tB tn (tk_nx tB tn tp) = 1 ∧ (h73 236 6) = 1 ∧ (h73 236 12) = tk_sw tB tn (tk_nx tB tn tp)) ∨ (tk_kd tB tn (tk_nx tB tn tp) = 2 ∧ (h73 236 6) = 2 ∧ (h73 236 7) = tk_nb tB tn (tk_nx tB tn tp)) ∨ (tk_kd tB tn (tk_nx tB tn tp) = 3 ∧ (h73 236 6) = 3 ∧ (h73 236 7) = 59) ∨ (tk_kd tB tn (tk_nx tB tn tp) = 4 ∧ (h73 236 6) = 3 ∧ (h73 236 7) = 40) ∨ (tk_kd tB tn (tk_nx tB tn tp) = 5 ∧ (h73 236 6) = 3 ∧ (h73 236 7) = 41) ∨ (tk_kd tB tn (tk_nx tB tn tp) = 6 ∧ (h73 236 6) = 4))) from (Or.inr (show ((h73 236 4) = tk_nx tB tn (tk_nx tB tn tp) ∧ (h73 236 5) = tk_st tB tn (tk_nx tB tn tp) ∧ ((tk_kd tB tn (tk_nx tB tn tp) = 0 ∧ (h73 236 6) = 0) ∨ (tk_kd tB tn (tk_nx tB tn tp) = 1 ∧ (h73 236 6) = 1 ∧ (h73 236 12) = tk_sw tB tn (tk_nx tB tn tp)) ∨ (tk_kd tB tn (tk_nx tB tn tp) = 2 ∧ (h73 236 6) = 2 ∧ (h73 236 7) = tk_nb tB tn (tk_nx tB tn tp)) ∨ (tk_kd tB tn (tk_nx tB tn tp) = 3 ∧ (h73 236 6) = 3 ∧ (h73 236 7) = 59) ∨ (tk_kd tB tn (tk_nx tB tn tp) = 4 ∧ (h73 236 6) = 3 ∧ (h73 236 7) = 40) ∨ (tk_kd tB tn (tk_nx tB tn tp) = 5 ∧ (h73 236 6) = 3 ∧ (h73 236 7) = 41) ∨ (tk_kd tB tn (tk_nx tB tn tp) = 6 ∧ (h73 236 6) = 4))) by first | assumption | exact tk_mv (by assumption) (by omega) (by omega) (by omega) (by omega) (by omega)))) rb85 (fun h75 z83 g75 u75 (fz83 : 0 ≤ z83 ∧ z83 ≤ 999) (p75_0 : (1 ≤ (h73 236 8) ∧ (h75 236 8) = (h73 236 8) ∧ (h75 236 9) = (h73 236 9)) ∨ ((h73 236 8) = 0 ∧ tk_kd tB tn (tk_nx tB tn tp) = 2 ∧ 0 ≤ tk_nb tB tn (tk_nx tB tn tp) ∧ tk_nb tB tn (tk_nx tB tn tp) ≤ 11 ∧ z83 = tk_nb tB tn (tk_nx tB tn tp) ∧ (h75 236 8) = (h73 236 8) ∧ (h75 236 9) = (h73 236 9) ∧ ((h75 236 4) = tk_nx tB tn (tk_nx tB tn (tk_nx tB tn tp)) ∧ (h75 236 5) = tk_st tB tn (tk_nx tB tn (tk_nx tB tn tp)) ∧ ((tk_kd tB tn (tk_nx tB tn (tk_nx tB tn tp)) = 0 ∧ (h75 236 6) = 0) ∨ (tk_kd tB tn (tk_nx tB tn (tk_nx tB tn tp)) = 1 ∧ (h75 236 6) = 1 ∧ (h75 236 12) = tk_sw tB tn (tk_nx tB tn (tk_nx tB tn tp))) ∨ (tk_kd tB tn (tk_nx tB tn (tk_nx tB tn tp)) = 2 ∧ (h75 236 6) = 2 ∧ (h75 236 7) = tk_nb tB tn (tk_nx tB tn (tk_nx tB tn tp))) ∨ (tk_kd tB tn (tk_nx tB tn (tk_nx tB tn tp)) = 3 ∧ (h75 236 6) = 3 ∧ (h75 236 7) = 59) ∨ (tk_kd tB tn (tk_nx tB tn (tk_nx tB tn tp)) = 4 ∧ (h75 236 6) = 3 ∧ (h75 236 7) = 40) ∨ (tk_kd tB tn (tk_nx tB tn (tk_nx tB tn tp)) = 5 ∧ (h75 236 6) = 3 ∧ (h75 236 7) = 41) ∨ (tk_kd tB tn (tk_nx tB tn (tk_nx tB tn tp)) = 6 ∧ (h75 236 6) = 4)))) ∨ ((h73 236 8) = 0 ∧ tk_kd tB tn (tk_nx tB tn tp) ≠ 2 ∧ (h75 236 8) = 1 ∧ (h75 236 9) = tk_st tB tn (tk_nx tB tn tp)) ∨ ((h73 236 8) = 0 ∧ tk_kd tB tn (tk_nx tB tn tp) = 2 ∧ (tk_nb tB tn (tk_nx tB tn tp) < 0 ∨ 11 < tk_nb tB tn (tk_nx tB tn tp)) ∧ (h75 236 8) = 2 ∧ (h75 236 9) = tk_st tB tn (tk_nx tB tn tp))) (p75_1 : (h73 236 4) ≤ (h75 236 4)) (p75_2 : (h75 236 4) ≤ (h73 236 3)) (p75_3 : 1 ≤ (h75 236 8) ∨ (h73 236 8) = 0) (p75_4 : 1 ≤ (h75 236 8) ∨ (0 ≤ z83 ∧ z83 ≤ 11)) (p75_5 : 1 ≤ (h75 236 8) ∨ (h73 236 6) = 2) => ?_)
                    have F86 := F74.then (by decide +kernel) u75
                    have e87 : h73 236 9 = h61 236 9 := (u73 236 9 rfl)
                    have b88 := gi_b (lo := 0) (hi := 5) g75 236 8 rfl
                    have b89 := gi_b (lo := -2147483648) (hi := 2147483647) g75 236 9 rfl
                    have b90 := gi_b (lo := 0) (hi := 800) g75 236 4 rfl
                    have b91 := gi_b (lo := 0) (hi := 800) g75 236 5 rfl
                    have b92 := gi_b (lo := 0) (hi := 4) g75 236 6 rfl
                    have b93 := gi_b (lo := -9223372036854775808) (hi := 9223372036854775807) g75 236 12 rfl
                    have b94 := gi_b (lo := 0) (hi := 999) g75 236 7 rfl
                    refine wk_i ?_
                    rcases p75_0 with p75_0 | p75_0 | p75_0 | p75_0
                    ·
                      exfalso; omega
                    ·
                      have tk95 := p75_0.2.2.2.2.2.2.2
                      have tN96 := @tk_nx_b tB tn (tk_nx tB tn (tk_nx tB tn tp)) (by omega) (by omega)
                      refine wr_is (k0 := 239) (a := 9) (f := 9) (x := z83) (bl := 0) (bh := 999) (nx := 248) (r1 := 0) (r2 := 0) (r3 := 0) rfl (by decide) rfl (by omega) (by omega) (by decide) g75 rfl (by omega) (fun h97 g97 w97 u97 => ?_)
                      have F98 := F86.then rfl u97
                      refine wi_goto (nx := 251) (r1 := 256) (r2 := 0) (r3 := 0) rfl ?_
                      refine wi_return (nx := 257) (r1 := 0) (r2 := 0) (r3 := 0) rfl rfl ?_
                      have e99 : h97 236 8 = h75 236 8 := (u97 236 8 rfl)
                      have e100 : h97 236 4 = h75 236 4 := (u97 236 4 rfl)
                      have e101 : h97 239 5 = h 239 5 := ((u97 239 5 rfl).trans ((u75 239 5 rfl).trans ((u73 239 5 rfl).trans (u61 239 5 rfl))))
                      have e102 : h97 239 7 = h 239 7 := ((u97 239 7 rfl).trans ((u75 239 7 rfl).trans ((u73 239 7 rfl).trans (u61 239 7 rfl))))
                      have e103 : h97 239 15 = h 239 15 := ((u97 239 15 rfl).trans ((u75 239 15 rfl).trans ((u73 239 15 rfl).trans (u61 239 15 rfl))))
                      have e104 : h97 239 16 = h 239 16 := ((u97 239 16 rfl).trans ((u75 239 16 rfl).trans ((u73 239 16 rfl).trans (u61 239 16 rfl))))
                      have e105 : h97 239 17 = h 239 17 := ((u97 239 17 rfl).trans ((u75 239 17 rfl).trans ((u73 239 17 rfl).trans (u61 239 17 rfl))))
                      have e106 : h97 239 18 = h 239 18 := ((u97 239 18 rfl).trans ((u75 239 18 rfl).trans ((u73 239 18 rfl).trans (u61 239 18 rfl))))
                      have e107 : h97 236 9 = h75 236 9 := (u97 236 9 rfl)
                      have e108 : h97 239 0 = h 239 0 := ((u97 239 0 rfl).trans ((u75 239 0 rfl).trans ((u73 239 0 rfl).trans (u61 239 0 rfl))))
                      have e109 : h97 239 1 = h 239 1 := ((u97 239 1 rfl).trans ((u75 239 1 rfl).trans ((u73 239 1 rfl).trans (u61 239 1 rfl))))
                      have e110 : h97 239 2 = h 239 2 := ((u97 239 2 rfl).trans ((u75 239 2 rfl).trans ((u73 239 2 rfl).trans (u61 239 2 rfl))))
                      have b111 := gi_b (lo := 0) (hi := 999) g 239 3 rfl
                      have e112 : h97 239 3 = h 239 3 := ((u97 239 3 rfl).trans ((u75 239 3 rfl).trans ((u73 239 3 rfl).trans (u61 239 3 rfl))))
                      have b113 := gi_b (lo := 0) (hi := 999) g 239 4 rfl
                      have e114 : h97 239 4 = h 239 4 := ((u97 239 4 rfl).trans ((u75 239 4 rfl).trans ((u73 239 4 rfl).trans (u61 239 4 rfl))))
                      have b115 := gi_b (lo := 0) (hi := 999) g 239 6 rfl
                      have e116 : h97 239 6 = h 239 6 := ((u97 239 6 rfl).trans ((u75 239 6 rfl).trans ((u73 239 6 rfl).trans (u61 239 6 rfl))))
                      have b117 := gi_b (lo := 0) (hi := 999) g 239 8 rfl
                      have e118 : h97 239 8 = h 239 8 := ((u97 239 8 rfl).trans ((u75 239 8 rfl).trans ((u73 239 8 rfl).trans (u61 239 8 rfl))))
                      have e119 : h97 239 9 = z83 := w97
                      have b120 := gi_b (lo := 0) (hi := 1) g 236 23 rfl
                      have e121 : h97 236 23 = h 236 23 := ((u97 236 23 rfl).trans ((u75 236 23 rfl).trans ((u73 236 23 rfl).trans (u61 236 23 rfl))))
                      have b122 := gi_b (lo := 0) (hi := 1) g 236 24 rfl
                      have e123 : h97 236 24 = h 236 24 := ((u97 236 24 rfl).trans ((u75 236 24 rfl).trans ((u73 236 24 rfl).trans (u61 236 24 rfl))))
                      have b124 := gi_b (lo := 0) (hi := 1) g 236 25 rfl
                      have e125 : h97 236 25 = h 236 25 := ((u97 236 25 rfl).trans ((u75 236 25 rfl).trans ((u73 236 25 rfl).trans (u61 236 25 rfl))))
                      have e126 : h97 236 26 = z62 := ((u97 236 26 rfl).trans ((u75 236 26 rfl).trans w73))
                      have e127 : h97 236 5 = h75 236 5 := (u97 236 5 rfl)
                      have e128 : h97 236 6 = h75 236 6 := (u97 236 6 rfl)
                      have e129 : h97 236 7 = h75 236 7 := (u97 236 7 rfl)
                      have e130 : h97 236 12 = h75 236 12 := (u97 236 12 rfl)
                      exact k h97 g97 F98 (show (h97 236 8) = 0 ∨ 1 ≤ (h97 236 8) by omega) (show (h 236 4) ≤ (h97 236 4) by omega) (show (h97 236 4) ≤ (h 236 3) by omega) (show 1 ≤ (h97 236 8) ∨ ((h97 239 5) ≤ 9 ∧ 1 ≤ (h97 239 5) ∧ (h97 239 7) ≤ 3 ∧ (h97 239 15) ≤ 6 ∧ (h97 239 16) ≤ 6 ∧ (h97 239 17) ≤ 6 ∧ (h97 239 18) ≤ 6) by omega) (show (h97 236 8) ≠ 0 ∨ (h97 236 9) = -1 by omega) (by unfold tk_stm; (repeat (first | rw [if_pos (by omega)] | rw [if_neg (by omega)])); exact (by unfold tk_span tk_once tk_num; (try dsimp only); (repeat (first | rw [if_pos (by omega)] | rw [if_neg (by omega)])); (repeat ((first | unfold tk_once | unfold tk_num); (try dsimp only); (repeat (first | rw [if_pos (by omega)] | rw [if_neg (by omega)])))); exact tk_ORs (by omega) (by first | assumption | exact tk_mv (by assumption) (by omega) (by omega) (by omega) (by omega) (by omega)) (CVr.flag xq1 (fun j _ _ _ _ _ _ _ _ _ _ _ => by unfold tk_u; (repeat (first | rw [if_pos (by omega)] | rw [if_neg (by omega)]))) (fun i e => by rcases e with e | e; · exact ((u97 239 i (fn_i (by omega) fn_0)).trans ((u75 239 i (fo_nk rfl)).trans ((u73 239 i (fn_a (by omega) fn_0)).trans (u61 239 i (fo_nk rfl))))); · exact ((u97 239 i (fn_i (by omega) fn_0)).trans ((u75 239 i (fo_nk rfl)).trans ((u73 239 i (fn_a (by omega) fn_0)).trans (u61 239 i (fo_nk rfl)))))) ⟨(by (repeat unfold tk_u); (repeat (first | rw [if_pos (by omega)] | rw [if_neg (by omega)])); all_goals omega), (by (repeat unfold tk_u); (repeat (first | rw [if_pos (by omega)] | rw [if_neg (by omega)])); all_goals omega), (by (repeat unfold tk_u); (repeat (first | rw [if_pos (by omega)] | rw [if_neg (by omega)])); all_goals omega), (by (repeat unfold tk_u); (repeat (first | rw [if_pos (by omega)] | rw [if_neg (by omega)])); all_goals omega), (by (repeat unfold tk_u); (repeat (first | rw [if_pos (by omega)] | rw [if_neg (by omega)])); all_goals omega), (by (repeat unfold tk_u); (repeat (first | rw [if_pos (by omega)] | rw [if_neg (by omega)])); all_goals omega), (by (repeat unfold tk_u); (repeat (first | rw [if_pos (by omega)] | rw [if_neg (by omega)])); all_goals omega)⟩ ⟨(by (repeat unfold tk_u); (repeat (first | rw [if_pos (by omega)] | rw [if_neg (by omega)])); all_goals omega), (by (repeat unfold tk_u); (repeat (first | rw [if_pos (by omega)] | rw [if_neg (by omega)])); all_goals omega), (by (repeat unfold tk_u); (repeat (first | rw [if_pos (by omega)] | rw [if_neg (by omega)])); all_goals omega), (by (repeat unfold tk_u); (repeat (first | rw [if_pos (by omega)] | rw [if_neg (by omega)])); all_goals omega)⟩ (fun i => ((u97 244 i (fn_a (by omega) fn_0)).trans ((u75 244 i (fo_nk rfl)).trans ((u73 244 i (fn_a (by omega) fn_0)).trans (u61 244 i (fo_nk rfl)))))) (by omega) (by omega) (by omega))))
                    ·
                      refine wr_is (k0 := 239) (a := 9) (f := 9) (x := z83) (bl := 0) (bh := 999) (nx := 248) (r1 := 0) (r2 := 0) (r3 := 0) rfl (by decide) rfl (by omega) (by omega) (by decide) g75 rfl (by omega) (fun h95 g95 w95 u95 => ?_)
                      have F96 := F86.then rfl u95
                      refine wi_goto (nx := 251) (r1 := 256) (r2 := 0) (r3 := 0) rfl ?_
                      refine wi_return (nx := 257) (r1 := 0) (r2 := 0) (r3 := 0) rfl rfl ?_
                      have e97 : h95 236 8 = h75 236 8 := (u95 236 8 rfl)
                      have e98 : h95 236 4 = h75 236 4 := (u95 236 4 rfl)
                      have e99 : h95 239 5 = h 239 5 := ((u95 239 5 rfl).trans ((u75 239 5 rfl).trans ((u73 239 5 rfl).trans (u61 239 5 rfl))))
                      have e100 : h95 239 7 = h 239 7 := ((u95 239 7 rfl).trans ((u75 239 7 rfl).trans ((u73 239 7 rfl).trans (u61 239 7 rfl))))
                      have e101 : h95 239 15 = h 239 15 := ((u95 239 15 rfl).trans ((u75 239 15 rfl).trans ((u73 239 15 rfl).trans (u61 239 15 rfl))))
                      have e102 : h95 239 16 = h 239 16 := ((u95 239 16 rfl).trans ((u75 239 16 rfl).trans ((u73 239 16 rfl).trans (u61 239 16 rfl))))
                      have e103 : h95 239 17 = h 239 17 := ((u95 239 17 rfl).trans ((u75 239 17 rfl).trans ((u73 239 17 rfl).trans (u61 239 17 rfl))))
                      have e104 : h95 239 18 = h 239 18 := ((u95 239 18 rfl).trans ((u75 239 18 rfl).trans ((u73 239 18 rfl).trans (u61 239 18 rfl))))
                      have e105 : h95 236 9 = h75 236 9 := (u95 236 9 rfl)
                      exact k h95 g95 F96 (show (h95 236 8) = 0 ∨ 1 ≤ (h95 236 8) by omega) (show (h 236 4) ≤ (h95 236 4) by omega) (show (h95 236 4) ≤ (h 236 3) by omega) (show 1 ≤ (h95 236 8) ∨ ((h95 239 5) ≤ 9 ∧ 1 ≤ (h95 239 5) ∧ (h95 239 7) ≤ 3 ∧ (h95 239 15) ≤ 6 ∧ (h95 239 16) ≤ 6 ∧ (h95 239 17) ≤ 6 ∧ (h95 239 18) ≤ 6) by omega) (show (h95 236 8) ≠ 0 ∨ (h95 236 9) = -1 by omega) (by unfold tk_stm; (repeat (first | rw [if_pos (by omega)] | rw [if_neg (by omega)])); exact (by unfold tk_span tk_once tk_num; (try dsimp only); (repeat (first | rw [if_pos (by omega)] | rw [if_neg (by omega)])); (repeat ((first | unfold tk_once | unfold tk_num); (try dsimp only); (repeat (first | rw [if_pos (by omega)] | rw [if_neg (by omega)])))); first | exact tk_ORe (by omega) (by omega) (by omega) | ((repeat' split) <;> (first | exact tk_ORe (by omega) (by omega) (by omega) | (exfalso; omega)))))
                    ·
                      refine wr_is (k0 := 239) (a := 9) (f := 9) (x := z83) (bl := 0) (bh := 999) (nx := 248) (r1 := 0) (r2 := 0) (r3 := 0) rfl (by decide) rfl (by omega) (by omega) (by decide) g75 rfl (by omega) (fun h95 g95 w95 u95 => ?_)
                      have F96 := F86.then rfl u95
                      refine wi_goto (nx := 251) (r1 := 256) (r2 := 0) (r3 := 0) rfl ?_
                      refine wi_return (nx := 257) (r1 := 0) (r2 := 0) (r3 := 0) rfl rfl ?_
                      have e97 : h95 236 8 = h75 236 8 := (u95 236 8 rfl)
                      have e98 : h95 236 4 = h75 236 4 := (u95 236 4 rfl)
                      have e99 : h95 239 5 = h 239 5 := ((u95 239 5 rfl).trans ((u75 239 5 rfl).trans ((u73 239 5 rfl).trans (u61 239 5 rfl))))
                      have e100 : h95 239 7 = h 239 7 := ((u95 239 7 rfl).trans ((u75 239 7 rfl).trans ((u73 239 7 rfl).trans (u61 239 7 rfl))))
                      have e101 : h95 239 15 = h 239 15 := ((u95 239 15 rfl).trans ((u75 239 15 rfl).trans ((u73 239 15 rfl).trans (u61 239 15 rfl))))
                      have e102 : h95 239 16 = h 239 16 := ((u95 239 16 rfl).trans ((u75 239 16 rfl).trans ((u73 239 16 rfl).trans (u61 239 16 rfl))))
                      have e103 : h95 239 17 = h 239 17 := ((u95 239 17 rfl).trans ((u75 239 17 rfl).trans ((u73 239 17 rfl).trans (u61 239 17 rfl))))
                      have e104 : h95 239 18 = h 239 18 := ((u95 239 18 rfl).trans ((u75 239 18 rfl).trans ((u73 239 18 rfl).trans (u61 239 18 rfl))))
                      have e105 : h95 236 9 = h75 236 9 := (u95 236 9 rfl)
                      exact k h95 g95 F96 (show (h95 236 8) = 0 ∨ 1 ≤ (h95 236 8) by omega) (show (h 236 4) ≤ (h95 236 4) by omega) (show (h95 236 4) ≤ (h 236 3) by omega) (show 1 ≤ (h95 236 8) ∨ ((h95 239 5) ≤ 9 ∧ 1 ≤ (h95 239 5) ∧ (h95 239 7) ≤ 3 ∧ (h95 239 15) ≤ 6 ∧ (h95 239 16) ≤ 6 ∧ (h95 239 17) ≤ 6 ∧ (h95 239 18) ≤ 6) by omega) (show (h95 236 8) ≠ 0 ∨ (h95 236 9) = -1 by omega) (by unfold tk_stm; (repeat (first | rw [if_pos (by omega)] | rw [if_neg (by omega)])); exact (by unfold tk_span tk_once tk_num; (try dsimp only); (repeat (first | rw [if_pos (by omega)] | rw [if_neg (by omega)])); (repeat ((first | unfold tk_once | unfold tk_num); (try dsimp only); (repeat (first | rw [if_pos (by omega)] | rw [if_neg (by omega)])))); first | exact tk_ORe (by omega) (by omega) (by omega) | ((repeat' split) <;> (first | exact tk_ORe (by omega) (by omega) (by omega) | (exfalso; omega)))))
                  ·
                    refine wr_pf2 (k0 := 236) (x := z62) (bl := 0) (bh := 1) (nx := 234) (r1 := 11) (r2 := 26) (r3 := 2) rfl (by decide) rfl ⟨rfl, rfl⟩ rfl (by omega) rfl g61 rfl (by omega) (fun h71 g71 w71 u71 => ?_)
                    have F72 := F63.then rfl u71
                    refine wi_aload_n (i := 0) (x := 236) (nx := 235) (r1 := 0) (r2 := 0) (r3 := 0) rfl rfl ?_
                    refine wr_gr (k0 := 236) (x := 239) (nx := 238) (r1 := 11) (r2 := 14) (r3 := 0) rfl rfl (by decide) rfl ⟨rfl, rfl⟩ rfl ?_
                    refine wi_bipush (n := 9) (nx := 240) (r1 := 0) (r2 := 0) (r3 := 0) rfl (by decide) ?_
                    refine wi_aload_n (i := 0) (x := 236) (nx := 241) (r1 := 0) (r2 := 0) (r3 := 0) rfl rfl ?_
                    refine wi_iconst (n := 0) (nx := 242) (r1 := 0) (r2 := 0) (r3 := 0) rfl ?_
                    refine wi_bipush (n := 11) (nx := 244) (r1 := 0) (r2 := 0) (r3 := 0) rfl (by decide) ?_
                    refine wr_V (k0 := 236) (rest := [vi 9, .ref 239]) (as := [.ref 236, vi 0, vi 11]) (nx := 247) (r1 := 231) (r2 := 2) (r3 := 11) rfl rfl rfl (of_decide_eq_true rfl) rfl rfl (by decide) rfl rfl (of_decide_eq_true rfl) (of_decide_eq_true rfl) ?_
                    have e74 : h71 236 4 = h61 236 4 := (u71 236 4 rfl)
                    have e75 : h71 236 3 = h 236 3 := ((u71 236 3 rfl).trans (u61 236 3 rfl))
                    have e76 : h71 236 8 = h61 236 8 := (u71 236 8 rfl)
                    have e77 : h71 236 5 = h61 236 5 := (u71 236 5 rfl)
                    have e78 : h71 236 6 = h61 236 6 := (u71 236 6 rfl)
                    have e79 : h71 236 12 = h61 236 12 := (u71 236 12 rfl)
                    have e80 : h71 236 7 = h61 236 7 := (u71 236 7 rfl)
                    have rb82 := RefB.fr u61 rfl xq0
                    have rb83 := RefB.fr u71 rfl rb82
                    refine ct_231_236 hcr  g71 0 11 (by omega) (by omega) (show (h71 236 4) ≤ (h71 236 3) by omega) (show 0 ≤ tp by omega) (show tp ≤ tn by omega) (show tp ≤ tk_nx tB tn tp ∧ tk_nx tB tn tp ≤ tn by omega) (show 1 ≤ (h71 236 8) ∨ ((h71 236 4) = tk_nx tB tn tp ∧ (h71 236 5) = tk_st tB tn tp ∧ ((tk_kd tB tn tp = 0 ∧ (h71 236 6) = 0) ∨ (tk_kd tB tn tp = 1 ∧ (h71 236 6) = 1 ∧ (h71 236 12) = tk_sw tB tn tp) ∨ (tk_kd tB tn tp = 2 ∧ (h71 236 6) = 2 ∧ (h71 236 7) = tk_nb tB tn tp) ∨ (tk_kd tB tn tp = 3 ∧ (h71 236 6) = 3 ∧ (h71 236 7) = 59) ∨ (tk_kd tB tn tp = 4 ∧ (h71 236 6) = 3 ∧ (h71 236 7) = 40) ∨ (tk_kd tB tn tp = 5 ∧ (h71 236 6) = 3 ∧ (h71 236 7) = 41) ∨ (tk_kd tB tn tp = 6 ∧ (h71 236 6) = 4))) from (Or.inl (by omega))) rb83 (fun h73 z81 g73 u73 (fz81 : 0 ≤ z81 ∧ z81 ≤ 999) (p73_0 : (1 ≤ (h71 236 8) ∧ (h73 236 8) = (h71 236 8) ∧ (h73 236 9) = (h71 236 9)) ∨ ((h71 236 8) = 0 ∧ tk_kd tB tn tp = 2 ∧ 0 ≤ tk_nb tB tn tp ∧ tk_nb tB tn tp ≤ 11 ∧ z81 = tk_nb tB tn tp ∧ (h73 236 8) = (h71 236 8) ∧ (h73 236 9) = (h71 236 9) ∧ ((h73 236 4) = tk_nx tB tn (tk_nx tB tn tp) ∧ (h73 236 5) = tk_st tB tn (tk_nx tB tn tp) ∧ ((tk_kd tB tn (tk_nx tB tn tp) = 0 ∧ (h73 236 6) = 0) ∨ (tk_kd tB tn (tk_nx tB tn tp) = 1 ∧ (h73 236 6) = 1 ∧ (h73 236 12) = tk_sw tB tn (tk_nx tB tn tp)) ∨ (tk_kd tB tn (tk_nx tB tn tp) = 2 ∧ (h73 236 6) = 2 ∧ (h73 236 7) = tk_nb tB tn (tk_nx tB tn tp)) ∨ (tk_kd tB tn (tk_nx tB tn tp) = 3 ∧ (h73 236 6) = 3 ∧ (h73 236 7) = 59) ∨ (tk_kd tB tn (tk_nx tB tn tp) = 4 ∧ (h73 236 6) = 3 ∧ (h73 236 7) = 40) ∨ (tk_kd tB tn (tk_nx tB tn tp) = 5 ∧ (h73 236 6) = 3 ∧ (h73 236 7) = 41) ∨ (tk_kd tB tn (tk_nx tB tn tp) = 6 ∧ (h73 236 6) = 4)))) ∨ ((h71 236 8) = 0 ∧ tk_kd tB tn tp ≠ 2 ∧ (h73 236 8) = 1 ∧ (h73 236 9) = tk_st tB tn tp) ∨ ((h71 236 8) = 0 ∧ tk_kd tB tn tp = 2 ∧ (tk_nb tB tn tp < 0 ∨ 11 < tk_nb tB tn tp) ∧ (h73 236 8) = 2 ∧ (h73 236 9) = tk_st tB tn tp)) (p73_1 : (h71 236 4) ≤ (h73 236 4)) (p73_2 : (h73 236 4) ≤ (h71 236 3)) (p73_3 : 1 ≤ (h73 236 8) ∨ (h71 236 8) = 0) (p73_4 : 1 ≤ (h73 236 8) ∨ (0 ≤ z81 ∧ z81 ≤ 11)) (p73_5 : 1 ≤ (h73 236 8) ∨ (h71 236 6) = 2) => ?_)
                    have F84 := F72.then (by decide +kernel) u73
                    have e85 : h71 236 9 = h61 236 9 := (u71 236 9 rfl)
                    have b86 := gi_b (lo := 0) (hi := 5) g73 236 8 rfl
                    have b87 := gi_b (lo := -2147483648) (hi := 2147483647) g73 236 9 rfl
                    have b88 := gi_b (lo := 0) (hi := 800) g73 236 4 rfl
                    have b89 := gi_b (lo := 0) (hi := 800) g73 236 5 rfl
                    have b90 := gi_b (lo := 0) (hi := 4) g73 236 6 rfl
                    have b91 := gi_b (lo := -9223372036854775808) (hi := 9223372036854775807) g73 236 12 rfl
                    have b92 := gi_b (lo := 0) (hi := 999) g73 236 7 rfl
                    refine wk_i ?_
                    rcases p73_0 with p73_0 | p73_0 | p73_0 | p73_0
                    ·
                      refine wr_is (k0 := 239) (a := 9) (f := 9) (x := z81) (bl := 0) (bh := 999) (nx := 248) (r1 := 0) (r2 := 0) (r3 := 0) rfl (by decide) rfl (by omega) (by omega) (by decide) g73 rfl (by omega) (fun h93 g93 w93 u93 => ?_)
                      have F94 := F84.then rfl u93
                      refine wi_goto (nx := 251) (r1 := 256) (r2 := 0) (r3 := 0) rfl ?_
                      refine wi_return (nx := 257) (r1 := 0) (r2 := 0) (r3 := 0) rfl rfl ?_
                      have e95 : h93 236 8 = h73 236 8 := (u93 236 8 rfl)
                      have e96 : h93 236 4 = h73 236 4 := (u93 236 4 rfl)
                      have e97 : h93 239 5 = h 239 5 := ((u93 239 5 rfl).trans ((u73 239 5 rfl).trans ((u71 239 5 rfl).trans (u61 239 5 rfl))))
                      have e98 : h93 239 7 = h 239 7 := ((u93 239 7 rfl).trans ((u73 239 7 rfl).trans ((u71 239 7 rfl).trans (u61 239 7 rfl))))
                      have e99 : h93 239 15 = h 239 15 := ((u93 239 15 rfl).trans ((u73 239 15 rfl).trans ((u71 239 15 rfl).trans (u61 239 15 rfl))))
                      have e100 : h93 239 16 = h 239 16 := ((u93 239 16 rfl).trans ((u73 239 16 rfl).trans ((u71 239 16 rfl).trans (u61 239 16 rfl))))
                      have e101 : h93 239 17 = h 239 17 := ((u93 239 17 rfl).trans ((u73 239 17 rfl).trans ((u71 239 17 rfl).trans (u61 239 17 rfl))))
                      have e102 : h93 239 18 = h 239 18 := ((u93 239 18 rfl).trans ((u73 239 18 rfl).trans ((u71 239 18 rfl).trans (u61 239 18 rfl))))
                      have e103 : h93 236 9 = h73 236 9 := (u93 236 9 rfl)
                      exact k h93 g93 F94 (show (h93 236 8) = 0 ∨ 1 ≤ (h93 236 8) by omega) (show (h 236 4) ≤ (h93 236 4) by omega) (show (h93 236 4) ≤ (h 236 3) by omega) (show 1 ≤ (h93 236 8) ∨ ((h93 239 5) ≤ 9 ∧ 1 ≤ (h93 239 5) ∧ (h93 239 7) ≤ 3 ∧ (h93 239 15) ≤ 6 ∧ (h93 239 16) ≤ 6 ∧ (h93 239 17) ≤ 6 ∧ (h93 239 18) ≤ 6) by omega) (show (h93 236 8) ≠ 0 ∨ (h93 236 9) = -1 by omega) (by unfold tk_stm; (repeat (first | rw [if_pos (by omega)] | rw [if_neg (by omega)])); exact (by unfold tk_span tk_once tk_num; (try dsimp only); (repeat (first | rw [if_pos (by omega)] | rw [if_neg (by omega)])); (repeat ((first | unfold tk_once | unfold tk_num); (try dsimp only); (repeat (first | rw [if_pos (by omega)] | rw [if_neg (by omega)])))); first | exact tk_ORe (by omega) (by omega) (by omega) | ((repeat' split) <;> (first | exact tk_ORe (by omega) (by omega) (by omega) | (exfalso; omega)))))
                    ·
                      have tk93 := p73_0.2.2.2.2.2.2.2
                      have tN94 := @tk_nx_b tB tn (tk_nx tB tn tp) (by omega) (by omega)
                      exfalso; omega
                    ·
                      exfalso; omega
                    ·
                      exfalso; omega
              ·
                refine wi_iconst (n := 1) (nx := 25) (r1 := 0) (r2 := 0) (r3 := 0) rfl ?_
                refine wi_goto (nx := 28) (r1 := 29) (r2 := 0) (r3 := 0) rfl ?_
                refine wi_zreturn (nx := 30) (r1 := 0) (r2 := 0) (r3 := 0) rfl rfl (by omega) ?_
                refine wk_i ?_
                refine wi_if (cd := .eq) (nx := 167) (r1 := 212) (r2 := 0) (r3 := 0) rfl (by omega) (fun (q53 : 1 = 0) => by exfalso; omega) (fun (q53 : ¬ (1 = 0)) => ?_)
                refine wi_aload_n (i := 0) (x := 236) (nx := 168) (r1 := 0) (r2 := 0) (r3 := 0) rfl rfl ?_
                refine wi_aload_n (i := 0) (x := 236) (nx := 169) (r1 := 0) (r2 := 0) (r3 := 0) rfl rfl ?_
                refine wi_aload_n (i := 0) (x := 236) (nx := 170) (r1 := 0) (r2 := 0) (r3 := 0) rfl rfl ?_
                have b54 := gi_b (lo := 0) (hi := 1) g 236 25 rfl
                refine wr_gi2 (k0 := 236) (x := h 236 25) (nx := 173) (r1 := 11) (r2 := 25) (r3 := 0) rfl rfl (by decide) rfl ⟨rfl, rfl⟩ rfl rfl ?_
                refine wr_V (k0 := 236) (rest := [.ref 236]) (as := [.ref 236, vi (h 236 25)]) (nx := 176) (r1 := 234) (r2 := 1) (r3 := 11) rfl rfl rfl (of_decide_eq_true rfl) rfl rfl (by decide) rfl rfl (of_decide_eq_true rfl) (of_decide_eq_true rfl) ?_
                refine ct_234_236 hcr  g (h 236 25) (by omega) (show (h 236 4) ≤ (h 236 3) by omega) (show 0 ≤ tp by omega) (show tp ≤ tn by omega) (show tp ≤ tk_nx tB tn tp ∧ tk_nx tB tn tp ≤ tn by omega) (show 1 ≤ (h 236 8) ∨ ((h 236 4) = tk_nx tB tn tp ∧ (h 236 5) = tk_st tB tn tp ∧ ((tk_kd tB tn tp = 0 ∧ (h 236 6) = 0) ∨ (tk_kd tB tn tp = 1 ∧ (h 236 6) = 1 ∧ (h 236 12) = tk_sw tB tn tp) ∨ (tk_kd tB tn tp = 2 ∧ (h 236 6) = 2 ∧ (h 236 7) = tk_nb tB tn tp) ∨ (tk_kd tB tn tp = 3 ∧ (h 236 6) = 3 ∧ (h 236 7) = 59) ∨ (tk_kd tB tn tp = 4 ∧ (h 236 6) = 3 ∧ (h 236 7) = 40) ∨ (tk_kd tB tn tp = 5 ∧ (h 236 6) = 3 ∧ (h 236 7) = 41) ∨ (tk_kd tB tn tp = 6 ∧ (h 236 6) = 4))) from (Or.inr (show ((h 236 4) = tk_nx tB tn tp ∧ (h 236 5) = tk_st tB tn tp ∧ ((tk_kd tB tn tp = 0 ∧ (h 236 6) = 0) ∨ (tk_kd tB tn tp = 1 ∧ (h 236 6) = 1 ∧ (h 236 12) = tk_sw tB tn tp) ∨ (tk_kd tB tn tp = 2 ∧ (h 236 6) = 2 ∧ (h 236 7) = tk_nb tB tn tp) ∨ (tk_kd tB tn tp = 3 ∧ (h 236 6) = 3 ∧ (h 236 7) = 59) ∨ (tk_kd tB tn tp = 4 ∧ (h 236 6) = 3 ∧ (h 236 7) = 40) ∨ (tk_kd tB tn tp = 5 ∧ (h 236 6) = 3 ∧ (h 236 7) = 41) ∨ (tk_kd tB tn tp = 6 ∧ (h 236 6) = 4))) by first | assumption | exact tk_mv (by assumption) (by omega) (by omega) (by omega) (by omega) (by omega)))) (show tk_kd tB tn tp = 1 by omega) xq0 (fun h55 z56 g55 u55 (fz56 : 1 ≤ z56 ∧ z56 ≤ 1) (p55_0 : (1 ≤ (h 236 8) ∧ (h55 236 8) = (h 236 8) ∧ (h55 236 9) = (h 236 9)) ∨ ((h 236 8) = 0 ∧ (h 236 25) = 0 ∧ (h55 236 8) = (h 236 8) ∧ (h55 236 9) = (h 236 9) ∧ ((h55 236 4) = tk_nx tB tn (tk_nx tB tn tp) ∧ (h55 236 5) = tk_st tB tn (tk_nx tB tn tp) ∧ ((tk_kd tB tn (tk_nx tB tn tp) = 0 ∧ (h55 236 6) = 0) ∨ (tk_kd tB tn (tk_nx tB tn tp) = 1 ∧ (h55 236 6) = 1 ∧ (h55 236 12) = tk_sw tB tn (tk_nx tB tn tp)) ∨ (tk_kd tB tn (tk_nx tB tn tp) = 2 ∧ (h55 236 6) = 2 ∧ (h55 236 7) = tk_nb tB tn (tk_nx tB tn tp)) ∨ (tk_kd tB tn (tk_nx tB tn tp) = 3 ∧ (h55 236 6) = 3 ∧ (h55 236 7) = 59) ∨ (tk_kd tB tn (tk_nx tB tn tp) = 4 ∧ (h55 236 6) = 3 ∧ (h55 236 7) = 40) ∨ (tk_kd tB tn (tk_nx tB tn tp) = 5 ∧ (h55 236 6) = 3 ∧ (h55 236 7) = 41) ∨ (tk_kd tB tn (tk_nx tB tn tp) = 6 ∧ (h55 236 6) = 4)))) ∨ ((h 236 8) = 0 ∧ (h 236 25) = 1 ∧ (h55 236 8) = 3 ∧ (h55 236 9) = tk_st tB tn tp)) (p55_1 : (h 236 4) ≤ (h55 236 4)) (p55_2 : (h55 236 4) ≤ (h 236 3)) (p55_3 : 1 ≤ (h55 236 8) ∨ (h 236 8) = 0) (p55_4 : z56 = 1) => ?_)
                have F57 := F0.then (by decide +kernel) u55
                have b58 := gi_b (lo := 0) (hi := 5) g55 236 8 rfl
                have b59 := gi_b (lo := -2147483648) (hi := 2147483647) g55 236 9 rfl
                have b60 := gi_b (lo := 0) (hi := 800) g55 236 4 rfl
                have b61 := gi_b (lo := 0) (hi := 800) g55 236 5 rfl
                have b62 := gi_b (lo := 0) (hi := 4) g55 236 6 rfl
                have b63 := gi_b (lo := -9223372036854775808) (hi := 9223372036854775807) g55 236 12 rfl
                have b64 := gi_b (lo := 0) (hi := 999) g55 236 7 rfl
                refine wk_i ?_
                rcases p55_0 with p55_0 | p55_0 | p55_0
                ·
                  exfalso; omega
                ·
                  have tk65 := p55_0.2.2.2.2
                  have tN66 := @tk_nx_b tB tn (tk_nx tB tn tp) (by omega) (by omega)
                  refine wr_pf2 (k0 := 236) (x := z56) (bl := 0) (bh := 1) (nx := 179) (r1 := 11) (r2 := 25) (r3 := 2) rfl (by decide) rfl ⟨rfl, rfl⟩ rfl (by omega) rfl g55 rfl (by omega) (fun h67 g67 w67 u67 => ?_)
                  have F68 := F57.then rfl u67
                  refine wi_aload_n (i := 0) (x := 236) (nx := 180) (r1 := 0) (r2 := 0) (r3 := 0) rfl rfl ?_
                  refine wr_gr (k0 := 236) (x := 239) (nx := 183) (r1 := 11) (r2 := 14) (r3 := 0) rfl rfl (by decide) rfl ⟨rfl, rfl⟩ rfl ?_
                  refine wi_bipush (n := 7) (nx := 185) (r1 := 0) (r2 := 0) (r3 := 0) rfl (by decide) ?_
                  refine wi_aload_n (i := 0) (x := 236) (nx := 186) (r1 := 0) (r2 := 0) (r3 := 0) rfl rfl ?_
                  refine wi_iconst (n := 0) (nx := 187) (r1 := 0) (r2 := 0) (r3 := 0) rfl ?_
                  refine wi_iconst (n := 3) (nx := 188) (r1 := 0) (r2 := 0) (r3 := 0) rfl ?_
                  refine wr_V (k0 := 236) (rest := [vi 7, .ref 239]) (as := [.ref 236, vi 0, vi 3]) (nx := 191) (r1 := 231) (r2 := 2) (r3 := 11) rfl rfl rfl (of_decide_eq_true rfl) rfl rfl (by decide) rfl rfl (of_decide_eq_true rfl) (of_decide_eq_true rfl) ?_
                  have e70 : h67 236 4 = h55 236 4 := (u67 236 4 rfl)
                  have e71 : h67 236 3 = h 236 3 := ((u67 236 3 rfl).trans (u55 236 3 rfl))
                  have e72 : h67 236 8 = h55 236 8 := (u67 236 8 rfl)
                  have e73 : h67 236 5 = h55 236 5 := (u67 236 5 rfl)
                  have e74 : h67 236 6 = h55 236 6 := (u67 236 6 rfl)
                  have e75 : h67 236 12 = h55 236 12 := (u67 236 12 rfl)
                  have e76 : h67 236 7 = h55 236 7 := (u67 236 7 rfl)
                  have rb78 := RefB.fr u55 rfl xq0
                  have rb79 := RefB.fr u67 rfl rb78
                  refine ct_231_236 hcr  g67 0 3 (by omega) (by omega) (show (h67 236 4) ≤ (h67 236 3) by omega) (show 0 ≤ (tk_nx tB tn tp) by omega) (show (tk_nx tB tn tp) ≤ tn by omega) (show (tk_nx tB tn tp) ≤ tk_nx tB tn (tk_nx tB tn tp) ∧ tk_nx tB tn (tk_nx tB tn tp) ≤ tn by omega) (show 1 ≤ (h67 236 8) ∨ ((h67 236 4) = tk_nx tB tn (tk_nx tB tn tp) ∧ (h67 236 5) = tk_st tB tn (tk_nx tB tn tp) ∧ ((tk_kd tB tn (tk_nx tB tn tp) = 0 ∧ (h67 236 6) = 0) ∨ (tk_kd tB tn (tk_nx tB tn tp) = 1 ∧ (h67 236 6) = 1 ∧ (h67 236 12) = tk_sw tB tn (tk_nx tB tn tp)) ∨ (tk_kd tB tn (tk_nx tB tn tp) = 2 ∧ (h67 236 6) = 2 ∧ (h67 236 7) = tk_nb tB tn (tk_nx tB tn tp)) ∨ (tk_kd tB tn (tk_nx tB tn tp) = 3 ∧ (h67 236 6) = 3 ∧ (h67 236 7) = 59) ∨ (tk_kd tB tn (tk_nx tB tn tp) = 4 ∧ (h67 236 6) = 3 ∧ (h67 236 7) = 40) ∨ (tk_kd tB tn (tk_nx tB tn tp) = 5 ∧ (h67 236 6) = 3 ∧ (h67 236 7) = 41) ∨ (tk_kd tB tn (tk_nx tB tn tp) = 6 ∧ (h67 236 6) = 4))) from (Or.inr (show ((h67 236 4) = tk_nx tB tn (tk_nx tB tn tp) ∧ (h67 236 5) = tk_st tB tn (tk_nx tB tn tp) ∧ ((tk_kd tB tn (tk_nx tB tn tp) = 0 ∧ (h67 236 6) = 0) ∨ (tk_kd tB tn (tk_nx tB tn tp) = 1 ∧ (h67 236 6) = 1 ∧ (h67 236 12) = tk_sw tB tn (tk_nx tB tn tp)) ∨ (tk_kd tB tn (tk_nx tB tn tp) = 2 ∧ (h67 236 6) = 2 ∧ (h67 236 7) = tk_nb tB tn (tk_nx tB tn tp)) ∨ (tk_kd tB tn (tk_nx tB tn tp) = 3 ∧ (h67 236 6) = 3 ∧ (h67 236 7) = 59) ∨ (tk_kd tB tn (tk_nx tB tn tp) = 4 ∧ (h67 236 6) = 3 ∧ (h67 236 7) = 40) ∨ (tk_kd tB tn (tk_nx tB tn tp) = 5 ∧ (h67 236 6) = 3 ∧ (h67 236 7) = 41) ∨ (tk_kd tB tn (tk_nx tB tn tp) = 6 ∧ (h67 236 6) = 4))) by first | assumption | exact tk_mv (by assumption) (by omega) (by omega) (by omega) (by omega) (by omega)))) rb79 (fun h69 z77 g69 u69 (fz77 : 0 ≤ z77 ∧ z77 ≤ 999) (p69_0 : (1 ≤ (h67 236 8) ∧ (h69 236 8) = (h67 236 8) ∧ (h69 236 9) = (h67 236 9)) ∨ ((h67 236 8) = 0 ∧ tk_kd tB tn (tk_nx tB tn tp) = 2 ∧ 0 ≤ tk_nb tB tn (tk_nx tB tn tp) ∧ tk_nb tB tn (tk_nx tB tn tp) ≤ 3 ∧ z77 = tk_nb tB tn (tk_nx tB tn tp) ∧ (h69 236 8) = (h67 236 8) ∧ (h69 236 9) = (h67 236 9) ∧ ((h69 236 4) = tk_nx tB tn (tk_nx tB tn (tk_nx tB tn tp)) ∧ (h69 236 5) = tk_st tB tn (tk_nx tB tn (tk_nx tB tn tp)) ∧ ((tk_kd tB tn (tk_nx tB tn (tk_nx tB tn tp)) = 0 ∧ (h69 236 6) = 0) ∨ (tk_kd tB tn (tk_nx tB tn (tk_nx tB tn tp)) = 1 ∧ (h69 236 6) = 1 ∧ (h69 236 12) = tk_sw tB tn (tk_nx tB tn (tk_nx tB tn tp))) ∨ (tk_kd tB tn (tk_nx tB tn (tk_nx tB tn tp)) = 2 ∧ (h69 236 6) = 2 ∧ (h69 236 7) = tk_nb tB tn (tk_nx tB tn (tk_nx tB tn tp))) ∨ (tk_kd tB tn (tk_nx tB tn (tk_nx tB tn tp)) = 3 ∧ (h69 236 6) = 3 ∧ (h69 236 7) = 59) ∨ (tk_kd tB tn (tk_nx tB tn (tk_nx tB tn tp)) = 4 ∧ (h69 236 6) = 3 ∧ (h69 236 7) = 40) ∨ (tk_kd tB tn (tk_nx tB tn (tk_nx tB tn tp)) = 5 ∧ (h69 236 6) = 3 ∧ (h69 236 7) = 41) ∨ (tk_kd tB tn (tk_nx tB tn (tk_nx tB tn tp)) = 6 ∧ (h69 236 6) = 4)))) ∨ ((h67 236 8) = 0 ∧ tk_kd tB tn (tk_nx tB tn tp) ≠ 2 ∧ (h69 236 8) = 1 ∧ (h69 236 9) = tk_st tB tn (tk_nx tB tn tp)) ∨ ((h67 236 8) = 0 ∧ tk_kd tB tn (tk_nx tB tn tp) = 2 ∧ (tk_nb tB tn (tk_nx tB tn tp) < 0 ∨ 3 < tk_nb tB tn (tk_nx tB tn tp)) ∧ (h69 236 8) = 2 ∧ (h69 236 9) = tk_st tB tn (tk_nx tB tn tp))) (p69_1 : (h67 236 4) ≤ (h69 236 4)) (p69_2 : (h69 236 4) ≤ (h67 236 3)) (p69_3 : 1 ≤ (h69 236 8) ∨ (h67 236 8) = 0) (p69_4 : 1 ≤ (h69 236 8) ∨ (0 ≤ z77 ∧ z77 ≤ 3)) (p69_5 : 1 ≤ (h69 236 8) ∨ (h67 236 6) = 2) => ?_)
                  have F80 := F68.then (by decide +kernel) u69
                  have e81 : h67 236 9 = h55 236 9 := (u67 236 9 rfl)
                  have b82 := gi_b (lo := 0) (hi := 5) g69 236 8 rfl
                  have b83 := gi_b (lo := -2147483648) (hi := 2147483647) g69 236 9 rfl
                  have b84 := gi_b (lo := 0) (hi := 800) g69 236 4 rfl
                  have b85 := gi_b (lo := 0) (hi := 800) g69 236 5 rfl
                  have b86 := gi_b (lo := 0) (hi := 4) g69 236 6 rfl
                  have b87 := gi_b (lo := -9223372036854775808) (hi := 9223372036854775807) g69 236 12 rfl
                  have b88 := gi_b (lo := 0) (hi := 999) g69 236 7 rfl
                  refine wk_i ?_
                  rcases p69_0 with p69_0 | p69_0 | p69_0 | p69_0
                  ·
                    exfalso; omega
                  ·
                    have tk89 := p69_0.2.2.2.2.2.2.2
                    have tN90 := @tk_nx_b tB tn (tk_nx tB tn (tk_nx tB tn tp)) (by omega) (by omega)
                    refine wr_is (k0 := 239) (a := 7) (f := 7) (x := z77) (bl := 0) (bh := 999) (nx := 192) (r1 := 0) (r2 := 0) (r3 := 0) rfl (by decide) rfl (by omega) (by omega) (by decide) g69 rfl (by omega) (fun h91 g91 w91 u91 => ?_)
                    have F92 := F80.then rfl u91
                    refine wi_aload_n (i := 0) (x := 236) (nx := 193) (r1 := 0) (r2 := 0) (r3 := 0) rfl rfl ?_
                    refine wr_gr (k0 := 236) (x := 239) (nx := 196) (r1 := 11) (r2 := 14) (r3 := 0) rfl rfl (by decide) rfl ⟨rfl, rfl⟩ rfl ?_
                    refine wi_bipush (n := 8) (nx := 198) (r1 := 0) (r2 := 0) (r3 := 0) rfl (by decide) ?_
                    refine wi_aload_n (i := 0) (x := 236) (nx := 199) (r1 := 0) (r2 := 0) (r3 := 0) rfl rfl ?_
                    refine wi_ldc2_w (e := 4370489) (nx := 202) (r1 := 4370489) (r2 := 0) (r3 := 0) rfl (by decide) ?_
                    refine wi_iconst (n := 0) (nx := 203) (r1 := 0) (r2 := 0) (r3 := 0) rfl ?_
                    refine wi_bipush (n := 9) (nx := 205) (r1 := 0) (r2 := 0) (r3 := 0) rfl (by decide) ?_
                    have wk93 : tk_kd tB tn (tk_nx tB tn (tk_nx tB tn tp)) = 1 → (tk_sw tB tn (tk_nx tB tn (tk_nx tB tn tp)) = 4370489 ↔ tk_wd (tk_lw tB tn (tk_nx tB tn (tk_nx tB tn tp))) = 11) := fun e => tk_wk 10 (by decide) (by omega) (by omega) e
                    refine wr_V (k0 := 236) (rest := [vi 8, .ref 239]) (as := [.ref 236, vl 4370489, vi 0, vi 9]) (nx := 208) (r1 := 228) (r2 := 3) (r3 := 11) rfl rfl rfl (of_decide_eq_true rfl) rfl rfl (by decide) rfl rfl (of_decide_eq_true rfl) (of_decide_eq_true rfl) ?_
                    have e95 : h91 236 4 = h69 236 4 := (u91 236 4 rfl)
                    have e96 : h91 236 3 = h 236 3 := ((u91 236 3 rfl).trans ((u69 236 3 rfl).trans ((u67 236 3 rfl).trans (u55 236 3 rfl))))
                    have e97 : h91 236 8 = h69 236 8 := (u91 236 8 rfl)
                    have e98 : h91 236 5 = h69 236 5 := (u91 236 5 rfl)
                    have e99 : h91 236 6 = h69 236 6 := (u91 236 6 rfl)
                    have e100 : h91 236 12 = h69 236 12 := (u91 236 12 rfl)
                    have e101 : h91 236 7 = h69 236 7 := (u91 236 7 rfl)
                    have rb103 := RefB.fr u69 rfl rb79
                    have rb104 := RefB.fr u91 rfl rb103
                    refine ct_228_236 hcr  g91 4370489 0 9 (by omega) (by omega) (by omega) (show (h91 236 4) ≤ (h91 236 3) by omega) (show 0 ≤ (tk_nx tB tn (tk_nx tB tn tp)) by omega) (show (tk_nx tB tn (tk_nx tB tn tp)) ≤ tn by omega) (show (tk_nx tB tn (tk_nx tB tn tp)) ≤ tk_nx tB tn (tk_nx tB tn (tk_nx tB tn tp)) ∧ tk_nx tB tn (tk_nx tB tn (tk_nx tB tn tp)) ≤ tn by omega) (show 1 ≤ (h91 236 8) ∨ ((h91 236 4) = tk_nx tB tn (tk_nx tB tn (tk_nx tB tn tp)) ∧ (h91 236 5) = tk_st tB tn (tk_nx tB tn (tk_nx tB tn tp)) ∧ ((tk_kd tB tn (tk_nx tB tn (tk_nx tB tn tp)) = 0 ∧ (h91 236 6) = 0) ∨ (tk_kd tB tn (tk_nx tB tn (tk_nx tB tn tp)) = 1 ∧ (h91 236 6) = 1 ∧ (h91 236 12) = tk_sw tB tn (tk_nx tB tn (tk_nx tB tn tp))) ∨ (tk_kd tB tn (tk_nx tB tn (tk_nx tB tn tp)) = 2 ∧ (h91 236 6) = 2 ∧ (h91 236 7) = tk_nb tB tn (tk_nx tB tn (tk_nx tB tn tp))) ∨ (tk_kd tB tn (tk_nx tB tn (tk_nx tB tn tp)) = 3 ∧ (h91 236 6) = 3 ∧ (h91 236 7) = 59) ∨ (tk_kd tB tn (tk_nx tB tn (tk_nx tB tn tp)) = 4 ∧ (h91 236 6) = 3 ∧ (h91 236 7) = 40) ∨ (tk_kd tB tn (tk_nx tB tn (tk_nx tB tn tp)) = 5 ∧ (h91 236 6) = 3 ∧ (h91 236 7) = 41) ∨ (tk_kd tB tn (tk_nx tB tn (tk_nx tB tn tp)) = 6 ∧ (h91 236 6) = 4))) from (Or.inr (show ((h91 236 4) = tk_nx tB tn (tk_nx tB tn (tk_nx tB tn tp)) ∧ (h91 236 5) = tk_st tB tn (tk_nx tB tn (tk_nx tB tn tp)) ∧ ((tk_kd tB tn (tk_nx tB tn (tk_nx tB tn tp)) = 0 ∧ (h91 236 6) = 0) ∨ (tk_kd tB tn (tk_nx tB tn (tk_nx tB tn tp)) = 1 ∧ (h91 236 6) = 1 ∧ (h91 236 12) = tk_sw tB tn (tk_nx tB tn (tk_nx tB tn tp))) ∨ (tk_kd tB tn (tk_nx tB tn (tk_nx tB tn tp)) = 2 ∧ (h91 236 6) = 2 ∧ (h91 236 7) = tk_nb tB tn (tk_nx tB tn (tk_nx tB tn tp))) ∨ (tk_kd tB tn (tk_nx tB tn (tk_nx tB tn tp)) = 3 ∧ (h91 236 6) = 3 ∧ (h91 236 7) = 59) ∨ (tk_kd tB tn (tk_nx tB tn (tk_nx tB tn tp)) = 4 ∧ (h91 236 6) = 3 ∧ (h91 236 7) = 40) ∨ (tk_kd tB tn (tk_nx tB tn (tk_nx tB tn tp)) = 5 ∧ (h91 236 6) = 3 ∧ (h91 236 7) = 41) ∨ (tk_kd tB tn (tk_nx tB tn (tk_nx tB tn tp)) = 6 ∧ (h91 236 6) = 4))) by first | assumption | exact tk_mv (by assumption) (by omega) (by omega) (by omega) (by omega) (by omega)))) rb104 (fun h94 z102 g94 u94 (fz102 : 0 ≤ z102 ∧ z102 ≤ 999) (p94_0 : (1 ≤ (h91 236 8) ∧ (h94 236 8) = (h91 236 8) ∧ (h94 236 9) = (h91 236 9)) ∨ ((h91 236 8) = 0 ∧ tk_kd tB tn (tk_nx tB tn (tk_nx tB tn tp)) = 1 ∧ tk_sw tB tn (tk_nx tB tn (tk_nx tB tn tp)) = 4370489 ∧ tk_kd tB tn (tk_nx tB tn (tk_nx tB tn (tk_nx tB tn tp))) = 2 ∧ 0 ≤ tk_nb tB tn (tk_nx tB tn (tk_nx tB tn (tk_nx tB tn tp))) ∧ tk_nb tB tn (tk_nx tB tn (tk_nx tB tn (tk_nx tB tn tp))) ≤ 9 ∧ z102 = tk_nb tB tn (tk_nx tB tn (tk_nx tB tn (tk_nx tB tn tp))) ∧ (h94 236 8) = (h91 236 8) ∧ (h94 236 9) = (h91 236 9) ∧ ((h94 236 4) = tk_nx tB tn (tk_nx tB tn (tk_nx tB tn (tk_nx tB tn (tk_nx tB tn tp)))) ∧ (h94 236 5) = tk_st tB tn (tk_nx tB tn (tk_nx tB tn (tk_nx tB tn (tk_nx tB tn tp)))) ∧ ((tk_kd tB tn (tk_nx tB tn (tk_nx tB tn (tk_nx tB tn (tk_nx tB tn tp)))) = 0 ∧ (h94 236 6) = 0) ∨ (tk_kd tB tn (tk_nx tB tn (tk_nx tB tn (tk_nx tB tn (tk_nx tB tn tp)))) = 1 ∧ (h94 236 6) = 1 ∧ (h94 236 12) = tk_sw tB tn (tk_nx tB tn (tk_nx tB tn (tk_nx tB tn (tk_nx tB tn tp))))) ∨ (tk_kd tB tn (tk_nx tB tn (tk_nx tB tn (tk_nx tB tn (tk_nx tB tn tp)))) = 2 ∧ (h94 236 6) = 2 ∧ (h94 236 7) = tk_nb tB tn (tk_nx tB tn (tk_nx tB tn (tk_nx tB tn (tk_nx tB tn tp))))) ∨ (tk_kd tB tn (tk_nx tB tn (tk_nx tB tn (tk_nx tB tn (tk_nx tB tn tp)))) = 3 ∧ (h94 236 6) = 3 ∧ (h94 236 7) = 59) ∨ (tk_kd tB tn (tk_nx tB tn (tk_nx tB tn (tk_nx tB tn (tk_nx tB tn tp)))) = 4 ∧ (h94 236 6) = 3 ∧ (h94 236 7) = 40) ∨ (tk_kd tB tn (tk_nx tB tn (tk_nx tB tn (tk_nx tB tn (tk_nx tB tn tp)))) = 5 ∧ (h94 236 6) = 3 ∧ (h94 236 7) = 41) ∨ (tk_kd tB tn (tk_nx tB tn (tk_nx tB tn (tk_nx tB tn (tk_nx tB tn tp)))) = 6 ∧ (h94 236 6) = 4)))) ∨ ((h91 236 8) = 0 ∧ (tk_kd tB tn (tk_nx tB tn (tk_nx tB tn tp)) ≠ 1 ∨ tk_sw tB tn (tk_nx tB tn (tk_nx tB tn tp)) ≠ 4370489) ∧ (h94 236 8) = 1 ∧ (h94 236 9) = tk_st tB tn (tk_nx tB tn (tk_nx tB tn tp))) ∨ ((h91 236 8) = 0 ∧ tk_kd tB tn (tk_nx tB tn (tk_nx tB tn tp)) = 1 ∧ tk_sw tB tn (tk_nx tB tn (tk_nx tB tn tp)) = 4370489 ∧ tk_kd tB tn (tk_nx tB tn (tk_nx tB tn (tk_nx tB tn tp))) ≠ 2 ∧ (h94 236 8) = 1 ∧ (h94 236 9) = tk_st tB tn (tk_nx tB tn (tk_nx tB tn (tk_nx tB tn tp)))) ∨ ((h91 236 8) = 0 ∧ tk_kd tB tn (tk_nx tB tn (tk_nx tB tn tp)) = 1 ∧ tk_sw tB tn (tk_nx tB tn (tk_nx tB tn tp)) = 4370489 ∧ tk_kd tB tn (tk_nx tB tn (tk_nx tB tn (tk_nx tB tn tp))) = 2 ∧ (tk_nb tB tn (tk_nx tB tn (tk_nx tB tn (tk_nx tB tn tp))) < 0 ∨ 9 < tk_nb tB tn (tk_nx tB tn (tk_nx tB tn (tk_nx tB tn tp)))) ∧ (h94 236 8) = 2 ∧ (h94 236 9) = tk_st tB tn (tk_nx tB tn (tk_nx tB tn (tk_nx tB tn tp))))) (p94_1 : (h91 236 4) ≤ (h94 236 4)) (p94_2 : (h94 236 4) ≤ (h91 236 3)) (p94_3 : 1 ≤ (h94 236 8) ∨ (h91 236 8) = 0) (p94_4 : 1 ≤ (h94 236 8) ∨ (0 ≤ z102 ∧ z102 ≤ 9)) => ?_)
                    have F105 := F92.then (by decide +kernel) u94
                    have e106 : h91 236 9 = h69 236 9 := (u91 236 9 rfl)
                    have b107 := gi_b (lo := 0) (hi := 5) g94 236 8 rfl
                    have b108 := gi_b (lo := -2147483648) (hi := 2147483647) g94 236 9 rfl
                    have b109 := gi_b (lo := 0) (hi := 800) g94 236 4 rfl
                    have b110 := gi_b (lo := 0) (hi := 800) g94 236 5 rfl
                    have b111 := gi_b (lo := 0) (hi := 4) g94 236 6 rfl
                    have b112 := gi_b (lo := -9223372036854775808) (hi := 9223372036854775807) g94 236 12 rfl
                    have b113 := gi_b (lo := 0) (hi := 999) g94 236 7 rfl
                    refine wk_i ?_
                    rcases p94_0 with p94_0 | p94_0 | p94_0 | p94_0 | p94_0
                    ·
                      exfalso; omega
                    ·
                      have tk114 := p94_0.2.2.2.2.2.2.2.2.2
                      have tN115 := @tk_nx_b tB tn (tk_nx tB tn (tk_nx tB tn (tk_nx tB tn tp))) (by omega) (by omega)
                      have tN116 := @tk_nx_b tB tn (tk_nx tB tn (tk_nx tB tn (tk_nx tB tn (tk_nx tB tn tp)))) (by omega) (by omega)
                      refine wr_is (k0 := 239) (a := 8) (f := 8) (x := z102) (bl := 0) (bh := 999) (nx := 209) (r1 := 0) (r2 := 0) (r3 := 0) rfl (by decide) rfl (by omega) (by omega) (by decide) g94 rfl (by omega) (fun h117 g117 w117 u117 => ?_)
                      have F118 := F105.then rfl u117
                      refine wi_goto (nx := 212) (r1 := 256) (r2 := 0) (r3 := 0) rfl ?_
                      refine wi_return (nx := 257) (r1 := 0) (r2 := 0) (r3 := 0) rfl rfl ?_
                      have e119 : h117 236 8 = h94 236 8 := (u117 236 8 rfl)
                      have e120 : h117 236 4 = h94 236 4 := (u117 236 4 rfl)
                      have e121 : h117 239 5 = h 239 5 := ((u117 239 5 rfl).trans ((u94 239 5 rfl).trans ((u91 239 5 rfl).trans ((u69 239 5 rfl).trans ((u67 239 5 rfl).trans (u55 239 5 rfl))))))
                      have e122 : h117 239 7 = z77 := ((u117 239 7 rfl).trans ((u94 239 7 rfl).trans w91))
                      have e123 : h117 239 15 = h 239 15 := ((u117 239 15 rfl).trans ((u94 239 15 rfl).trans ((u91 239 15 rfl).trans ((u69 239 15 rfl).trans ((u67 239 15 rfl).trans (u55 239 15 rfl))))))
                      have e124 : h117 239 16 = h 239 16 := ((u117 239 16 rfl).trans ((u94 239 16 rfl).trans ((u91 239 16 rfl).trans ((u69 239 16 rfl).trans ((u67 239 16 rfl).trans (u55 239 16 rfl))))))
                      have e125 : h117 239 17 = h 239 17 := ((u117 239 17 rfl).trans ((u94 239 17 rfl).trans ((u91 239 17 rfl).trans ((u69 239 17 rfl).trans ((u67 239 17 rfl).trans (u55 239 17 rfl))))))
                      have e126 : h117 239 18 = h 239 18 := ((u117 239 18 rfl).trans ((u94 239 18 rfl).trans ((u91 239 18 rfl).trans ((u69 239 18 rfl).trans ((u67 239 18 rfl).trans (u55 239 18 rfl))))))
                      have e127 : h117 236 9 = h94 236 9 := (u117 236 9 rfl)
                      have e128 : h117 239 0 = h 239 0 := ((u117 239 0 rfl).trans ((u94 239 0 rfl).trans ((u91 239 0 rfl).trans ((u69 239 0 rfl).trans ((u67 239 0 rfl).trans (u55 239 0 rfl))))))
                      have e129 : h117 239 1 = h 239 1 := ((u117 239 1 rfl).trans ((u94 239 1 rfl).trans ((u91 239 1 rfl).trans ((u69 239 1 rfl).trans ((u67 239 1 rfl).trans (u55 239 1 rfl))))))
                      have e130 : h117 239 2 = h 239 2 := ((u117 239 2 rfl).trans ((u94 239 2 rfl).trans ((u91 239 2 rfl).trans ((u69 239 2 rfl).trans ((u67 239 2 rfl).trans (u55 239 2 rfl))))))
                      have b131 := gi_b (lo := 0) (hi := 999) g 239 3 rfl
                      have e132 : h117 239 3 = h 239 3 := ((u117 239 3 rfl).trans ((u94 239 3 rfl).trans ((u91 239 3 rfl).trans ((u69 239 3 rfl).trans ((u67 239 3 rfl).trans (u55 239 3 rfl))))))
                      have b133 := gi_b (lo := 0) (hi := 999) g 239 4 rfl
                      have e134 : h117 239 4 = h 239 4 := ((u117 239 4 rfl).trans ((u94 239 4 rfl).trans ((u91 239 4 rfl).trans ((u69 239 4 rfl).trans ((u67 239 4 rfl).trans (u55 239 4 rfl))))))
                      have b135 := gi_b (lo := 0) (hi := 999) g 239 6 rfl
                      have e136 : h117 239 6 = h 239 6 := ((u117 239 6 rfl).trans ((u94 239 6 rfl).trans ((u91 239 6 rfl).trans ((u69 239 6 rfl).trans ((u67 239 6 rfl).trans (u55 239 6 rfl))))))
                      have e137 : h117 239 8 = z102 := w117
                      have b138 := gi_b (lo := 0) (hi := 999) g 239 9 rfl
                      have e139 : h117 239 9 = h 239 9 := ((u117 239 9 rfl).trans ((u94 239 9 rfl).trans ((u91 239 9 rfl).trans ((u69 239 9 rfl).trans ((u67 239 9 rfl).trans (u55 239 9 rfl))))))
                      have b140 := gi_b (lo := 0) (hi := 1) g 236 23 rfl
                      have e141 : h117 236 23 = h 236 23 := ((u117 236 23 rfl).trans ((u94 236 23 rfl).trans ((u91 236 23 rfl).trans ((u69 236 23 rfl).trans ((u67 236 23 rfl).trans (u55 236 23 rfl))))))
                      have b142 := gi_b (lo := 0) (hi := 1) g 236 24 rfl
                      have e143 : h117 236 24 = h 236 24 := ((u117 236 24 rfl).trans ((u94 236 24 rfl).trans ((u91 236 24 rfl).trans ((u69 236 24 rfl).trans ((u67 236 24 rfl).trans (u55 236 24 rfl))))))
                      have e144 : h117 236 25 = z56 := ((u117 236 25 rfl).trans ((u94 236 25 rfl).trans ((u91 236 25 rfl).trans ((u69 236 25 rfl).trans w67))))
                      have b145 := gi_b (lo := 0) (hi := 1) g 236 26 rfl
                      have e146 : h117 236 26 = h 236 26 := ((u117 236 26 rfl).trans ((u94 236 26 rfl).trans ((u91 236 26 rfl).trans ((u69 236 26 rfl).trans ((u67 236 26 rfl).trans (u55 236 26 rfl))))))
                      have e147 : h117 236 5 = h94 236 5 := (u117 236 5 rfl)
                      have e148 : h117 236 6 = h94 236 6 := (u117 236 6 rfl)
                      have e149 : h117 236 7 = h94 236 7 := (u117 236 7 rfl)
                      have e150 : h117 236 12 = h94 236 12 := (u117 236 12 rfl)
                      exact k h117 g117 F118 (show (h117 236 8) = 0 ∨ 1 ≤ (h117 236 8) by omega) (show (h 236 4) ≤ (h117 236 4) by omega) (show (h117 236 4) ≤ (h 236 3) by omega) (show 1 ≤ (h117 236 8) ∨ ((h117 239 5) ≤ 9 ∧ 1 ≤ (h117 239 5) ∧ (h117 239 7) ≤ 3 ∧ (h117 239 15) ≤ 6 ∧ (h117 239 16) ≤ 6 ∧ (h117 239 17) ≤ 6 ∧ (h117 239 18) ≤ 6) by omega) (show (h117 236 8) ≠ 0 ∨ (h117 236 9) = -1 by omega) (by unfold tk_stm; (repeat (first | rw [if_pos (by omega)] | rw [if_neg (by omega)])); exact (by unfold tk_rework tk_once tk_wrd tk_num; (try dsimp only); (repeat (first | rw [if_pos (by omega)] | rw [if_neg (by omega)])); (repeat ((first | unfold tk_once | unfold tk_wrd | unfold tk_num); (try dsimp only); (repeat (first | rw [if_pos (by omega)] | rw [if_neg (by omega)])))); exact tk_ORs (by omega) (by first | assumption | exact tk_mv (by assumption) (by omega) (by omega) (by omega) (by omega) (by omega)) (CVr.flag xq1 (fun j _ _ _ _ _ _ _ _ _ _ _ => by unfold tk_u; (repeat (first | rw [if_pos (by omega)] | rw [if_neg (by omega)]))) (fun i e => by rcases e with e | e; · exact ((u117 239 i (fn_i (by omega) fn_0)).trans ((u94 239 i (fo_nk rfl)).trans ((u91 239 i (fn_i (by omega) fn_0)).trans ((u69 239 i (fo_nk rfl)).trans ((u67 239 i (fn_a (by omega) fn_0)).trans (u55 239 i (fo_nk rfl))))))); · exact ((u117 239 i (fn_i (by omega) fn_0)).trans ((u94 239 i (fo_nk rfl)).trans ((u91 239 i (fn_i (by omega) fn_0)).trans ((u69 239 i (fo_nk rfl)).trans ((u67 239 i (fn_a (by omega) fn_0)).trans (u55 239 i (fo_nk rfl)))))))) ⟨(by (repeat unfold tk_u); (repeat (first | rw [if_pos (by omega)] | rw [if_neg (by omega)])); all_goals omega), (by (repeat unfold tk_u); (repeat (first | rw [if_pos (by omega)] | rw [if_neg (by omega)])); all_goals omega), (by (repeat unfold tk_u); (repeat (first | rw [if_pos (by omega)] | rw [if_neg (by omega)])); all_goals omega), (by (repeat unfold tk_u); (repeat (first | rw [if_pos (by omega)] | rw [if_neg (by omega)])); all_goals omega), (by (repeat unfold tk_u); (repeat (first | rw [if_pos (by omega)] | rw [if_neg (by omega)])); all_goals omega), (by (repeat unfold tk_u); (repeat (first | rw [if_pos (by omega)] | rw [if_neg (by omega)])); all_goals omega), (by (repeat unfold tk_u); (repeat (first | rw [if_pos (by omega)] | rw [if_neg (by omega)])); all_goals omega)⟩ ⟨(by (repeat unfold tk_u); (repeat (first | rw [if_pos (by omega)] | rw [if_neg (by omega)])); all_goals omega), (by (repeat unfold tk_u); (repeat (first | rw [if_pos (by omega)] | rw [if_neg (by omega)])); all_goals omega), (by (repeat unfold tk_u); (repeat (first | rw [if_pos (by omega)] | rw [if_neg (by omega)])); all_goals omega), (by (repeat unfold tk_u); (repeat (first | rw [if_pos (by omega)] | rw [if_neg (by omega)])); all_goals omega)⟩ (fun i => ((u117 244 i (fn_a (by omega) fn_0)).trans ((u94 244 i (fo_nk rfl)).trans ((u91 244 i (fn_a (by omega) fn_0)).trans ((u69 244 i (fo_nk rfl)).trans ((u67 244 i (fn_a (by omega) fn_0)).trans (u55 244 i (fo_nk rfl)))))))) (by omega) (by omega) (by omega))))
                    ·
                      refine wr_is (k0 := 239) (a := 8) (f := 8) (x := z102) (bl := 0) (bh := 999) (nx := 209) (r1 := 0) (r2 := 0) (r3 := 0) rfl (by decide) rfl (by omega) (by omega) (by decide) g94 rfl (by omega) (fun h114 g114 w114 u114 => ?_)
                      have F115 := F105.then rfl u114
                      refine wi_goto (nx := 212) (r1 := 256) (r2 := 0) (r3 := 0) rfl ?_
                      refine wi_return (nx := 257) (r1 := 0) (r2 := 0) (r3 := 0) rfl rfl ?_
                      have e116 : h114 236 8 = h94 236 8 := (u114 236 8 rfl)
                      have e117 : h114 236 4 = h94 236 4 := (u114 236 4 rfl)
                      have e118 : h114 239 5 = h 239 5 := ((u114 239 5 rfl).trans ((u94 239 5 rfl).trans ((u91 239 5 rfl).trans ((u69 239 5 rfl).trans ((u67 239 5 rfl).trans (u55 239 5 rfl))))))
                      have e119 : h114 239 7 = z77 := ((u114 239 7 rfl).trans ((u94 239 7 rfl).trans w91))
                      have e120 : h114 239 15 = h 239 15 := ((u114 239 15 rfl).trans ((u94 239 15 rfl).trans ((u91 239 15 rfl).trans ((u69 239 15 rfl).trans ((u67 239 15 rfl).trans (u55 239 15 rfl))))))
                      have e121 : h114 239 16 = h 239 16 := ((u114 239 16 rfl).trans ((u94 239 16 rfl).trans ((u91 239 16 rfl).trans ((u69 239 16 rfl).trans ((u67 239 16 rfl).trans (u55 239 16 rfl))))))
                      have e122 : h114 239 17 = h 239 17 := ((u114 239 17 rfl).trans ((u94 239 17 rfl).trans ((u91 239 17 rfl).trans ((u69 239 17 rfl).trans ((u67 239 17 rfl).trans (u55 239 17 rfl))))))
                      have e123 : h114 239 18 = h 239 18 := ((u114 239 18 rfl).trans ((u94 239 18 rfl).trans ((u91 239 18 rfl).trans ((u69 239 18 rfl).trans ((u67 239 18 rfl).trans (u55 239 18 rfl))))))
                      have e124 : h114 236 9 = h94 236 9 := (u114 236 9 rfl)
                      exact k h114 g114 F115 (show (h114 236 8) = 0 ∨ 1 ≤ (h114 236 8) by omega) (show (h 236 4) ≤ (h114 236 4) by omega) (show (h114 236 4) ≤ (h 236 3) by omega) (show 1 ≤ (h114 236 8) ∨ ((h114 239 5) ≤ 9 ∧ 1 ≤ (h114 239 5) ∧ (h114 239 7) ≤ 3 ∧ (h114 239 15) ≤ 6 ∧ (h114 239 16) ≤ 6 ∧ (h114 239 17) ≤ 6 ∧ (h114 239 18) ≤ 6) by omega) (show (h114 236 8) ≠ 0 ∨ (h114 236 9) = -1 by omega) (by unfold tk_stm; (repeat (first | rw [if_pos (by omega)] | rw [if_neg (by omega)])); exact (by unfold tk_rework tk_once tk_wrd tk_num; (try dsimp only); (repeat (first | rw [if_pos (by omega)] | rw [if_neg (by omega)])); (repeat ((first | unfold tk_once | unfold tk_wrd | unfold tk_num); (try dsimp only); (repeat (first | rw [if_pos (by omega)] | rw [if_neg (by omega)])))); first | exact tk_ORe (by omega) (by omega) (by omega) | ((repeat' split) <;> (first | exact tk_ORe (by omega) (by omega) (by omega) | (exfalso; omega)))))
                    ·
                      have tN114 := @tk_nx_b tB tn (tk_nx tB tn (tk_nx tB tn tp)) (by omega) (by omega)
                      refine wr_is (k0 := 239) (a := 8) (f := 8) (x := z102) (bl := 0) (bh := 999) (nx := 209) (r1 := 0) (r2 := 0) (r3 := 0) rfl (by decide) rfl (by omega) (by omega) (by decide) g94 rfl (by omega) (fun h115 g115 w115 u115 => ?_)
                      have F116 := F105.then rfl u115
                      refine wi_goto (nx := 212) (r1 := 256) (r2 := 0) (r3 := 0) rfl ?_
                      refine wi_return (nx := 257) (r1 := 0) (r2 := 0) (r3 := 0) rfl rfl ?_
                      have e117 : h115 236 8 = h94 236 8 := (u115 236 8 rfl)
                      have e118 : h115 236 4 = h94 236 4 := (u115 236 4 rfl)
                      have e119 : h115 239 5 = h 239 5 := ((u115 239 5 rfl).trans ((u94 239 5 rfl).trans ((u91 239 5 rfl).trans ((u69 239 5 rfl).trans ((u67 239 5 rfl).trans (u55 239 5 rfl))))))
                      have e120 : h115 239 7 = z77 := ((u115 239 7 rfl).trans ((u94 239 7 rfl).trans w91))
                      have e121 : h115 239 15 = h 239 15 := ((u115 239 15 rfl).trans ((u94 239 15 rfl).trans ((u91 239 15 rfl).trans ((u69 239 15 rfl).trans ((u67 239 15 rfl).trans (u55 239 15 rfl))))))
                      have e122 : h115 239 16 = h 239 16 := ((u115 239 16 rfl).trans ((u94 239 16 rfl).trans ((u91 239 16 rfl).trans ((u69 239 16 rfl).trans ((u67 239 16 rfl).trans (u55 239 16 rfl))))))
                      have e123 : h115 239 17 = h 239 17 := ((u115 239 17 rfl).trans ((u94 239 17 rfl).trans ((u91 239 17 rfl).trans ((u69 239 17 rfl).trans ((u67 239 17 rfl).trans (u55 239 17 rfl))))))
                      have e124 : h115 239 18 = h 239 18 := ((u115 239 18 rfl).trans ((u94 239 18 rfl).trans ((u91 239 18 rfl).trans ((u69 239 18 rfl).trans ((u67 239 18 rfl).trans (u55 239 18 rfl))))))
                      have e125 : h115 236 9 = h94 236 9 := (u115 236 9 rfl)
                      exact k h115 g115 F116 (show (h115 236 8) = 0 ∨ 1 ≤ (h115 236 8) by omega) (show (h 236 4) ≤ (h115 236 4) by omega) (show (h115 236 4) ≤ (h 236 3) by omega) (show 1 ≤ (h115 236 8) ∨ ((h115 239 5) ≤ 9 ∧ 1 ≤ (h115 239 5) ∧ (h115 239 7) ≤ 3 ∧ (h115 239 15) ≤ 6 ∧ (h115 239 16) ≤ 6 ∧ (h115 239 17) ≤ 6 ∧ (h115 239 18) ≤ 6) by omega) (show (h115 236 8) ≠ 0 ∨ (h115 236 9) = -1 by omega) (by unfold tk_stm; (repeat (first | rw [if_pos (by omega)] | rw [if_neg (by omega)])); exact (by unfold tk_rework tk_once tk_wrd tk_num; (try dsimp only); (repeat (first | rw [if_pos (by omega)] | rw [if_neg (by omega)])); (repeat ((first | unfold tk_once | unfold tk_wrd | unfold tk_num); (try dsimp only); (repeat (first | rw [if_pos (by omega)] | rw [if_neg (by omega)])))); first | exact tk_ORe (by omega) (by omega) (by omega) | ((repeat' split) <;> (first | exact tk_ORe (by omega) (by omega) (by omega) | (exfalso; omega)))))
                    ·
                      have tN114 := @tk_nx_b tB tn (tk_nx tB tn (tk_nx tB tn tp)) (by omega) (by omega)
                      refine wr_is (k0 := 239) (a := 8) (f := 8) (x := z102) (bl := 0) (bh := 999) (nx := 209) (r1 := 0) (r2 := 0) (r3 := 0) rfl (by decide) rfl (by omega) (by omega) (by decide) g94 rfl (by omega) (fun h115 g115 w115 u115 => ?_)
                      have F116 := F105.then rfl u115
                      refine wi_goto (nx := 212) (r1 := 256) (r2 := 0) (r3 := 0) rfl ?_
                      refine wi_return (nx := 257) (r1 := 0) (r2 := 0) (r3 := 0) rfl rfl ?_
                      have e117 : h115 236 8 = h94 236 8 := (u115 236 8 rfl)
                      have e118 : h115 236 4 = h94 236 4 := (u115 236 4 rfl)
                      have e119 : h115 239 5 = h 239 5 := ((u115 239 5 rfl).trans ((u94 239 5 rfl).trans ((u91 239 5 rfl).trans ((u69 239 5 rfl).trans ((u67 239 5 rfl).trans (u55 239 5 rfl))))))
                      have e120 : h115 239 7 = z77 := ((u115 239 7 rfl).trans ((u94 239 7 rfl).trans w91))
                      have e121 : h115 239 15 = h 239 15 := ((u115 239 15 rfl).trans ((u94 239 15 rfl).trans ((u91 239 15 rfl).trans ((u69 239 15 rfl).trans ((u67 239 15 rfl).trans (u55 239 15 rfl))))))
                      have e122 : h115 239 16 = h 239 16 := ((u115 239 16 rfl).trans ((u94 239 16 rfl).trans ((u91 239 16 rfl).trans ((u69 239 16 rfl).trans ((u67 239 16 rfl).trans (u55 239 16 rfl))))))
                      have e123 : h115 239 17 = h 239 17 := ((u115 239 17 rfl).trans ((u94 239 17 rfl).trans ((u91 239 17 rfl).trans ((u69 239 17 rfl).trans ((u67 239 17 rfl).trans (u55 239 17 rfl))))))
                      have e124 : h115 239 18 = h 239 18 := ((u115 239 18 rfl).trans ((u94 239 18 rfl).trans ((u91 239 18 rfl).trans ((u69 239 18 rfl).trans ((u67 239 18 rfl).trans (u55 239 18 rfl))))))
                      have e125 : h115 236 9 = h94 236 9 := (u115 236 9 rfl)
                      exact k h115 g115 F116 (show (h115 236 8) = 0 ∨ 1 ≤ (h115 236 8) by omega) (show (h 236 4) ≤ (h115 236 4) by omega) (show (h115 236 4) ≤ (h 236 3) by omega) (show 1 ≤ (h115 236 8) ∨ ((h115 239 5) ≤ 9 ∧ 1 ≤ (h115 239 5) ∧ (h115 239 7) ≤ 3 ∧ (h115 239 15) ≤ 6 ∧ (h115 239 16) ≤ 6 ∧ (h115 239 17) ≤ 6 ∧ (h115 239 18) ≤ 6) by omega) (show (h115 236 8) ≠ 0 ∨ (h115 236 9) = -1 by omega) (by unfold tk_stm; (repeat (first | rw [if_pos (by omega)] | rw [if_neg (by omega)])); exact (by unfold tk_rework tk_once tk_wrd tk_num; (try dsimp only); (repeat (first | rw [if_pos (by omega)] | rw [if_neg (by omega)])); (repeat ((first | unfold tk_once | unfold tk_wrd | unfold tk_num); (try dsimp only); (repeat (first | rw [if_pos (by omega)] | rw [if_neg (by omega)])))); first | exact tk_ORe (by omega) (by omega) (by omega) | ((repeat' split) <;> (first | exact tk_ORe (by omega) (by omega) (by omega) | (exfalso; omega)))))
                  ·
                    refine wr_is (k0 := 239) (a := 7) (f := 7) (x := z77) (bl := 0) (bh := 999) (nx := 192) (r1 := 0) (r2 := 0) (r3 := 0) rfl (by decide) rfl (by omega) (by omega) (by decide) g69 rfl (by omega) (fun h89 g89 w89 u89 => ?_)
                    have F90 := F80.then rfl u89
                    refine wi_aload_n (i := 0) (x := 236) (nx := 193) (r1 := 0) (r2 := 0) (r3 := 0) rfl rfl ?_
                    refine wr_gr (k0 := 236) (x := 239) (nx := 196) (r1 := 11) (r2 := 14) (r3 := 0) rfl rfl (by decide) rfl ⟨rfl, rfl⟩ rfl ?_
                    refine wi_bipush (n := 8) (nx := 198) (r1 := 0) (r2 := 0) (r3 := 0) rfl (by decide) ?_
                    refine wi_aload_n (i := 0) (x := 236) (nx := 199) (r1 := 0) (r2 := 0) (r3 := 0) rfl rfl ?_
                    refine wi_ldc2_w (e := 4370489) (nx := 202) (r1 := 4370489) (r2 := 0) (r3 := 0) rfl (by decide) ?_
                    refine wi_iconst (n := 0) (nx := 203) (r1 := 0) (r2 := 0) (r3 := 0) rfl ?_
                    refine wi_bipush (n := 9) (nx := 205) (r1 := 0) (r2 := 0) (r3 := 0) rfl (by decide) ?_
                    have wk91 : tk_kd tB tn (tk_nx tB tn tp) = 1 → (tk_sw tB tn (tk_nx tB tn tp) = 4370489 ↔ tk_wd (tk_lw tB tn (tk_nx tB tn tp)) = 11) := fun e => tk_wk 10 (by decide) (by omega) (by omega) e
                    refine wr_V (k0 := 236) (rest := [vi 8, .ref 239]) (as := [.ref 236, vl 4370489, vi 0, vi 9]) (nx := 208) (r1 := 228) (r2 := 3) (r3 := 11) rfl rfl rfl (of_decide_eq_true rfl) rfl rfl (by decide) rfl rfl (of_decide_eq_true rfl) (of_decide_eq_true rfl) ?_
                    have e93 : h89 236 4 = h69 236 4 := (u89 236 4 rfl)
                    have e94 : h89 236 3 = h 236 3 := ((u89 236 3 rfl).trans ((u69 236 3 rfl).trans ((u67 236 3 rfl).trans (u55 236 3 rfl))))
                    have e95 : h89 236 8 = h69 236 8 := (u89 236 8 rfl)
                    have e96 : h89 236 5 = h69 236 5 := (u89 236 5 rfl)
                    have e97 : h89 236 6 = h69 236 6 := (u89 236 6 rfl)
                    have e98 : h89 236 12 = h69 236 12 := (u89 236 12 rfl)
                    have e99 : h89 236 7 = h69 236 7 := (u89 236 7 rfl)
                    have rb101 := RefB.fr u69 rfl rb79
                    have rb102 := RefB.fr u89 rfl rb101
                    refine ct_228_236 hcr  g89 4370489 0 9 (by omega) (by omega) (by omega) (show (h89 236 4) ≤ (h89 236 3) by omega) (show 0 ≤ (tk_nx tB tn tp) by omega) (show (tk_nx tB tn tp) ≤ tn by omega) (show (tk_nx tB tn tp) ≤ tk_nx tB tn (tk_nx tB tn tp) ∧ tk_nx tB tn (tk_nx tB tn tp) ≤ tn by omega) (show 1 ≤ (h89 236 8) ∨ ((h89 236 4) = tk_nx tB tn (tk_nx tB tn tp) ∧ (h89 236 5) = tk_st tB tn (tk_nx tB tn tp) ∧ ((tk_kd tB tn (tk_nx tB tn tp) = 0 ∧ (h89 236 6) = 0) ∨ (tk_kd tB tn (tk_nx tB tn tp) = 1 ∧ (h89 236 6) = 1 ∧ (h89 236 12) = tk_sw tB tn (tk_nx tB tn tp)) ∨ (tk_kd tB tn (tk_nx tB tn tp) = 2 ∧ (h89 236 6) = 2 ∧ (h89 236 7) = tk_nb tB tn (tk_nx tB tn tp)) ∨ (tk_kd tB tn (tk_nx tB tn tp) = 3 ∧ (h89 236 6) = 3 ∧ (h89 236 7) = 59) ∨ (tk_kd tB tn (tk_nx tB tn tp) = 4 ∧ (h89 236 6) = 3 ∧ (h89 236 7) = 40) ∨ (tk_kd tB tn (tk_nx tB tn tp) = 5 ∧ (h89 236 6) = 3 ∧ (h89 236 7) = 41) ∨ (tk_kd tB tn (tk_nx tB tn tp) = 6 ∧ (h89 236 6) = 4))) from (Or.inl (by omega))) rb102 (fun h92 z100 g92 u92 (fz100 : 0 ≤ z100 ∧ z100 ≤ 999) (p92_0 : (1 ≤ (h89 236 8) ∧ (h92 236 8) = (h89 236 8) ∧ (h92 236 9) = (h89 236 9)) ∨ ((h89 236 8) = 0 ∧ tk_kd tB tn (tk_nx tB tn tp) = 1 ∧ tk_sw tB tn (tk_nx tB tn tp) = 4370489 ∧ tk_kd tB tn (tk_nx tB tn (tk_nx tB tn tp)) = 2 ∧ 0 ≤ tk_nb tB tn (tk_nx tB tn (tk_nx tB tn tp)) ∧ tk_nb tB tn (tk_nx tB tn (tk_nx tB tn tp)) ≤ 9 ∧ z100 = tk_nb tB tn (tk_nx tB tn (tk_nx tB tn tp)) ∧ (h92 236 8) = (h89 236 8) ∧ (h92 236 9) = (h89 236 9) ∧ ((h92 236 4) = tk_nx tB tn (tk_nx tB tn (tk_nx tB tn (tk_nx tB tn tp))) ∧ (h92 236 5) = tk_st tB tn (tk_nx tB tn (tk_nx tB tn (tk_nx tB tn tp))) ∧ ((tk_kd tB tn (tk_nx tB tn (tk_nx tB tn (tk_nx tB tn tp))) = 0 ∧ (h92 236 6) = 0) ∨ (tk_kd tB tn (tk_nx tB tn (tk_nx tB tn (tk_nx tB tn tp))) = 1 ∧ (h92 236 6) = 1 ∧ (h92 236 12) = tk_sw tB tn (tk_nx tB tn (tk_nx tB tn (tk_nx tB tn tp)))) ∨ (tk_kd tB tn (tk_nx tB tn (tk_nx tB tn (tk_nx tB tn tp))) = 2 ∧ (h92 236 6) = 2 ∧ (h92 236 7) = tk_nb tB tn (tk_nx tB tn (tk_nx tB tn (tk_nx tB tn tp)))) ∨ (tk_kd tB tn (tk_nx tB tn (tk_nx tB tn (tk_nx tB tn tp))) = 3 ∧ (h92 236 6) = 3 ∧ (h92 236 7) = 59) ∨ (tk_kd tB tn (tk_nx tB tn (tk_nx tB tn (tk_nx tB tn tp))) = 4 ∧ (h92 236 6) = 3 ∧ (h92 236 7) = 40) ∨ (tk_kd tB tn (tk_nx tB tn (tk_nx tB tn (tk_nx tB tn tp))) = 5 ∧ (h92 236 6) = 3 ∧ (h92 236 7) = 41) ∨ (tk_kd tB tn (tk_nx tB tn (tk_nx tB tn (tk_nx tB tn tp))) = 6 ∧ (h92 236 6) = 4)))) ∨ ((h89 236 8) = 0 ∧ (tk_kd tB tn (tk_nx tB tn tp) ≠ 1 ∨ tk_sw tB tn (tk_nx tB tn tp) ≠ 4370489) ∧ (h92 236 8) = 1 ∧ (h92 236 9) = tk_st tB tn (tk_nx tB tn tp)) ∨ ((h89 236 8) = 0 ∧ tk_kd tB tn (tk_nx tB tn tp) = 1 ∧ tk_sw tB tn (tk_nx tB tn tp) = 4370489 ∧ tk_kd tB tn (tk_nx tB tn (tk_nx tB tn tp)) ≠ 2 ∧ (h92 236 8) = 1 ∧ (h92 236 9) = tk_st tB tn (tk_nx tB tn (tk_nx tB tn tp))) ∨ ((h89 236 8) = 0 ∧ tk_kd tB tn (tk_nx tB tn tp) = 1 ∧ tk_sw tB tn (tk_nx tB tn tp) = 4370489 ∧ tk_kd tB tn (tk_nx tB tn (tk_nx tB tn tp)) = 2 ∧ (tk_nb tB tn (tk_nx tB tn (tk_nx tB tn tp)) < 0 ∨ 9 < tk_nb tB tn (tk_nx tB tn (tk_nx tB tn tp))) ∧ (h92 236 8) = 2 ∧ (h92 236 9) = tk_st tB tn (tk_nx tB tn (tk_nx tB tn tp)))) (p92_1 : (h89 236 4) ≤ (h92 236 4)) (p92_2 : (h92 236 4) ≤ (h89 236 3)) (p92_3 : 1 ≤ (h92 236 8) ∨ (h89 236 8) = 0) (p92_4 : 1 ≤ (h92 236 8) ∨ (0 ≤ z100 ∧ z100 ≤ 9)) => ?_)
                    have F103 := F90.then (by decide +kernel) u92
                    have e104 : h89 236 9 = h69 236 9 := (u89 236 9 rfl)
                    have b105 := gi_b (lo := 0) (hi := 5) g92 236 8 rfl
                    have b106 := gi_b (lo := -2147483648) (hi := 2147483647) g92 236 9 rfl
                    have b107 := gi_b (lo := 0) (hi := 800) g92 236 4 rfl
                    have b108 := gi_b (lo := 0) (hi := 800) g92 236 5 rfl
                    have b109 := gi_b (lo := 0) (hi := 4) g92 236 6 rfl
                    have b110 := gi_b (lo := -9223372036854775808) (hi := 9223372036854775807) g92 236 12 rfl
                    have b111 := gi_b (lo := 0) (hi := 999) g92 236 7 rfl
                    refine wk_i ?_
                    rcases p92_0 with p92_0 | p92_0 | p92_0 | p92_0 | p92_0
                    ·
                      refine wr_is (k0 := 239) (a := 8) (f := 8) (x := z100) (bl := 0) (bh := 999) (nx := 209) (r1 := 0) (r2 := 0) (r3 := 0) rfl (by decide) rfl (by omega) (by omega) (by decide) g92 rfl (by omega) (fun h112 g112 w112 u112 => ?_)
                      have F113 := F103.then rfl u112
                      refine wi_goto (nx := 212) (r1 := 256) (r2 := 0) (r3 := 0) rfl ?_
                      refine wi_return (nx := 257) (r1 := 0) (r2 := 0) (r3 := 0) rfl rfl ?_
                      have e114 : h112 236 8 = h92 236 8 := (u112 236 8 rfl)
                      have e115 : h112 236 4 = h92 236 4 := (u112 236 4 rfl)
                      have e116 : h112 239 5 = h 239 5 := ((u112 239 5 rfl).trans ((u92 239 5 rfl).trans ((u89 239 5 rfl).trans ((u69 239 5 rfl).trans ((u67 239 5 rfl).trans (u55 239 5 rfl))))))
                      have e117 : h112 239 7 = z77 := ((u112 239 7 rfl).trans ((u92 239 7 rfl).trans w89))
                      have e118 : h112 239 15 = h 239 15 := ((u112 239 15 rfl).trans ((u92 239 15 rfl).trans ((u89 239 15 rfl).trans ((u69 239 15 rfl).trans ((u67 239 15 rfl).trans (u55 239 15 rfl))))))
                      have e119 : h112 239 16 = h 239 16 := ((u112 239 16 rfl).trans ((u92 239 16 rfl).trans ((u89 239 16 rfl).trans ((u69 239 16 rfl).trans ((u67 239 16 rfl).trans (u55 239 16 rfl))))))
                      have e120 : h112 239 17 = h 239 17 := ((u112 239 17 rfl).trans ((u92 239 17 rfl).trans ((u89 239 17 rfl).trans ((u69 239 17 rfl).trans ((u67 239 17 rfl).trans (u55 239 17 rfl))))))
                      have e121 : h112 239 18 = h 239 18 := ((u112 239 18 rfl).trans ((u92 239 18 rfl).trans ((u89 239 18 rfl).trans ((u69 239 18 rfl).trans ((u67 239 18 rfl).trans (u55 239 18 rfl))))))
                      have e122 : h112 236 9 = h92 236 9 := (u112 236 9 rfl)
                      exact k h112 g112 F113 (show (h112 236 8) = 0 ∨ 1 ≤ (h112 236 8) by omega) (show (h 236 4) ≤ (h112 236 4) by omega) (show (h112 236 4) ≤ (h 236 3) by omega) (show 1 ≤ (h112 236 8) ∨ ((h112 239 5) ≤ 9 ∧ 1 ≤ (h112 239 5) ∧ (h112 239 7) ≤ 3 ∧ (h112 239 15) ≤ 6 ∧ (h112 239 16) ≤ 6 ∧ (h112 239 17) ≤ 6 ∧ (h112 239 18) ≤ 6) by omega) (show (h112 236 8) ≠ 0 ∨ (h112 236 9) = -1 by omega) (by unfold tk_stm; (repeat (first | rw [if_pos (by omega)] | rw [if_neg (by omega)])); exact (by unfold tk_rework tk_once tk_wrd tk_num; (try dsimp only); (repeat (first | rw [if_pos (by omega)] | rw [if_neg (by omega)])); (repeat ((first | unfold tk_once | unfold tk_wrd | unfold tk_num); (try dsimp only); (repeat (first | rw [if_pos (by omega)] | rw [if_neg (by omega)])))); first | exact tk_ORe (by omega) (by omega) (by omega) | ((repeat' split) <;> (first | exact tk_ORe (by omega) (by omega) (by omega) | (exfalso; omega)))))
                    ·
                      have tk112 := p92_0.2.2.2.2.2.2.2.2.2
                      have tN113 := @tk_nx_b tB tn (tk_nx tB tn (tk_nx tB tn tp)) (by omega) (by omega)
                      have tN114 := @tk_nx_b tB tn (tk_nx tB tn (tk_nx tB tn (tk_nx tB tn tp))) (by omega) (by omega)
                      exfalso; omega
                    ·
                      exfalso; omega
                    ·
                      have tN112 := @tk_nx_b tB tn (tk_nx tB tn tp) (by omega) (by omega)
                      exfalso; omega
                    ·
                      have tN112 := @tk_nx_b tB tn (tk_nx tB tn tp) (by omega) (by omega)
                      exfalso; omega
                  ·
                    refine wr_is (k0 := 239) (a := 7) (f := 7) (x := z77) (bl := 0) (bh := 999) (nx := 192) (r1 := 0) (r2 := 0) (r3 := 0) rfl (by decide) rfl (by omega) (by omega) (by decide) g69 rfl (by omega) (fun h89 g89 w89 u89 => ?_)
                    have F90 := F80.then rfl u89
                    refine wi_aload_n (i := 0) (x := 236) (nx := 193) (r1 := 0) (r2 := 0) (r3 := 0) rfl rfl ?_
                    refine wr_gr (k0 := 236) (x := 239) (nx := 196) (r1 := 11) (r2 := 14) (r3 := 0) rfl rfl (by decide) rfl ⟨rfl, rfl⟩ rfl ?_
                    refine wi_bipush (n := 8) (nx := 198) (r1 := 0) (r2 := 0) (r3 := 0) rfl (by decide) ?_
                    refine wi_aload_n (i := 0) (x := 236) (nx := 199) (r1 := 0) (r2 := 0) (r3 := 0) rfl rfl ?_
                    refine wi_ldc2_w (e := 4370489) (nx := 202) (r1 := 4370489) (r2 := 0) (r3 := 0) rfl (by decide) ?_
                    refine wi_iconst (n := 0) (nx := 203) (r1 := 0) (r2 := 0) (r3 := 0) rfl ?_
                    refine wi_bipush (n := 9) (nx := 205) (r1 := 0) (r2 := 0) (r3 := 0) rfl (by decide) ?_
                    have wk91 : tk_kd tB tn (tk_nx tB tn tp) = 1 → (tk_sw tB tn (tk_nx tB tn tp) = 4370489 ↔ tk_wd (tk_lw tB tn (tk_nx tB tn tp)) = 11) := fun e => tk_wk 10 (by decide) (by omega) (by omega) e
                    refine wr_V (k0 := 236) (rest := [vi 8, .ref 239]) (as := [.ref 236, vl 4370489, vi 0, vi 9]) (nx := 208) (r1 := 228) (r2 := 3) (r3 := 11) rfl rfl rfl (of_decide_eq_true rfl) rfl rfl (by decide) rfl rfl (of_decide_eq_true rfl) (of_decide_eq_true rfl) ?_
                    have e93 : h89 236 4 = h69 236 4 := (u89 236 4 rfl)
                    have e94 : h89 236 3 = h 236 3 := ((u89 236 3 rfl).trans ((u69 236 3 rfl).trans ((u67 236 3 rfl).trans (u55 236 3 rfl))))
                    have e95 : h89 236 8 = h69 236 8 := (u89 236 8 rfl)
                    have e96 : h89 236 5 = h69 236 5 := (u89 236 5 rfl)
                    have e97 : h89 236 6 = h69 236 6 := (u89 236 6 rfl)
                    have e98 : h89 236 12 = h69 236 12 := (u89 236 12 rfl)
                    have e99 : h89 236 7 = h69 236 7 := (u89 236 7 rfl)
                    have rb101 := RefB.fr u69 rfl rb79
                    have rb102 := RefB.fr u89 rfl rb101
                    refine ct_228_236 hcr  g89 4370489 0 9 (by omega) (by omega) (by omega) (show (h89 236 4) ≤ (h89 236 3) by omega) (show 0 ≤ (tk_nx tB tn tp) by omega) (show (tk_nx tB tn tp) ≤ tn by omega) (show (tk_nx tB tn tp) ≤ tk_nx tB tn (tk_nx tB tn tp) ∧ tk_nx tB tn (tk_nx tB tn tp) ≤ tn by omega) (show 1 ≤ (h89 236 8) ∨ ((h89 236 4) = tk_nx tB tn (tk_nx tB tn tp) ∧ (h89 236 5) = tk_st tB tn (tk_nx tB tn tp) ∧ ((tk_kd tB tn (tk_nx tB tn tp) = 0 ∧ (h89 236 6) = 0) ∨ (tk_kd tB tn (tk_nx tB tn tp) = 1 ∧ (h89 236 6) = 1 ∧ (h89 236 12) = tk_sw tB tn (tk_nx tB tn tp)) ∨ (tk_kd tB tn (tk_nx tB tn tp) = 2 ∧ (h89 236 6) = 2 ∧ (h89 236 7) = tk_nb tB tn (tk_nx tB tn tp)) ∨ (tk_kd tB tn (tk_nx tB tn tp) = 3 ∧ (h89 236 6) = 3 ∧ (h89 236 7) = 59) ∨ (tk_kd tB tn (tk_nx tB tn tp) = 4 ∧ (h89 236 6) = 3 ∧ (h89 236 7) = 40) ∨ (tk_kd tB tn (tk_nx tB tn tp) = 5 ∧ (h89 236 6) = 3 ∧ (h89 236 7) = 41) ∨ (tk_kd tB tn (tk_nx tB tn tp) = 6 ∧ (h89 236 6) = 4))) from (Or.inl (by omega))) rb102 (fun h92 z100 g92 u92 (fz100 : 0 ≤ z100 ∧ z100 ≤ 999) (p92_0 : (1 ≤ (h89 236 8) ∧ (h92 236 8) = (h89 236 8) ∧ (h92 236 9) = (h89 236 9)) ∨ ((h89 236 8) = 0 ∧ tk_kd tB tn (tk_nx tB tn tp) = 1 ∧ tk_sw tB tn (tk_nx tB tn tp) = 4370489 ∧ tk_kd tB tn (tk_nx tB tn (tk_nx tB tn tp)) = 2 ∧ 0 ≤ tk_nb tB tn (tk_nx tB tn (tk_nx tB tn tp)) ∧ tk_nb tB tn (tk_nx tB tn (tk_nx tB tn tp)) ≤ 9 ∧ z100 = tk_nb tB tn (tk_nx tB tn (tk_nx tB tn tp)) ∧ (h92 236 8) = (h89 236 8) ∧ (h92 236 9) = (h89 236 9) ∧ ((h92 236 4) = tk_nx tB tn (tk_nx tB tn (tk_nx tB tn (tk_nx tB tn tp))) ∧ (h92 236 5) = tk_st tB tn (tk_nx tB tn (tk_nx tB tn (tk_nx tB tn tp))) ∧ ((tk_kd tB tn (tk_nx tB tn (tk_nx tB tn (tk_nx tB tn tp))) = 0 ∧ (h92 236 6) = 0) ∨ (tk_kd tB tn (tk_nx tB tn (tk_nx tB tn (tk_nx tB tn tp))) = 1 ∧ (h92 236 6) = 1 ∧ (h92 236 12) = tk_sw tB tn (tk_nx tB tn (tk_nx tB tn (tk_nx tB tn tp)))) ∨ (tk_kd tB tn (tk_nx tB tn (tk_nx tB tn (tk_nx tB tn tp))) = 2 ∧ (h92 236 6) = 2 ∧ (h92 236 7) = tk_nb tB tn (tk_nx tB tn (tk_nx tB tn (tk_nx tB tn tp)))) ∨ (tk_kd tB tn (tk_nx tB tn (tk_nx tB tn (tk_nx tB tn tp))) = 3 ∧ (h92 236 6) = 3 ∧ (h92 236 7) = 59) ∨ (tk_kd tB tn (tk_nx tB tn (tk_nx tB tn (tk_nx tB tn tp))) = 4 ∧ (h92 236 6) = 3 ∧ (h92 236 7) = 40) ∨ (tk_kd tB tn (tk_nx tB tn (tk_nx tB tn (tk_nx tB tn tp))) = 5 ∧ (h92 236 6) = 3 ∧ (h92 236 7) = 41) ∨ (tk_kd tB tn (tk_nx tB tn (tk_nx tB tn (tk_nx tB tn tp))) = 6 ∧ (h92 236 6) = 4)))) ∨ ((h89 236 8) = 0 ∧ (tk_kd tB tn (tk_nx tB tn tp) ≠ 1 ∨ tk_sw tB tn (tk_nx tB tn tp) ≠ 4370489) ∧ (h92 236 8) = 1 ∧ (h92 236 9) = tk_st tB tn (tk_nx tB tn tp)) ∨ ((h89 236 8) = 0 ∧ tk_kd tB tn (tk_nx tB tn tp) = 1 ∧ tk_sw tB tn (tk_nx tB tn tp) = 4370489 ∧ tk_kd tB tn (tk_nx tB tn (tk_nx tB tn tp)) ≠ 2 ∧ (h92 236 8) = 1 ∧ (h92 236 9) = tk_st tB tn (tk_nx tB tn (tk_nx tB tn tp))) ∨ ((h89 236 8) = 0 ∧ tk_kd tB tn (tk_nx tB tn tp) = 1 ∧ tk_sw tB tn (tk_nx tB tn tp) = 4370489 ∧ tk_kd tB tn (tk_nx tB tn (tk_nx tB tn tp)) = 2 ∧ (tk_nb tB tn (tk_nx tB tn (tk_nx tB tn tp)) < 0 ∨ 9 < tk_nb tB tn (tk_nx tB tn (tk_nx tB tn tp))) ∧ (h92 236 8) = 2 ∧ (h92 236 9) = tk_st tB tn (tk_nx tB tn (tk_nx tB tn tp)))) (p92_1 : (h89 236 4) ≤ (h92 236 4)) (p92_2 : (h92 236 4) ≤ (h89 236 3)) (p92_3 : 1 ≤ (h92 236 8) ∨ (h89 236 8) = 0) (p92_4 : 1 ≤ (h92 236 8) ∨ (0 ≤ z100 ∧ z100 ≤ 9)) => ?_)
                    have F103 := F90.then (by decide +kernel) u92
                    have e104 : h89 236 9 = h69 236 9 := (u89 236 9 rfl)
                    have b105 := gi_b (lo := 0) (hi := 5) g92 236 8 rfl
                    have b106 := gi_b (lo := -2147483648) (hi := 2147483647) g92 236 9 rfl
                    have b107 := gi_b (lo := 0) (hi := 800) g92 236 4 rfl
                    have b108 := gi_b (lo := 0) (hi := 800) g92 236 5 rfl
                    have b109 := gi_b (lo := 0) (hi := 4) g92 236 6 rfl
                    have b110 := gi_b (lo := -9223372036854775808) (hi := 9223372036854775807) g92 236 12 rfl
                    have b111 := gi_b (lo := 0) (hi := 999) g92 236 7 rfl
                    refine wk_i ?_
                    rcases p92_0 with p92_0 | p92_0 | p92_0 | p92_0 | p92_0
                    ·
                      refine wr_is (k0 := 239) (a := 8) (f := 8) (x := z100) (bl := 0) (bh := 999) (nx := 209) (r1 := 0) (r2 := 0) (r3 := 0) rfl (by decide) rfl (by omega) (by omega) (by decide) g92 rfl (by omega) (fun h112 g112 w112 u112 => ?_)
                      have F113 := F103.then rfl u112
                      refine wi_goto (nx := 212) (r1 := 256) (r2 := 0) (r3 := 0) rfl ?_
                      refine wi_return (nx := 257) (r1 := 0) (r2 := 0) (r3 := 0) rfl rfl ?_
                      have e114 : h112 236 8 = h92 236 8 := (u112 236 8 rfl)
                      have e115 : h112 236 4 = h92 236 4 := (u112 236 4 rfl)
                      have e116 : h112 239 5 = h 239 5 := ((u112 239 5 rfl).trans ((u92 239 5 rfl).trans ((u89 239 5 rfl).trans ((u69 239 5 rfl).trans ((u67 239 5 rfl).trans (u55 239 5 rfl))))))
                      have e117 : h112 239 7 = z77 := ((u112 239 7 rfl).trans ((u92 239 7 rfl).trans w89))
                      have e118 : h112 239 15 = h 239 15 := ((u112 239 15 rfl).trans ((u92 239 15 rfl).trans ((u89 239 15 rfl).trans ((u69 239 15 rfl).trans ((u67 239 15 rfl).trans (u55 239 15 rfl))))))
                      have e119 : h112 239 16 = h 239 16 := ((u112 239 16 rfl).trans ((u92 239 16 rfl).trans ((u89 239 16 rfl).trans ((u69 239 16 rfl).trans ((u67 239 16 rfl).trans (u55 239 16 rfl))))))
                      have e120 : h112 239 17 = h 239 17 := ((u112 239 17 rfl).trans ((u92 239 17 rfl).trans ((u89 239 17 rfl).trans ((u69 239 17 rfl).trans ((u67 239 17 rfl).trans (u55 239 17 rfl))))))
                      have e121 : h112 239 18 = h 239 18 := ((u112 239 18 rfl).trans ((u92 239 18 rfl).trans ((u89 239 18 rfl).trans ((u69 239 18 rfl).trans ((u67 239 18 rfl).trans (u55 239 18 rfl))))))
                      have e122 : h112 236 9 = h92 236 9 := (u112 236 9 rfl)
                      exact k h112 g112 F113 (show (h112 236 8) = 0 ∨ 1 ≤ (h112 236 8) by omega) (show (h 236 4) ≤ (h112 236 4) by omega) (show (h112 236 4) ≤ (h 236 3) by omega) (show 1 ≤ (h112 236 8) ∨ ((h112 239 5) ≤ 9 ∧ 1 ≤ (h112 239 5) ∧ (h112 239 7) ≤ 3 ∧ (h112 239 15) ≤ 6 ∧ (h112 239 16) ≤ 6 ∧ (h112 239 17) ≤ 6 ∧ (h112 239 18) ≤ 6) by omega) (show (h112 236 8) ≠ 0 ∨ (h112 236 9) = -1 by omega) (by unfold tk_stm; (repeat (first | rw [if_pos (by omega)] | rw [if_neg (by omega)])); exact (by unfold tk_rework tk_once tk_wrd tk_num; (try dsimp only); (repeat (first | rw [if_pos (by omega)] | rw [if_neg (by omega)])); (repeat ((first | unfold tk_once | unfold tk_wrd | unfold tk_num); (try dsimp only); (repeat (first | rw [if_pos (by omega)] | rw [if_neg (by omega)])))); first | exact tk_ORe (by omega) (by omega) (by omega) | ((repeat' split) <;> (first | exact tk_ORe (by omega) (by omega) (by omega) | (exfalso; omega)))))
                    ·
                      have tk112 := p92_0.2.2.2.2.2.2.2.2.2
                      have tN113 := @tk_nx_b tB tn (tk_nx tB tn (tk_nx tB tn tp)) (by omega) (by omega)
                      have tN114 := @tk_nx_b tB tn (tk_nx tB tn (tk_nx tB tn (tk_nx tB tn tp))) (by omega) (by omega)
                      exfalso; omega
                    ·
                      exfalso; omega
                    ·
                      have tN112 := @tk_nx_b tB tn (tk_nx tB tn tp) (by omega) (by omega)
                      exfalso; omega
                    ·
                      have tN112 := @tk_nx_b tB tn (tk_nx tB tn tp) (by omega) (by omega)
                      exfalso; omega
                ·
                  refine wr_pf2 (k0 := 236) (x := z56) (bl := 0) (bh := 1) (nx := 179) (r1 := 11) (r2 := 25) (r3 := 2) rfl (by decide) rfl ⟨rfl, rfl⟩ rfl (by omega) rfl g55 rfl (by omega) (fun h65 g65 w65 u65 => ?_)
                  have F66 := F57.then rfl u65
                  refine wi_aload_n (i := 0) (x := 236) (nx := 180) (r1 := 0) (r2 := 0) (r3 := 0) rfl rfl ?_
                  refine wr_gr (k0 := 236) (x := 239) (nx := 183) (r1 := 11) (r2 := 14) (r3 := 0) rfl rfl (by decide) rfl ⟨rfl, rfl⟩ rfl ?_
                  refine wi_bipush (n := 7) (nx := 185) (r1 := 0) (r2 := 0) (r3 := 0) rfl (by decide) ?_
                  refine wi_aload_n (i := 0) (x := 236) (nx := 186) (r1 := 0) (r2 := 0) (r3 := 0) rfl rfl ?_
                  refine wi_iconst (n := 0) (nx := 187) (r1 := 0) (r2 := 0) (r3 := 0) rfl ?_
                  refine wi_iconst (n := 3) (nx := 188) (r1 := 0) (r2 := 0) (r3 := 0) rfl ?_
                  refine wr_V (k0 := 236) (rest := [vi 7, .ref 239]) (as := [.ref 236, vi 0, vi 3]) (nx := 191) (r1 := 231) (r2 := 2) (r3 := 11) rfl rfl rfl (of_decide_eq_true rfl) rfl rfl (by decide) rfl rfl (of_decide_eq_true rfl) (of_decide_eq_true rfl) ?_
                  have e68 : h65 236 4 = h55 236 4 := (u65 236 4 rfl)
                  have e69 : h65 236 3 = h 236 3 := ((u65 236 3 rfl).trans (u55 236 3 rfl))
                  have e70 : h65 236 8 = h55 236 8 := (u65 236 8 rfl)
                  have e71 : h65 236 5 = h55 236 5 := (u65 236 5 rfl)
                  have e72 : h65 236 6 = h55 236 6 := (u65 236 6 rfl)
                  have e73 : h65 236 12 = h55 236 12 := (u65 236 12 rfl)
                  have e74 : h65 236 7 = h55 236 7 := (u65 236 7 rfl)
                  have rb76 := RefB.fr u55 rfl xq0
                  have rb77 := RefB.fr u65 rfl rb76
                  refine ct_231_236 hcr  g65 0 3 (by omega) (by omega) (show (h65 236 4) ≤ (h65 236 3) by omega) (show 0 ≤ tp by omega) (show tp ≤ tn by omega) (show tp ≤ tk_nx tB tn tp ∧ tk_nx tB tn tp ≤ tn by omega) (show 1 ≤ (h65 236 8) ∨ ((h65 236 4) = tk_nx tB tn tp ∧ (h65 236 5) = tk_st tB tn tp ∧ ((tk_kd tB tn tp = 0 ∧ (h65 236 6) = 0) ∨ (tk_kd tB tn tp = 1 ∧ (h65 236 6) = 1 ∧ (h65 236 12) = tk_sw tB tn tp) ∨ (tk_kd tB tn tp = 2 ∧ (h65 236 6) = 2 ∧ (h65 236 7) = tk_nb tB tn tp) ∨ (tk_kd tB tn tp = 3 ∧ (h65 236 6) = 3 ∧ (h65 236 7) = 59) ∨ (tk_kd tB tn tp = 4 ∧ (h65 236 6) = 3 ∧ (h65 236 7) = 40) ∨ (tk_kd tB tn tp = 5 ∧ (h65 236 6) = 3 ∧ (h65 236 7) = 41) ∨ (tk_kd tB tn tp = 6 ∧ (h65 236 6) = 4))) from (Or.inl (by omega))) rb77 (fun h67 z75 g67 u67 (fz75 : 0 ≤ z75 ∧ z75 ≤ 999) (p67_0 : (1 ≤ (h65 236 8) ∧ (h67 236 8) = (h65 236 8) ∧ (h67 236 9) = (h65 236 9)) ∨ ((h65 236 8) = 0 ∧ tk_kd tB tn tp = 2 ∧ 0 ≤ tk_nb tB tn tp ∧ tk_nb tB tn tp ≤ 3 ∧ z75 = tk_nb tB tn tp ∧ (h67 236 8) = (h65 236 8) ∧ (h67 236 9) = (h65 236 9) ∧ ((h67 236 4) = tk_nx tB tn (tk_nx tB tn tp) ∧ (h67 236 5) = tk_st tB tn (tk_nx tB tn tp) ∧ ((tk_kd tB tn (tk_nx tB tn tp) = 0 ∧ (h67 236 6) = 0) ∨ (tk_kd tB tn (tk_nx tB tn tp) = 1 ∧ (h67 236 6) = 1 ∧ (h67 236 12) = tk_sw tB tn (tk_nx tB tn tp)) ∨ (tk_kd tB tn (tk_nx tB tn tp) = 2 ∧ (h67 236 6) = 2 ∧ (h67 236 7) = tk_nb tB tn (tk_nx tB tn tp)) ∨ (tk_kd tB tn (tk_nx tB tn tp) = 3 ∧ (h67 236 6) = 3 ∧ (h67 236 7) = 59) ∨ (tk_kd tB tn (tk_nx tB tn tp) = 4 ∧ (h67 236 6) = 3 ∧ (h67 236 7) = 40) ∨ (tk_kd tB tn (tk_nx tB tn tp) = 5 ∧ (h67 236 6) = 3 ∧ (h67 236 7) = 41) ∨ (tk_kd tB tn (tk_nx tB tn tp) = 6 ∧ (h67 236 6) = 4)))) ∨ ((h65 236 8) = 0 ∧ tk_kd tB tn tp ≠ 2 ∧ (h67 236 8) = 1 ∧ (h67 236 9) = tk_st tB tn tp) ∨ ((h65 236 8) = 0 ∧ tk_kd tB tn tp = 2 ∧ (tk_nb tB tn tp < 0 ∨ 3 < tk_nb tB tn tp) ∧ (h67 236 8) = 2 ∧ (h67 236 9) = tk_st tB tn tp)) (p67_1 : (h65 236 4) ≤ (h67 236 4)) (p67_2 : (h67 236 4) ≤ (h65 236 3)) (p67_3 : 1 ≤ (h67 236 8) ∨ (h65 236 8) = 0) (p67_4 : 1 ≤ (h67 236 8) ∨ (0 ≤ z75 ∧ z75 ≤ 3)) (p67_5 : 1 ≤ (h67 236 8) ∨ (h65 236 6) = 2) => ?_)
                  have F78 := F66.then (by decide +kernel) u67
                  have e79 : h65 236 9 = h55 236 9 := (u65 236 9 rfl)
                  have b80 := gi_b (lo := 0) (hi := 5) g67 236 8 rfl
                  have b81 := gi_b (lo := -2147483648) (hi := 2147483647) g67 236 9 rfl
                  have b82 := gi_b (lo := 0) (hi := 800) g67 236 4 rfl
                  have b83 := gi_b (lo := 0) (hi := 800) g67 236 5 rfl
                  have b84 := gi_b (lo := 0) (hi := 4) g67 236 6 rfl
                  have b85 := gi_b (lo := -9223372036854775808) (hi := 9223372036854775807) g67 236 12 rfl
                  have b86 := gi_b (lo := 0) (hi := 999) g67 236 7 rfl
                  refine wk_i ?_
                  rcases p67_0 with p67_0 | p67_0 | p67_0 | p67_0
                  ·
                    refine wr_is (k0 := 239) (a := 7) (f := 7) (x := z75) (bl := 0) (bh := 999) (nx := 192) (r1 := 0) (r2 := 0) (r3 := 0) rfl (by decide) rfl (by omega) (by omega) (by decide) g67 rfl (by omega) (fun h87 g87 w87 u87 => ?_)
                    have F88 := F78.then rfl u87
                    refine wi_aload_n (i := 0) (x := 236) (nx := 193) (r1 := 0) (r2 := 0) (r3 := 0) rfl rfl ?_
                    refine wr_gr (k0 := 236) (x := 239) (nx := 196) (r1 := 11) (r2 := 14) (r3 := 0) rfl rfl (by decide) rfl ⟨rfl, rfl⟩ rfl ?_
                    refine wi_bipush (n := 8) (nx := 198) (r1 := 0) (r2 := 0) (r3 := 0) rfl (by decide) ?_
                    refine wi_aload_n (i := 0) (x := 236) (nx := 199) (r1 := 0) (r2 := 0) (r3 := 0) rfl rfl ?_
                    refine wi_ldc2_w (e := 4370489) (nx := 202) (r1 := 4370489) (r2 := 0) (r3 := 0) rfl (by decide) ?_
                    refine wi_iconst (n := 0) (nx := 203) (r1 := 0) (r2 := 0) (r3 := 0) rfl ?_
                    refine wi_bipush (n := 9) (nx := 205) (r1 := 0) (r2 := 0) (r3 := 0) rfl (by decide) ?_
                    have wk89 : tk_kd tB tn tp = 1 → (tk_sw tB tn tp = 4370489 ↔ tk_wd (tk_lw tB tn tp) = 11) := fun e => tk_wk 10 (by decide) (by omega) (by omega) e
                    refine wr_V (k0 := 236) (rest := [vi 8, .ref 239]) (as := [.ref 236, vl 4370489, vi 0, vi 9]) (nx := 208) (r1 := 228) (r2 := 3) (r3 := 11) rfl rfl rfl (of_decide_eq_true rfl) rfl rfl (by decide) rfl rfl (of_decide_eq_true rfl) (of_decide_eq_true rfl) ?_
                    have e91 : h87 236 4 = h67 236 4 := (u87 236 4 rfl)
                    have e92 : h87 236 3 = h 236 3 := ((u87 236 3 rfl).trans ((u67 236 3 rfl).trans ((u65 236 3 rfl).trans (u55 236 3 rfl))))
                    have e93 : h87 236 8 = h67 236 8 := (u87 236 8 rfl)
                    have e94 : h87 236 5 = h67 236 5 := (u87 236 5 rfl)
                    have e95 : h87 236 6 = h67 236 6 := (u87 236 6 rfl)
                    have e96 : h87 236 12 = h67 236 12 := (u87 236 12 rfl)
                    have e97 : h87 236 7 = h67 236 7 := (u87 236 7 rfl)
                    have rb99 := RefB.fr u67 rfl rb77
                    have rb100 := RefB.fr u87 rfl rb99
                    refine ct_228_236 hcr  g87 4370489 0 9 (by omega) (by omega) (by omega) (show (h87 236 4) ≤ (h87 236 3) by omega) (show 0 ≤ tp by omega) (show tp ≤ tn by omega) (show tp ≤ tk_nx tB tn tp ∧ tk_nx tB tn tp ≤ tn by omega) (show 1 ≤ (h87 236 8) ∨ ((h87 236 4) = tk_nx tB tn tp ∧ (h87 236 5) = tk_st tB tn tp ∧ ((tk_kd tB tn tp = 0 ∧ (h87 236 6) = 0) ∨ (tk_kd tB tn tp = 1 ∧ (h87 236 6) = 1 ∧ (h87 236 12) = tk_sw tB tn tp) ∨ (tk_kd tB tn tp = 2 ∧ (h87 236 6) = 2 ∧ (h87 236 7) = tk_nb tB tn tp) ∨ (tk_kd tB tn tp = 3 ∧ (h87 236 6) = 3 ∧ (h87 236 7) = 59) ∨ (tk_kd tB tn tp = 4 ∧ (h87 236 6) = 3 ∧ (h87 236 7) = 40) ∨ (tk_kd tB tn tp = 5 ∧ (h87 236 6) = 3 ∧ (h87 236 7) = 41) ∨ (tk_kd tB tn tp = 6 ∧ (h87 236 6) = 4))) from (Or.inl (by omega))) rb100 (fun h90 z98 g90 u90 (fz98 : 0 ≤ z98 ∧ z98 ≤ 999) (p90_0 : (1 ≤ (h87 236 8) ∧ (h90 236 8) = (h87 236 8) ∧ (h90 236 9) = (h87 236 9)) ∨ ((h87 236 8) = 0 ∧ tk_kd tB tn tp = 1 ∧ tk_sw tB tn tp = 4370489 ∧ tk_kd tB tn (tk_nx tB tn tp) = 2 ∧ 0 ≤ tk_nb tB tn (tk_nx tB tn tp) ∧ tk_nb tB tn (tk_nx tB tn tp) ≤ 9 ∧ z98 = tk_nb tB tn (tk_nx tB tn tp) ∧ (h90 236 8) = (h87 236 8) ∧ (h90 236 9) = (h87 236 9) ∧ ((h90 236 4) = tk_nx tB tn (tk_nx tB tn (tk_nx tB tn tp)) ∧ (h90 236 5) = tk_st tB tn (tk_nx tB tn (tk_nx tB tn tp)) ∧ ((tk_kd tB tn (tk_nx tB tn (tk_nx tB tn tp)) = 0 ∧ (h90 236 6) = 0) ∨ (tk_kd tB tn (tk_nx tB tn (tk_nx tB tn tp)) = 1 ∧ (h90 236 6) = 1 ∧ (h90 236 12) = tk_sw tB tn (tk_nx tB tn (tk_nx tB tn tp))) ∨ (tk_kd tB tn (tk_nx tB tn (tk_nx tB tn tp)) = 2 ∧ (h90 236 6) = 2 ∧ (h90 236 7) = tk_nb tB tn (tk_nx tB tn (tk_nx tB tn tp))) ∨ (tk_kd tB tn (tk_nx tB tn (tk_nx tB tn tp)) = 3 ∧ (h90 236 6) = 3 ∧ (h90 236 7) = 59) ∨ (tk_kd tB tn (tk_nx tB tn (tk_nx tB tn tp)) = 4 ∧ (h90 236 6) = 3 ∧ (h90 236 7) = 40) ∨ (tk_kd tB tn (tk_nx tB tn (tk_nx tB tn tp)) = 5 ∧ (h90 236 6) = 3 ∧ (h90 236 7) = 41) ∨ (tk_kd tB tn (tk_nx tB tn (tk_nx tB tn tp)) = 6 ∧ (h90 236 6) = 4)))) ∨ ((h87 236 8) = 0 ∧ (tk_kd tB tn tp ≠ 1 ∨ tk_sw tB tn tp ≠ 4370489) ∧ (h90 236 8) = 1 ∧ (h90 236 9) = tk_st tB tn tp) ∨ ((h87 236 8) = 0 ∧ tk_kd tB tn tp = 1 ∧ tk_sw tB tn tp = 4370489 ∧ tk_kd tB tn (tk_nx tB tn tp) ≠ 2 ∧ (h90 236 8) = 1 ∧ (h90 236 9) = tk_st tB tn (tk_nx tB tn tp)) ∨ ((h87 236 8) = 0 ∧ tk_kd tB tn tp = 1 ∧ tk_sw tB tn tp = 4370489 ∧ tk_kd tB tn (tk_nx tB tn tp) = 2 ∧ (tk_nb tB tn (tk_nx tB tn tp) < 0 ∨ 9 < tk_nb tB tn (tk_nx tB tn tp)) ∧ (h90 236 8) = 2 ∧ (h90 236 9) = tk_st tB tn (tk_nx tB tn tp))) (p90_1 : (h87 236 4) ≤ (h90 236 4)) (p90_2 : (h90 236 4) ≤ (h87 236 3)) (p90_3 : 1 ≤ (h90 236 8) ∨ (h87 236 8) = 0) (p90_4 : 1 ≤ (h90 236 8) ∨ (0 ≤ z98 ∧ z98 ≤ 9)) => ?_)
                    have F101 := F88.then (by decide +kernel) u90
                    have e102 : h87 236 9 = h67 236 9 := (u87 236 9 rfl)
                    have b103 := gi_b (lo := 0) (hi := 5) g90 236 8 rfl
                    have b104 := gi_b (lo := -2147483648) (hi := 2147483647) g90 236 9 rfl
                    have b105 := gi_b (lo := 0) (hi := 800) g90 236 4 rfl
                    have b106 := gi_b (lo := 0) (hi := 800) g90 236 5 rfl
                    have b107 := gi_b (lo := 0) (hi := 4) g90 236 6 rfl
                    have b108 := gi_b (lo := -9223372036854775808) (hi := 9223372036854775807) g90 236 12 rfl
                    have b109 := gi_b (lo := 0) (hi := 999) g90 236 7 rfl
                    refine wk_i ?_
                    rcases p90_0 with p90_0 | p90_0 | p90_0 | p90_0 | p90_0
                    ·
                      refine wr_is (k0 := 239) (a := 8) (f := 8) (x := z98) (bl := 0) (bh := 999) (nx := 209) (r1 := 0) (r2 := 0) (r3 := 0) rfl (by decide) rfl (by omega) (by omega) (by decide) g90 rfl (by omega) (fun h110 g110 w110 u110 => ?_)
                      have F111 := F101.then rfl u110
                      refine wi_goto (nx := 212) (r1 := 256) (r2 := 0) (r3 := 0) rfl ?_
                      refine wi_return (nx := 257) (r1 := 0) (r2 := 0) (r3 := 0) rfl rfl ?_
                      have e112 : h110 236 8 = h90 236 8 := (u110 236 8 rfl)
                      have e113 : h110 236 4 = h90 236 4 := (u110 236 4 rfl)
                      have e114 : h110 239 5 = h 239 5 := ((u110 239 5 rfl).trans ((u90 239 5 rfl).trans ((u87 239 5 rfl).trans ((u67 239 5 rfl).trans ((u65 239 5 rfl).trans (u55 239 5 rfl))))))
                      have e115 : h110 239 7 = z75 := ((u110 239 7 rfl).trans ((u90 239 7 rfl).trans w87))
                      have e116 : h110 239 15 = h 239 15 := ((u110 239 15 rfl).trans ((u90 239 15 rfl).trans ((u87 239 15 rfl).trans ((u67 239 15 rfl).trans ((u65 239 15 rfl).trans (u55 239 15 rfl))))))
                      have e117 : h110 239 16 = h 239 16 := ((u110 239 16 rfl).trans ((u90 239 16 rfl).trans ((u87 239 16 rfl).trans ((u67 239 16 rfl).trans ((u65 239 16 rfl).trans (u55 239 16 rfl))))))
                      have e118 : h110 239 17 = h 239 17 := ((u110 239 17 rfl).trans ((u90 239 17 rfl).trans ((u87 239 17 rfl).trans ((u67 239 17 rfl).trans ((u65 239 17 rfl).trans (u55 239 17 rfl))))))
                      have e119 : h110 239 18 = h 239 18 := ((u110 239 18 rfl).trans ((u90 239 18 rfl).trans ((u87 239 18 rfl).trans ((u67 239 18 rfl).trans ((u65 239 18 rfl).trans (u55 239 18 rfl))))))
                      have e120 : h110 236 9 = h90 236 9 := (u110 236 9 rfl)
                      exact k h110 g110 F111 (show (h110 236 8) = 0 ∨ 1 ≤ (h110 236 8) by omega) (show (h 236 4) ≤ (h110 236 4) by omega) (show (h110 236 4) ≤ (h 236 3) by omega) (show 1 ≤ (h110 236 8) ∨ ((h110 239 5) ≤ 9 ∧ 1 ≤ (h110 239 5) ∧ (h110 239 7) ≤ 3 ∧ (h110 239 15) ≤ 6 ∧ (h110 239 16) ≤ 6 ∧ (h110 239 17) ≤ 6 ∧ (h110 239 18) ≤ 6) by omega) (show (h110 236 8) ≠ 0 ∨ (h110 236 9) = -1 by omega) (by unfold tk_stm; (repeat (first | rw [if_pos (by omega)] | rw [if_neg (by omega)])); exact (by unfold tk_rework tk_once tk_wrd tk_num; (try dsimp only); (repeat (first | rw [if_pos (by omega)] | rw [if_neg (by omega)])); (repeat ((first | unfold tk_once | unfold tk_wrd | unfold tk_num); (try dsimp only); (repeat (first | rw [if_pos (by omega)] | rw [if_neg (by omega)])))); first | exact tk_ORe (by omega) (by omega) (by omega) | ((repeat' split) <;> (first | exact tk_ORe (by omega) (by omega) (by omega) | (exfalso; omega)))))
                    ·
                      have tk110 := p90_0.2.2.2.2.2.2.2.2.2
                      have tN111 := @tk_nx_b tB tn (tk_nx tB tn tp) (by omega) (by omega)
                      have tN112 := @tk_nx_b tB tn (tk_nx tB tn (tk_nx tB tn tp)) (by omega) (by omega)
                      exfalso; omega
                    ·
                      exfalso; omega
                    ·
                      have tN110 := @tk_nx_b tB tn tp (by omega) (by omega)
                      exfalso; omega
                    ·
                      have tN110 := @tk_nx_b tB tn tp (by omega) (by omega)
                      exfalso; omega
                  ·
                    have tk87 := p67_0.2.2.2.2.2.2.2
                    have tN88 := @tk_nx_b tB tn (tk_nx tB tn tp) (by omega) (by omega)
                    exfalso; omega
                  ·
                    exfalso; omega
                  ·
                    exfalso; omega
            ·
              refine wi_iconst (n := 1) (nx := 25) (r1 := 0) (r2 := 0) (r3 := 0) rfl ?_
              refine wi_goto (nx := 28) (r1 := 29) (r2 := 0) (r3 := 0) rfl ?_
              refine wi_zreturn (nx := 30) (r1 := 0) (r2 := 0) (r3 := 0) rfl rfl (by omega) ?_
              refine wk_i ?_
              refine wi_if (cd := .eq) (nx := 112) (r1 := 157) (r2 := 0) (r3 := 0) rfl (by omega) (fun (q47 : 1 = 0) => by exfalso; omega) (fun (q47 : ¬ (1 = 0)) => ?_)
              refine wi_aload_n (i := 0) (x := 236) (nx := 113) (r1 := 0) (r2 := 0) (r3 := 0) rfl rfl ?_
              refine wi_aload_n (i := 0) (x := 236) (nx := 114) (r1 := 0) (r2 := 0) (r3 := 0) rfl rfl ?_
              refine wi_aload_n (i := 0) (x := 236) (nx := 115) (r1 := 0) (r2 := 0) (r3 := 0) rfl rfl ?_
              have b48 := gi_b (lo := 0) (hi := 1) g 236 24 rfl
              refine wr_gi2 (k0 := 236) (x := h 236 24) (nx := 118) (r1 := 11) (r2 := 24) (r3 := 0) rfl rfl (by decide) rfl ⟨rfl, rfl⟩ rfl rfl ?_
              refine wr_V (k0 := 236) (rest := [.ref 236]) (as := [.ref 236, vi (h 236 24)]) (nx := 121) (r1 := 234) (r2 := 1) (r3 := 11) rfl rfl rfl (of_decide_eq_true rfl) rfl rfl (by decide) rfl rfl (of_decide_eq_true rfl) (of_decide_eq_true rfl) ?_
              refine ct_234_236 hcr  g (h 236 24) (by omega) (show (h 236 4) ≤ (h 236 3) by omega) (show 0 ≤ tp by omega) (show tp ≤ tn by omega) (show tp ≤ tk_nx tB tn tp ∧ tk_nx tB tn tp ≤ tn by omega) (show 1 ≤ (h 236 8) ∨ ((h 236 4) = tk_nx tB tn tp ∧ (h 236 5) = tk_st tB tn tp ∧ ((tk_kd tB tn tp = 0 ∧ (h 236 6) = 0) ∨ (tk_kd tB tn tp = 1 ∧ (h 236 6) = 1 ∧ (h 236 12) = tk_sw tB tn tp) ∨ (tk_kd tB tn tp = 2 ∧ (h 236 6) = 2 ∧ (h 236 7) = tk_nb tB tn tp) ∨ (tk_kd tB tn tp = 3 ∧ (h 236 6) = 3 ∧ (h 236 7) = 59) ∨ (tk_kd tB tn tp = 4 ∧ (h 236 6) = 3 ∧ (h 236 7) = 40) ∨ (tk_kd tB tn tp = 5 ∧ (h 236 6) = 3 ∧ (h 236 7) = 41) ∨ (tk_kd tB tn tp = 6 ∧ (h 236 6) = 4))) from (Or.inr (show ((h 236 4) = tk_nx tB tn tp ∧ (h 236 5) = tk_st tB tn tp ∧ ((tk_kd tB tn tp = 0 ∧ (h 236 6) = 0) ∨ (tk_kd tB tn tp = 1 ∧ (h 236 6) = 1 ∧ (h 236 12) = tk_sw tB tn tp) ∨ (tk_kd tB tn tp = 2 ∧ (h 236 6) = 2 ∧ (h 236 7) = tk_nb tB tn tp) ∨ (tk_kd tB tn tp = 3 ∧ (h 236 6) = 3 ∧ (h 236 7) = 59) ∨ (tk_kd tB tn tp = 4 ∧ (h 236 6) = 3 ∧ (h 236 7) = 40) ∨ (tk_kd tB tn tp = 5 ∧ (h 236 6) = 3 ∧ (h 236 7) = 41) ∨ (tk_kd tB tn tp = 6 ∧ (h 236 6) = 4))) by first | assumption | exact tk_mv (by assumption) (by omega) (by omega) (by omega) (by omega) (by omega)))) (show tk_kd tB tn tp = 1 by omega) xq0 (fun h49 z50 g49 u49 (fz50 : 1 ≤ z50 ∧ z50 ≤ 1) (p49_0 : (1 ≤ (h 236 8) ∧ (h49 236 8) = (h 236 8) ∧ (h49 236 9) = (h 236 9)) ∨ ((h 236 8) = 0 ∧ (h 236 24) = 0 ∧ (h49 236 8) = (h 236 8) ∧ (h49 236 9) = (h 236 9) ∧ ((h49 236 4) = tk_nx tB tn (tk_nx tB tn tp) ∧ (h49 236 5) = tk_st tB tn (tk_nx tB tn tp) ∧ ((tk_kd tB tn (tk_nx tB tn tp) = 0 ∧ (h49 236 6) = 0) ∨ (tk_kd tB tn (tk_nx tB tn tp) = 1 ∧ (h49 236 6) = 1 ∧ (h49 236 12) = tk_sw tB tn (tk_nx tB tn tp)) ∨ (tk_kd tB tn (tk_nx tB tn tp) = 2 ∧ (h49 236 6) = 2 ∧ (h49 236 7) = tk_nb tB tn (tk_nx tB tn tp)) ∨ (tk_kd tB tn (tk_nx tB tn tp) = 3 ∧ (h49 236 6) = 3 ∧ (h49 236 7) = 59) ∨ (tk_kd tB tn (tk_nx tB tn tp) = 4 ∧ (h49 236 6) = 3 ∧ (h49 236 7) = 40) ∨ (tk_kd tB tn (tk_nx tB tn tp) = 5 ∧ (h49 236 6) = 3 ∧ (h49 236 7) = 41) ∨ (tk_kd tB tn (tk_nx tB tn tp) = 6 ∧ (h49 236 6) = 4)))) ∨ ((h 236 8) = 0 ∧ (h 236 24) = 1 ∧ (h49 236 8) = 3 ∧ (h49 236 9) = tk_st tB tn tp)) (p49_1 : (h 236 4) ≤ (h49 236 4)) (p49_2 : (h49 236 4) ≤ (h 236 3)) (p49_3 : 1 ≤ (h49 236 8) ∨ (h 236 8) = 0) (p49_4 : z50 = 1) => ?_)
              have F51 := F0.then (by decide +kernel) u49
              have b52 := gi_b (lo := 0) (hi := 5) g49 236 8 rfl
              have b53 := gi_b (lo := -2147483648) (hi := 2147483647) g49 236 9 rfl
              have b54 := gi_b (lo := 0) (hi := 800) g49 236 4 rfl
              have b55 := gi_b (lo := 0) (hi := 800) g49 236 5 rfl
              have b56 := gi_b (lo := 0) (hi := 4) g49 236 6 rfl
              have b57 := gi_b (lo := -9223372036854775808) (hi := 9223372036854775807) g49 236 12 rfl
              have b58 := gi_b (lo := 0) (hi := 999) g49 236 7 rfl
              refine wk_i ?_
              rcases p49_0 with p49_0 | p49_0 | p49_0
              ·
                exfalso; omega
              ·
                have tk59 := p49_0.2.2.2.2
                have tN60 := @tk_nx_b tB tn (tk_nx tB tn tp) (by omega) (by omega)
                refine wr_pf2 (k0 := 236) (x := z50) (bl := 0) (bh := 1) (nx := 124) (r1 := 11) (r2 := 24) (r3 := 2) rfl (by decide) rfl ⟨rfl, rfl⟩ rfl (by omega) rfl g49 rfl (by omega) (fun h61 g61 w61 u61 => ?_)
                have F62 := F51.then rfl u61
                refine wi_aload_n (i := 0) (x := 236) (nx := 125) (r1 := 0) (r2 := 0) (r3 := 0) rfl rfl ?_
                refine wr_gr (k0 := 236) (x := 239) (nx := 128) (r1 := 11) (r2 := 14) (r3 := 0) rfl rfl (by decide) rfl ⟨rfl, rfl⟩ rfl ?_
                refine wi_iconst (n := 5) (nx := 129) (r1 := 0) (r2 := 0) (r3 := 0) rfl ?_
                refine wi_aload_n (i := 0) (x := 236) (nx := 130) (r1 := 0) (r2 := 0) (r3 := 0) rfl rfl ?_
                refine wi_iconst (n := 1) (nx := 131) (r1 := 0) (r2 := 0) (r3 := 0) rfl ?_
                refine wi_bipush (n := 9) (nx := 133) (r1 := 0) (r2 := 0) (r3 := 0) rfl (by decide) ?_
                refine wr_V (k0 := 236) (rest := [vi 5, .ref 239]) (as := [.ref 236, vi 1, vi 9]) (nx := 136) (r1 := 231) (r2 := 2) (r3 := 11) rfl rfl rfl (of_decide_eq_true rfl) rfl rfl (by decide) rfl rfl (of_decide_eq_true rfl) (of_decide_eq_true rfl) ?_
                have e64 : h61 236 4 = h49 236 4 := (u61 236 4 rfl)
                have e65 : h61 236 3 = h 236 3 := ((u61 236 3 rfl).trans (u49 236 3 rfl))
                have e66 : h61 236 8 = h49 236 8 := (u61 236 8 rfl)
                have e67 : h61 236 5 = h49 236 5 := (u61 236 5 rfl)
                have e68 : h61 236 6 = h49 236 6 := (u61 236 6 rfl)
                have e69 : h61 236 12 = h49 236 12 := (u61 236 12 rfl)
                have e70 : h61 236 7 = h49 236 7 := (u61 236 7 rfl)
                have rb72 := RefB.fr u49 rfl xq0
                have rb73 := RefB.fr u61 rfl rb72
                refine ct_231_236 hcr  g61 1 9 (by omega) (by omega) (show (h61 236 4) ≤ (h61 236 3) by omega) (show 0 ≤ (tk_nx tB tn tp) by omega) (show (tk_nx tB tn tp) ≤ tn by omega) (show (tk_nx tB tn tp) ≤ tk_nx tB tn (tk_nx tB tn tp) ∧ tk_nx tB tn (tk_nx tB tn tp) ≤ tn by omega) (show 1 ≤ (h61 236 8) ∨ ((h61 236 4) = tk_nx tB tn (tk_nx tB tn tp) ∧ (h61 236 5) = tk_st tB tn (tk_nx tB tn tp) ∧ ((tk_kd tB tn (tk_nx tB tn tp) = 0 ∧ (h61 236 6) = 0) ∨ (tk_kd tB tn (tk_nx tB tn tp) = 1 ∧ (h61 236 6) = 1 ∧ (h61 236 12) = tk_sw tB tn (tk_nx tB tn tp)) ∨ (tk_kd tB tn (tk_nx tB tn tp) = 2 ∧ (h61 236 6) = 2 ∧ (h61 236 7) = tk_nb tB tn (tk_nx tB tn tp)) ∨ (tk_kd tB tn (tk_nx tB tn tp) = 3 ∧ (h61 236 6) = 3 ∧ (h61 236 7) = 59) ∨ (tk_kd tB tn (tk_nx tB tn tp) = 4 ∧ (h61 236 6) = 3 ∧ (h61 236 7) = 40) ∨ (tk_kd tB tn (tk_nx tB tn tp) = 5 ∧ (h61 236 6) = 3 ∧ (h61 236 7) = 41) ∨ (tk_kd tB tn (tk_nx tB tn tp) = 6 ∧ (h61 236 6) = 4))) from (Or.inr (show ((h61 236 4) = tk_nx tB tn (tk_nx tB tn tp) ∧ (h61 236 5) = tk_st tB tn (tk_nx tB tn tp) ∧ ((tk_kd tB tn (tk_nx tB tn tp) = 0 ∧ (h61 236 6) = 0) ∨ (tk_kd tB tn (tk_nx tB tn tp) = 1 ∧ (h61 236 6) = 1 ∧ (h61 236 12) = tk_sw tB tn (tk_nx tB tn tp)) ∨ (tk_kd tB tn (tk_nx tB tn tp) = 2 ∧ (h61 236 6) = 2 ∧ (h61 236 7) = tk_nb tB tn (tk_nx tB tn tp)) ∨ (tk_kd tB tn (tk_nx tB tn tp) = 3 ∧ (h61 236 6) = 3 ∧ (h61 236 7) = 59) ∨ (tk_kd tB tn (tk_nx tB tn tp) = 4 ∧ (h61 236 6) = 3 ∧ (h61 236 7) = 40) ∨ (tk_kd tB tn (tk_nx tB tn tp) = 5 ∧ (h61 236 6) = 3 ∧ (h61 236 7) = 41) ∨ (tk_kd tB tn (tk_nx tB tn tp) = 6 ∧ (h61 236 6) = 4))) by first | assumption | exact tk_mv (by assumption) (by omega) (by omega) (by omega) (by omega) (by omega)))) rb73 (fun h63 z71 g63 u63 (fz71 : 0 ≤ z71 ∧ z71 ≤ 999) (p63_0 : (1 ≤ (h61 236 8) ∧ (h63 236 8) = (h61 236 8) ∧ (h63 236 9) = (h61 236 9)) ∨ ((h61 236 8) = 0 ∧ tk_kd tB tn (tk_nx tB tn tp) = 2 ∧ 1 ≤ tk_nb tB tn (tk_nx tB tn tp) ∧ tk_nb tB tn (tk_nx tB tn tp) ≤ 9 ∧ z71 = tk_nb tB tn (tk_nx tB tn tp) ∧ (h63 236 8) = (h61 236 8) ∧ (h63 236 9) = (h61 236 9) ∧ ((h63 236 4) = tk_nx tB tn (tk_nx tB tn (tk_nx tB tn tp)) ∧ (h63 236 5) = tk_st tB tn (tk_nx tB tn (tk_nx tB tn tp)) ∧ ((tk_kd tB tn (tk_nx tB tn (tk_nx tB tn tp)) = 0 ∧ (h63 236 6) = 0) ∨ (tk_kd tB tn (tk_nx tB tn (tk_nx tB tn tp)) = 1 ∧ (h63 236 6) = 1 ∧ (h63 236 12) = tk_sw tB tn (tk_nx tB tn (tk_nx tB tn tp))) ∨ (tk_kd tB tn (tk_nx tB tn (tk_nx tB tn tp)) = 2 ∧ (h63 236 6) = 2 ∧ (h63 236 7) = tk_nb tB tn (tk_nx tB tn (tk_nx tB tn tp))) ∨ (tk_kd tB tn (tk_nx tB tn (tk_nx tB tn tp)) = 3 ∧ (h63 236 6) = 3 ∧ (h63 236 7) = 59) ∨ (tk_kd tB tn (tk_nx tB tn (tk_nx tB tn tp)) = 4 ∧ (h63 236 6) = 3 ∧ (h63 236 7) = 40) ∨ (tk_kd tB tn (tk_nx tB tn (tk_nx tB tn tp)) = 5 ∧ (h63 236 6) = 3 ∧ (h63 236 7) = 41) ∨ (tk_kd tB tn (tk_nx tB tn (tk_nx tB tn tp)) = 6 ∧ (h63 236 6) = 4)))) ∨ ((h61 236 8) = 0 ∧ tk_kd tB tn (tk_nx tB tn tp) ≠ 2 ∧ (h63 236 8) = 1 ∧ (h63 236 9) = tk_st tB tn (tk_nx tB tn tp)) ∨ ((h61 236 8) = 0 ∧ tk_kd tB tn (tk_nx tB tn tp) = 2 ∧ (tk_nb tB tn (tk_nx tB tn tp) < 1 ∨ 9 < tk_nb tB tn (tk_nx tB tn tp)) ∧ (h63 236 8) = 2 ∧ (h63 236 9) = tk_st tB tn (tk_nx tB tn tp))) (p63_1 : (h61 236 4) ≤ (h63 236 4)) (p63_2 : (h63 236 4) ≤ (h61 236 3)) (p63_3 : 1 ≤ (h63 236 8) ∨ (h61 236 8) = 0) (p63_4 : 1 ≤ (h63 236 8) ∨ (1 ≤ z71 ∧ z71 ≤ 9)) (p63_5 : 1 ≤ (h63 236 8) ∨ (h61 236 6) = 2) => ?_)
                have F74 := F62.then (by decide +kernel) u63
                have e75 : h61 236 9 = h49 236 9 := (u61 236 9 rfl)
                have b76 := gi_b (lo := 0) (hi := 5) g63 236 8 rfl
                have b77 := gi_b (lo := -2147483648) (hi := 2147483647) g63 236 9 rfl
                have b78 := gi_b (lo := 0) (hi := 800) g63 236 4 rfl
                have b79 := gi_b (lo := 0) (hi := 800) g63 236 5 rfl
                have b80 := gi_b (lo := 0) (hi := 4) g63 236 6 rfl
                have b81 := gi_b (lo := -9223372036854775808) (hi := 9223372036854775807) g63 236 12 rfl
                have b82 := gi_b (lo := 0) (hi := 999) g63 236 7 rfl
                refine wk_i ?_
                rcases p63_0 with p63_0 | p63_0 | p63_0 | p63_0
                ·
                  exfalso; omega
                ·
                  have tk83 := p63_0.2.2.2.2.2.2.2
                  have tN84 := @tk_nx_b tB tn (tk_nx tB tn (tk_nx tB tn tp)) (by omega) (by omega)
                  refine wr_is (k0 := 239) (a := 5) (f := 5) (x := z71) (bl := 0) (bh := 999) (nx := 137) (r1 := 0) (r2 := 0) (r3 := 0) rfl (by decide) rfl (by omega) (by omega) (by decide) g63 rfl (by omega) (fun h85 g85 w85 u85 => ?_)
                  have F86 := F74.then rfl u85
                  refine wi_aload_n (i := 0) (x := 236) (nx := 138) (r1 := 0) (r2 := 0) (r3 := 0) rfl rfl ?_
                  refine wr_gr (k0 := 236) (x := 239) (nx := 141) (r1 := 11) (r2 := 14) (r3 := 0) rfl rfl (by decide) rfl ⟨rfl, rfl⟩ rfl ?_
                  refine wi_bipush (n := 6) (nx := 143) (r1 := 0) (r2 := 0) (r3 := 0) rfl (by decide) ?_
                  refine wi_aload_n (i := 0) (x := 236) (nx := 144) (r1 := 0) (r2 := 0) (r3 := 0) rfl rfl ?_
                  refine wi_ldc2_w (e := 17484005) (nx := 147) (r1 := 17484005) (r2 := 0) (r3 := 0) rfl (by decide) ?_
                  refine wi_iconst (n := 0) (nx := 148) (r1 := 0) (r2 := 0) (r3 := 0) rfl ?_
                  refine wi_bipush (n := 99) (nx := 150) (r1 := 0) (r2 := 0) (r3 := 0) rfl (by decide) ?_
                  have wk87 : tk_kd tB tn (tk_nx tB tn (tk_nx tB tn tp)) = 1 → (tk_sw tB tn (tk_nx tB tn (tk_nx tB tn tp)) = 17484005 ↔ tk_wd (tk_lw tB tn (tk_nx tB tn (tk_nx tB tn tp))) = 9) := fun e => tk_wk 8 (by decide) (by omega) (by omega) e
                  refine wr_V (k0 := 236) (rest := [vi 6, .ref 239]) (as := [.ref 236, vl 17484005, vi 0, vi 99]) (nx := 153) (r1 := 228) (r2 := 3) (r3 := 11) rfl rfl rfl (of_decide_eq_true rfl) rfl rfl (by decide) rfl rfl (of_decide_eq_true rfl) (of_decide_eq_true rfl) ?_
                  have e89 : h85 236 4 = h63 236 4 := (u85 236 4 rfl)
                  have e90 : h85 236 3 = h 236 3 := ((u85 236 3 rfl).trans ((u63 236 3 rfl).trans ((u61 236 3 rfl).trans (u49 236 3 rfl))))
                  have e91 : h85 236 8 = h63 236 8 := (u85 236 8 rfl)
                  have e92 : h85 236 5 = h63 236 5 := (u85 236 5 rfl)
                  have e93 : h85 236 6 = h63 236 6 := (u85 236 6 rfl)
                  have e94 : h85 236 12 = h63 236 12 := (u85 236 12 rfl)
                  have e95 : h85 236 7 = h63 236 7 := (u85 236 7 rfl)
                  have rb97 := RefB.fr u63 rfl rb73
                  have rb98 := RefB.fr u85 rfl rb97
                  refine ct_228_236 hcr  g85 17484005 0 99 (by omega) (by omega) (by omega) (show (h85 236 4) ≤ (h85 236 3) by omega) (show 0 ≤ (tk_nx tB tn (tk_nx tB tn tp)) by omega) (show (tk_nx tB tn (tk_nx tB tn tp)) ≤ tn by omega) (show (tk_nx tB tn (tk_nx tB tn tp)) ≤ tk_nx tB tn (tk_nx tB tn (tk_nx tB tn tp)) ∧ tk_nx tB tn (tk_nx tB tn (tk_nx tB tn tp)) ≤ tn by omega) (show 1 ≤ (h85 236 8) ∨ ((h85 236 4) = tk_nx tB tn (tk_nx tB tn (tk_nx tB tn tp)) ∧ (h85 236 5) = tk_st tB tn (tk_nx tB tn (tk_nx tB tn tp)) ∧ ((tk_kd tB tn (tk_nx tB tn (tk_nx tB tn tp)) = 0 ∧ (h85 236 6) = 0) ∨ (tk_kd tB tn (tk_nx tB tn (tk_nx tB tn tp)) = 1 ∧ (h85 236 6) = 1 ∧ (h85 236 12) = tk_sw tB tn (tk_nx tB tn (tk_nx tB tn tp))) ∨ (tk_kd tB tn (tk_nx tB tn (tk_nx tB tn tp)) = 2 ∧ (h85 236 6) = 2 ∧ (h85 236 7) = tk_nb tB tn (tk_nx tB tn (tk_nx tB tn tp))) ∨ (tk_kd tB tn (tk_nx tB tn (tk_nx tB tn tp)) = 3 ∧ (h85 236 6) = 3 ∧ (h85 236 7) = 59) ∨ (tk_kd tB tn (tk_nx tB tn (tk_nx tB tn tp)) = 4 ∧ (h85 236 6) = 3 ∧ (h85 236 7) = 40) ∨ (tk_kd tB tn (tk_nx tB tn (tk_nx tB tn tp)) = 5 ∧ (h85 236 6) = 3 ∧ (h85 236 7) = 41) ∨ (tk_kd tB tn (tk_nx tB tn (tk_nx tB tn tp)) = 6 ∧ (h85 236 6) = 4))) from (Or.inr (show ((h85 236 4) = tk_nx tB tn (tk_nx tB tn (tk_nx tB tn tp)) ∧ (h85 236 5) = tk_st tB tn (tk_nx tB tn (tk_nx tB tn tp)) ∧ ((tk_kd tB tn (tk_nx tB tn (tk_nx tB tn tp)) = 0 ∧ (h85 236 6) = 0) ∨ (tk_kd tB tn (tk_nx tB tn (tk_nx tB tn tp)) = 1 ∧ (h85 236 6) = 1 ∧ (h85 236 12) = tk_sw tB tn (tk_nx tB tn (tk_nx tB tn tp))) ∨ (tk_kd tB tn (tk_nx tB tn (tk_nx tB tn tp)) = 2 ∧ (h85 236 6) = 2 ∧ (h85 236 7) = tk_nb tB tn (tk_nx tB tn (tk_nx tB tn tp))) ∨ (tk_kd tB tn (tk_nx tB tn (tk_nx tB tn tp)) = 3 ∧ (h85 236 6) = 3 ∧ (h85 236 7) = 59) ∨ (tk_kd tB tn (tk_nx tB tn (tk_nx tB tn tp)) = 4 ∧ (h85 236 6) = 3 ∧ (h85 236 7) = 40) ∨ (tk_kd tB tn (tk_nx tB tn (tk_nx tB tn tp)) = 5 ∧ (h85 236 6) = 3 ∧ (h85 236 7) = 41) ∨ (tk_kd tB tn (tk_nx tB tn (tk_nx tB tn tp)) = 6 ∧ (h85 236 6) = 4))) by first | assumption | exact tk_mv (by assumption) (by omega) (by omega) (by omega) (by omega) (by omega)))) rb98 (fun h88 z96 g88 u88 (fz96 : 0 ≤ z96 ∧ z96 ≤ 999) (p88_0 : (1 ≤ (h85 236 8) ∧ (h88 236 8) = (h85 236 8) ∧ (h88 236 9) = (h85 236 9)) ∨ ((h85 236 8) = 0 ∧ tk_kd tB tn (tk_nx tB tn (tk_nx tB tn tp)) = 1 ∧ tk_sw tB tn (tk_nx tB tn (tk_nx tB tn tp)) = 17484005 ∧ tk_kd tB tn (tk_nx tB tn (tk_nx tB tn (tk_nx tB tn tp))) = 2 ∧ 0 ≤ tk_nb tB tn (tk_nx tB tn (tk_nx tB tn (tk_nx tB tn tp))) ∧ tk_nb tB tn (tk_nx tB tn (tk_nx tB tn (tk_nx tB tn tp))) ≤ 99 ∧ z96 = tk_nb tB tn (tk_nx tB tn (tk_nx tB tn (tk_nx tB tn tp))) ∧ (h88 236 8) = (h85 236 8) ∧ (h88 236 9) = (h85 236 9) ∧ ((h88 236 4) = tk_nx tB tn (tk_nx tB tn (tk_nx tB tn (tk_nx tB tn (tk_nx tB tn tp)))) ∧ (h88 236 5) = tk_st tB tn (tk_nx tB tn (tk_nx tB tn (tk_nx tB tn (tk_nx tB tn tp)))) ∧ ((tk_kd tB tn (tk_nx tB tn (tk_nx tB tn (tk_nx tB tn (tk_nx tB tn tp)))) = 0 ∧ (h88 236 6) = 0) ∨ (tk_kd tB tn (tk_nx tB tn (tk_nx tB tn (tk_nx tB tn (tk_nx tB tn tp)))) = 1 ∧ (h88 236 6) = 1 ∧ (h88 236 12) = tk_sw tB tn (tk_nx tB tn (tk_nx tB tn (tk_nx tB tn (tk_nx tB tn tp))))) ∨ (tk_kd tB tn (tk_nx tB tn (tk_nx tB tn (tk_nx tB tn (tk_nx tB tn tp)))) = 2 ∧ (h88 236 6) = 2 ∧ (h88 236 7) = tk_nb tB tn (tk_nx tB tn (tk_nx tB tn (tk_nx tB tn (tk_nx tB tn tp))))) ∨ (tk_kd tB tn (tk_nx tB tn (tk_nx tB tn (tk_nx tB tn (tk_nx tB tn tp)))) = 3 ∧ (h88 236 6) = 3 ∧ (h88 236 7) = 59) ∨ (tk_kd tB tn (tk_nx tB tn (tk_nx tB tn (tk_nx tB tn (tk_nx tB tn tp)))) = 4 ∧ (h88 236 6) = 3 ∧ (h88 236 7) = 40) ∨ (tk_kd tB tn (tk_nx tB tn (tk_nx tB tn (tk_nx tB tn (tk_nx tB tn tp)))) = 5 ∧ (h88 236 6) = 3 ∧ (h88 236 7) = 41) ∨ (tk_kd tB tn (tk_nx tB tn (tk_nx tB tn (tk_nx tB tn (tk_nx tB tn tp)))) = 6 ∧ (h88 236 6) = 4)))) ∨ ((h85 236 8) = 0 ∧ (tk_kd tB tn (tk_nx tB tn (tk_nx tB tn tp)) ≠ 1 ∨ tk_sw tB tn (tk_nx tB tn (tk_nx tB tn tp)) ≠ 17484005) ∧ (h88 236 8) = 1 ∧ (h88 236 9) = tk_st tB tn (tk_nx tB tn (tk_nx tB tn tp))) ∨ ((h85 236 8) = 0 ∧ tk_kd tB tn (tk_nx tB tn (tk_nx tB tn tp)) = 1 ∧ tk_sw tB tn (tk_nx tB tn (tk_nx tB tn tp)) = 17484005 ∧ tk_kd tB tn (tk_nx tB tn (tk_nx tB tn (tk_nx tB tn tp))) ≠ 2 ∧ (h88 236 8) = 1 ∧ (h88 236 9) = tk_st tB tn (tk_nx tB tn (tk_nx tB tn (tk_nx tB tn tp)))) ∨ ((h85 236 8) = 0 ∧ tk_kd tB tn (tk_nx tB tn (tk_nx tB tn tp)) = 1 ∧ tk_sw tB tn (tk_nx tB tn (tk_nx tB tn tp)) = 17484005 ∧ tk_kd tB tn (tk_nx tB tn (tk_nx tB tn (tk_nx tB tn tp))) = 2 ∧ (tk_nb tB tn (tk_nx tB tn (tk_nx tB tn (tk_nx tB tn tp))) < 0 ∨ 99 < tk_nb tB tn (tk_nx tB tn (tk_nx tB tn (tk_nx tB tn tp)))) ∧ (h88 236 8) = 2 ∧ (h88 236 9) = tk_st tB tn (tk_nx tB tn (tk_nx tB tn (tk_nx tB tn tp))))) (p88_1 : (h85 236 4) ≤ (h88 236 4)) (p88_2 : (h88 236 4) ≤ (h85 236 3)) (p88_3 : 1 ≤ (h88 236 8) ∨ (h85 236 8) = 0) (p88_4 : 1 ≤ (h88 236 8) ∨ (0 ≤ z96 ∧ z96 ≤ 99)) => ?_)
                  have F99 := F86.then (by decide +kernel) u88
                  have e100 : h85 236 9 = h63 236 9 := (u85 236 9 rfl)
                  have b101 := gi_b (lo := 0) (hi := 5) g88 236 8 rfl
                  have b102 := gi_b (lo := -2147483648) (hi := 2147483647) g88 236 9 rfl
                  have b103 := gi_b (lo := 0) (hi := 800) g88 236 4 rfl
                  have b104 := gi_b (lo := 0) (hi := 800) g88 236 5 rfl
                  have b105 := gi_b (lo := 0) (hi := 4) g88 236 6 rfl
                  have b106 := gi_b (lo := -9223372036854775808) (hi := 9223372036854775807) g88 236 12 rfl
                  have b107 := gi_b (lo := 0) (hi := 999) g88 236 7 rfl
                  refine wk_i ?_
                  rcases p88_0 with p88_0 | p88_0 | p88_0 | p88_0 | p88_0
                  ·
                    exfalso; omega
                  ·
                    have tk108 := p88_0.2.2.2.2.2.2.2.2.2
                    have tN109 := @tk_nx_b tB tn (tk_nx tB tn (tk_nx tB tn (tk_nx tB tn tp))) (by omega) (by omega)
                    have tN110 := @tk_nx_b tB tn (tk_nx tB tn (tk_nx tB tn (tk_nx tB tn (tk_nx tB tn tp)))) (by omega) (by omega)
                    refine wr_is (k0 := 239) (a := 6) (f := 6) (x := z96) (bl := 0) (bh := 999) (nx := 154) (r1 := 0) (r2 := 0) (r3 := 0) rfl (by decide) rfl (by omega) (by omega) (by decide) g88 rfl (by omega) (fun h111 g111 w111 u111 => ?_)
                    have F112 := F99.then rfl u111
                    refine wi_goto (nx := 157) (r1 := 256) (r2 := 0) (r3 := 0) rfl ?_
                    refine wi_return (nx := 257) (r1 := 0) (r2 := 0) (r3 := 0) rfl rfl ?_
                    have e113 : h111 236 8 = h88 236 8 := (u111 236 8 rfl)
                    have e114 : h111 236 4 = h88 236 4 := (u111 236 4 rfl)
                    have e115 : h111 239 5 = z71 := ((u111 239 5 rfl).trans ((u88 239 5 rfl).trans w85))
                    have e116 : h111 239 7 = h 239 7 := ((u111 239 7 rfl).trans ((u88 239 7 rfl).trans ((u85 239 7 rfl).trans ((u63 239 7 rfl).trans ((u61 239 7 rfl).trans (u49 239 7 rfl))))))
                    have e117 : h111 239 15 = h 239 15 := ((u111 239 15 rfl).trans ((u88 239 15 rfl).trans ((u85 239 15 rfl).trans ((u63 239 15 rfl).trans ((u61 239 15 rfl).trans (u49 239 15 rfl))))))
                    have e118 : h111 239 16 = h 239 16 := ((u111 239 16 rfl).trans ((u88 239 16 rfl).trans ((u85 239 16 rfl).trans ((u63 239 16 rfl).trans ((u61 239 16 rfl).trans (u49 239 16 rfl))))))
                    have e119 : h111 239 17 = h 239 17 := ((u111 239 17 rfl).trans ((u88 239 17 rfl).trans ((u85 239 17 rfl).trans ((u63 239 17 rfl).trans ((u61 239 17 rfl).trans (u49 239 17 rfl))))))
                    have e120 : h111 239 18 = h 239 18 := ((u111 239 18 rfl).trans ((u88 239 18 rfl).trans ((u85 239 18 rfl).trans ((u63 239 18 rfl).trans ((u61 239 18 rfl).trans (u49 239 18 rfl))))))
                    have e121 : h111 236 9 = h88 236 9 := (u111 236 9 rfl)
                    have e122 : h111 239 0 = h 239 0 := ((u111 239 0 rfl).trans ((u88 239 0 rfl).trans ((u85 239 0 rfl).trans ((u63 239 0 rfl).trans ((u61 239 0 rfl).trans (u49 239 0 rfl))))))
                    have e123 : h111 239 1 = h 239 1 := ((u111 239 1 rfl).trans ((u88 239 1 rfl).trans ((u85 239 1 rfl).trans ((u63 239 1 rfl).trans ((u61 239 1 rfl).trans (u49 239 1 rfl))))))
                    have e124 : h111 239 2 = h 239 2 := ((u111 239 2 rfl).trans ((u88 239 2 rfl).trans ((u85 239 2 rfl).trans ((u63 239 2 rfl).trans ((u61 239 2 rfl).trans (u49 239 2 rfl))))))
                    have b125 := gi_b (lo := 0) (hi := 999) g 239 3 rfl
                    have e126 : h111 239 3 = h 239 3 := ((u111 239 3 rfl).trans ((u88 239 3 rfl).trans ((u85 239 3 rfl).trans ((u63 239 3 rfl).trans ((u61 239 3 rfl).trans (u49 239 3 rfl))))))
                    have b127 := gi_b (lo := 0) (hi := 999) g 239 4 rfl
                    have e128 : h111 239 4 = h 239 4 := ((u111 239 4 rfl).trans ((u88 239 4 rfl).trans ((u85 239 4 rfl).trans ((u63 239 4 rfl).trans ((u61 239 4 rfl).trans (u49 239 4 rfl))))))
                    have e129 : h111 239 6 = z96 := w111
                    have b130 := gi_b (lo := 0) (hi := 999) g 239 8 rfl
                    have e131 : h111 239 8 = h 239 8 := ((u111 239 8 rfl).trans ((u88 239 8 rfl).trans ((u85 239 8 rfl).trans ((u63 239 8 rfl).trans ((u61 239 8 rfl).trans (u49 239 8 rfl))))))
                    have b132 := gi_b (lo := 0) (hi := 999) g 239 9 rfl
                    have e133 : h111 239 9 = h 239 9 := ((u111 239 9 rfl).trans ((u88 239 9 rfl).trans ((u85 239 9 rfl).trans ((u63 239 9 rfl).trans ((u61 239 9 rfl).trans (u49 239 9 rfl))))))
                    have b134 := gi_b (lo := 0) (hi := 1) g 236 23 rfl
                    have e135 : h111 236 23 = h 236 23 := ((u111 236 23 rfl).trans ((u88 236 23 rfl).trans ((u85 236 23 rfl).trans ((u63 236 23 rfl).trans ((u61 236 23 rfl).trans (u49 236 23 rfl))))))
                    have e136 : h111 236 24 = z50 := ((u111 236 24 rfl).trans ((u88 236 24 rfl).trans ((u85 236 24 rfl).trans ((u63 236 24 rfl).trans w61))))
                    have b137 := gi_b (lo := 0) (hi := 1) g 236 25 rfl
                    have e138 : h111 236 25 = h 236 25 := ((u111 236 25 rfl).trans ((u88 236 25 rfl).trans ((u85 236 25 rfl).trans ((u63 236 25 rfl).trans ((u61 236 25 rfl).trans (u49 236 25 rfl))))))
                    have b139 := gi_b (lo := 0) (hi := 1) g 236 26 rfl
                    have e140 : h111 236 26 = h 236 26 := ((u111 236 26 rfl).trans ((u88 236 26 rfl).trans ((u85 236 26 rfl).trans ((u63 236 26 rfl).trans ((u61 236 26 rfl).trans (u49 236 26 rfl))))))
                    have e141 : h111 236 5 = h88 236 5 := (u111 236 5 rfl)
                    have e142 : h111 236 6 = h88 236 6 := (u111 236 6 rfl)
                    have e143 : h111 236 7 = h88 236 7 := (u111 236 7 rfl)
                    have e144 : h111 236 12 = h88 236 12 := (u111 236 12 rfl)
                    exact k h111 g111 F112 (show (h111 236 8) = 0 ∨ 1 ≤ (h111 236 8) by omega) (show (h 236 4) ≤ (h111 236 4) by omega) (show (h111 236 4) ≤ (h 236 3) by omega) (show 1 ≤ (h111 236 8) ∨ ((h111 239 5) ≤ 9 ∧ 1 ≤ (h111 239 5) ∧ (h111 239 7) ≤ 3 ∧ (h111 239 15) ≤ 6 ∧ (h111 239 16) ≤ 6 ∧ (h111 239 17) ≤ 6 ∧ (h111 239 18) ≤ 6) by omega) (show (h111 236 8) ≠ 0 ∨ (h111 236 9) = -1 by omega) (by unfold tk_stm; (repeat (first | rw [if_pos (by omega)] | rw [if_neg (by omega)])); exact (by unfold tk_batch tk_once tk_wrd tk_num; (try dsimp only); (repeat (first | rw [if_pos (by omega)] | rw [if_neg (by omega)])); (repeat ((first | unfold tk_once | unfold tk_wrd | unfold tk_num); (try dsimp only); (repeat (first | rw [if_pos (by omega)] | rw [if_neg (by omega)])))); exact tk_ORs (by omega) (by first | assumption | exact tk_mv (by assumption) (by omega) (by omega) (by omega) (by omega) (by omega)) (CVr.flag xq1 (fun j _ _ _ _ _ _ _ _ _ _ _ => by unfold tk_u; (repeat (first | rw [if_pos (by omega)] | rw [if_neg (by omega)]))) (fun i e => by rcases e with e | e; · exact ((u111 239 i (fn_i (by omega) fn_0)).trans ((u88 239 i (fo_nk rfl)).trans ((u85 239 i (fn_i (by omega) fn_0)).trans ((u63 239 i (fo_nk rfl)).trans ((u61 239 i (fn_a (by omega) fn_0)).trans (u49 239 i (fo_nk rfl))))))); · exact ((u111 239 i (fn_i (by omega) fn_0)).trans ((u88 239 i (fo_nk rfl)).trans ((u85 239 i (fn_i (by omega) fn_0)).trans ((u63 239 i (fo_nk rfl)).trans ((u61 239 i (fn_a (by omega) fn_0)).trans (u49 239 i (fo_nk rfl)))))))) ⟨(by (repeat unfold tk_u); (repeat (first | rw [if_pos (by omega)] | rw [if_neg (by omega)])); all_goals omega), (by (repeat unfold tk_u); (repeat (first | rw [if_pos (by omega)] | rw [if_neg (by omega)])); all_goals omega), (by (repeat unfold tk_u); (repeat (first | rw [if_pos (by omega)] | rw [if_neg (by omega)])); all_goals omega), (by (repeat unfold tk_u); (repeat (first | rw [if_pos (by omega)] | rw [if_neg (by omega)])); all_goals omega), (by (repeat unfold tk_u); (repeat (first | rw [if_pos (by omega)] | rw [if_neg (by omega)])); all_goals omega), (by (repeat unfold tk_u); (repeat (first | rw [if_pos (by omega)] | rw [if_neg (by omega)])); all_goals omega), (by (repeat unfold tk_u); (repeat (first | rw [if_pos (by omega)] | rw [if_neg (by omega)])); all_goals omega)⟩ ⟨(by (repeat unfold tk_u); (repeat (first | rw [if_pos (by omega)] | rw [if_neg (by omega)])); all_goals omega), (by (repeat unfold tk_u); (repeat (first | rw [if_pos (by omega)] | rw [if_neg (by omega)])); all_goals omega), (by (repeat unfold tk_u); (repeat (first | rw [if_pos (by omega)] | rw [if_neg (by omega)])); all_goals omega), (by (repeat unfold tk_u); (repeat (first | rw [if_pos (by omega)] | rw [if_neg (by omega)])); all_goals omega)⟩ (fun i => ((u111 244 i (fn_a (by omega) fn_0)).trans ((u88 244 i (fo_nk rfl)).trans ((u85 244 i (fn_a (by omega) fn_0)).trans ((u63 244 i (fo_nk rfl)).trans ((u61 244 i (fn_a (by omega) fn_0)).trans (u49 244 i (fo_nk rfl)))))))) (by omega) (by omega) (by omega))))
                  ·
                    refine wr_is (k0 := 239) (a := 6) (f := 6) (x := z96) (bl := 0) (bh := 999) (nx := 154) (r1 := 0) (r2 := 0) (r3 := 0) rfl (by decide) rfl (by omega) (by omega) (by decide) g88 rfl (by omega) (fun h108 g108 w108 u108 => ?_)
                    have F109 := F99.then rfl u108
                    refine wi_goto (nx := 157) (r1 := 256) (r2 := 0) (r3 := 0) rfl ?_
                    refine wi_return (nx := 257) (r1 := 0) (r2 := 0) (r3 := 0) rfl rfl ?_
                    have e110 : h108 236 8 = h88 236 8 := (u108 236 8 rfl)
                    have e111 : h108 236 4 = h88 236 4 := (u108 236 4 rfl)
                    have e112 : h108 239 5 = z71 := ((u108 239 5 rfl).trans ((u88 239 5 rfl).trans w85))
                    have e113 : h108 239 7 = h 239 7 := ((u108 239 7 rfl).trans ((u88 239 7 rfl).trans ((u85 239 7 rfl).trans ((u63 239 7 rfl).trans ((u61 239 7 rfl).trans (u49 239 7 rfl))))))
                    have e114 : h108 239 15 = h 239 15 := ((u108 239 15 rfl).trans ((u88 239 15 rfl).trans ((u85 239 15 rfl).trans ((u63 239 15 rfl).trans ((u61 239 15 rfl).trans (u49 239 15 rfl))))))
                    have e115 : h108 239 16 = h 239 16 := ((u108 239 16 rfl).trans ((u88 239 16 rfl).trans ((u85 239 16 rfl).trans ((u63 239 16 rfl).trans ((u61 239 16 rfl).trans (u49 239 16 rfl))))))
                    have e116 : h108 239 17 = h 239 17 := ((u108 239 17 rfl).trans ((u88 239 17 rfl).trans ((u85 239 17 rfl).trans ((u63 239 17 rfl).trans ((u61 239 17 rfl).trans (u49 239 17 rfl))))))
                    have e117 : h108 239 18 = h 239 18 := ((u108 239 18 rfl).trans ((u88 239 18 rfl).trans ((u85 239 18 rfl).trans ((u63 239 18 rfl).trans ((u61 239 18 rfl).trans (u49 239 18 rfl))))))
                    have e118 : h108 236 9 = h88 236 9 := (u108 236 9 rfl)
                    exact k h108 g108 F109 (show (h108 236 8) = 0 ∨ 1 ≤ (h108 236 8) by omega) (show (h 236 4) ≤ (h108 236 4) by omega) (show (h108 236 4) ≤ (h 236 3) by omega) (show 1 ≤ (h108 236 8) ∨ ((h108 239 5) ≤ 9 ∧ 1 ≤ (h108 239 5) ∧ (h108 239 7) ≤ 3 ∧ (h108 239 15) ≤ 6 ∧ (h108 239 16) ≤ 6 ∧ (h108 239 17) ≤ 6 ∧ (h108 239 18) ≤ 6) by omega) (show (h108 236 8) ≠ 0 ∨ (h108 236 9) = -1 by omega) (by unfold tk_stm; (repeat (first | rw [if_pos (by omega)] | rw [if_neg (by omega)])); exact (by unfold tk_batch tk_once tk_wrd tk_num; (try dsimp only); (repeat (first | rw [if_pos (by omega)] | rw [if_neg (by omega)])); (repeat ((first | unfold tk_once | unfold tk_wrd | unfold tk_num); (try dsimp only); (repeat (first | rw [if_pos (by omega)] | rw [if_neg (by omega)])))); first | exact tk_ORe (by omega) (by omega) (by omega) | ((repeat' split) <;> (first | exact tk_ORe (by omega) (by omega) (by omega) | (exfalso; omega)))))
                  ·
                    have tN108 := @tk_nx_b tB tn (tk_nx tB tn (tk_nx tB tn tp)) (by omega) (by omega)
                    refine wr_is (k0 := 239) (a := 6) (f := 6) (x := z96) (bl := 0) (bh := 999) (nx := 154) (r1 := 0) (r2 := 0) (r3 := 0) rfl (by decide) rfl (by omega) (by omega) (by decide) g88 rfl (by omega) (fun h109 g109 w109 u109 => ?_)
                    have F110 := F99.then rfl u109
                    refine wi_goto (nx := 157) (r1 := 256) (r2 := 0) (r3 := 0) rfl ?_
                    refine wi_return (nx := 257) (r1 := 0) (r2 := 0) (r3 := 0) rfl rfl ?_
                    have e111 : h109 236 8 = h88 236 8 := (u109 236 8 rfl)
                    have e112 : h109 236 4 = h88 236 4 := (u109 236 4 rfl)
                    have e113 : h109 239 5 = z71 := ((u109 239 5 rfl).trans ((u88 239 5 rfl).trans w85))
                    have e114 : h109 239 7 = h 239 7 := ((u109 239 7 rfl).trans ((u88 239 7 rfl).trans ((u85 239 7 rfl).trans ((u63 239 7 rfl).trans ((u61 239 7 rfl).trans (u49 239 7 rfl))))))
                    have e115 : h109 239 15 = h 239 15 := ((u109 239 15 rfl).trans ((u88 239 15 rfl).trans ((u85 239 15 rfl).trans ((u63 239 15 rfl).trans ((u61 239 15 rfl).trans (u49 239 15 rfl))))))
                    have e116 : h109 239 16 = h 239 16 := ((u109 239 16 rfl).trans ((u88 239 16 rfl).trans ((u85 239 16 rfl).trans ((u63 239 16 rfl).trans ((u61 239 16 rfl).trans (u49 239 16 rfl))))))
                    have e117 : h109 239 17 = h 239 17 := ((u109 239 17 rfl).trans ((u88 239 17 rfl).trans ((u85 239 17 rfl).trans ((u63 239 17 rfl).trans ((u61 239 17 rfl).trans (u49 239 17 rfl))))))
                    have e118 : h109 239 18 = h 239 18 := ((u109 239 18 rfl).trans ((u88 239 18 rfl).trans ((u85 239 18 rfl).trans ((u63 239 18 rfl).trans ((u61 239 18 rfl).trans (u49 239 18 rfl))))))
                    have e119 : h109 236 9 = h88 236 9 := (u109 236 9 rfl)
                    exact k h109 g109 F110 (show (h109 236 8) = 0 ∨ 1 ≤ (h109 236 8) by omega) (show (h 236 4) ≤ (h109 236 4) by omega) (show (h109 236 4) ≤ (h 236 3) by omega) (show 1 ≤ (h109 236 8) ∨ ((h109 239 5) ≤ 9 ∧ 1 ≤ (h109 239 5) ∧ (h109 239 7) ≤ 3 ∧ (h109 239 15) ≤ 6 ∧ (h109 239 16) ≤ 6 ∧ (h109 239 17) ≤ 6 ∧ (h109 239 18) ≤ 6) by omega) (show (h109 236 8) ≠ 0 ∨ (h109 236 9) = -1 by omega) (by unfold tk_stm; (repeat (first | rw [if_pos (by omega)] | rw [if_neg (by omega)])); exact (by unfold tk_batch tk_once tk_wrd tk_num; (try dsimp only); (repeat (first | rw [if_pos (by omega)] | rw [if_neg (by omega)])); (repeat ((first | unfold tk_once | unfold tk_wrd | unfold tk_num); (try dsimp only); (repeat (first | rw [if_pos (by omega)] | rw [if_neg (by omega)])))); first | exact tk_ORe (by omega) (by omega) (by omega) | ((repeat' split) <;> (first | exact tk_ORe (by omega) (by omega) (by omega) | (exfalso; omega)))))
                  ·
                    have tN108 := @tk_nx_b tB tn (tk_nx tB tn (tk_nx tB tn tp)) (by omega) (by omega)
                    refine wr_is (k0 := 239) (a := 6) (f := 6) (x := z96) (bl := 0) (bh := 999) (nx := 154) (r1 := 0) (r2 := 0) (r3 := 0) rfl (by decide) rfl (by omega) (by omega) (by decide) g88 rfl (by omega) (fun h109 g109 w109 u109 => ?_)
                    have F110 := F99.then rfl u109
                    refine wi_goto (nx := 157) (r1 := 256) (r2 := 0) (r3 := 0) rfl ?_
                    refine wi_return (nx := 257) (r1 := 0) (r2 := 0) (r3 := 0) rfl rfl ?_
                    have e111 : h109 236 8 = h88 236 8 := (u109 236 8 rfl)
                    have e112 : h109 236 4 = h88 236 4 := (u109 236 4 rfl)
                    have e113 : h109 239 5 = z71 := ((u109 239 5 rfl).trans ((u88 239 5 rfl).trans w85))
                    have e114 : h109 239 7 = h 239 7 := ((u109 239 7 rfl).trans ((u88 239 7 rfl).trans ((u85 239 7 rfl).trans ((u63 239 7 rfl).trans ((u61 239 7 rfl).trans (u49 239 7 rfl))))))
                    have e115 : h109 239 15 = h 239 15 := ((u109 239 15 rfl).trans ((u88 239 15 rfl).trans ((u85 239 15 rfl).trans ((u63 239 15 rfl).trans ((u61 239 15 rfl).trans (u49 239 15 rfl))))))
                    have e116 : h109 239 16 = h 239 16 := ((u109 239 16 rfl).trans ((u88 239 16 rfl).trans ((u85 239 16 rfl).trans ((u63 239 16 rfl).trans ((u61 239 16 rfl).trans (u49 239 16 rfl))))))
                    have e117 : h109 239 17 = h 239 17 := ((u109 239 17 rfl).trans ((u88 239 17 rfl).trans ((u85 239 17 rfl).trans ((u63 239 17 rfl).trans ((u61 239 17 rfl).trans (u49 239 17 rfl))))))
                    have e118 : h109 239 18 = h 239 18 := ((u109 239 18 rfl).trans ((u88 239 18 rfl).trans ((u85 239 18 rfl).trans ((u63 239 18 rfl).trans ((u61 239 18 rfl).trans (u49 239 18 rfl))))))
                    have e119 : h109 236 9 = h88 236 9 := (u109 236 9 rfl)
                    exact k h109 g109 F110 (show (h109 236 8) = 0 ∨ 1 ≤ (h109 236 8) by omega) (show (h 236 4) ≤ (h109 236 4) by omega) (show (h109 236 4) ≤ (h 236 3) by omega) (show 1 ≤ (h109 236 8) ∨ ((h109 239 5) ≤ 9 ∧ 1 ≤ (h109 239 5) ∧ (h109 239 7) ≤ 3 ∧ (h109 239 15) ≤ 6 ∧ (h109 239 16) ≤ 6 ∧ (h109 239 17) ≤ 6 ∧ (h109 239 18) ≤ 6) by omega) (show (h109 236 8) ≠ 0 ∨ (h109 236 9) = -1 by omega) (by unfold tk_stm; (repeat (first | rw [if_pos (by omega)] | rw [if_neg (by omega)])); exact (by unfold tk_batch tk_once tk_wrd tk_num; (try dsimp only); (repeat (first | rw [if_pos (by omega)] | rw [if_neg (by omega)])); (repeat ((first | unfold tk_once | unfold tk_wrd | unfold tk_num); (try dsimp only); (repeat (first | rw [if_pos (by omega)] | rw [if_neg (by omega)])))); first | exact tk_ORe (by omega) (by omega) (by omega) | ((repeat' split) <;> (first | exact tk_ORe (by omega) (by omega) (by omega) | (exfalso; omega)))))
                ·
                  refine wr_is (k0 := 239) (a := 5) (f := 5) (x := z71) (bl := 0) (bh := 999) (nx := 137) (r1 := 0) (r2 := 0) (r3 := 0) rfl (by decide) rfl (by omega) (by omega) (by decide) g63 rfl (by omega) (fun h83 g83 w83 u83 => ?_)
                  have F84 := F74.then rfl u83
                  refine wi_aload_n (i := 0) (x := 236) (nx := 138) (r1 := 0) (r2 := 0) (r3 := 0) rfl rfl ?_
                  refine wr_gr (k0 := 236) (x := 239) (nx := 141) (r1 := 11) (r2 := 14) (r3 := 0) rfl rfl (by decide) rfl ⟨rfl, rfl⟩ rfl ?_
                  refine wi_bipush (n := 6) (nx := 143) (r1 := 0) (r2 := 0) (r3 := 0) rfl (by decide) ?_
                  refine wi_aload_n (i := 0) (x := 236) (nx := 144) (r1 := 0) (r2 := 0) (r3 := 0) rfl rfl ?_
                  refine wi_ldc2_w (e := 17484005) (nx := 147) (r1 := 17484005) (r2 := 0) (r3 := 0) rfl (by decide) ?_
                  refine wi_iconst (n := 0) (nx := 148) (r1 := 0) (r2 := 0) (r3 := 0) rfl ?_
                  refine wi_bipush (n := 99) (nx := 150) (r1 := 0) (r2 := 0) (r3 := 0) rfl (by decide) ?_
                  have wk85 : tk_kd tB tn (tk_nx tB tn tp) = 1 → (tk_sw tB tn (tk_nx tB tn tp) = 17484005 ↔ tk_wd (tk_lw tB tn (tk_nx tB tn tp)) = 9) := fun e => tk_wk 8 (by decide) (by omega) (by omega) e
                  refine wr_V (k0 := 236) (rest := [vi 6, .ref 239]) (as := [.ref 236, vl 17484005, vi 0, vi 99]) (nx := 153) (r1 := 228) (r2 := 3) (r3 := 11) rfl rfl rfl (of_decide_eq_true rfl) rfl rfl (by decide) rfl rfl (of_decide_eq_true rfl) (of_decide_eq_true rfl) ?_
                  have e87 : h83 236 4 = h63 236 4 := (u83 236 4 rfl)
                  have e88 : h83 236 3 = h 236 3 := ((u83 236 3 rfl).trans ((u63 236 3 rfl).trans ((u61 236 3 rfl).trans (u49 236 3 rfl))))
                  have e89 : h83 236 8 = h63 236 8 := (u83 236 8 rfl)
                  have e90 : h83 236 5 = h63 236 5 := (u83 236 5 rfl)
                  have e91 : h83 236 6 = h63 236 6 := (u83 236 6 rfl)
                  have e92 : h83 236 12 = h63 236 12 := (u83 236 12 rfl)
                  have e93 : h83 236 7 = h63 236 7 := (u83 236 7 rfl)
                  have rb95 := RefB.fr u63 rfl rb73
                  have rb96 := RefB.fr u83 rfl rb95
                  refine ct_228_236 hcr  g83 17484005 0 99 (by omega) (by omega) (by omega) (show (h83 236 4) ≤ (h83 236 3) by omega) (show 0 ≤ (tk_nx tB tn tp) by omega) (show (tk_nx tB tn tp) ≤ tn by omega) (show (tk_nx tB tn tp) ≤ tk_nx tB tn (tk_nx tB tn tp) ∧ tk_nx tB tn (tk_nx tB tn tp) ≤ tn by omega) (show 1 ≤ (h83 236 8) ∨ ((h83 236 4) = tk_nx tB tn (tk_nx tB tn tp) ∧ (h83 236 5) = tk_st tB tn (tk_nx tB tn tp) ∧ ((tk_kd tB tn (tk_nx tB tn tp) = 0 ∧ (h83 236 6) = 0) ∨ (tk_kd tB tn (tk_nx tB tn tp) = 1 ∧ (h83 236 6) = 1 ∧ (h83 236 12) = tk_sw tB tn (tk_nx tB tn tp)) ∨ (tk_kd tB tn (tk_nx tB tn tp) = 2 ∧ (h83 236 6) = 2 ∧ (h83 236 7) = tk_nb tB tn (tk_nx tB tn tp)) ∨ (tk_kd tB tn (tk_nx tB tn tp) = 3 ∧ (h83 236 6) = 3 ∧ (h83 236 7) = 59) ∨ (tk_kd tB tn (tk_nx tB tn tp) = 4 ∧ (h83 236 6) = 3 ∧ (h83 236 7) = 40) ∨ (tk_kd tB tn (tk_nx tB tn tp) = 5 ∧ (h83 236 6) = 3 ∧ (h83 236 7) = 41) ∨ (tk_kd tB tn (tk_nx tB tn tp) = 6 ∧ (h83 236 6) = 4))) from (Or.inl (by omega))) rb96 (fun h86 z94 g86 u86 (fz94 : 0 ≤ z94 ∧ z94 ≤ 999) (p86_0 : (1 ≤ (h83 236 8) ∧ (h86 236 8) = (h83 236 8) ∧ (h86 236 9) = (h83 236 9)) ∨ ((h83 236 8) = 0 ∧ tk_kd tB tn (tk_nx tB tn tp) = 1 ∧ tk_sw tB tn (tk_nx tB tn tp) = 17484005 ∧ tk_kd tB tn (tk_nx tB tn (tk_nx tB tn tp)) = 2 ∧ 0 ≤ tk_nb tB tn (tk_nx tB tn (tk_nx tB tn tp)) ∧ tk_nb tB tn (tk_nx tB tn (tk_nx tB tn tp)) ≤ 99 ∧ z94 = tk_nb tB tn (tk_nx tB tn (tk_nx tB tn tp)) ∧ (h86 236 8) = (h83 236 8) ∧ (h86 236 9) = (h83 236 9) ∧ ((h86 236 4) = tk_nx tB tn (tk_nx tB tn (tk_nx tB tn (tk_nx tB tn tp))) ∧ (h86 236 5) = tk_st tB tn (tk_nx tB tn (tk_nx tB tn (tk_nx tB tn tp))) ∧ ((tk_kd tB tn (tk_nx tB tn (tk_nx tB tn (tk_nx tB tn tp))) = 0 ∧ (h86 236 6) = 0) ∨ (tk_kd tB tn (tk_nx tB tn (tk_nx tB tn (tk_nx tB tn tp))) = 1 ∧ (h86 236 6) = 1 ∧ (h86 236 12) = tk_sw tB tn (tk_nx tB tn (tk_nx tB tn (tk_nx tB tn tp)))) ∨ (tk_kd tB tn (tk_nx tB tn (tk_nx tB tn (tk_nx tB tn tp))) = 2 ∧ (h86 236 6) = 2 ∧ (h86 236 7) = tk_nb tB tn (tk_nx tB tn (tk_nx tB tn (tk_nx tB tn tp)))) ∨ (tk_kd tB tn (tk_nx tB tn (tk_nx tB tn (tk_nx tB tn tp))) = 3 ∧ (h86 236 6) = 3 ∧ (h86 236 7) = 59) ∨ (tk_kd tB tn (tk_nx tB tn (tk_nx tB tn (tk_nx tB tn tp))) = 4 ∧ (h86 236 6) = 3 ∧ (h86 236 7) = 40) ∨ (tk_kd tB tn (tk_nx tB tn (tk_nx tB tn (tk_nx tB tn tp))) = 5 ∧ (h86 236 6) = 3 ∧ (h86 236 7) = 41) ∨ (tk_kd tB tn (tk_nx tB tn (tk_nx tB tn (tk_nx tB tn tp))) = 6 ∧ (h86 236 6) = 4)))) ∨ ((h83 236 8) = 0 ∧ (tk_kd tB tn (tk_nx tB tn tp) ≠ 1 ∨ tk_sw tB tn (tk_nx tB tn tp) ≠ 17484005) ∧ (h86 236 8) = 1 ∧ (h86 236 9) = tk_st tB tn (tk_nx tB tn tp)) ∨ ((h83 236 8) = 0 ∧ tk_kd tB tn (tk_nx tB tn tp) = 1 ∧ tk_sw tB tn (tk_nx tB tn tp) = 17484005 ∧ tk_kd tB tn (tk_nx tB tn (tk_nx tB tn tp)) ≠ 2 ∧ (h86 236 8) = 1 ∧ (h86 236 9) = tk_st tB tn (tk_nx tB tn (tk_nx tB tn tp))) ∨ ((h83 236 8) = 0 ∧ tk_kd tB tn (tk_nx tB tn tp) = 1 ∧ tk_sw tB tn (tk_nx tB tn tp) = 17484005 ∧ tk_kd tB tn (tk_nx tB tn (tk_nx tB tn tp)) = 2 ∧ (tk_nb tB tn (tk_nx tB tn (tk_nx tB tn tp)) < 0 ∨ 99 < tk_nb tB tn (tk_nx tB tn (tk_nx tB tn tp))) ∧ (h86 236 8) = 2 ∧ (h86 236 9) = tk_st tB tn (tk_nx tB tn (tk_nx tB tn tp)))) (p86_1 : (h83 236 4) ≤ (h86 236 4)) (p86_2 : (h86 236 4) ≤ (h83 236 3)) (p86_3 : 1 ≤ (h86 236 8) ∨ (h83 236 8) = 0) (p86_4 : 1 ≤ (h86 236 8) ∨ (0 ≤ z94 ∧ z94 ≤ 99)) => ?_)
                  have F97 := F84.then (by decide +kernel) u86
                  have e98 : h83 236 9 = h63 236 9 := (u83 236 9 rfl)
                  have b99 := gi_b (lo := 0) (hi := 5) g86 236 8 rfl
                  have b100 := gi_b (lo := -2147483648) (hi := 2147483647) g86 236 9 rfl
                  have b101 := gi_b (lo := 0) (hi := 800) g86 236 4 rfl
                  have b102 := gi_b (lo := 0) (hi := 800) g86 236 5 rfl
                  have b103 := gi_b (lo := 0) (hi := 4) g86 236 6 rfl
                  have b104 := gi_b (lo := -9223372036854775808) (hi := 9223372036854775807) g86 236 12 rfl
                  have b105 := gi_b (lo := 0) (hi := 999) g86 236 7 rfl
                  refine wk_i ?_
                  rcases p86_0 with p86_0 | p86_0 | p86_0 | p86_0 | p86_0
                  ·
                    refine wr_is (k0 := 239) (a := 6) (f := 6) (x := z94) (bl := 0) (bh := 999) (nx := 154) (r1 := 0) (r2 := 0) (r3 := 0) rfl (by decide) rfl (by omega) (by omega) (by decide) g86 rfl (by omega) (fun h106 g106 w106 u106 => ?_)
                    have F107 := F97.then rfl u106
                    refine wi_goto (nx := 157) (r1 := 256) (r2 := 0) (r3 := 0) rfl ?_
                    refine wi_return (nx := 257) (r1 := 0) (r2 := 0) (r3 := 0) rfl rfl ?_
                    have e108 : h106 236 8 = h86 236 8 := (u106 236 8 rfl)
                    have e109 : h106 236 4 = h86 236 4 := (u106 236 4 rfl)
                    have e110 : h106 239 5 = z71 := ((u106 239 5 rfl).trans ((u86 239 5 rfl).trans w83))
                    have e111 : h106 239 7 = h 239 7 := ((u106 239 7 rfl).trans ((u86 239 7 rfl).trans ((u83 239 7 rfl).trans ((u63 239 7 rfl).trans ((u61 239 7 rfl).trans (u49 239 7 rfl))))))
                    have e112 : h106 239 15 = h 239 15 := ((u106 239 15 rfl).trans ((u86 239 15 rfl).trans ((u83 239 15 rfl).trans ((u63 239 15 rfl).trans ((u61 239 15 rfl).trans (u49 239 15 rfl))))))
                    have e113 : h106 239 16 = h 239 16 := ((u106 239 16 rfl).trans ((u86 239 16 rfl).trans ((u83 239 16 rfl).trans ((u63 239 16 rfl).trans ((u61 239 16 rfl).trans (u49 239 16 rfl))))))
                    have e114 : h106 239 17 = h 239 17 := ((u106 239 17 rfl).trans ((u86 239 17 rfl).trans ((u83 239 17 rfl).trans ((u63 239 17 rfl).trans ((u61 239 17 rfl).trans (u49 239 17 rfl))))))
                    have e115 : h106 239 18 = h 239 18 := ((u106 239 18 rfl).trans ((u86 239 18 rfl).trans ((u83 239 18 rfl).trans ((u63 239 18 rfl).trans ((u61 239 18 rfl).trans (u49 239 18 rfl))))))
                    have e116 : h106 236 9 = h86 236 9 := (u106 236 9 rfl)
                    exact k h106 g106 F107 (show (h106 236 8) = 0 ∨ 1 ≤ (h106 236 8) by omega) (show (h 236 4) ≤ (h106 236 4) by omega) (show (h106 236 4) ≤ (h 236 3) by omega) (show 1 ≤ (h106 236 8) ∨ ((h106 239 5) ≤ 9 ∧ 1 ≤ (h106 239 5) ∧ (h106 239 7) ≤ 3 ∧ (h106 239 15) ≤ 6 ∧ (h106 239 16) ≤ 6 ∧ (h106 239 17) ≤ 6 ∧ (h106 239 18) ≤ 6) by omega) (show (h106 236 8) ≠ 0 ∨ (h106 236 9) = -1 by omega) (by unfold tk_stm; (repeat (first | rw [if_pos (by omega)] | rw [if_neg (by omega)])); exact (by unfold tk_batch tk_once tk_wrd tk_num; (try dsimp only); (repeat (first | rw [if_pos (by omega)] | rw [if_neg (by omega)])); (repeat ((first | unfold tk_once | unfold tk_wrd | unfold tk_num); (try dsimp only); (repeat (first | rw [if_pos (by omega)] | rw [if_neg (by omega)])))); first | exact tk_ORe (by omega) (by omega) (by omega) | ((repeat' split) <;> (first | exact tk_ORe (by omega) (by omega) (by omega) | (exfalso; omega)))))
                  ·
                    have tk106 := p86_0.2.2.2.2.2.2.2.2.2
                    have tN107 := @tk_nx_b tB tn (tk_nx tB tn (tk_nx tB tn tp)) (by omega) (by omega)
                    have tN108 := @tk_nx_b tB tn (tk_nx tB tn (tk_nx tB tn (tk_nx tB tn tp))) (by omega) (by omega)
                    exfalso; omega
                  ·
                    exfalso; omega
                  ·
                    have tN106 := @tk_nx_b tB tn (tk_nx tB tn tp) (by omega) (by omega)
                    exfalso; omega
                  ·
                    have tN106 := @tk_nx_b tB tn (tk_nx tB tn tp) (by omega) (by omega)
                    exfalso; omega
                ·
                  refine wr_is (k0 := 239) (a := 5) (f := 5) (x := z71) (bl := 0) (bh := 999) (nx := 137) (r1 := 0) (r2 := 0) (r3 := 0) rfl (by decide) rfl (by omega) (by omega) (by decide) g63 rfl (by omega) (fun h83 g83 w83 u83 => ?_)
                  have F84 := F74.then rfl u83
                  refine wi_aload_n (i := 0) (x := 236) (nx := 138) (r1 := 0) (r2 := 0) (r3 := 0) rfl rfl ?_
                  refine wr_gr (k0 := 236) (x := 239) (nx := 141) (r1 := 11) (r2 := 14) (r3 := 0) rfl rfl (by decide) rfl ⟨rfl, rfl⟩ rfl ?_
                  refine wi_bipush (n := 6) (nx := 143) (r1 := 0) (r2 := 0) (r3 := 0) rfl (by decide) ?_
                  refine wi_aload_n (i := 0) (x := 236) (nx := 144) (r1 := 0) (r2 := 0) (r3 := 0) rfl rfl ?_
                  refine wi_ldc2_w (e := 17484005) (nx := 147) (r1 := 17484005) (r2 := 0) (r3 := 0) rfl (by decide) ?_
                  refine wi_iconst (n := 0) (nx := 148) (r1 := 0) (r2 := 0) (r3 := 0) rfl ?_
                  refine wi_bipush (n := 99) (nx := 150) (r1 := 0) (r2 := 0) (r3 := 0) rfl (by decide) ?_
                  have wk85 : tk_kd tB tn (tk_nx tB tn tp) = 1 → (tk_sw tB tn (tk_nx tB tn tp) = 17484005 ↔ tk_wd (tk_lw tB tn (tk_nx tB tn tp)) = 9) := fun e => tk_wk 8 (by decide) (by omega) (by omega) e
                  refine wr_V (k0 := 236) (rest := [vi 6, .ref 239]) (as := [.ref 236, vl 17484005, vi 0, vi 99]) (nx := 153) (r1 := 228) (r2 := 3) (r3 := 11) rfl rfl rfl (of_decide_eq_true rfl) rfl rfl (by decide) rfl rfl (of_decide_eq_true rfl) (of_decide_eq_true rfl) ?_
                  have e87 : h83 236 4 = h63 236 4 := (u83 236 4 rfl)
                  have e88 : h83 236 3 = h 236 3 := ((u83 236 3 rfl).trans ((u63 236 3 rfl).trans ((u61 236 3 rfl).trans (u49 236 3 rfl))))
                  have e89 : h83 236 8 = h63 236 8 := (u83 236 8 rfl)
                  have e90 : h83 236 5 = h63 236 5 := (u83 236 5 rfl)
                  have e91 : h83 236 6 = h63 236 6 := (u83 236 6 rfl)
                  have e92 : h83 236 12 = h63 236 12 := (u83 236 12 rfl)
                  have e93 : h83 236 7 = h63 236 7 := (u83 236 7 rfl)
                  have rb95 := RefB.fr u63 rfl rb73
                  have rb96 := RefB.fr u83 rfl rb95
                  refine ct_228_236 hcr  g83 17484005 0 99 (by omega) (by omega) (by omega) (show (h83 236 4) ≤ (h83 236 3) by omega) (show 0 ≤ (tk_nx tB tn tp) by omega) (show (tk_nx tB tn tp) ≤ tn by omega) (show (tk_nx tB tn tp) ≤ tk_nx tB tn (tk_nx tB tn tp) ∧ tk_nx tB tn (tk_nx tB tn tp) ≤ tn by omega) (show 1 ≤ (h83 236 8) ∨ ((h83 236 4) = tk_nx tB tn (tk_nx tB tn tp) ∧ (h83 236 5) = tk_st tB tn (tk_nx tB tn tp) ∧ ((tk_kd tB tn (tk_nx tB tn tp) = 0 ∧ (h83 236 6) = 0) ∨ (tk_kd tB tn (tk_nx tB tn tp) = 1 ∧ (h83 236 6) = 1 ∧ (h83 236 12) = tk_sw tB tn (tk_nx tB tn tp)) ∨ (tk_kd tB tn (tk_nx tB tn tp) = 2 ∧ (h83 236 6) = 2 ∧ (h83 236 7) = tk_nb tB tn (tk_nx tB tn tp)) ∨ (tk_kd tB tn (tk_nx tB tn tp) = 3 ∧ (h83 236 6) = 3 ∧ (h83 236 7) = 59) ∨ (tk_kd tB tn (tk_nx tB tn tp) = 4 ∧ (h83 236 6) = 3 ∧ (h83 236 7) = 40) ∨ (tk_kd tB tn (tk_nx tB tn tp) = 5 ∧ (h83 236 6) = 3 ∧ (h83 236 7) = 41) ∨ (tk_kd tB tn (tk_nx tB tn tp) = 6 ∧ (h83 236 6) = 4))) from (Or.inl (by omega))) rb96 (fun h86 z94 g86 u86 (fz94 : 0 ≤ z94 ∧ z94 ≤ 999) (p86_0 : (1 ≤ (h83 236 8) ∧ (h86 236 8) = (h83 236 8) ∧ (h86 236 9) = (h83 236 9)) ∨ ((h83 236 8) = 0 ∧ tk_kd tB tn (tk_nx tB tn tp) = 1 ∧ tk_sw tB tn (tk_nx tB tn tp) = 17484005 ∧ tk_kd tB tn (tk_nx tB tn (tk_nx tB tn tp)) = 2 ∧ 0 ≤ tk_nb tB tn (tk_nx tB tn (tk_nx tB tn tp)) ∧ tk_nb tB tn (tk_nx tB tn (tk_nx tB tn tp)) ≤ 99 ∧ z94 = tk_nb tB tn (tk_nx tB tn (tk_nx tB tn tp)) ∧ (h86 236 8) = (h83 236 8) ∧ (h86 236 9) = (h83 236 9) ∧ ((h86 236 4) = tk_nx tB tn (tk_nx tB tn (tk_nx tB tn (tk_nx tB tn tp))) ∧ (h86 236 5) = tk_st tB tn (tk_nx tB tn (tk_nx tB tn (tk_nx tB tn tp))) ∧ ((tk_kd tB tn (tk_nx tB tn (tk_nx tB tn (tk_nx tB tn tp))) = 0 ∧ (h86 236 6) = 0) ∨ (tk_kd tB tn (tk_nx tB tn (tk_nx tB tn (tk_nx tB tn tp))) = 1 ∧ (h86 236 6) = 1 ∧ (h86 236 12) = tk_sw tB tn (tk_nx tB tn (tk_nx tB tn (tk_nx tB tn tp)))) ∨ (tk_kd tB tn (tk_nx tB tn (tk_nx tB tn (tk_nx tB tn tp))) = 2 ∧ (h86 236 6) = 2 ∧ (h86 236 7) = tk_nb tB tn (tk_nx tB tn (tk_nx tB tn (tk_nx tB tn tp)))) ∨ (tk_kd tB tn (tk_nx tB tn (tk_nx tB tn (tk_nx tB tn tp))) = 3 ∧ (h86 236 6) = 3 ∧ (h86 236 7) = 59) ∨ (tk_kd tB tn (tk_nx tB tn (tk_nx tB tn (tk_nx tB tn tp))) = 4 ∧ (h86 236 6) = 3 ∧ (h86 236 7) = 40) ∨ (tk_kd tB tn (tk_nx tB tn (tk_nx tB tn (tk_nx tB tn tp))) = 5 ∧ (h86 236 6) = 3 ∧ (h86 236 7) = 41) ∨ (tk_kd tB tn (tk_nx tB tn (tk_nx tB tn (tk_nx tB tn tp))) = 6 ∧ (h86 236 6) = 4)))) ∨ ((h83 236 8) = 0 ∧ (tk_kd tB tn (tk_nx tB tn tp) ≠ 1 ∨ tk_sw tB tn (tk_nx tB tn tp) ≠ 17484005) ∧ (h86 236 8) = 1 ∧ (h86 236 9) = tk_st tB tn (tk_nx tB tn tp)) ∨ ((h83 236 8) = 0 ∧ tk_kd tB tn (tk_nx tB tn tp) = 1 ∧ tk_sw tB tn (tk_nx tB tn tp) = 17484005 ∧ tk_kd tB tn (tk_nx tB tn (tk_nx tB tn tp)) ≠ 2 ∧ (h86 236 8) = 1 ∧ (h86 236 9) = tk_st tB tn (tk_nx tB tn (tk_nx tB tn tp))) ∨ ((h83 236 8) = 0 ∧ tk_kd tB tn (tk_nx tB tn tp) = 1 ∧ tk_sw tB tn (tk_nx tB tn tp) = 17484005 ∧ tk_kd tB tn (tk_nx tB tn (tk_nx tB tn tp)) = 2 ∧ (tk_nb tB tn (tk_nx tB tn (tk_nx tB tn tp)) < 0 ∨ 99 < tk_nb tB tn (tk_nx tB tn (tk_nx tB tn tp))) ∧ (h86 236 8) = 2 ∧ (h86 236 9) = tk_st tB tn (tk_nx tB tn (tk_nx tB tn tp)))) (p86_1 : (h83 236 4) ≤ (h86 236 4)) (p86_2 : (h86 236 4) ≤ (h83 236 3)) (p86_3 : 1 ≤ (h86 236 8) ∨ (h83 236 8) = 0) (p86_4 : 1 ≤ (h86 236 8) ∨ (0 ≤ z94 ∧ z94 ≤ 99)) => ?_)
                  have F97 := F84.then (by decide +kernel) u86
                  have e98 : h83 236 9 = h63 236 9 := (u83 236 9 rfl)
                  have b99 := gi_b (lo := 0) (hi := 5) g86 236 8 rfl
                  have b100 := gi_b (lo := -2147483648) (hi := 2147483647) g86 236 9 rfl
                  have b101 := gi_b (lo := 0) (hi := 800) g86 236 4 rfl
                  have b102 := gi_b (lo := 0) (hi := 800) g86 236 5 rfl
                  have b103 := gi_b (lo := 0) (hi := 4) g86 236 6 rfl
                  have b104 := gi_b (lo := -9223372036854775808) (hi := 9223372036854775807) g86 236 12 rfl
                  have b105 := gi_b (lo := 0) (hi := 999) g86 236 7 rfl
                  refine wk_i ?_
                  rcases p86_0 with p86_0 | p86_0 | p86_0 | p86_0 | p86_0
                  ·
                    refine wr_is (k0 := 239) (a := 6) (f := 6) (x := z94) (bl := 0) (bh := 999) (nx := 154) (r1 := 0) (r2 := 0) (r3 := 0) rfl (by decide) rfl (by omega) (by omega) (by decide) g86 rfl (by omega) (fun h106 g106 w106 u106 => ?_)
                    have F107 := F97.then rfl u106
                    refine wi_goto (nx := 157) (r1 := 256) (r2 := 0) (r3 := 0) rfl ?_
                    refine wi_return (nx := 257) (r1 := 0) (r2 := 0) (r3 := 0) rfl rfl ?_
                    have e108 : h106 236 8 = h86 236 8 := (u106 236 8 rfl)
                    have e109 : h106 236 4 = h86 236 4 := (u106 236 4 rfl)
                    have e110 : h106 239 5 = z71 := ((u106 239 5 rfl).trans ((u86 239 5 rfl).trans w83))
                    have e111 : h106 239 7 = h 239 7 := ((u106 239 7 rfl).trans ((u86 239 7 rfl).trans ((u83 239 7 rfl).trans ((u63 239 7 rfl).trans ((u61 239 7 rfl).trans (u49 239 7 rfl))))))
                    have e112 : h106 239 15 = h 239 15 := ((u106 239 15 rfl).trans ((u86 239 15 rfl).trans ((u83 239 15 rfl).trans ((u63 239 15 rfl).trans ((u61 239 15 rfl).trans (u49 239 15 rfl))))))
                    have e113 : h106 239 16 = h 239 16 := ((u106 239 16 rfl).trans ((u86 239 16 rfl).trans ((u83 239 16 rfl).trans ((u63 239 16 rfl).trans ((u61 239 16 rfl).trans (u49 239 16 rfl))))))
                    have e114 : h106 239 17 = h 239 17 := ((u106 239 17 rfl).trans ((u86 239 17 rfl).trans ((u83 239 17 rfl).trans ((u63 239 17 rfl).trans ((u61 239 17 rfl).trans (u49 239 17 rfl))))))
                    have e115 : h106 239 18 = h 239 18 := ((u106 239 18 rfl).trans ((u86 239 18 rfl).trans ((u83 239 18 rfl).trans ((u63 239 18 rfl).trans ((u61 239 18 rfl).trans (u49 239 18 rfl))))))
                    have e116 : h106 236 9 = h86 236 9 := (u106 236 9 rfl)
                    exact k h106 g106 F107 (show (h106 236 8) = 0 ∨ 1 ≤ (h106 236 8) by omega) (show (h 236 4) ≤ (h106 236 4) by omega) (show (h106 236 4) ≤ (h 236 3) by omega) (show 1 ≤ (h106 236 8) ∨ ((h106 239 5) ≤ 9 ∧ 1 ≤ (h106 239 5) ∧ (h106 239 7) ≤ 3 ∧ (h106 239 15) ≤ 6 ∧ (h106 239 16) ≤ 6 ∧ (h106 239 17) ≤ 6 ∧ (h106 239 18) ≤ 6) by omega) (show (h106 236 8) ≠ 0 ∨ (h106 236 9) = -1 by omega) (by unfold tk_stm; (repeat (first | rw [if_pos (by omega)] | rw [if_neg (by omega)])); exact (by unfold tk_batch tk_once tk_wrd tk_num; (try dsimp only); (repeat (first | rw [if_pos (by omega)] | rw [if_neg (by omega)])); (repeat ((first | unfold tk_once | unfold tk_wrd | unfold tk_num); (try dsimp only); (repeat (first | rw [if_pos (by omega)] | rw [if_neg (by omega)])))); first | exact tk_ORe (by omega) (by omega) (by omega) | ((repeat' split) <;> (first | exact tk_ORe (by omega) (by omega) (by omega) | (exfalso; omega)))))
                  ·
                    have tk106 := p86_0.2.2.2.2.2.2.2.2.2
                    have tN107 := @tk_nx_b tB tn (tk_nx tB tn (tk_nx tB tn tp)) (by omega) (by omega)
                    have tN108 := @tk_nx_b tB tn (tk_nx tB tn (tk_nx tB tn (tk_nx tB tn tp))) (by omega) (by omega)
                    exfalso; omega
                  ·
                    exfalso; omega
                  ·
                    have tN106 := @tk_nx_b tB tn (tk_nx tB tn tp) (by omega) (by omega)
                    exfalso; omega
                  ·
                    have tN106 := @tk_nx_b tB tn (tk_nx tB tn tp) (by omega) (by omega)
                    exfalso; omega
              ·
                refine wr_pf2 (k0 := 236) (x := z50) (bl := 0) (bh := 1) (nx := 124) (r1 := 11) (r2 := 24) (r3 := 2) rfl (by decide) rfl ⟨rfl, rfl⟩ rfl (by omega) rfl g49 rfl (by omega) (fun h59 g59 w59 u59 => ?_)
                have F60 := F51.then rfl u59
                refine wi_aload_n (i := 0) (x := 236) (nx := 125) (r1 := 0) (r2 := 0) (r3 := 0) rfl rfl ?_
                refine wr_gr (k0 := 236) (x := 239) (nx := 128) (r1 := 11) (r2 := 14) (r3 := 0) rfl rfl (by decide) rfl ⟨rfl, rfl⟩ rfl ?_
                refine wi_iconst (n := 5) (nx := 129) (r1 := 0) (r2 := 0) (r3 := 0) rfl ?_
                refine wi_aload_n (i := 0) (x := 236) (nx := 130) (r1 := 0) (r2 := 0) (r3 := 0) rfl rfl ?_
                refine wi_iconst (n := 1) (nx := 131) (r1 := 0) (r2 := 0) (r3 := 0) rfl ?_
                refine wi_bipush (n := 9) (nx := 133) (r1 := 0) (r2 := 0) (r3 := 0) rfl (by decide) ?_
                refine wr_V (k0 := 236) (rest := [vi 5, .ref 239]) (as := [.ref 236, vi 1, vi 9]) (nx := 136) (r1 := 231) (r2 := 2) (r3 := 11) rfl rfl rfl (of_decide_eq_true rfl) rfl rfl (by decide) rfl rfl (of_decide_eq_true rfl) (of_decide_eq_true rfl) ?_
                have e62 : h59 236 4 = h49 236 4 := (u59 236 4 rfl)
                have e63 : h59 236 3 = h 236 3 := ((u59 236 3 rfl).trans (u49 236 3 rfl))
                have e64 : h59 236 8 = h49 236 8 := (u59 236 8 rfl)
                have e65 : h59 236 5 = h49 236 5 := (u59 236 5 rfl)
                have e66 : h59 236 6 = h49 236 6 := (u59 236 6 rfl)
                have e67 : h59 236 12 = h49 236 12 := (u59 236 12 rfl)
                have e68 : h59 236 7 = h49 236 7 := (u59 236 7 rfl)
                have rb70 := RefB.fr u49 rfl xq0
                have rb71 := RefB.fr u59 rfl rb70
                refine ct_231_236 hcr  g59 1 9 (by omega) (by omega) (show (h59 236 4) ≤ (h59 236 3) by omega) (show 0 ≤ tp by omega) (show tp ≤ tn by omega) (show tp ≤ tk_nx tB tn tp ∧ tk_nx tB tn tp ≤ tn by omega) (show 1 ≤ (h59 236 8) ∨ ((h59 236 4) = tk_nx tB tn tp ∧ (h59 236 5) = tk_st tB tn tp ∧ ((tk_kd tB tn tp = 0 ∧ (h59 236 6) = 0) ∨ (tk_kd tB tn tp = 1 ∧ (h59 236 6) = 1 ∧ (h59 236 12) = tk_sw tB tn tp) ∨ (tk_kd tB tn tp = 2 ∧ (h59 236 6) = 2 ∧ (h59 236 7) = tk_nb tB tn tp) ∨ (tk_kd tB tn tp = 3 ∧ (h59 236 6) = 3 ∧ (h59 236 7) = 59) ∨ (tk_kd tB tn tp = 4 ∧ (h59 236 6) = 3 ∧ (h59 236 7) = 40) ∨ (tk_kd tB tn tp = 5 ∧ (h59 236 6) = 3 ∧ (h59 236 7) = 41) ∨ (tk_kd tB tn tp = 6 ∧ (h59 236 6) = 4))) from (Or.inl (by omega))) rb71 (fun h61 z69 g61 u61 (fz69 : 0 ≤ z69 ∧ z69 ≤ 999) (p61_0 : (1 ≤ (h59 236 8) ∧ (h61 236 8) = (h59 236 8) ∧ (h61 236 9) = (h59 236 9)) ∨ ((h59 236 8) = 0 ∧ tk_kd tB tn tp = 2 ∧ 1 ≤ tk_nb tB tn tp ∧ tk_nb tB tn tp ≤ 9 ∧ z69 = tk_nb tB tn tp ∧ (h61 236 8) = (h59 236 8) ∧ (h61 236 9) = (h59 236 9) ∧ ((h61 236 4) = tk_nx tB tn (tk_nx tB tn tp) ∧ (h61 236 5) = tk_st tB tn (tk_nx tB tn tp) ∧ ((tk_kd tB tn (tk_nx tB tn tp) = 0 ∧ (h61 236 6) = 0) ∨ (tk_kd tB tn (tk_nx tB tn tp) = 1 ∧ (h61 236 6) = 1 ∧ (h61 236 12) = tk_sw tB tn (tk_nx tB tn tp)) ∨ (tk_kd tB tn (tk_nx tB tn tp) = 2 ∧ (h61 236 6) = 2 ∧ (h61 236 7) = tk_nb tB tn (tk_nx tB tn tp)) ∨ (tk_kd tB tn (tk_nx tB tn tp) = 3 ∧ (h61 236 6) = 3 ∧ (h61 236 7) = 59) ∨ (tk_kd tB tn (tk_nx tB tn tp) = 4 ∧ (h61 236 6) = 3 ∧ (h61 236 7) = 40) ∨ (tk_kd tB tn (tk_nx tB tn tp) = 5 ∧ (h61 236 6) = 3 ∧ (h61 236 7) = 41) ∨ (tk_kd tB tn (tk_nx tB tn tp) = 6 ∧ (h61 236 6) = 4)))) ∨ ((h59 236 8) = 0 ∧ tk_kd tB tn tp ≠ 2 ∧ (h61 236 8) = 1 ∧ (h61 236 9) = tk_st tB tn tp) ∨ ((h59 236 8) = 0 ∧ tk_kd tB tn tp = 2 ∧ (tk_nb tB tn tp < 1 ∨ 9 < tk_nb tB tn tp) ∧ (h61 236 8) = 2 ∧ (h61 236 9) = tk_st tB tn tp)) (p61_1 : (h59 236 4) ≤ (h61 236 4)) (p61_2 : (h61 236 4) ≤ (h59 236 3)) (p61_3 : 1 ≤ (h61 236 8) ∨ (h59 236 8) = 0) (p61_4 : 1 ≤ (h61 236 8) ∨ (1 ≤ z69 ∧ z69 ≤ 9)) (p61_5 : 1 ≤ (h61 236 8) ∨ (h59 236 6) = 2) => ?_)
                have F72 := F60.then (by decide +kernel) u61
                have e73 : h59 236 9 = h49 236 9 := (u59 236 9 rfl)
                have b74 := gi_b (lo := 0) (hi := 5) g61 236 8 rfl
                have b75 := gi_b (lo := -2147483648) (hi := 2147483647) g61 236 9 rfl
                have b76 := gi_b (lo := 0) (hi := 800) g61 236 4 rfl
                have b77 := gi_b (lo := 0) (hi := 800) g61 236 5 rfl
                have b78 := gi_b (lo := 0) (hi := 4) g61 236 6 rfl
                have b79 := gi_b (lo := -9223372036854775808) (hi := 9223372036854775807) g61 236 12 rfl
                have b80 := gi_b (lo := 0) (hi := 999) g61 236 7 rfl
                refine wk_i ?_
                rcases p61_0 with p61_0 | p61_0 | p61_0 | p61_0
                ·
                  refine wr_is (k0 := 239) (a := 5) (f := 5) (x := z69) (bl := 0) (bh := 999) (nx := 137) (r1 := 0) (r2 := 0) (r3 := 0) rfl (by decide) rfl (by omega) (by omega) (by decide) g61 rfl (by omega) (fun h81 g81 w81 u81 => ?_)
                  have F82 := F72.then rfl u81
                  refine wi_aload_n (i := 0) (x := 236) (nx := 138) (r1 := 0) (r2 := 0) (r3 := 0) rfl rfl ?_
                  refine wr_gr (k0 := 236) (x := 239) (nx := 141) (r1 := 11) (r2 := 14) (r3 := 0) rfl rfl (by decide) rfl ⟨rfl, rfl⟩ rfl ?_
                  refine wi_bipush (n := 6) (nx := 143) (r1 := 0) (r2 := 0) (r3 := 0) rfl (by decide) ?_
                  refine wi_aload_n (i := 0) (x := 236) (nx := 144) (r1 := 0) (r2 := 0) (r3 := 0) rfl rfl ?_
                  refine wi_ldc2_w (e := 17484005) (nx := 147) (r1 := 17484005) (r2 := 0) (r3 := 0) rfl (by decide) ?_
                  refine wi_iconst (n := 0) (nx := 148) (r1 := 0) (r2 := 0) (r3 := 0) rfl ?_
                  refine wi_bipush (n := 99) (nx := 150) (r1 := 0) (r2 := 0) (r3 := 0) rfl (by decide) ?_
                  have wk83 : tk_kd tB tn tp = 1 → (tk_sw tB tn tp = 17484005 ↔ tk_wd (tk_lw tB tn tp) = 9) := fun e => tk_wk 8 (by decide) (by omega) (by omega) e
                  refine wr_V (k0 := 236) (rest := [vi 6, .ref 239]) (as := [.ref 236, vl 17484005, vi 0, vi 99]) (nx := 153) (r1 := 228) (r2 := 3) (r3 := 11) rfl rfl rfl (of_decide_eq_true rfl) rfl rfl (by decide) rfl rfl (of_decide_eq_true rfl) (of_decide_eq_true rfl) ?_
                  have e85 : h81 236 4 = h61 236 4 := (u81 236 4 rfl)
                  have e86 : h81 236 3 = h 236 3 := ((u81 236 3 rfl).trans ((u61 236 3 rfl).trans ((u59 236 3 rfl).trans (u49 236 3 rfl))))
                  have e87 : h81 236 8 = h61 236 8 := (u81 236 8 rfl)
                  have e88 : h81 236 5 = h61 236 5 := (u81 236 5 rfl)
                  have e89 : h81 236 6 = h61 236 6 := (u81 236 6 rfl)
                  have e90 : h81 236 12 = h61 236 12 := (u81 236 12 rfl)
                  have e91 : h81 236 7 = h61 236 7 := (u81 236 7 rfl)
                  have rb93 := RefB.fr u61 rfl rb71
                  have rb94 := RefB.fr u81 rfl rb93
                  refine ct_228_236 hcr  g81 17484005 0 99 (by omega) (by omega) (by omega) (show (h81 236 4) ≤ (h81 236 3) by omega) (show 0 ≤ tp by omega) (show tp ≤ tn by omega) (show tp ≤ tk_nx tB tn tp ∧ tk_nx tB tn tp ≤ tn by omega) (show 1 ≤ (h81 236 8) ∨ ((h81 236 4) = tk_nx tB tn tp ∧ (h81 236 5) = tk_st tB tn tp ∧ ((tk_kd tB tn tp = 0 ∧ (h81 236 6) = 0) ∨ (tk_kd tB tn tp = 1 ∧ (h81 236 6) = 1 ∧ (h81 236 12) = tk_sw tB tn tp) ∨ (tk_kd tB tn tp = 2 ∧ (h81 236 6) = 2 ∧ (h81 236 7) = tk_nb tB tn tp) ∨ (tk_kd tB tn tp = 3 ∧ (h81 236 6) = 3 ∧ (h81 236 7) = 59) ∨ (tk_kd tB tn tp = 4 ∧ (h81 236 6) = 3 ∧ (h81 236 7) = 40) ∨ (tk_kd tB tn tp = 5 ∧ (h81 236 6) = 3 ∧ (h81 236 7) = 41) ∨ (tk_kd tB tn tp = 6 ∧ (h81 236 6) = 4))) from (Or.inl (by omega))) rb94 (fun h84 z92 g84 u84 (fz92 : 0 ≤ z92 ∧ z92 ≤ 999) (p84_0 : (1 ≤ (h81 236 8) ∧ (h84 236 8) = (h81 236 8) ∧ (h84 236 9) = (h81 236 9)) ∨ ((h81 236 8) = 0 ∧ tk_kd tB tn tp = 1 ∧ tk_sw tB tn tp = 17484005 ∧ tk_kd tB tn (tk_nx tB tn tp) = 2 ∧ 0 ≤ tk_nb tB tn (tk_nx tB tn tp) ∧ tk_nb tB tn (tk_nx tB tn tp) ≤ 99 ∧ z92 = tk_nb tB tn (tk_nx tB tn tp) ∧ (h84 236 8) = (h81 236 8) ∧ (h84 236 9) = (h81 236 9) ∧ ((h84 236 4) = tk_nx tB tn (tk_nx tB tn (tk_nx tB tn tp)) ∧ (h84 236 5) = tk_st tB tn (tk_nx tB tn (tk_nx tB tn tp)) ∧ ((tk_kd tB tn (tk_nx tB tn (tk_nx tB tn tp)) = 0 ∧ (h84 236 6) = 0) ∨ (tk_kd tB tn (tk_nx tB tn (tk_nx tB tn tp)) = 1 ∧ (h84 236 6) = 1 ∧ (h84 236 12) = tk_sw tB tn (tk_nx tB tn (tk_nx tB tn tp))) ∨ (tk_kd tB tn (tk_nx tB tn (tk_nx tB tn tp)) = 2 ∧ (h84 236 6) = 2 ∧ (h84 236 7) = tk_nb tB tn (tk_nx tB tn (tk_nx tB tn tp))) ∨ (tk_kd tB tn (tk_nx tB tn (tk_nx tB tn tp)) = 3 ∧ (h84 236 6) = 3 ∧ (h84 236 7) = 59) ∨ (tk_kd tB tn (tk_nx tB tn (tk_nx tB tn tp)) = 4 ∧ (h84 236 6) = 3 ∧ (h84 236 7) = 40) ∨ (tk_kd tB tn (tk_nx tB tn (tk_nx tB tn tp)) = 5 ∧ (h84 236 6) = 3 ∧ (h84 236 7) = 41) ∨ (tk_kd tB tn (tk_nx tB tn (tk_nx tB tn tp)) = 6 ∧ (h84 236 6) = 4)))) ∨ ((h81 236 8) = 0 ∧ (tk_kd tB tn tp ≠ 1 ∨ tk_sw tB tn tp ≠ 17484005) ∧ (h84 236 8) = 1 ∧ (h84 236 9) = tk_st tB tn tp) ∨ ((h81 236 8) = 0 ∧ tk_kd tB tn tp = 1 ∧ tk_sw tB tn tp = 17484005 ∧ tk_kd tB tn (tk_nx tB tn tp) ≠ 2 ∧ (h84 236 8) = 1 ∧ (h84 236 9) = tk_st tB tn (tk_nx tB tn tp)) ∨ ((h81 236 8) = 0 ∧ tk_kd tB tn tp = 1 ∧ tk_sw tB tn tp = 17484005 ∧ tk_kd tB tn (tk_nx tB tn tp) = 2 ∧ (tk_nb tB tn (tk_nx tB tn tp) < 0 ∨ 99 < tk_nb tB tn (tk_nx tB tn tp)) ∧ (h84 236 8) = 2 ∧ (h84 236 9) = tk_st tB tn (tk_nx tB tn tp))) (p84_1 : (h81 236 4) ≤ (h84 236 4)) (p84_2 : (h84 236 4) ≤ (h81 236 3)) (p84_3 : 1 ≤ (h84 236 8) ∨ (h81 236 8) = 0) (p84_4 : 1 ≤ (h84 236 8) ∨ (0 ≤ z92 ∧ z92 ≤ 99)) => ?_)
                  have F95 := F82.then (by decide +kernel) u84
                  have e96 : h81 236 9 = h61 236 9 := (u81 236 9 rfl)
                  have b97 := gi_b (lo := 0) (hi := 5) g84 236 8 rfl
                  have b98 := gi_b (lo := -2147483648) (hi := 2147483647) g84 236 9 rfl
                  have b99 := gi_b (lo := 0) (hi := 800) g84 236 4 rfl
                  have b100 := gi_b (lo := 0) (hi := 800) g84 236 5 rfl
                  have b101 := gi_b (lo := 0) (hi := 4) g84 236 6 rfl
                  have b102 := gi_b (lo := -9223372036854775808) (hi := 9223372036854775807) g84 236 12 rfl
                  have b103 := gi_b (lo := 0) (hi := 999) g84 236 7 rfl
                  refine wk_i ?_
                  rcases p84_0 with p84_0 | p84_0 | p84_0 | p84_0 | p84_0
                  ·
                    refine wr_is (k0 := 239) (a := 6) (f := 6) (x := z92) (bl := 0) (bh := 999) (nx := 154) (r1 := 0) (r2 := 0) (r3 := 0) rfl (by decide) rfl (by omega) (by omega) (by decide) g84 rfl (by omega) (fun h104 g104 w104 u104 => ?_)
                    have F105 := F95.then rfl u104
                    refine wi_goto (nx := 157) (r1 := 256) (r2 := 0) (r3 := 0) rfl ?_
                    refine wi_return (nx := 257) (r1 := 0) (r2 := 0) (r3 := 0) rfl rfl ?_
                    have e106 : h104 236 8 = h84 236 8 := (u104 236 8 rfl)
                    have e107 : h104 236 4 = h84 236 4 := (u104 236 4 rfl)
                    have e108 : h104 239 5 = z69 := ((u104 239 5 rfl).trans ((u84 239 5 rfl).trans w81))
                    have e109 : h104 239 7 = h 239 7 := ((u104 239 7 rfl).trans ((u84 239 7 rfl).trans ((u81 239 7 rfl).trans ((u61 239 7 rfl).trans ((u59 239 7 rfl).trans (u49 239 7 rfl))))))
                    have e110 : h104 239 15 = h 239 15 := ((u104 239 15 rfl).trans ((u84 239 15 rfl).trans ((u81 239 15 rfl).trans ((u61 239 15 rfl).trans ((u59 239 15 rfl).trans (u49 239 15 rfl))))))
                    have e111 : h104 239 16 = h 239 16 := ((u104 239 16 rfl).trans ((u84 239 16 rfl).trans ((u81 239 16 rfl).trans ((u61 239 16 rfl).trans ((u59 239 16 rfl).trans (u49 239 16 rfl))))))
                    have e112 : h104 239 17 = h 239 17 := ((u104 239 17 rfl).trans ((u84 239 17 rfl).trans ((u81 239 17 rfl).trans ((u61 239 17 rfl).trans ((u59 239 17 rfl).trans (u49 239 17 rfl))))))
                    have e113 : h104 239 18 = h 239 18 := ((u104 239 18 rfl).trans ((u84 239 18 rfl).trans ((u81 239 18 rfl).trans ((u61 239 18 rfl).trans ((u59 239 18 rfl).trans (u49 239 18 rfl))))))
                    have e114 : h104 236 9 = h84 236 9 := (u104 236 9 rfl)
                    exact k h104 g104 F105 (show (h104 236 8) = 0 ∨ 1 ≤ (h104 236 8) by omega) (show (h 236 4) ≤ (h104 236 4) by omega) (show (h104 236 4) ≤ (h 236 3) by omega) (show 1 ≤ (h104 236 8) ∨ ((h104 239 5) ≤ 9 ∧ 1 ≤ (h104 239 5) ∧ (h104 239 7) ≤ 3 ∧ (h104 239 15) ≤ 6 ∧ (h104 239 16) ≤ 6 ∧ (h104 239 17) ≤ 6 ∧ (h104 239 18) ≤ 6) by omega) (show (h104 236 8) ≠ 0 ∨ (h104 236 9) = -1 by omega) (by unfold tk_stm; (repeat (first | rw [if_pos (by omega)] | rw [if_neg (by omega)])); exact (by unfold tk_batch tk_once tk_wrd tk_num; (try dsimp only); (repeat (first | rw [if_pos (by omega)] | rw [if_neg (by omega)])); (repeat ((first | unfold tk_once | unfold tk_wrd | unfold tk_num); (try dsimp only); (repeat (first | rw [if_pos (by omega)] | rw [if_neg (by omega)])))); first | exact tk_ORe (by omega) (by omega) (by omega) | ((repeat' split) <;> (first | exact tk_ORe (by omega) (by omega) (by omega) | (exfalso; omega)))))
                  ·
                    have tk104 := p84_0.2.2.2.2.2.2.2.2.2
                    have tN105 := @tk_nx_b tB tn (tk_nx tB tn tp) (by omega) (by omega)
                    have tN106 := @tk_nx_b tB tn (tk_nx tB tn (tk_nx tB tn tp)) (by omega) (by omega)
                    exfalso; omega
                  ·
                    exfalso; omega
                  ·
                    have tN104 := @tk_nx_b tB tn tp (by omega) (by omega)
                    exfalso; omega
                  ·
                    have tN104 := @tk_nx_b tB tn tp (by omega) (by omega)
                    exfalso; omega
                ·
                  have tk81 := p61_0.2.2.2.2.2.2.2
                  have tN82 := @tk_nx_b tB tn (tk_nx tB tn tp) (by omega) (by omega)
                  exfalso; omega
                ·
                  exfalso; omega
                ·
                  exfalso; omega
          ·
            refine wi_iconst (n := 1) (nx := 25) (r1 := 0) (r2 := 0) (r3 := 0) rfl ?_
            refine wi_goto (nx := 28) (r1 := 29) (r2 := 0) (r3 := 0) rfl ?_
            refine wi_zreturn (nx := 30) (r1 := 0) (r2 := 0) (r3 := 0) rfl rfl (by omega) ?_
            refine wk_i ?_
            refine wi_if (cd := .eq) (nx := 61) (r1 := 102) (r2 := 0) (r3 := 0) rfl (by omega) (fun (q41 : 1 = 0) => by exfalso; omega) (fun (q41 : ¬ (1 = 0)) => ?_)
            refine wi_aload_n (i := 0) (x := 236) (nx := 62) (r1 := 0) (r2 := 0) (r3 := 0) rfl rfl ?_
            refine wi_aload_n (i := 0) (x := 236) (nx := 63) (r1 := 0) (r2 := 0) (r3 := 0) rfl rfl ?_
            refine wi_aload_n (i := 0) (x := 236) (nx := 64) (r1 := 0) (r2 := 0) (r3 := 0) rfl rfl ?_
            have b42 := gi_b (lo := 0) (hi := 1) g 236 23 rfl
            refine wr_gi2 (k0 := 236) (x := h 236 23) (nx := 67) (r1 := 11) (r2 := 23) (r3 := 0) rfl rfl (by decide) rfl ⟨rfl, rfl⟩ rfl rfl ?_
            refine wr_V (k0 := 236) (rest := [.ref 236]) (as := [.ref 236, vi (h 236 23)]) (nx := 70) (r1 := 234) (r2 := 1) (r3 := 11) rfl rfl rfl (of_decide_eq_true rfl) rfl rfl (by decide) rfl rfl (of_decide_eq_true rfl) (of_decide_eq_true rfl) ?_
            refine ct_234_236 hcr  g (h 236 23) (by omega) (show (h 236 4) ≤ (h 236 3) by omega) (show 0 ≤ tp by omega) (show tp ≤ tn by omega) (show tp ≤ tk_nx tB tn tp ∧ tk_nx tB tn tp ≤ tn by omega) (show 1 ≤ (h 236 8) ∨ ((h 236 4) = tk_nx tB tn tp ∧ (h 236 5) = tk_st tB tn tp ∧ ((tk_kd tB tn tp = 0 ∧ (h 236 6) = 0) ∨ (tk_kd tB tn tp = 1 ∧ (h 236 6) = 1 ∧ (h 236 12) = tk_sw tB tn tp) ∨ (tk_kd tB tn tp = 2 ∧ (h 236 6) = 2 ∧ (h 236 7) = tk_nb tB tn tp) ∨ (tk_kd tB tn tp = 3 ∧ (h 236 6) = 3 ∧ (h 236 7) = 59) ∨ (tk_kd tB tn tp = 4 ∧ (h 236 6) = 3 ∧ (h 236 7) = 40) ∨ (tk_kd tB tn tp = 5 ∧ (h 236 6) = 3 ∧ (h 236 7) = 41) ∨ (tk_kd tB tn tp = 6 ∧ (h 236 6) = 4))) from (Or.inr (show ((h 236 4) = tk_nx tB tn tp ∧ (h 236 5) = tk_st tB tn tp ∧ ((tk_kd tB tn tp = 0 ∧ (h 236 6) = 0) ∨ (tk_kd tB tn tp = 1 ∧ (h 236 6) = 1 ∧ (h 236 12) = tk_sw tB tn tp) ∨ (tk_kd tB tn tp = 2 ∧ (h 236 6) = 2 ∧ (h 236 7) = tk_nb tB tn tp) ∨ (tk_kd tB tn tp = 3 ∧ (h 236 6) = 3 ∧ (h 236 7) = 59) ∨ (tk_kd tB tn tp = 4 ∧ (h 236 6) = 3 ∧ (h 236 7) = 40) ∨ (tk_kd tB tn tp = 5 ∧ (h 236 6) = 3 ∧ (h 236 7) = 41) ∨ (tk_kd tB tn tp = 6 ∧ (h 236 6) = 4))) by first | assumption | exact tk_mv (by assumption) (by omega) (by omega) (by omega) (by omega) (by omega)))) (show tk_kd tB tn tp = 1 by omega) xq0 (fun h43 z44 g43 u43 (fz44 : 1 ≤ z44 ∧ z44 ≤ 1) (p43_0 : (1 ≤ (h 236 8) ∧ (h43 236 8) = (h 236 8) ∧ (h43 236 9) = (h 236 9)) ∨ ((h 236 8) = 0 ∧ (h 236 23) = 0 ∧ (h43 236 8) = (h 236 8) ∧ (h43 236 9) = (h 236 9) ∧ ((h43 236 4) = tk_nx tB tn (tk_nx tB tn tp) ∧ (h43 236 5) = tk_st tB tn (tk_nx tB tn tp) ∧ ((tk_kd tB tn (tk_nx tB tn tp) = 0 ∧ (h43 236 6) = 0) ∨ (tk_kd tB tn (tk_nx tB tn tp) = 1 ∧ (h43 236 6) = 1 ∧ (h43 236 12) = tk_sw tB tn (tk_nx tB tn tp)) ∨ (tk_kd tB tn (tk_nx tB tn tp) = 2 ∧ (h43 236 6) = 2 ∧ (h43 236 7) = tk_nb tB tn (tk_nx tB tn tp)) ∨ (tk_kd tB tn (tk_nx tB tn tp) = 3 ∧ (h43 236 6) = 3 ∧ (h43 236 7) = 59) ∨ (tk_kd tB tn (tk_nx tB tn tp) = 4 ∧ (h43 236 6) = 3 ∧ (h43 236 7) = 40) ∨ (tk_kd tB tn (tk_nx tB tn tp) = 5 ∧ (h43 236 6) = 3 ∧ (h43 236 7) = 41) ∨ (tk_kd tB tn (tk_nx tB tn tp) = 6 ∧ (h43 236 6) = 4)))) ∨ ((h 236 8) = 0 ∧ (h 236 23) = 1 ∧ (h43 236 8) = 3 ∧ (h43 236 9) = tk_st tB tn tp)) (p43_1 : (h 236 4) ≤ (h43 236 4)) (p43_2 : (h43 236 4) ≤ (h 236 3)) (p43_3 : 1 ≤ (h43 236 8) ∨ (h 236 8) = 0) (p43_4 : z44 = 1) => ?_)
            have F45 := F0.then (by decide +kernel) u43
            have b46 := gi_b (lo := 0) (hi := 5) g43 236 8 rfl
            have b47 := gi_b (lo := -2147483648) (hi := 2147483647) g43 236 9 rfl
            have b48 := gi_b (lo := 0) (hi := 800) g43 236 4 rfl
            have b49 := gi_b (lo := 0) (hi := 800) g43 236 5 rfl
            have b50 := gi_b (lo := 0) (hi := 4) g43 236 6 rfl
            have b51 := gi_b (lo := -9223372036854775808) (hi := 9223372036854775807) g43 236 12 rfl
            have b52 := gi_b (lo := 0) (hi := 999) g43 236 7 rfl
            refine wk_i ?_
            rcases p43_0 with p43_0 | p43_0 | p43_0
            ·
              exfalso; omega
            ·
              have tk53 := p43_0.2.2.2.2
              have tN54 := @tk_nx_b tB tn (tk_nx tB tn tp) (by omega) (by omega)
              refine wr_pf2 (k0 := 236) (x := z44) (bl := 0) (bh := 1) (nx := 73) (r1 := 11) (r2 := 23) (r3 := 2) rfl (by decide) rfl ⟨rfl, rfl⟩ rfl (by omega) rfl g43 rfl (by omega) (fun h55 g55 w55 u55 => ?_)
              have F56 := F45.then rfl u55
              refine wi_aload_n (i := 0) (x := 236) (nx := 74) (r1 := 0) (r2 := 0) (r3 := 0) rfl rfl ?_
              refine wr_gr (k0 := 236) (x := 239) (nx := 77) (r1 := 11) (r2 := 14) (r3 := 0) rfl rfl (by decide) rfl ⟨rfl, rfl⟩ rfl ?_
              refine wi_iconst (n := 3) (nx := 78) (r1 := 0) (r2 := 0) (r3 := 0) rfl ?_
              refine wi_aload_n (i := 0) (x := 236) (nx := 79) (r1 := 0) (r2 := 0) (r3 := 0) rfl rfl ?_
              refine wi_iconst (n := 0) (nx := 80) (r1 := 0) (r2 := 0) (r3 := 0) rfl ?_
              refine wi_bipush (n := 11) (nx := 82) (r1 := 0) (r2 := 0) (r3 := 0) rfl (by decide) ?_
              refine wr_V (k0 := 236) (rest := [vi 3, .ref 239]) (as := [.ref 236, vi 0, vi 11]) (nx := 85) (r1 := 231) (r2 := 2) (r3 := 11) rfl rfl rfl (of_decide_eq_true rfl) rfl rfl (by decide) rfl rfl (of_decide_eq_true rfl) (of_decide_eq_true rfl) ?_
              have e58 : h55 236 4 = h43 236 4 := (u55 236 4 rfl)
              have e59 : h55 236 3 = h 236 3 := ((u55 236 3 rfl).trans (u43 236 3 rfl))
              have e60 : h55 236 8 = h43 236 8 := (u55 236 8 rfl)
              have e61 : h55 236 5 = h43 236 5 := (u55 236 5 rfl)
              have e62 : h55 236 6 = h43 236 6 := (u55 236 6 rfl)
              have e63 : h55 236 12 = h43 236 12 := (u55 236 12 rfl)
              have e64 : h55 236 7 = h43 236 7 := (u55 236 7 rfl)
              have rb66 := RefB.fr u43 rfl xq0
              have rb67 := RefB.fr u55 rfl rb66
              refine ct_231_236 hcr  g55 0 11 (by omega) (by omega) (show (h55 236 4) ≤ (h55 236 3) by omega) (show 0 ≤ (tk_nx tB tn tp) by omega) (show (tk_nx tB tn tp) ≤ tn by omega) (show (tk_nx tB tn tp) ≤ tk_nx tB tn (tk_nx tB tn tp) ∧ tk_nx tB tn (tk_nx tB tn tp) ≤ tn by omega) (show 1 ≤ (h55 236 8) ∨ ((h55 236 4) = tk_nx tB tn (tk_nx tB tn tp) ∧ (h55 236 5) = tk_st tB tn (tk_nx tB tn tp) ∧ ((tk_kd tB tn (tk_nx tB tn tp) = 0 ∧ (h55 236 6) = 0) ∨ (tk_kd tB tn (tk_nx tB tn tp) = 1 ∧ (h55 236 6) = 1 ∧ (h55 236 12) = tk_sw tB tn (tk_nx tB tn tp)) ∨ (tk_kd tB tn (tk_nx tB tn tp) = 2 ∧ (h55 236 6) = 2 ∧ (h55 236 7) = tk_nb tB tn (tk_nx tB tn tp)) ∨ (tk_kd tB tn (tk_nx tB tn tp) = 3 ∧ (h55 236 6) = 3 ∧ (h55 236 7) = 59) ∨ (tk_kd tB tn (tk_nx tB tn tp) = 4 ∧ (h55 236 6) = 3 ∧ (h55 236 7) = 40) ∨ (tk_kd tB tn (tk_nx tB tn tp) = 5 ∧ (h55 236 6) = 3 ∧ (h55 236 7) = 41) ∨ (tk_kd tB tn (tk_nx tB tn tp) = 6 ∧ (h55 236 6) = 4))) from (Or.inr (show ((h55 236 4) = tk_nx tB tn (tk_nx tB tn tp) ∧ (h55 236 5) = tk_st tB tn (tk_nx tB tn tp) ∧ ((tk_kd tB tn (tk_nx tB tn tp) = 0 ∧ (h55 236 6) = 0) ∨ (tk_kd tB tn (tk_nx tB tn tp) = 1 ∧ (h55 236 6) = 1 ∧ (h55 236 12) = tk_sw tB tn (tk_nx tB tn tp)) ∨ (tk_kd tB tn (tk_nx tB tn tp) = 2 ∧ (h55 236 6) = 2 ∧ (h55 236 7) = tk_nb tB tn (tk_nx tB tn tp)) ∨ (tk_kd tB tn (tk_nx tB tn tp) = 3 ∧ (h55 236 6) = 3 ∧ (h55 236 7) = 59) ∨ (tk_kd tB tn (tk_nx tB tn tp) = 4 ∧ (h55 236 6) = 3 ∧ (h55 236 7) = 40) ∨ (tk_kd tB tn (tk_nx tB tn tp) = 5 ∧ (h55 236 6) = 3 ∧ (h55 236 7) = 41) ∨ (tk_kd tB tn (tk_nx tB tn tp) = 6 ∧ (h55 236 6) = 4))) by first | assumption | exact tk_mv (by assumption) (by omega) (by omega) (by omega) (by omega) (by omega)))) rb67 (fun h57 z65 g57 u57 (fz65 : 0 ≤ z65 ∧ z65 ≤ 999) (p57_0 : (1 ≤ (h55 236 8) ∧ (h57 236 8) = (h55 236 8) ∧ (h57 236 9) = (h55 236 9)) ∨ ((h55 236 8) = 0 ∧ tk_kd tB tn (tk_nx tB tn tp) = 2 ∧ 0 ≤ tk_nb tB tn (tk_nx tB tn tp) ∧ tk_nb tB tn (tk_nx tB tn tp) ≤ 11 ∧ z65 = tk_nb tB tn (tk_nx tB tn tp) ∧ (h57 236 8) = (h55 236 8) ∧ (h57 236 9) = (h55 236 9) ∧ ((h57 236 4) = tk_nx tB tn (tk_nx tB tn (tk_nx tB tn tp)) ∧ (h57 236 5) = tk_st tB tn (tk_nx tB tn (tk_nx tB tn tp)) ∧ ((tk_kd tB tn (tk_nx tB tn (tk_nx tB tn tp)) = 0 ∧ (h57 236 6) = 0) ∨ (tk_kd tB tn (tk_nx tB tn (tk_nx tB tn tp)) = 1 ∧ (h57 236 6) = 1 ∧ (h57 236 12) = tk_sw tB tn (tk_nx tB tn (tk_nx tB tn tp))) ∨ (tk_kd tB tn (tk_nx tB tn (tk_nx tB tn tp)) = 2 ∧ (h57 236 6) = 2 ∧ (h57 236 7) = tk_nb tB tn (tk_nx tB tn (tk_nx tB tn tp))) ∨ (tk_kd tB tn (tk_nx tB tn (tk_nx tB tn tp)) = 3 ∧ (h57 236 6) = 3 ∧ (h57 236 7) = 59) ∨ (tk_kd tB tn (tk_nx tB tn (tk_nx tB tn tp)) = 4 ∧ (h57 236 6) = 3 ∧ (h57 236 7) = 40) ∨ (tk_kd tB tn (tk_nx tB tn (tk_nx tB tn tp)) = 5 ∧ (h57 236 6) = 3 ∧ (h57 236 7) = 41) ∨ (tk_kd tB tn (tk_nx tB tn (tk_nx tB tn tp)) = 6 ∧ (h57 236 6) = 4)))) ∨ ((h55 236 8) = 0 ∧ tk_kd tB tn (tk_nx tB tn tp) ≠ 2 ∧ (h57 236 8) = 1 ∧ (h57 236 9) = tk_st tB tn (tk_nx tB tn tp)) ∨ ((h55 236 8) = 0 ∧ tk_kd tB tn (tk_nx tB tn tp) = 2 ∧ (tk_nb tB tn (tk_nx tB tn tp) < 0 ∨ 11 < tk_nb tB tn (tk_nx tB tn tp)) ∧ (h57 236 8) = 2 ∧ (h57 236 9) = tk_st tB tn (tk_nx tB tn tp))) (p57_1 : (h55 236 4) ≤ (h57 236 4)) (p57_2 : (h57 236 4) ≤ (h55 236 3)) (p57_3 : 1 ≤ (h57 236 8) ∨ (h55 236 8) = 0) (p57_4 : 1 ≤ (h57 236 8) ∨ (0 ≤ z65 ∧ z65 ≤ 11)) (p57_5 : 1 ≤ (h57 236 8) ∨ (h55 236 6) = 2) => ?_)
              have F68 := F56.then (by decide +kernel) u57
              have e69 : h55 236 9 = h43 236 9 := (u55 236 9 rfl)
              have b70 := gi_b (lo := 0) (hi := 5) g57 236 8 rfl
              have b71 := gi_b (lo := -2147483648) (hi := 2147483647) g57 236 9 rfl
              have b72 := gi_b (lo := 0) (hi := 800) g57 236 4 rfl
              have b73 := gi_b (lo := 0) (hi := 800) g57 236 5 rfl
              have b74 := gi_b (lo := 0) (hi := 4) g57 236 6 rfl
              have b75 := gi_b (lo := -9223372036854775808) (hi := 9223372036854775807) g57 236 12 rfl
              have b76 := gi_b (lo := 0) (hi := 999) g57 236 7 rfl
              refine wk_i ?_
              rcases p57_0 with p57_0 | p57_0 | p57_0 | p57_0
              ·
                exfalso; omega
              ·
                have tk77 := p57_0.2.2.2.2.2.2.2
                have tN78 := @tk_nx_b tB tn (tk_nx tB tn (tk_nx tB tn tp)) (by omega) (by omega)
                refine wr_is (k0 := 239) (a := 3) (f := 3) (x := z65) (bl := 0) (bh := 999) (nx := 86) (r1 := 0) (r2 := 0) (r3 := 0) rfl (by decide) rfl (by omega) (by omega) (by decide) g57 rfl (by omega) (fun h79 g79 w79 u79 => ?_)
                have F80 := F68.then rfl u79
                refine wi_aload_n (i := 0) (x := 236) (nx := 87) (r1 := 0) (r2 := 0) (r3 := 0) rfl rfl ?_
                refine wr_gr (k0 := 236) (x := 239) (nx := 90) (r1 := 11) (r2 := 14) (r3 := 0) rfl rfl (by decide) rfl ⟨rfl, rfl⟩ rfl ?_
                refine wi_iconst (n := 4) (nx := 91) (r1 := 0) (r2 := 0) (r3 := 0) rfl ?_
                refine wi_aload_n (i := 0) (x := 236) (nx := 92) (r1 := 0) (r2 := 0) (r3 := 0) rfl rfl ?_
                refine wi_iconst (n := 0) (nx := 93) (r1 := 0) (r2 := 0) (r3 := 0) rfl ?_
                refine wi_bipush (n := 11) (nx := 95) (r1 := 0) (r2 := 0) (r3 := 0) rfl (by decide) ?_
                refine wr_V (k0 := 236) (rest := [vi 4, .ref 239]) (as := [.ref 236, vi 0, vi 11]) (nx := 98) (r1 := 231) (r2 := 2) (r3 := 11) rfl rfl rfl (of_decide_eq_true rfl) rfl rfl (by decide) rfl rfl (of_decide_eq_true rfl) (of_decide_eq_true rfl) ?_
                have e82 : h79 236 4 = h57 236 4 := (u79 236 4 rfl)
                have e83 : h79 236 3 = h 236 3 := ((u79 236 3 rfl).trans ((u57 236 3 rfl).trans ((u55 236 3 rfl).trans (u43 236 3 rfl))))
                have e84 : h79 236 8 = h57 236 8 := (u79 236 8 rfl)
                have e85 : h79 236 5 = h57 236 5 := (u79 236 5 rfl)
                have e86 : h79 236 6 = h57 236 6 := (u79 236 6 rfl)
                have e87 : h79 236 12 = h57 236 12 := (u79 236 12 rfl)
                have e88 : h79 236 7 = h57 236 7 := (u79 236 7 rfl)
                have rb90 := RefB.fr u57 rfl rb67
                have rb91 := RefB.fr u79 rfl rb90
                refine ct_231_236 hcr  g79 0 11 (by omega) (by omega) (show (h79 236 4) ≤ (h79 236 3) by omega) (show 0 ≤ (tk_nx tB tn (tk_nx tB tn tp)) by omega) (show (tk_nx tB tn (tk_nx tB tn tp)) ≤ tn by omega) (show (tk_nx tB tn (tk_nx tB tn tp)) ≤ tk_nx tB tn (tk_nx tB tn (tk_nx tB tn tp)) ∧ tk_nx tB tn (tk_nx tB tn (tk_nx tB tn tp)) ≤ tn by omega) (show 1 ≤ (h79 236 8) ∨ ((h79 236 4) = tk_nx tB tn (tk_nx tB tn (tk_nx tB tn tp)) ∧ (h79 236 5) = tk_st tB tn (tk_nx tB tn (tk_nx tB tn tp)) ∧ ((tk_kd tB tn (tk_nx tB tn (tk_nx tB tn tp)) = 0 ∧ (h79 236 6) = 0) ∨ (tk_kd tB tn (tk_nx tB tn (tk_nx tB tn tp)) = 1 ∧ (h79 236 6) = 1 ∧ (h79 236 12) = tk_sw tB tn (tk_nx tB tn (tk_nx tB tn tp))) ∨ (tk_kd tB tn (tk_nx tB tn (tk_nx tB tn tp)) = 2 ∧ (h79 236 6) = 2 ∧ (h79 236 7) = tk_nb tB tn (tk_nx tB tn (tk_nx tB tn tp))) ∨ (tk_kd tB tn (tk_nx tB tn (tk_nx tB tn tp)) = 3 ∧ (h79 236 6) = 3 ∧ (h79 236 7) = 59) ∨ (tk_kd tB tn (tk_nx tB tn (tk_nx tB tn tp)) = 4 ∧ (h79 236 6) = 3 ∧ (h79 236 7) = 40) ∨ (tk_kd tB tn (tk_nx tB tn (tk_nx tB tn tp)) = 5 ∧ (h79 236 6) = 3 ∧ (h79 236 7) = 41) ∨ (tk_kd tB tn (tk_nx tB tn (tk_nx tB tn tp)) = 6 ∧ (h79 236 6) = 4))) from (Or.inr (show ((h79 236 4) = tk_nx tB tn (tk_nx tB tn (tk_nx tB tn tp)) ∧ (h79 236 5) = tk_st tB tn (tk_nx tB tn (tk_nx tB tn tp)) ∧ ((tk_kd tB tn (tk_nx tB tn (tk_nx tB tn tp)) = 0 ∧ (h79 236 6) = 0) ∨ (tk_kd tB tn (tk_nx tB tn (tk_nx tB tn tp)) = 1 ∧ (h79 236 6) = 1 ∧ (h79 236 12) = tk_sw tB tn (tk_nx tB tn (tk_nx tB tn tp))) ∨ (tk_kd tB tn (tk_nx tB tn (tk_nx tB tn tp)) = 2 ∧ (h79 236 6) = 2 ∧ (h79 236 7) = tk_nb tB tn (tk_nx tB tn (tk_nx tB tn tp))) ∨ (tk_kd tB tn (tk_nx tB tn (tk_nx tB tn tp)) = 3 ∧ (h79 236 6) = 3 ∧ (h79 236 7) = 59) ∨ (tk_kd tB tn (tk_nx tB tn (tk_nx tB tn tp)) = 4 ∧ (h79 236 6) = 3 ∧ (h79 236 7) = 40) ∨ (tk_kd tB tn (tk_nx tB tn (tk_nx tB tn tp)) = 5 ∧ (h79 236 6) = 3 ∧ (h79 236 7) = 41) ∨ (tk_kd tB tn (tk_nx tB tn (tk_nx tB tn tp)) = 6 ∧ (h79 236 6) = 4))) by first | assumption | exact tk_mv (by assumption) (by omega) (by omega) (by omega) (by omega) (by omega)))) rb91 (fun h81 z89 g81 u81 (fz89 : 0 ≤ z89 ∧ z89 ≤ 999) (p81_0 : (1 ≤ (h79 236 8) ∧ (h81 236 8) = (h79 236 8) ∧ (h81 236 9) = (h79 236 9)) ∨ ((h79 236 8) = 0 ∧ tk_kd tB tn (tk_nx tB tn (tk_nx tB tn tp)) = 2 ∧ 0 ≤ tk_nb tB tn (tk_nx tB tn (tk_nx tB tn tp)) ∧ tk_nb tB tn (tk_nx tB tn (tk_nx tB tn tp)) ≤ 11 ∧ z89 = tk_nb tB tn (tk_nx tB tn (tk_nx tB tn tp)) ∧ (h81 236 8) = (h79 236 8) ∧ (h81 236 9) = (h79 236 9) ∧ ((h81 236 4) = tk_nx tB tn (tk_nx tB tn (tk_nx tB tn (tk_nx tB tn tp))) ∧ (h81 236 5) = tk_st tB tn (tk_nx tB tn (tk_nx tB tn (tk_nx tB tn tp))) ∧ ((tk_kd tB tn (tk_nx tB tn (tk_nx tB tn (tk_nx tB tn tp))) = 0 ∧ (h81 236 6) = 0) ∨ (tk_kd tB tn (tk_nx tB tn (tk_nx tB tn (tk_nx tB tn tp))) = 1 ∧ (h81 236 6) = 1 ∧ (h81 236 12) = tk_sw tB tn (tk_nx tB tn (tk_nx tB tn (tk_nx tB tn tp)))) ∨ (tk_kd tB tn (tk_nx tB tn (tk_nx tB tn (tk_nx tB tn tp))) = 2 ∧ (h81 236 6) = 2 ∧ (h81 236 7) = tk_nb tB tn (tk_nx tB tn (tk_nx tB tn (tk_nx tB tn tp)))) ∨ (tk_kd tB tn (tk_nx tB tn (tk_nx tB tn (tk_nx tB tn tp))) = 3 ∧ (h81 236 6) = 3 ∧ (h81 236 7) = 59) ∨ (tk_kd tB tn (tk_nx tB tn (tk_nx tB tn (tk_nx tB tn tp))) = 4 ∧ (h81 236 6) = 3 ∧ (h81 236 7) = 40) ∨ (tk_kd tB tn (tk_nx tB tn (tk_nx tB tn (tk_nx tB tn tp))) = 5 ∧ (h81 236 6) = 3 ∧ (h81 236 7) = 41) ∨ (tk_kd tB tn (tk_nx tB tn (tk_nx tB tn (tk_nx tB tn tp))) = 6 ∧ (h81 236 6) = 4)))) ∨ ((h79 236 8) = 0 ∧ tk_kd tB tn (tk_nx tB tn (tk_nx tB tn tp)) ≠ 2 ∧ (h81 236 8) = 1 ∧ (h81 236 9) = tk_st tB tn (tk_nx tB tn (tk_nx tB tn tp))) ∨ ((h79 236 8) = 0 ∧ tk_kd tB tn (tk_nx tB tn (tk_nx tB tn tp)) = 2 ∧ (tk_nb tB tn (tk_nx tB tn (tk_nx tB tn tp)) < 0 ∨ 11 < tk_nb tB tn (tk_nx tB tn (tk_nx tB tn tp))) ∧ (h81 236 8) = 2 ∧ (h81 236 9) = tk_st tB tn (tk_nx tB tn (tk_nx tB tn tp)))) (p81_1 : (h79 236 4) ≤ (h81 236 4)) (p81_2 : (h81 236 4) ≤ (h79 236 3)) (p81_3 : 1 ≤ (h81 236 8) ∨ (h79 236 8) = 0) (p81_4 : 1 ≤ (h81 236 8) ∨ (0 ≤ z89 ∧ z89 ≤ 11)) (p81_5 : 1 ≤ (h81 236 8) ∨ (h79 236 6) = 2) => ?_)
                have F92 := F80.then (by decide +kernel) u81
                have e93 : h79 236 9 = h57 236 9 := (u79 236 9 rfl)
                have b94 := gi_b (lo := 0) (hi := 5) g81 236 8 rfl
                have b95 := gi_b (lo := -2147483648) (hi := 2147483647) g81 236 9 rfl
                have b96 := gi_b (lo := 0) (hi := 800) g81 236 4 rfl
                have b97 := gi_b (lo := 0) (hi := 800) g81 236 5 rfl
                have b98 := gi_b (lo := 0) (hi := 4) g81 236 6 rfl
                have b99 := gi_b (lo := -9223372036854775808) (hi := 9223372036854775807) g81 236 12 rfl
                have b100 := gi_b (lo := 0) (hi := 999) g81 236 7 rfl
                refine wk_i ?_
                rcases p81_0 with p81_0 | p81_0 | p81_0 | p81_0
                ·
                  exfalso; omega
                ·
                  have tk101 := p81_0.2.2.2.2.2.2.2
                  have tN102 := @tk_nx_b tB tn (tk_nx tB tn (tk_nx tB tn (tk_nx tB tn tp))) (by omega) (by omega)
                  refine wr_is (k0 := 239) (a := 4) (f := 4) (x := z89) (bl := 0) (bh := 999) (nx := 99) (r1 := 0) (r2 := 0) (r3 := 0) rfl (by decide) rfl (by omega) (by omega) (by decide) g81 rfl (by omega) (fun h103 g103 w103 u103 => ?_)
                  have F104 := F92.then rfl u103
                  refine wi_goto (nx := 102) (r1 := 256) (r2 := 0) (r3 := 0) rfl ?_
                  refine wi_return (nx := 257) (r1 := 0) (r2 := 0) (r3 := 0) rfl rfl ?_
                  have e105 : h103 236 8 = h81 236 8 := (u103 236 8 rfl)
                  have e106 : h103 236 4 = h81 236 4 := (u103 236 4 rfl)
                  have e107 : h103 239 5 = h 239 5 := ((u103 239 5 rfl).trans ((u81 239 5 rfl).trans ((u79 239 5 rfl).trans ((u57 239 5 rfl).trans ((u55 239 5 rfl).trans (u43 239 5 rfl))))))
                  have e108 : h103 239 7 = h 239 7 := ((u103 239 7 rfl).trans ((u81 239 7 rfl).trans ((u79 239 7 rfl).trans ((u57 239 7 rfl).trans ((u55 239 7 rfl).trans (u43 239 7 rfl))))))
                  have e109 : h103 239 15 = h 239 15 := ((u103 239 15 rfl).trans ((u81 239 15 rfl).trans ((u79 239 15 rfl).trans ((u57 239 15 rfl).trans ((u55 239 15 rfl).trans (u43 239 15 rfl))))))
                  have e110 : h103 239 16 = h 239 16 := ((u103 239 16 rfl).trans ((u81 239 16 rfl).trans ((u79 239 16 rfl).trans ((u57 239 16 rfl).trans ((u55 239 16 rfl).trans (u43 239 16 rfl))))))
                  have e111 : h103 239 17 = h 239 17 := ((u103 239 17 rfl).trans ((u81 239 17 rfl).trans ((u79 239 17 rfl).trans ((u57 239 17 rfl).trans ((u55 239 17 rfl).trans (u43 239 17 rfl))))))
                  have e112 : h103 239 18 = h 239 18 := ((u103 239 18 rfl).trans ((u81 239 18 rfl).trans ((u79 239 18 rfl).trans ((u57 239 18 rfl).trans ((u55 239 18 rfl).trans (u43 239 18 rfl))))))
                  have e113 : h103 236 9 = h81 236 9 := (u103 236 9 rfl)
                  have e114 : h103 239 0 = h 239 0 := ((u103 239 0 rfl).trans ((u81 239 0 rfl).trans ((u79 239 0 rfl).trans ((u57 239 0 rfl).trans ((u55 239 0 rfl).trans (u43 239 0 rfl))))))
                  have e115 : h103 239 1 = h 239 1 := ((u103 239 1 rfl).trans ((u81 239 1 rfl).trans ((u79 239 1 rfl).trans ((u57 239 1 rfl).trans ((u55 239 1 rfl).trans (u43 239 1 rfl))))))
                  have e116 : h103 239 2 = h 239 2 := ((u103 239 2 rfl).trans ((u81 239 2 rfl).trans ((u79 239 2 rfl).trans ((u57 239 2 rfl).trans ((u55 239 2 rfl).trans (u43 239 2 rfl))))))
                  have e117 : h103 239 3 = z65 := ((u103 239 3 rfl).trans ((u81 239 3 rfl).trans w79))
                  have e118 : h103 239 4 = z89 := w103
                  have b119 := gi_b (lo := 0) (hi := 999) g 239 6 rfl
                  have e120 : h103 239 6 = h 239 6 := ((u103 239 6 rfl).trans ((u81 239 6 rfl).trans ((u79 239 6 rfl).trans ((u57 239 6 rfl).trans ((u55 239 6 rfl).trans (u43 239 6 rfl))))))
                  have b121 := gi_b (lo := 0) (hi := 999) g 239 8 rfl
                  have e122 : h103 239 8 = h 239 8 := ((u103 239 8 rfl).trans ((u81 239 8 rfl).trans ((u79 239 8 rfl).trans ((u57 239 8 rfl).trans ((u55 239 8 rfl).trans (u43 239 8 rfl))))))
                  have b123 := gi_b (lo := 0) (hi := 999) g 239 9 rfl
                  have e124 : h103 239 9 = h 239 9 := ((u103 239 9 rfl).trans ((u81 239 9 rfl).trans ((u79 239 9 rfl).trans ((u57 239 9 rfl).trans ((u55 239 9 rfl).trans (u43 239 9 rfl))))))
                  have e125 : h103 236 23 = z44 := ((u103 236 23 rfl).trans ((u81 236 23 rfl).trans ((u79 236 23 rfl).trans ((u57 236 23 rfl).trans w55))))
                  have b126 := gi_b (lo := 0) (hi := 1) g 236 24 rfl
                  have e127 : h103 236 24 = h 236 24 := ((u103 236 24 rfl).trans ((u81 236 24 rfl).trans ((u79 236 24 rfl).trans ((u57 236 24 rfl).trans ((u55 236 24 rfl).trans (u43 236 24 rfl))))))
                  have b128 := gi_b (lo := 0) (hi := 1) g 236 25 rfl
                  have e129 : h103 236 25 = h 236 25 := ((u103 236 25 rfl).trans ((u81 236 25 rfl).trans ((u79 236 25 rfl).trans ((u57 236 25 rfl).trans ((u55 236 25 rfl).trans (u43 236 25 rfl))))))
                  have b130 := gi_b (lo := 0) (hi := 1) g 236 26 rfl
                  have e131 : h103 236 26 = h 236 26 := ((u103 236 26 rfl).trans ((u81 236 26 rfl).trans ((u79 236 26 rfl).trans ((u57 236 26 rfl).trans ((u55 236 26 rfl).trans (u43 236 26 rfl))))))
                  have e132 : h103 236 5 = h81 236 5 := (u103 236 5 rfl)
                  have e133 : h103 236 6 = h81 236 6 := (u103 236 6 rfl)
                  have e134 : h103 236 7 = h81 236 7 := (u103 236 7 rfl)
                  have e135 : h103 236 12 = h81 236 12 := (u103 236 12 rfl)
                  exact k h103 g103 F104 (show (h103 236 8) = 0 ∨ 1 ≤ (h103 236 8) by omega) (show (h 236 4) ≤ (h103 236 4) by omega) (show (h103 236 4) ≤ (h 236 3) by omega) (show 1 ≤ (h103 236 8) ∨ ((h103 239 5) ≤ 9 ∧ 1 ≤ (h103 239 5) ∧ (h103 239 7) ≤ 3 ∧ (h103 239 15) ≤ 6 ∧ (h103 239 16) ≤ 6 ∧ (h103 239 17) ≤ 6 ∧ (h103 239 18) ≤ 6) by omega) (show (h103 236 8) ≠ 0 ∨ (h103 236 9) = -1 by omega) (by unfold tk_stm; (repeat (first | rw [if_pos (by omega)] | rw [if_neg (by omega)])); exact (by unfold tk_window tk_once tk_num; (try dsimp only); (repeat (first | rw [if_pos (by omega)] | rw [if_neg (by omega)])); (repeat ((first | unfold tk_once | unfold tk_num); (try dsimp only); (repeat (first | rw [if_pos (by omega)] | rw [if_neg (by omega)])))); exact tk_ORs (by omega) (by first | assumption | exact tk_mv (by assumption) (by omega) (by omega) (by omega) (by omega) (by omega)) (CVr.flag xq1 (fun j _ _ _ _ _ _ _ _ _ _ _ => by unfold tk_u; (repeat (first | rw [if_pos (by omega)] | rw [if_neg (by omega)]))) (fun i e => by rcases e with e | e; · exact ((u103 239 i (fn_i (by omega) fn_0)).trans ((u81 239 i (fo_nk rfl)).trans ((u79 239 i (fn_i (by omega) fn_0)).trans ((u57 239 i (fo_nk rfl)).trans ((u55 239 i (fn_a (by omega) fn_0)).trans (u43 239 i (fo_nk rfl))))))); · exact ((u103 239 i (fn_i (by omega) fn_0)).trans ((u81 239 i (fo_nk rfl)).trans ((u79 239 i (fn_i (by omega) fn_0)).trans ((u57 239 i (fo_nk rfl)).trans ((u55 239 i (fn_a (by omega) fn_0)).trans (u43 239 i (fo_nk rfl)))))))) ⟨(by (repeat unfold tk_u); (repeat (first | rw [if_pos (by omega)] | rw [if_neg (by omega)])); all_goals omega), (by (repeat unfold tk_u); (repeat (first | rw [if_pos (by omega)] | rw [if_neg (by omega)])); all_goals omega), (by (repeat unfold tk_u); (repeat (first | rw [if_pos (by omega)] | rw [if_neg (by omega)])); all_goals omega), (by (repeat unfold tk_u); (repeat (first | rw [if_pos (by omega)] | rw [if_neg (by omega)])); all_goals omega), (by (repeat unfold tk_u); (repeat (first | rw [if_pos (by omega)] | rw [if_neg (by omega)])); all_goals omega), (by (repeat unfold tk_u); (repeat (first | rw [if_pos (by omega)] | rw [if_neg (by omega)])); all_goals omega), (by (repeat unfold tk_u); (repeat (first | rw [if_pos (by omega)] | rw [if_neg (by omega)])); all_goals omega)⟩ ⟨(by (repeat unfold tk_u); (repeat (first | rw [if_pos (by omega)] | rw [if_neg (by omega)])); all_goals omega), (by (repeat unfold tk_u); (repeat (first | rw [if_pos (by omega)] | rw [if_neg (by omega)])); all_goals omega), (by (repeat unfold tk_u); (repeat (first | rw [if_pos (by omega)] | rw [if_neg (by omega)])); all_goals omega), (by (repeat unfold tk_u); (repeat (first | rw [if_pos (by omega)] | rw [if_neg (by omega)])); all_goals omega)⟩ (fun i => ((u103 244 i (fn_a (by omega) fn_0)).trans ((u81 244 i (fo_nk rfl)).trans ((u79 244 i (fn_a (by omega) fn_0)).trans ((u57 244 i (fo_nk rfl)).trans ((u55 244 i (fn_a (by omega) fn_0)).trans (u43 244 i (fo_nk rfl)))))))) (by omega) (by omega) (by omega))))
                ·
                  refine wr_is (k0 := 239) (a := 4) (f := 4) (x := z89) (bl := 0) (bh := 999) (nx := 99) (r1 := 0) (r2 := 0) (r3 := 0) rfl (by decide) rfl (by omega) (by omega) (by decide) g81 rfl (by omega) (fun h101 g101 w101 u101 => ?_)
                  have F102 := F92.then rfl u101
                  refine wi_goto (nx := 102) (r1 := 256) (r2 := 0) (r3 := 0) rfl ?_
                  refine wi_return (nx := 257) (r1 := 0) (r2 := 0) (r3 := 0) rfl rfl ?_
                  have e103 : h101 236 8 = h81 236 8 := (u101 236 8 rfl)
                  have e104 : h101 236 4 = h81 236 4 := (u101 236 4 rfl)
                  have e105 : h101 239 5 = h 239 5 := ((u101 239 5 rfl).trans ((u81 239 5 rfl).trans ((u79 239 5 rfl).trans ((u57 239 5 rfl).trans ((u55 239 5 rfl).trans (u43 239 5 rfl))))))
                  have e106 : h101 239 7 = h 239 7 := ((u101 239 7 rfl).trans ((u81 239 7 rfl).trans ((u79 239 7 rfl).trans ((u57 239 7 rfl).trans ((u55 239 7 rfl).trans (u43 239 7 rfl))))))
                  have e107 : h101 239 15 = h 239 15 := ((u101 239 15 rfl).trans ((u81 239 15 rfl).trans ((u79 239 15 rfl).trans ((u57 239 15 rfl).trans ((u55 239 15 rfl).trans (u43 239 15 rfl))))))
                  have e108 : h101 239 16 = h 239 16 := ((u101 239 16 rfl).trans ((u81 239 16 rfl).trans ((u79 239 16 rfl).trans ((u57 239 16 rfl).trans ((u55 239 16 rfl).trans (u43 239 16 rfl))))))
                  have e109 : h101 239 17 = h 239 17 := ((u101 239 17 rfl).trans ((u81 239 17 rfl).trans ((u79 239 17 rfl).trans ((u57 239 17 rfl).trans ((u55 239 17 rfl).trans (u43 239 17 rfl))))))
                  have e110 : h101 239 18 = h 239 18 := ((u101 239 18 rfl).trans ((u81 239 18 rfl).trans ((u79 239 18 rfl).trans ((u57 239 18 rfl).trans ((u55 239 18 rfl).trans (u43 239 18 rfl))))))
                  have e111 : h101 236 9 = h81 236 9 := (u101 236 9 rfl)
                  exact k h101 g101 F102 (show (h101 236 8) = 0 ∨ 1 ≤ (h101 236 8) by omega) (show (h 236 4) ≤ (h101 236 4) by omega) (show (h101 236 4) ≤ (h 236 3) by omega) (show 1 ≤ (h101 236 8) ∨ ((h101 239 5) ≤ 9 ∧ 1 ≤ (h101 239 5) ∧ (h101 239 7) ≤ 3 ∧ (h101 239 15) ≤ 6 ∧ (h101 239 16) ≤ 6 ∧ (h101 239 17) ≤ 6 ∧ (h101 239 18) ≤ 6) by omega) (show (h101 236 8) ≠ 0 ∨ (h101 236 9) = -1 by omega) (by unfold tk_stm; (repeat (first | rw [if_pos (by omega)] | rw [if_neg (by omega)])); exact (by unfold tk_window tk_once tk_num; (try dsimp only); (repeat (first | rw [if_pos (by omega)] | rw [if_neg (by omega)])); (repeat ((first | unfold tk_once | unfold tk_num); (try dsimp only); (repeat (first | rw [if_pos (by omega)] | rw [if_neg (by omega)])))); first | exact tk_ORe (by omega) (by omega) (by omega) | ((repeat' split) <;> (first | exact tk_ORe (by omega) (by omega) (by omega) | (exfalso; omega)))))
                ·
                  refine wr_is (k0 := 239) (a := 4) (f := 4) (x := z89) (bl := 0) (bh := 999) (nx := 99) (r1 := 0) (r2 := 0) (r3 := 0) rfl (by decide) rfl (by omega) (by omega) (by decide) g81 rfl (by omega) (fun h101 g101 w101 u101 => ?_)
                  have F102 := F92.then rfl u101
                  refine wi_goto (nx := 102) (r1 := 256) (r2 := 0) (r3 := 0) rfl ?_
                  refine wi_return (nx := 257) (r1 := 0) (r2 := 0) (r3 := 0) rfl rfl ?_
                  have e103 : h101 236 8 = h81 236 8 := (u101 236 8 rfl)
                  have e104 : h101 236 4 = h81 236 4 := (u101 236 4 rfl)
                  have e105 : h101 239 5 = h 239 5 := ((u101 239 5 rfl).trans ((u81 239 5 rfl).trans ((u79 239 5 rfl).trans ((u57 239 5 rfl).trans ((u55 239 5 rfl).trans (u43 239 5 rfl))))))
                  have e106 : h101 239 7 = h 239 7 := ((u101 239 7 rfl).trans ((u81 239 7 rfl).trans ((u79 239 7 rfl).trans ((u57 239 7 rfl).trans ((u55 239 7 rfl).trans (u43 239 7 rfl))))))
                  have e107 : h101 239 15 = h 239 15 := ((u101 239 15 rfl).trans ((u81 239 15 rfl).trans ((u79 239 15 rfl).trans ((u57 239 15 rfl).trans ((u55 239 15 rfl).trans (u43 239 15 rfl))))))
                  have e108 : h101 239 16 = h 239 16 := ((u101 239 16 rfl).trans ((u81 239 16 rfl).trans ((u79 239 16 rfl).trans ((u57 239 16 rfl).trans ((u55 239 16 rfl).trans (u43 239 16 rfl))))))
                  have e109 : h101 239 17 = h 239 17 := ((u101 239 17 rfl).trans ((u81 239 17 rfl).trans ((u79 239 17 rfl).trans ((u57 239 17 rfl).trans ((u55 239 17 rfl).trans (u43 239 17 rfl))))))
                  have e110 : h101 239 18 = h 239 18 := ((u101 239 18 rfl).trans ((u81 239 18 rfl).trans ((u79 239 18 rfl).trans ((u57 239 18 rfl).trans ((u55 239 18 rfl).trans (u43 239 18 rfl))))))
                  have e111 : h101 236 9 = h81 236 9 := (u101 236 9 rfl)
                  exact k h101 g101 F102 (show (h101 236 8) = 0 ∨ 1 ≤ (h101 236 8) by omega) (show (h 236 4) ≤ (h101 236 4) by omega) (show (h101 236 4) ≤ (h 236 3) by omega) (show 1 ≤ (h101 236 8) ∨ ((h101 239 5) ≤ 9 ∧ 1 ≤ (h101 239 5) ∧ (h101 239 7) ≤ 3 ∧ (h101 239 15) ≤ 6 ∧ (h101 239 16) ≤ 6 ∧ (h101 239 17) ≤ 6 ∧ (h101 239 18) ≤ 6) by omega) (show (h101 236 8) ≠ 0 ∨ (h101 236 9) = -1 by omega) (by unfold tk_stm; (repeat (first | rw [if_pos (by omega)] | rw [if_neg (by omega)])); exact (by unfold tk_window tk_once tk_num; (try dsimp only); (repeat (first | rw [if_pos (by omega)] | rw [if_neg (by omega)])); (repeat ((first | unfold tk_once | unfold tk_num); (try dsimp only); (repeat (first | rw [if_pos (by omega)] | rw [if_neg (by omega)])))); first | exact tk_ORe (by omega) (by omega) (by omega) | ((repeat' split) <;> (first | exact tk_ORe (by omega) (by omega) (by omega) | (exfalso; omega)))))
              ·
                refine wr_is (k0 := 239) (a := 3) (f := 3) (x := z65) (bl := 0) (bh := 999) (nx := 86) (r1 := 0) (r2 := 0) (r3 := 0) rfl (by decide) rfl (by omega) (by omega) (by decide) g57 rfl (by omega) (fun h77 g77 w77 u77 => ?_)
                have F78 := F68.then rfl u77
                refine wi_aload_n (i := 0) (x := 236) (nx := 87) (r1 := 0) (r2 := 0) (r3 := 0) rfl rfl ?_
                refine wr_gr (k0 := 236) (x := 239) (nx := 90) (r1 := 11) (r2 := 14) (r3 := 0) rfl rfl (by decide) rfl ⟨rfl, rfl⟩ rfl ?_
                refine wi_iconst (n := 4) (nx := 91) (r1 := 0) (r2 := 0) (r3 := 0) rfl ?_
                refine wi_aload_n (i := 0) (x := 236) (nx := 92) (r1 := 0) (r2 := 0) (r3 := 0) rfl rfl ?_
                refine wi_iconst (n := 0) (nx := 93) (r1 := 0) (r2 := 0) (r3 := 0) rfl ?_
                refine wi_bipush (n := 11) (nx := 95) (r1 := 0) (r2 := 0) (r3 := 0) rfl (by decide) ?_
                refine wr_V (k0 := 236) (rest := [vi 4, .ref 239]) (as := [.ref 236, vi 0, vi 11]) (nx := 98) (r1 := 231) (r2 := 2) (r3 := 11) rfl rfl rfl (of_decide_eq_true rfl) rfl rfl (by decide) rfl rfl (of_decide_eq_true rfl) (of_decide_eq_true rfl) ?_
                have e80 : h77 236 4 = h57 236 4 := (u77 236 4 rfl)
                have e81 : h77 236 3 = h 236 3 := ((u77 236 3 rfl).trans ((u57 236 3 rfl).trans ((u55 236 3 rfl).trans (u43 236 3 rfl))))
                have e82 : h77 236 8 = h57 236 8 := (u77 236 8 rfl)
                have e83 : h77 236 5 = h57 236 5 := (u77 236 5 rfl)
                have e84 : h77 236 6 = h57 236 6 := (u77 236 6 rfl)
                have e85 : h77 236 12 = h57 236 12 := (u77 236 12 rfl)
                have e86 : h77 236 7 = h57 236 7 := (u77 236 7 rfl)
                have rb88 := RefB.fr u57 rfl rb67
                have rb89 := RefB.fr u77 rfl rb88
                refine ct_231_236 hcr  g77 0 11 (by omega) (by omega) (show (h77 236 4) ≤ (h77 236 3) by omega) (show 0 ≤ (tk_nx tB tn tp) by omega) (show (tk_nx tB tn tp) ≤ tn by omega) (show (tk_nx tB tn tp) ≤ tk_nx tB tn (tk_nx tB tn tp) ∧ tk_nx tB tn (tk_nx tB tn tp) ≤ tn by omega) (show 1 ≤ (h77 236 8) ∨ ((h77 236 4) = tk_nx tB tn (tk_nx tB tn tp) ∧ (h77 236 5) = tk_st tB tn (tk_nx tB tn tp) ∧ ((tk_kd tB tn (tk_nx tB tn tp) = 0 ∧ (h77 236 6) = 0) ∨ (tk_kd tB tn (tk_nx tB tn tp) = 1 ∧ (h77 236 6) = 1 ∧ (h77 236 12) = tk_sw tB tn (tk_nx tB tn tp)) ∨ (tk_kd tB tn (tk_nx tB tn tp) = 2 ∧ (h77 236 6) = 2 ∧ (h77 236 7) = tk_nb tB tn (tk_nx tB tn tp)) ∨ (tk_kd tB tn (tk_nx tB tn tp) = 3 ∧ (h77 236 6) = 3 ∧ (h77 236 7) = 59) ∨ (tk_kd tB tn (tk_nx tB tn tp) = 4 ∧ (h77 236 6) = 3 ∧ (h77 236 7) = 40) ∨ (tk_kd tB tn (tk_nx tB tn tp) = 5 ∧ (h77 236 6) = 3 ∧ (h77 236 7) = 41) ∨ (tk_kd tB tn (tk_nx tB tn tp) = 6 ∧ (h77 236 6) = 4))) from (Or.inl (by omega))) rb89 (fun h79 z87 g79 u79 (fz87 : 0 ≤ z87 ∧ z87 ≤ 999) (p79_0 : (1 ≤ (h77 236 8) ∧ (h79 236 8) = (h77 236 8) ∧ (h79 236 9) = (h77 236 9)) ∨ ((h77 236 8) = 0 ∧ tk_kd tB tn (tk_nx tB tn tp) = 2 ∧ 0 ≤ tk_nb tB tn (tk_nx tB tn tp) ∧ tk_nb tB tn (tk_nx tB tn tp) ≤ 11 ∧ z87 = tk_nb tB tn (tk_nx tB tn tp) ∧ (h79 236 8) = (h77 236 8) ∧ (h79 236 9) = (h77 236 9) ∧ ((h79 236 4) = tk_nx tB tn (tk_nx tB tn (tk_nx tB tn tp)) ∧ (h79 236 5) = tk_st tB tn (tk_nx tB tn (tk_nx tB tn tp)) ∧ ((tk_kd tB tn (tk_nx tB tn (tk_nx tB tn tp)) = 0 ∧ (h79 236 6) = 0) ∨ (tk_kd tB tn (tk_nx tB tn (tk_nx tB tn tp)) = 1 ∧ (h79 236 6) = 1 ∧ (h79 236 12) = tk_sw tB tn (tk_nx tB tn (tk_nx tB tn tp))) ∨ (tk_kd tB tn (tk_nx tB tn (tk_nx tB tn tp)) = 2 ∧ (h79 236 6) = 2 ∧ (h79 236 7) = tk_nb tB tn (tk_nx tB tn (tk_nx tB tn tp))) ∨ (tk_kd tB tn (tk_nx tB tn (tk_nx tB tn tp)) = 3 ∧ (h79 236 6) = 3 ∧ (h79 236 7) = 59) ∨ (tk_kd tB tn (tk_nx tB tn (tk_nx tB tn tp)) = 4 ∧ (h79 236 6) = 3 ∧ (h79 236 7) = 40) ∨ (tk_kd tB tn (tk_nx tB tn (tk_nx tB tn tp)) = 5 ∧ (h79 236 6) = 3 ∧ (h79 236 7) = 41) ∨ (tk_kd tB tn (tk_nx tB tn (tk_nx tB tn tp)) = 6 ∧ (h79 236 6) = 4)))) ∨ ((h77 236 8) = 0 ∧ tk_kd tB tn (tk_nx tB tn tp) ≠ 2 ∧ (h79 236 8) = 1 ∧ (h79 236 9) = tk_st tB tn (tk_nx tB tn tp)) ∨ ((h77 236 8) = 0 ∧ tk_kd tB tn (tk_nx tB tn tp) = 2 ∧ (tk_nb tB tn (tk_nx tB tn tp) < 0 ∨ 11 < tk_nb tB tn (tk_nx tB tn tp)) ∧ (h79 236 8) = 2 ∧ (h79 236 9) = tk_st tB tn (tk_nx tB tn tp))) (p79_1 : (h77 236 4) ≤ (h79 236 4)) (p79_2 : (h79 236 4) ≤ (h77 236 3)) (p79_3 : 1 ≤ (h79 236 8) ∨ (h77 236 8) = 0) (p79_4 : 1 ≤ (h79 236 8) ∨ (0 ≤ z87 ∧ z87 ≤ 11)) (p79_5 : 1 ≤ (h79 236 8) ∨ (h77 236 6) = 2) => ?_)
                have F90 := F78.then (by decide +kernel) u79
                have e91 : h77 236 9 = h57 236 9 := (u77 236 9 rfl)
                have b92 := gi_b (lo := 0) (hi := 5) g79 236 8 rfl
                have b93 := gi_b (lo := -2147483648) (hi := 2147483647) g79 236 9 rfl
                have b94 := gi_b (lo := 0) (hi := 800) g79 236 4 rfl
                have b95 := gi_b (lo := 0) (hi := 800) g79 236 5 rfl
                have b96 := gi_b (lo := 0) (hi := 4) g79 236 6 rfl
                have b97 := gi_b (lo := -9223372036854775808) (hi := 9223372036854775807) g79 236 12 rfl
                have b98 := gi_b (lo := 0) (hi := 999) g79 236 7 rfl
                refine wk_i ?_
                rcases p79_0 with p79_0 | p79_0 | p79_0 | p79_0
                ·
                  refine wr_is (k0 := 239) (a := 4) (f := 4) (x := z87) (bl := 0) (bh := 999) (nx := 99) (r1 := 0) (r2 := 0) (r3 := 0) rfl (by decide) rfl (by omega) (by omega) (by decide) g79 rfl (by omega) (fun h99 g99 w99 u99 => ?_)
                  have F100 := F90.then rfl u99
                  refine wi_goto (nx := 102) (r1 := 256) (r2 := 0) (r3 := 0) rfl ?_
                  refine wi_return (nx := 257) (r1 := 0) (r2 := 0) (r3 := 0) rfl rfl ?_
                  have e101 : h99 236 8 = h79 236 8 := (u99 236 8 rfl)
                  have e102 : h99 236 4 = h79 236 4 := (u99 236 4 rfl)
                  have e103 : h99 239 5 = h 239 5 := ((u99 239 5 rfl).trans ((u79 239 5 rfl).trans ((u77 239 5 rfl).trans ((u57 239 5 rfl).trans ((u55 239 5 rfl).trans (u43 239 5 rfl))))))
                  have e104 : h99 239 7 = h 239 7 := ((u99 239 7 rfl).trans ((u79 239 7 rfl).trans ((u77 239 7 rfl).trans ((u57 239 7 rfl).trans ((u55 239 7 rfl).trans (u43 239 7 rfl))))))
                  have e105 : h99 239 15 = h 239 15 := ((u99 239 15 rfl).trans ((u79 239 15 rfl).trans ((u77 239 15 rfl).trans ((u57 239 15 rfl).trans ((u55 239 15 rfl).trans (u43 239 15 rfl))))))
                  have e106 : h99 239 16 = h 239 16 := ((u99 239 16 rfl).trans ((u79 239 16 rfl).trans ((u77 239 16 rfl).trans ((u57 239 16 rfl).trans ((u55 239 16 rfl).trans (u43 239 16 rfl))))))
                  have e107 : h99 239 17 = h 239 17 := ((u99 239 17 rfl).trans ((u79 239 17 rfl).trans ((u77 239 17 rfl).trans ((u57 239 17 rfl).trans ((u55 239 17 rfl).trans (u43 239 17 rfl))))))
                  have e108 : h99 239 18 = h 239 18 := ((u99 239 18 rfl).trans ((u79 239 18 rfl).trans ((u77 239 18 rfl).trans ((u57 239 18 rfl).trans ((u55 239 18 rfl).trans (u43 239 18 rfl))))))
                  have e109 : h99 236 9 = h79 236 9 := (u99 236 9 rfl)
                  exact k h99 g99 F100 (show (h99 236 8) = 0 ∨ 1 ≤ (h99 236 8) by omega) (show (h 236 4) ≤ (h99 236 4) by omega) (show (h99 236 4) ≤ (h 236 3) by omega) (show 1 ≤ (h99 236 8) ∨ ((h99 239 5) ≤ 9 ∧ 1 ≤ (h99 239 5) ∧ (h99 239 7) ≤ 3 ∧ (h99 239 15) ≤ 6 ∧ (h99 239 16) ≤ 6 ∧ (h99 239 17) ≤ 6 ∧ (h99 239 18) ≤ 6) by omega) (show (h99 236 8) ≠ 0 ∨ (h99 236 9) = -1 by omega) (by unfold tk_stm; (repeat (first | rw [if_pos (by omega)] | rw [if_neg (by omega)])); exact (by unfold tk_window tk_once tk_num; (try dsimp only); (repeat (first | rw [if_pos (by omega)] | rw [if_neg (by omega)])); (repeat ((first | unfold tk_once | unfold tk_num); (try dsimp only); (repeat (first | rw [if_pos (by omega)] | rw [if_neg (by omega)])))); first | exact tk_ORe (by omega) (by omega) (by omega) | ((repeat' split) <;> (first | exact tk_ORe (by omega) (by omega) (by omega) | (exfalso; omega)))))
                ·
                  have tk99 := p79_0.2.2.2.2.2.2.2
                  have tN100 := @tk_nx_b tB tn (tk_nx tB tn (tk_nx tB tn tp)) (by omega) (by omega)
                  exfalso; omega
                ·
                  exfalso; omega
                ·
                  exfalso; omega
              ·
                refine wr_is (k0 := 239) (a := 3) (f := 3) (x := z65) (bl := 0) (bh := 999) (nx := 86) (r1 := 0) (r2 := 0) (r3 := 0) rfl (by decide) rfl (by omega) (by omega) (by decide) g57 rfl (by omega) (fun h77 g77 w77 u77 => ?_)
                have F78 := F68.then rfl u77
                refine wi_aload_n (i := 0) (x := 236) (nx := 87) (r1 := 0) (r2 := 0) (r3 := 0) rfl rfl ?_
                refine wr_gr (k0 := 236) (x := 239) (nx := 90) (r1 := 11) (r2 := 14) (r3 := 0) rfl rfl (by decide) rfl ⟨rfl, rfl⟩ rfl ?_
                refine wi_iconst (n := 4) (nx := 91) (r1 := 0) (r2 := 0) (r3 := 0) rfl ?_
                refine wi_aload_n (i := 0) (x := 236) (nx := 92) (r1 := 0) (r2 := 0) (r3 := 0) rfl rfl ?_
                refine wi_iconst (n := 0) (nx := 93) (r1 := 0) (r2 := 0) (r3 := 0) rfl ?_
                refine wi_bipush (n := 11) (nx := 95) (r1 := 0) (r2 := 0) (r3 := 0) rfl (by decide) ?_
                refine wr_V (k0 := 236) (rest := [vi 4, .ref 239]) (as := [.ref 236, vi 0, vi 11]) (nx := 98) (r1 := 231) (r2 := 2) (r3 := 11) rfl rfl rfl (of_decide_eq_true rfl) rfl rfl (by decide) rfl rfl (of_decide_eq_true rfl) (of_decide_eq_true rfl) ?_
                have e80 : h77 236 4 = h57 236 4 := (u77 236 4 rfl)
                have e81 : h77 236 3 = h 236 3 := ((u77 236 3 rfl).trans ((u57 236 3 rfl).trans ((u55 236 3 rfl).trans (u43 236 3 rfl))))
                have e82 : h77 236 8 = h57 236 8 := (u77 236 8 rfl)
                have e83 : h77 236 5 = h57 236 5 := (u77 236 5 rfl)
                have e84 : h77 236 6 = h57 236 6 := (u77 236 6 rfl)
                have e85 : h77 236 12 = h57 236 12 := (u77 236 12 rfl)
                have e86 : h77 236 7 = h57 236 7 := (u77 236 7 rfl)
                have rb88 := RefB.fr u57 rfl rb67
                have rb89 := RefB.fr u77 rfl rb88
                refine ct_231_236 hcr  g77 0 11 (by omega) (by omega) (show (h77 236 4) ≤ (h77 236 3) by omega) (show 0 ≤ (tk_nx tB tn tp) by omega) (show (tk_nx tB tn tp) ≤ tn by omega) (show (tk_nx tB tn tp) ≤ tk_nx tB tn (tk_nx tB tn tp) ∧ tk_nx tB tn (tk_nx tB tn tp) ≤ tn by omega) (show 1 ≤ (h77 236 8) ∨ ((h77 236 4) = tk_nx tB tn (tk_nx tB tn tp) ∧ (h77 236 5) = tk_st tB tn (tk_nx tB tn tp) ∧ ((tk_kd tB tn (tk_nx tB tn tp) = 0 ∧ (h77 236 6) = 0) ∨ (tk_kd tB tn (tk_nx tB tn tp) = 1 ∧ (h77 236 6) = 1 ∧ (h77 236 12) = tk_sw tB tn (tk_nx tB tn tp)) ∨ (tk_kd tB tn (tk_nx tB tn tp) = 2 ∧ (h77 236 6) = 2 ∧ (h77 236 7) = tk_nb tB tn (tk_nx tB tn tp)) ∨ (tk_kd tB tn (tk_nx tB tn tp) = 3 ∧ (h77 236 6) = 3 ∧ (h77 236 7) = 59) ∨ (tk_kd tB tn (tk_nx tB tn tp) = 4 ∧ (h77 236 6) = 3 ∧ (h77 236 7) = 40) ∨ (tk_kd tB tn (tk_nx tB tn tp) = 5 ∧ (h77 236 6) = 3 ∧ (h77 236 7) = 41) ∨ (tk_kd tB tn (tk_nx tB tn tp) = 6 ∧ (h77 236 6) = 4))) from (Or.inl (by omega))) rb89 (fun h79 z87 g79 u79 (fz87 : 0 ≤ z87 ∧ z87 ≤ 999) (p79_0 : (1 ≤ (h77 236 8) ∧ (h79 236 8) = (h77 236 8) ∧ (h79 236 9) = (h77 236 9)) ∨ ((h77 236 8) = 0 ∧ tk_kd tB tn (tk_nx tB tn tp) = 2 ∧ 0 ≤ tk_nb tB tn (tk_nx tB tn tp) ∧ tk_nb tB tn (tk_nx tB tn tp) ≤ 11 ∧ z87 = tk_nb tB tn (tk_nx tB tn tp) ∧ (h79 236 8) = (h77 236 8) ∧ (h79 236 9) = (h77 236 9) ∧ ((h79 236 4) = tk_nx tB tn (tk_nx tB tn (tk_nx tB tn tp)) ∧ (h79 236 5) = tk_st tB tn (tk_nx tB tn (tk_nx tB tn tp)) ∧ ((tk_kd tB tn (tk_nx tB tn (tk_nx tB tn tp)) = 0 ∧ (h79 236 6) = 0) ∨ (tk_kd tB tn (tk_nx tB tn (tk_nx tB tn tp)) = 1 ∧ (h79 236 6) = 1 ∧ (h79 236 12) = tk_sw tB tn (tk_nx tB tn (tk_nx tB tn tp))) ∨ (tk_kd tB tn (tk_nx tB tn (tk_nx tB tn tp)) = 2 ∧ (h79 236 6) = 2 ∧ (h79 236 7) = tk_nb tB tn (tk_nx tB tn (tk_nx tB tn tp))) ∨ (tk_kd tB tn (tk_nx tB tn (tk_nx tB tn tp)) = 3 ∧ (h79 236 6) = 3 ∧ (h79 236 7) = 59) ∨ (tk_kd tB tn (tk_nx tB tn (tk_nx tB tn tp)) = 4 ∧ (h79 236 6) = 3 ∧ (h79 236 7) = 40) ∨ (tk_kd tB tn (tk_nx tB tn (tk_nx tB tn tp)) = 5 ∧ (h79 236 6) = 3 ∧ (h79 236 7) = 41) ∨ (tk_kd tB tn (tk_nx tB tn (tk_nx tB tn tp)) = 6 ∧ (h79 236 6) = 4)))) ∨ ((h77 236 8) = 0 ∧ tk_kd tB tn (tk_nx tB tn tp) ≠ 2 ∧ (h79 236 8) = 1 ∧ (h79 236 9) = tk_st tB tn (tk_nx tB tn tp)) ∨ ((h77 236 8) = 0 ∧ tk_kd tB tn (tk_nx tB tn tp) = 2 ∧ (tk_nb tB tn (tk_nx tB tn tp) < 0 ∨ 11 < tk_nb tB tn (tk_nx tB tn tp)) ∧ (h79 236 8) = 2 ∧ (h79 236 9) = tk_st tB tn (tk_nx tB tn tp))) (p79_1 : (h77 236 4) ≤ (h79 236 4)) (p79_2 : (h79 236 4) ≤ (h77 236 3)) (p79_3 : 1 ≤ (h79 236 8) ∨ (h77 236 8) = 0) (p79_4 : 1 ≤ (h79 236 8) ∨ (0 ≤ z87 ∧ z87 ≤ 11)) (p79_5 : 1 ≤ (h79 236 8) ∨ (h77 236 6) = 2) => ?_)
                have F90 := F78.then (by decide +kernel) u79
                have e91 : h77 236 9 = h57 236 9 := (u77 236 9 rfl)
                have b92 := gi_b (lo := 0) (hi := 5) g79 236 8 rfl
                have b93 := gi_b (lo := -2147483648) (hi := 2147483647) g79 236 9 rfl
                have b94 := gi_b (lo := 0) (hi := 800) g79 236 4 rfl
                have b95 := gi_b (lo := 0) (hi := 800) g79 236 5 rfl
                have b96 := gi_b (lo := 0) (hi := 4) g79 236 6 rfl
                have b97 := gi_b (lo := -9223372036854775808) (hi := 9223372036854775807) g79 236 12 rfl
                have b98 := gi_b (lo := 0) (hi := 999) g79 236 7 rfl
                refine wk_i ?_
                rcases p79_0 with p79_0 | p79_0 | p79_0 | p79_0
                ·
                  refine wr_is (k0 := 239) (a := 4) (f := 4) (x := z87) (bl := 0) (bh := 999) (nx := 99) (r1 := 0) (r2 := 0) (r3 := 0) rfl (by decide) rfl (by omega) (by omega) (by decide) g79 rfl (by omega) (fun h99 g99 w99 u99 => ?_)
                  have F100 := F90.then rfl u99
                  refine wi_goto (nx := 102) (r1 := 256) (r2 := 0) (r3 := 0) rfl ?_
                  refine wi_return (nx := 257) (r1 := 0) (r2 := 0) (r3 := 0) rfl rfl ?_
                  have e101 : h99 236 8 = h79 236 8 := (u99 236 8 rfl)
                  have e102 : h99 236 4 = h79 236 4 := (u99 236 4 rfl)
                  have e103 : h99 239 5 = h 239 5 := ((u99 239 5 rfl).trans ((u79 239 5 rfl).trans ((u77 239 5 rfl).trans ((u57 239 5 rfl).trans ((u55 239 5 rfl).trans (u43 239 5 rfl))))))
                  have e104 : h99 239 7 = h 239 7 := ((u99 239 7 rfl).trans ((u79 239 7 rfl).trans ((u77 239 7 rfl).trans ((u57 239 7 rfl).trans ((u55 239 7 rfl).trans (u43 239 7 rfl))))))
                  have e105 : h99 239 15 = h 239 15 := ((u99 239 15 rfl).trans ((u79 239 15 rfl).trans ((u77 239 15 rfl).trans ((u57 239 15 rfl).trans ((u55 239 15 rfl).trans (u43 239 15 rfl))))))
                  have e106 : h99 239 16 = h 239 16 := ((u99 239 16 rfl).trans ((u79 239 16 rfl).trans ((u77 239 16 rfl).trans ((u57 239 16 rfl).trans ((u55 239 16 rfl).trans (u43 239 16 rfl))))))
                  have e107 : h99 239 17 = h 239 17 := ((u99 239 17 rfl).trans ((u79 239 17 rfl).trans ((u77 239 17 rfl).trans ((u57 239 17 rfl).trans ((u55 239 17 rfl).trans (u43 239 17 rfl))))))
                  have e108 : h99 239 18 = h 239 18 := ((u99 239 18 rfl).trans ((u79 239 18 rfl).trans ((u77 239 18 rfl).trans ((u57 239 18 rfl).trans ((u55 239 18 rfl).trans (u43 239 18 rfl))))))
                  have e109 : h99 236 9 = h79 236 9 := (u99 236 9 rfl)
                  exact k h99 g99 F100 (show (h99 236 8) = 0 ∨ 1 ≤ (h99 236 8) by omega) (show (h 236 4) ≤ (h99 236 4) by omega) (show (h99 236 4) ≤ (h 236 3) by omega) (show 1 ≤ (h99 236 8) ∨ ((h99 239 5) ≤ 9 ∧ 1 ≤ (h99 239 5) ∧ (h99 239 7) ≤ 3 ∧ (h99 239 15) ≤ 6 ∧ (h99 239 16) ≤ 6 ∧ (h99 239 17) ≤ 6 ∧ (h99 239 18) ≤ 6) by omega) (show (h99 236 8) ≠ 0 ∨ (h99 236 9) = -1 by omega) (by unfold tk_stm; (repeat (first | rw [if_pos (by omega)] | rw [if_neg (by omega)])); exact (by unfold tk_window tk_once tk_num; (try dsimp only); (repeat (first | rw [if_pos (by omega)] | rw [if_neg (by omega)])); (repeat ((first | unfold tk_once | unfold tk_num); (try dsimp only); (repeat (first | rw [if_pos (by omega)] | rw [if_neg (by omega)])))); first | exact tk_ORe (by omega) (by omega) (by omega) | ((repeat' split) <;> (first | exact tk_ORe (by omega) (by omega) (by omega) | (exfalso; omega)))))
                ·
                  have tk99 := p79_0.2.2.2.2.2.2.2
                  have tN100 := @tk_nx_b tB tn (tk_nx tB tn (tk_nx tB tn tp)) (by omega) (by omega)
                  exfalso; omega
                ·
                  exfalso; omega
                ·
                  exfalso; omega
            ·
              refine wr_pf2 (k0 := 236) (x := z44) (bl := 0) (bh := 1) (nx := 73) (r1 := 11) (r2 := 23) (r3 := 2) rfl (by decide) rfl ⟨rfl, rfl⟩ rfl (by omega) rfl g43 rfl (by omega) (fun h53 g53 w53 u53 => ?_)
              have F54 := F45.then rfl u53
              refine wi_aload_n (i := 0) (x := 236) (nx := 74) (r1 := 0) (r2 := 0) (r3 := 0) rfl rfl ?_
              refine wr_gr (k0 := 236) (x := 239) (nx := 77) (r1 := 11) (r2 := 14) (r3 := 0) rfl rfl (by decide) rfl ⟨rfl, rfl⟩ rfl ?_
              refine wi_iconst (n := 3) (nx := 78) (r1 := 0) (r2 := 0) (r3 := 0) rfl ?_
              refine wi_aload_n (i := 0) (x := 236) (nx := 79) (r1 := 0) (r2 := 0) (r3 := 0) rfl rfl ?_
              refine wi_iconst (n := 0) (nx := 80) (r1 := 0) (r2 := 0) (r3 := 0) rfl ?_
              refine wi_bipush (n := 11) (nx := 82) (r1 := 0) (r2 := 0) (r3 := 0) rfl (by decide) ?_
              refine wr_V (k0 := 236) (rest := [vi 3, .ref 239]) (as := [.ref 236, vi 0, vi 11]) (nx := 85) (r1 := 231) (r2 := 2) (r3 := 11) rfl rfl rfl (of_decide_eq_true rfl) rfl rfl (by decide) rfl rfl (of_decide_eq_true rfl) (of_decide_eq_true rfl) ?_
              have e56 : h53 236 4 = h43 236 4 := (u53 236 4 rfl)
              have e57 : h53 236 3 = h 236 3 := ((u53 236 3 rfl).trans (u43 236 3 rfl))
              have e58 : h53 236 8 = h43 236 8 := (u53 236 8 rfl)
              have e59 : h53 236 5 = h43 236 5 := (u53 236 5 rfl)
              have e60 : h53 236 6 = h43 236 6 := (u53 236 6 rfl)
              have e61 : h53 236 12 = h43 236 12 := (u53 236 12 rfl)
              have e62 : h53 236 7 = h43 236 7 := (u53 236 7 rfl)
              have rb64 := RefB.fr u43 rfl xq0
              have rb65 := RefB.fr u53 rfl rb64
              refine ct_231_236 hcr  g53 0 11 (by omega) (by omega) (show (h53 236 4) ≤ (h53 236 3) by omega) (show 0 ≤ tp by omega) (show tp ≤ tn by omega) (show tp ≤ tk_nx tB tn tp ∧ tk_nx tB tn tp ≤ tn by omega) (show 1 ≤ (h53 236 8) ∨ ((h53 236 4) = tk_nx tB tn tp ∧ (h53 236 5) = tk_st tB tn tp ∧ ((tk_kd tB tn tp = 0 ∧ (h53 236 6) = 0) ∨ (tk_kd tB tn tp = 1 ∧ (h53 236 6) = 1 ∧ (h53 236 12) = tk_sw tB tn tp) ∨ (tk_kd tB tn tp = 2 ∧ (h53 236 6) = 2 ∧ (h53 236 7) = tk_nb tB tn tp) ∨ (tk_kd tB tn tp = 3 ∧ (h53 236 6) = 3 ∧ (h53 236 7) = 59) ∨ (tk_kd tB tn tp = 4 ∧ (h53 236 6) = 3 ∧ (h53 236 7) = 40) ∨ (tk_kd tB tn tp = 5 ∧ (h53 236 6) = 3 ∧ (h53 236 7) = 41) ∨ (tk_kd tB tn tp = 6 ∧ (h53 236 6) = 4))) from (Or.inl (by omega))) rb65 (fun h55 z63 g55 u55 (fz63 : 0 ≤ z63 ∧ z63 ≤ 999) (p55_0 : (1 ≤ (h53 236 8) ∧ (h55 236 8) = (h53 236 8) ∧ (h55 236 9) = (h53 236 9)) ∨ ((h53 236 8) = 0 ∧ tk_kd tB tn tp = 2 ∧ 0 ≤ tk_nb tB tn tp ∧ tk_nb tB tn tp ≤ 11 ∧ z63 = tk_nb tB tn tp ∧ (h55 236 8) = (h53 236 8) ∧ (h55 236 9) = (h53 236 9) ∧ ((h55 236 4) = tk_nx tB tn (tk_nx tB tn tp) ∧ (h55 236 5) = tk_st tB tn (tk_nx tB tn tp) ∧ ((tk_kd tB tn (tk_nx tB tn tp) = 0 ∧ (h55 236 6) = 0) ∨ (tk_kd tB tn (tk_nx tB tn tp) = 1 ∧ (h55 236 6) = 1 ∧ (h55 236 12) = tk_sw tB tn (tk_nx tB tn tp)) ∨ (tk_kd tB tn (tk_nx tB tn tp) = 2 ∧ (h55 236 6) = 2 ∧ (h55 236 7) = tk_nb tB tn (tk_nx tB tn tp)) ∨ (tk_kd tB tn (tk_nx tB tn tp) = 3 ∧ (h55 236 6) = 3 ∧ (h55 236 7) = 59) ∨ (tk_kd tB tn (tk_nx tB tn tp) = 4 ∧ (h55 236 6) = 3 ∧ (h55 236 7) = 40) ∨ (tk_kd tB tn (tk_nx tB tn tp) = 5 ∧ (h55 236 6) = 3 ∧ (h55 236 7) = 41) ∨ (tk_kd tB tn (tk_nx tB tn tp) = 6 ∧ (h55 236 6) = 4)))) ∨ ((h53 236 8) = 0 ∧ tk_kd tB tn tp ≠ 2 ∧ (h55 236 8) = 1 ∧ (h55 236 9) = tk_st tB tn tp) ∨ ((h53 236 8) = 0 ∧ tk_kd tB tn tp = 2 ∧ (tk_nb tB tn tp < 0 ∨ 11 < tk_nb tB tn tp) ∧ (h55 236 8) = 2 ∧ (h55 236 9) = tk_st tB tn tp)) (p55_1 : (h53 236 4) ≤ (h55 236 4)) (p55_2 : (h55 236 4) ≤ (h53 236 3)) (p55_3 : 1 ≤ (h55 236 8) ∨ (h53 236 8) = 0) (p55_4 : 1 ≤ (h55 236 8) ∨ (0 ≤ z63 ∧ z63 ≤ 11)) (p55_5 : 1 ≤ (h55 236 8) ∨ (h53 236 6) = 2) => ?_)
              have F66 := F54.then (by decide +kernel) u55
              have e67 : h53 236 9 = h43 236 9 := (u53 236 9 rfl)
              have b68 := gi_b (lo := 0) (hi := 5) g55 236 8 rfl
              have b69 := gi_b (lo := -2147483648) (hi := 2147483647) g55 236 9 rfl
              have b70 := gi_b (lo := 0) (hi := 800) g55 236 4 rfl
              have b71 := gi_b (lo := 0) (hi := 800) g55 236 5 rfl
              have b72 := gi_b (lo := 0) (hi := 4) g55 236 6 rfl
              have b73 := gi_b (lo := -9223372036854775808) (hi := 9223372036854775807) g55 236 12 rfl
              have b74 := gi_b (lo := 0) (hi := 999) g55 236 7 rfl
              refine wk_i ?_
              rcases p55_0 with p55_0 | p55_0 | p55_0 | p55_0
              ·
                refine wr_is (k0 := 239) (a := 3) (f := 3) (x := z63) (bl := 0) (bh := 999) (nx := 86) (r1 := 0) (r2 := 0) (r3 := 0) rfl (by decide) rfl (by omega) (by omega) (by decide) g55 rfl (by omega) (fun h75 g75 w75 u75 => ?_)
                have F76 := F66.then rfl u75
                refine wi_aload_n (i := 0) (x := 236) (nx := 87) (r1 := 0) (r2 := 0) (r3 := 0) rfl rfl ?_
                refine wr_gr (k0 := 236) (x := 239) (nx := 90) (r1 := 11) (r2 := 14) (r3 := 0) rfl rfl (by decide) rfl ⟨rfl, rfl⟩ rfl ?_
                refine wi_iconst (n := 4) (nx := 91) (r1 := 0) (r2 := 0) (r3 := 0) rfl ?_
                refine wi_aload_n (i := 0) (x := 236) (nx := 92) (r1 := 0) (r2 := 0) (r3 := 0) rfl rfl ?_
                refine wi_iconst (n := 0) (nx := 93) (r1 := 0) (r2 := 0) (r3 := 0) rfl ?_
                refine wi_bipush (n := 11) (nx := 95) (r1 := 0) (r2 := 0) (r3 := 0) rfl (by decide) ?_
                refine wr_V (k0 := 236) (rest := [vi 4, .ref 239]) (as := [.ref 236, vi 0, vi 11]) (nx := 98) (r1 := 231) (r2 := 2) (r3 := 11) rfl rfl rfl (of_decide_eq_true rfl) rfl rfl (by decide) rfl rfl (of_decide_eq_true rfl) (of_decide_eq_true rfl) ?_
                have e78 : h75 236 4 = h55 236 4 := (u75 236 4 rfl)
                have e79 : h75 236 3 = h 236 3 := ((u75 236 3 rfl).trans ((u55 236 3 rfl).trans ((u53 236 3 rfl).trans (u43 236 3 rfl))))
                have e80 : h75 236 8 = h55 236 8 := (u75 236 8 rfl)
                have e81 : h75 236 5 = h55 236 5 := (u75 236 5 rfl)
                have e82 : h75 236 6 = h55 236 6 := (u75 236 6 rfl)
                have e83 : h75 236 12 = h55 236 12 := (u75 236 12 rfl)
                have e84 : h75 236 7 = h55 236 7 := (u75 236 7 rfl)
                have rb86 := RefB.fr u55 rfl rb65
                have rb87 := RefB.fr u75 rfl rb86
                refine ct_231_236 hcr  g75 0 11 (by omega) (by omega) (show (h75 236 4) ≤ (h75 236 3) by omega) (show 0 ≤ tp by omega) (show tp ≤ tn by omega) (show tp ≤ tk_nx tB tn tp ∧ tk_nx tB tn tp ≤ tn by omega) (show 1 ≤ (h75 236 8) ∨ ((h75 236 4) = tk_nx tB tn tp ∧ (h75 236 5) = tk_st tB tn tp ∧ ((tk_kd tB tn tp = 0 ∧ (h75 236 6) = 0) ∨ (tk_kd tB tn tp = 1 ∧ (h75 236 6) = 1 ∧ (h75 236 12) = tk_sw tB tn tp) ∨ (tk_kd tB tn tp = 2 ∧ (h75 236 6) = 2 ∧ (h75 236 7) = tk_nb tB tn tp) ∨ (tk_kd tB tn tp = 3 ∧ (h75 236 6) = 3 ∧ (h75 236 7) = 59) ∨ (tk_kd tB tn tp = 4 ∧ (h75 236 6) = 3 ∧ (h75 236 7) = 40) ∨ (tk_kd tB tn tp = 5 ∧ (h75 236 6) = 3 ∧ (h75 236 7) = 41) ∨ (tk_kd tB tn tp = 6 ∧ (h75 236 6) = 4))) from (Or.inl (by omega))) rb87 (fun h77 z85 g77 u77 (fz85 : 0 ≤ z85 ∧ z85 ≤ 999) (p77_0 : (1 ≤ (h75 236 8) ∧ (h77 236 8) = (h75 236 8) ∧ (h77 236 9) = (h75 236 9)) ∨ ((h75 236 8) = 0 ∧ tk_kd tB tn tp = 2 ∧ 0 ≤ tk_nb tB tn tp ∧ tk_nb tB tn tp ≤ 11 ∧ z85 = tk_nb tB tn tp ∧ (h77 236 8) = (h75 236 8) ∧ (h77 236 9) = (h75 236 9) ∧ ((h77 236 4) = tk_nx tB tn (tk_nx tB tn tp) ∧ (h77 236 5) = tk_st tB tn (tk_nx tB tn tp) ∧ ((tk_kd tB tn (tk_nx tB tn tp) = 0 ∧ (h77 236 6) = 0) ∨ (tk_kd tB tn (tk_nx tB tn tp) = 1 ∧ (h77 236 6) = 1 ∧ (h77 236 12) = tk_sw tB tn (tk_nx tB tn tp)) ∨ (tk_kd tB tn (tk_nx tB tn tp) = 2 ∧ (h77 236 6) = 2 ∧ (h77 236 7) = tk_nb tB tn (tk_nx tB tn tp)) ∨ (tk_kd tB tn (tk_nx tB tn tp) = 3 ∧ (h77 236 6) = 3 ∧ (h77 236 7) = 59) ∨ (tk_kd tB tn (tk_nx tB tn tp) = 4 ∧ (h77 236 6) = 3 ∧ (h77 236 7) = 40) ∨ (tk_kd tB tn (tk_nx tB tn tp) = 5 ∧ (h77 236 6) = 3 ∧ (h77 236 7) = 41) ∨ (tk_kd tB tn (tk_nx tB tn tp) = 6 ∧ (h77 236 6) = 4)))) ∨ ((h75 236 8) = 0 ∧ tk_kd tB tn tp ≠ 2 ∧ (h77 236 8) = 1 ∧ (h77 236 9) = tk_st tB tn tp) ∨ ((h75 236 8) = 0 ∧ tk_kd tB tn tp = 2 ∧ (tk_nb tB tn tp < 0 ∨ 11 < tk_nb tB tn tp) ∧ (h77 236 8) = 2 ∧ (h77 236 9) = tk_st tB tn tp)) (p77_1 : (h75 236 4) ≤ (h77 236 4)) (p77_2 : (h77 236 4) ≤ (h75 236 3)) (p77_3 : 1 ≤ (h77 236 8) ∨ (h75 236 8) = 0) (p77_4 : 1 ≤ (h77 236 8) ∨ (0 ≤ z85 ∧ z85 ≤ 11)) (p77_5 : 1 ≤ (h77 236 8) ∨ (h75 236 6) = 2) => ?_)
                have F88 := F76.then (by decide +kernel) u77
                have e89 : h75 236 9 = h55 236 9 := (u75 236 9 rfl)
                have b90 := gi_b (lo := 0) (hi := 5) g77 236 8 rfl
                have b91 := gi_b (lo := -2147483648) (hi := 2147483647) g77 236 9 rfl
                have b92 := gi_b (lo := 0) (hi := 800) g77 236 4 rfl
                have b93 := gi_b (lo := 0) (hi := 800) g77 236 5 rfl
                have b94 := gi_b (lo := 0) (hi := 4) g77 236 6 rfl
                have b95 := gi_b (lo := -9223372036854775808) (hi := 9223372036854775807) g77 236 12 rfl
                have b96 := gi_b (lo := 0) (hi := 999) g77 236 7 rfl
                refine wk_i ?_
                rcases p77_0 with p77_0 | p77_0 | p77_0 | p77_0
                ·
                  refine wr_is (k0 := 239) (a := 4) (f := 4) (x := z85) (bl := 0) (bh := 999) (nx := 99) (r1 := 0) (r2 := 0) (r3 := 0) rfl (by decide) rfl (by omega) (by omega) (by decide) g77 rfl (by omega) (fun h97 g97 w97 u97 => ?_)
                  have F98 := F88.then rfl u97
                  refine wi_goto (nx := 102) (r1 := 256) (r2 := 0) (r3 := 0) rfl ?_
                  refine wi_return (nx := 257) (r1 := 0) (r2 := 0) (r3 := 0) rfl rfl ?_
                  have e99 : h97 236 8 = h77 236 8 := (u97 236 8 rfl)
                  have e100 : h97 236 4 = h77 236 4 := (u97 236 4 rfl)
                  have e101 : h97 239 5 = h 239 5 := ((u97 239 5 rfl).trans ((u77 239 5 rfl).trans ((u75 239 5 rfl).trans ((u55 239 5 rfl).trans ((u53 239 5 rfl).trans (u43 239 5 rfl))))))
                  have e102 : h97 239 7 = h 239 7 := ((u97 239 7 rfl).trans ((u77 239 7 rfl).trans ((u75 239 7 rfl).trans ((u55 239 7 rfl).trans ((u53 239 7 rfl).trans (u43 239 7 rfl))))))
                  have e103 : h97 239 15 = h 239 15 := ((u97 239 15 rfl).trans ((u77 239 15 rfl).trans ((u75 239 15 rfl).trans ((u55 239 15 rfl).trans ((u53 239 15 rfl).trans (u43 239 15 rfl))))))
                  have e104 : h97 239 16 = h 239 16 := ((u97 239 16 rfl).trans ((u77 239 16 rfl).trans ((u75 239 16 rfl).trans ((u55 239 16 rfl).trans ((u53 239 16 rfl).trans (u43 239 16 rfl))))))
                  have e105 : h97 239 17 = h 239 17 := ((u97 239 17 rfl).trans ((u77 239 17 rfl).trans ((u75 239 17 rfl).trans ((u55 239 17 rfl).trans ((u53 239 17 rfl).trans (u43 239 17 rfl))))))
                  have e106 : h97 239 18 = h 239 18 := ((u97 239 18 rfl).trans ((u77 239 18 rfl).trans ((u75 239 18 rfl).trans ((u55 239 18 rfl).trans ((u53 239 18 rfl).trans (u43 239 18 rfl))))))
                  have e107 : h97 236 9 = h77 236 9 := (u97 236 9 rfl)
                  exact k h97 g97 F98 (show (h97 236 8) = 0 ∨ 1 ≤ (h97 236 8) by omega) (show (h 236 4) ≤ (h97 236 4) by omega) (show (h97 236 4) ≤ (h 236 3) by omega) (show 1 ≤ (h97 236 8) ∨ ((h97 239 5) ≤ 9 ∧ 1 ≤ (h97 239 5) ∧ (h97 239 7) ≤ 3 ∧ (h97 239 15) ≤ 6 ∧ (h97 239 16) ≤ 6 ∧ (h97 239 17) ≤ 6 ∧ (h97 239 18) ≤ 6) by omega) (show (h97 236 8) ≠ 0 ∨ (h97 236 9) = -1 by omega) (by unfold tk_stm; (repeat (first | rw [if_pos (by omega)] | rw [if_neg (by omega)])); exact (by unfold tk_window tk_once tk_num; (try dsimp only); (repeat (first | rw [if_pos (by omega)] | rw [if_neg (by omega)])); (repeat ((first | unfold tk_once | unfold tk_num); (try dsimp only); (repeat (first | rw [if_pos (by omega)] | rw [if_neg (by omega)])))); first | exact tk_ORe (by omega) (by omega) (by omega) | ((repeat' split) <;> (first | exact tk_ORe (by omega) (by omega) (by omega) | (exfalso; omega)))))
                ·
                  have tk97 := p77_0.2.2.2.2.2.2.2
                  have tN98 := @tk_nx_b tB tn (tk_nx tB tn tp) (by omega) (by omega)
                  exfalso; omega
                ·
                  exfalso; omega
                ·
                  exfalso; omega
              ·
                have tk75 := p55_0.2.2.2.2.2.2.2
                have tN76 := @tk_nx_b tB tn (tk_nx tB tn tp) (by omega) (by omega)
                exfalso; omega
              ·
                exfalso; omega
              ·
                exfalso; omega
        ·
          refine wi_iconst (n := 1) (nx := 25) (r1 := 0) (r2 := 0) (r3 := 0) rfl ?_
          refine wi_goto (nx := 28) (r1 := 29) (r2 := 0) (r3 := 0) rfl ?_
          refine wi_zreturn (nx := 30) (r1 := 0) (r2 := 0) (r3 := 0) rfl rfl (by omega) ?_
          refine wk_i ?_
          refine wi_if (cd := .eq) (nx := 44) (r1 := 51) (r2 := 0) (r3 := 0) rfl (by omega) (fun (q35 : 1 = 0) => by exfalso; omega) (fun (q35 : ¬ (1 = 0)) => ?_)
          refine wi_aload_n (i := 0) (x := 236) (nx := 45) (r1 := 0) (r2 := 0) (r3 := 0) rfl rfl ?_
          refine wr_V (k0 := 236) (rest := []) (as := [.ref 236]) (nx := 48) (r1 := 233) (r2 := 0) (r3 := 11) rfl rfl rfl (of_decide_eq_true rfl) rfl rfl (by decide) rfl rfl (of_decide_eq_true rfl) (of_decide_eq_true rfl) ?_
          refine ct_233_236 hcr  g   (show (h 236 4) ≤ (h 236 3) by omega) (show 0 ≤ tp by omega) (show tp ≤ tn by omega) (show tp ≤ tk_nx tB tn tp ∧ tk_nx tB tn tp ≤ tn by omega) (show (h 236 8) = 0 by omega) (show (h 239 5) ≤ 9 by omega) (show 1 ≤ (h 239 5) by omega) (show (h 239 7) ≤ 3 by omega) (show (h 239 15) ≤ 6 by omega) (show (h 239 16) ≤ 6 by omega) (show (h 239 17) ≤ 6 by omega) (show (h 239 18) ≤ 6 by omega) (show ((h 236 4) = tk_nx tB tn tp ∧ (h 236 5) = tk_st tB tn tp ∧ ((tk_kd tB tn tp = 0 ∧ (h 236 6) = 0) ∨ (tk_kd tB tn tp = 1 ∧ (h 236 6) = 1 ∧ (h 236 12) = tk_sw tB tn tp) ∨ (tk_kd tB tn tp = 2 ∧ (h 236 6) = 2 ∧ (h 236 7) = tk_nb tB tn tp) ∨ (tk_kd tB tn tp = 3 ∧ (h 236 6) = 3 ∧ (h 236 7) = 59) ∨ (tk_kd tB tn tp = 4 ∧ (h 236 6) = 3 ∧ (h 236 7) = 40) ∨ (tk_kd tB tn tp = 5 ∧ (h 236 6) = 3 ∧ (h 236 7) = 41) ∨ (tk_kd tB tn tp = 6 ∧ (h 236 6) = 4))) by first | assumption | exact tk_mv (by assumption) (by omega) (by omega) (by omega) (by omega) (by omega)) (show tS 0 ≤ 5 ∧ tS 1 ≤ 4 ∧ tS 2 ≤ 12 by omega) (show (h 236 9) = -1 by omega) (show tk_kd tB tn tp = 1 by omega) xq0 xq1 (fun h36 g36 u36 (p36_0 : (h 236 4) ≤ (h36 236 4)) (p36_1 : (h36 236 4) ≤ (h 236 3)) (p36_2 : 1 ≤ (h36 236 8) ∨ ((h36 239 5) ≤ 9 ∧ 1 ≤ (h36 239 5) ∧ (h36 239 7) ≤ 3 ∧ (h36 239 15) ≤ 6 ∧ (h36 239 16) ≤ 6 ∧ (h36 239 17) ≤ 6 ∧ (h36 239 18) ≤ 6)) (p36_3 : (h36 236 8) ≠ 0 ∨ (h36 236 9) = -1) y36_0 => ?_)
          have F37 := F0.then (by decide +kernel) u36
          have b38 := gi_b (lo := 0) (hi := 800) g36 236 4 rfl
          have b39 := gi_b (lo := 0) (hi := 5) g36 236 8 rfl
          have e40 : h36 239 5 = h 239 5 := (u36 239 5 rfl)
          have e41 : h36 239 7 = h 239 7 := (u36 239 7 rfl)
          have e42 : h36 239 15 = h 239 15 := (u36 239 15 rfl)
          have e43 : h36 239 16 = h 239 16 := (u36 239 16 rfl)
          have e44 : h36 239 17 = h 239 17 := (u36 239 17 rfl)
          have e45 : h36 239 18 = h 239 18 := (u36 239 18 rfl)
          have b46 := gi_b (lo := -2147483648) (hi := 2147483647) g36 236 9 rfl
          refine wk_n ?_
          refine wi_goto (nx := 51) (r1 := 256) (r2 := 0) (r3 := 0) rfl ?_
          refine wi_return (nx := 257) (r1 := 0) (r2 := 0) (r3 := 0) rfl rfl ?_
          exact k h36 g36 F37 (show (h36 236 8) = 0 ∨ 1 ≤ (h36 236 8) by omega) (show (h 236 4) ≤ (h36 236 4) by omega) (show (h36 236 4) ≤ (h 236 3) by omega) (show 1 ≤ (h36 236 8) ∨ ((h36 239 5) ≤ 9 ∧ 1 ≤ (h36 239 5) ∧ (h36 239 7) ≤ 3 ∧ (h36 239 15) ≤ 6 ∧ (h36 239 16) ≤ 6 ∧ (h36 239 17) ≤ 6 ∧ (h36 239 18) ≤ 6) by omega) (show (h36 236 8) ≠ 0 ∨ (h36 236 9) = -1 by omega) (by unfold tk_stm; (repeat (first | rw [if_pos (by omega)] | rw [if_neg (by omega)])); exact y36_0)
      ·
        refine wi_iconst (n := 1) (nx := 25) (r1 := 0) (r2 := 0) (r3 := 0) rfl ?_
        refine wi_goto (nx := 28) (r1 := 29) (r2 := 0) (r3 := 0) rfl ?_
        refine wi_zreturn (nx := 30) (r1 := 0) (r2 := 0) (r3 := 0) rfl rfl (by omega) ?_
        refine wk_i ?_
        refine wi_if (cd := .eq) (nx := 27) (r1 := 34) (r2 := 0) (r3 := 0) rfl (by omega) (fun (q29 : 1 = 0) => by exfalso; omega) (fun (q29 : ¬ (1 = 0)) => ?_)
        refine wi_aload_n (i := 0) (x := 236) (nx := 28) (r1 := 0) (r2 := 0) (r3 := 0) rfl rfl ?_
        refine wr_V (k0 := 236) (rest := []) (as := [.ref 236]) (nx := 31) (r1 := 232) (r2 := 0) (r3 := 11) rfl rfl rfl (of_decide_eq_true rfl) rfl rfl (by decide) rfl rfl (of_decide_eq_true rfl) (of_decide_eq_true rfl) ?_
        refine ct_232_236 hcr  g   (show (h 236 4) ≤ (h 236 3) by omega) (show 0 ≤ tp by omega) (show tp ≤ tn by omega) (show tp ≤ tk_nx tB tn tp ∧ tk_nx tB tn tp ≤ tn by omega) (show (h 236 8) = 0 by omega) (show (h 239 5) ≤ 9 by omega) (show 1 ≤ (h 239 5) by omega) (show (h 239 7) ≤ 3 by omega) (show (h 239 15) ≤ 6 by omega) (show (h 239 16) ≤ 6 by omega) (show (h 239 17) ≤ 6 by omega) (show (h 239 18) ≤ 6 by omega) (show ((h 236 4) = tk_nx tB tn tp ∧ (h 236 5) = tk_st tB tn tp ∧ ((tk_kd tB tn tp = 0 ∧ (h 236 6) = 0) ∨ (tk_kd tB tn tp = 1 ∧ (h 236 6) = 1 ∧ (h 236 12) = tk_sw tB tn tp) ∨ (tk_kd tB tn tp = 2 ∧ (h 236 6) = 2 ∧ (h 236 7) = tk_nb tB tn tp) ∨ (tk_kd tB tn tp = 3 ∧ (h 236 6) = 3 ∧ (h 236 7) = 59) ∨ (tk_kd tB tn tp = 4 ∧ (h 236 6) = 3 ∧ (h 236 7) = 40) ∨ (tk_kd tB tn tp = 5 ∧ (h 236 6) = 3 ∧ (h 236 7) = 41) ∨ (tk_kd tB tn tp = 6 ∧ (h 236 6) = 4))) by first | assumption | exact tk_mv (by assumption) (by omega) (by omega) (by omega) (by omega) (by omega)) (show tS 0 ≤ 5 ∧ tS 1 ≤ 4 ∧ tS 2 ≤ 12 by omega) (show (h 236 9) = -1 by omega) (show tk_kd tB tn tp = 1 by omega) xq0 xq1 (fun h30 g30 u30 (p30_0 : (h 236 4) ≤ (h30 236 4)) (p30_1 : (h30 236 4) ≤ (h 236 3)) (p30_2 : 1 ≤ (h30 236 8) ∨ ((h30 239 5) ≤ 9 ∧ 1 ≤ (h30 239 5) ∧ (h30 239 7) ≤ 3 ∧ (h30 239 15) ≤ 6 ∧ (h30 239 16) ≤ 6 ∧ (h30 239 17) ≤ 6 ∧ (h30 239 18) ≤ 6)) (p30_3 : (h30 236 8) ≠ 0 ∨ (h30 236 9) = -1) y30_0 => ?_)
        have F31 := F0.then (by decide +kernel) u30
        have b32 := gi_b (lo := 0) (hi := 800) g30 236 4 rfl
        have b33 := gi_b (lo := 0) (hi := 5) g30 236 8 rfl
        have e34 : h30 239 5 = h 239 5 := (u30 239 5 rfl)
        have e35 : h30 239 7 = h 239 7 := (u30 239 7 rfl)
        have b36 := gi_b (lo := 0) (hi := 999) g30 239 15 rfl
        have b37 := gi_b (lo := 0) (hi := 999) g30 239 16 rfl
        have b38 := gi_b (lo := 0) (hi := 999) g30 239 17 rfl
        have b39 := gi_b (lo := 0) (hi := 999) g30 239 18 rfl
        have b40 := gi_b (lo := -2147483648) (hi := 2147483647) g30 236 9 rfl
        refine wk_n ?_
        refine wi_goto (nx := 34) (r1 := 256) (r2 := 0) (r3 := 0) rfl ?_
        refine wi_return (nx := 257) (r1 := 0) (r2 := 0) (r3 := 0) rfl rfl ?_
        exact k h30 g30 F31 (show (h30 236 8) = 0 ∨ 1 ≤ (h30 236 8) by omega) (show (h 236 4) ≤ (h30 236 4) by omega) (show (h30 236 4) ≤ (h 236 3) by omega) (show 1 ≤ (h30 236 8) ∨ ((h30 239 5) ≤ 9 ∧ 1 ≤ (h30 239 5) ∧ (h30 239 7) ≤ 3 ∧ (h30 239 15) ≤ 6 ∧ (h30 239 16) ≤ 6 ∧ (h30 239 17) ≤ 6 ∧ (h30 239 18) ≤ 6) by omega) (show (h30 236 8) ≠ 0 ∨ (h30 236 9) = -1 by omega) (by unfold tk_stm; (repeat (first | rw [if_pos (by omega)] | rw [if_neg (by omega)])); exact y30_0)
    ·
      refine wi_iconst (n := 1) (nx := 25) (r1 := 0) (r2 := 0) (r3 := 0) rfl ?_
      refine wi_goto (nx := 28) (r1 := 29) (r2 := 0) (r3 := 0) rfl ?_
      refine wi_zreturn (nx := 30) (r1 := 0) (r2 := 0) (r3 := 0) rfl rfl (by omega) ?_
      refine wk_i ?_
      refine wi_if (cd := .eq) (nx := 10) (r1 := 17) (r2 := 0) (r3 := 0) rfl (by omega) (fun (q23 : 1 = 0) => by exfalso; omega) (fun (q23 : ¬ (1 = 0)) => ?_)
      refine wi_aload_n (i := 0) (x := 236) (nx := 11) (r1 := 0) (r2 := 0) (r3 := 0) rfl rfl ?_
      refine wr_V (k0 := 236) (rest := []) (as := [.ref 236]) (nx := 14) (r1 := 222) (r2 := 0) (r3 := 11) rfl rfl rfl (of_decide_eq_true rfl) rfl rfl (by decide) rfl rfl (of_decide_eq_true rfl) (of_decide_eq_true rfl) ?_
      refine ct_222_236 hcr  g   (show (h 236 4) ≤ (h 236 3) by omega) (show 0 ≤ tp by omega) (show tp ≤ tn by omega) (show tp ≤ tk_nx tB tn tp ∧ tk_nx tB tn tp ≤ tn by omega) (show (h 236 8) = 0 by omega) (show (h 239 5) ≤ 9 by omega) (show 1 ≤ (h 239 5) by omega) (show (h 239 7) ≤ 3 by omega) (show (h 239 15) ≤ 6 by omega) (show (h 239 16) ≤ 6 by omega) (show (h 239 17) ≤ 6 by omega) (show (h 239 18) ≤ 6 by omega) (show ((h 236 4) = tk_nx tB tn tp ∧ (h 236 5) = tk_st tB tn tp ∧ ((tk_kd tB tn tp = 0 ∧ (h 236 6) = 0) ∨ (tk_kd tB tn tp = 1 ∧ (h 236 6) = 1 ∧ (h 236 12) = tk_sw tB tn tp) ∨ (tk_kd tB tn tp = 2 ∧ (h 236 6) = 2 ∧ (h 236 7) = tk_nb tB tn tp) ∨ (tk_kd tB tn tp = 3 ∧ (h 236 6) = 3 ∧ (h 236 7) = 59) ∨ (tk_kd tB tn tp = 4 ∧ (h 236 6) = 3 ∧ (h 236 7) = 40) ∨ (tk_kd tB tn tp = 5 ∧ (h 236 6) = 3 ∧ (h 236 7) = 41) ∨ (tk_kd tB tn tp = 6 ∧ (h 236 6) = 4))) by first | assumption | exact tk_mv (by assumption) (by omega) (by omega) (by omega) (by omega) (by omega)) (show tS 0 ≤ 5 ∧ tS 1 ≤ 4 ∧ tS 2 ≤ 12 by omega) (show (h 236 9) = -1 by omega) (show tk_kd tB tn tp = 1 by omega) xq0 xq1 (fun h24 g24 u24 (p24_0 : (h 236 4) ≤ (h24 236 4)) (p24_1 : (h24 236 4) ≤ (h 236 3)) (p24_2 : 1 ≤ (h24 236 8) ∨ ((h24 239 5) ≤ 9 ∧ 1 ≤ (h24 239 5) ∧ (h24 239 7) ≤ 3 ∧ (h24 239 15) ≤ 6 ∧ (h24 239 16) ≤ 6 ∧ (h24 239 17) ≤ 6 ∧ (h24 239 18) ≤ 6)) (p24_3 : (h24 236 8) ≠ 0 ∨ (h24 236 9) = -1) y24_0 => ?_)
      have F25 := F0.then (by decide +kernel) u24
      have b26 := gi_b (lo := 0) (hi := 800) g24 236 4 rfl
      have b27 := gi_b (lo := 0) (hi := 5) g24 236 8 rfl
      have e28 : h24 239 5 = h 239 5 := (u24 239 5 rfl)
      have e29 : h24 239 7 = h 239 7 := (u24 239 7 rfl)
      have e30 : h24 239 15 = h 239 15 := (u24 239 15 rfl)
      have e31 : h24 239 16 = h 239 16 := (u24 239 16 rfl)
      have e32 : h24 239 17 = h 239 17 := (u24 239 17 rfl)
      have e33 : h24 239 18 = h 239 18 := (u24 239 18 rfl)
      have b34 := gi_b (lo := -2147483648) (hi := 2147483647) g24 236 9 rfl
      refine wk_n ?_
      refine wi_goto (nx := 17) (r1 := 256) (r2 := 0) (r3 := 0) rfl ?_
      refine wi_return (nx := 257) (r1 := 0) (r2 := 0) (r3 := 0) rfl rfl ?_
      exact k h24 g24 F25 (show (h24 236 8) = 0 ∨ 1 ≤ (h24 236 8) by omega) (show (h 236 4) ≤ (h24 236 4) by omega) (show (h24 236 4) ≤ (h 236 3) by omega) (show 1 ≤ (h24 236 8) ∨ ((h24 239 5) ≤ 9 ∧ 1 ≤ (h24 239 5) ∧ (h24 239 7) ≤ 3 ∧ (h24 239 15) ≤ 6 ∧ (h24 239 16) ≤ 6 ∧ (h24 239 17) ≤ 6 ∧ (h24 239 18) ≤ 6) by omega) (show (h24 236 8) ≠ 0 ∨ (h24 236 9) = -1 by omega) (by unfold tk_stm; (repeat (first | rw [if_pos (by omega)] | rw [if_neg (by omega)])); exact y24_0)
-- method 235: Model.mustSign(I)V
set_option maxRecDepth 100000 in
set_option maxHeartbeats 100000000 in
theorem ct_235_236_L59 {L : Nat} {xs : Nat → Int32} {d b c : Nat} {h : hp} {cr : Nat → Nat → Option Nat} {Q : hp_Q} (hcr : CR cr)  {tB : Nat → Int} {tn tp : Int} (g : GI h)   (pp0 : h 236 4 ≤ h 236 3) (pp1 : 0 ≤ tp) (pp2 : tp ≤ tn) (pp3 : tp ≤ tk_nx tB tn tp ∧ tk_nx tB tn tp ≤ tn) (pp4 : 1 ≤ h 236 8 ∨ (h 236 4 = tk_nx tB tn tp ∧ h 236 5 = tk_st tB tn tp ∧ ((tk_kd tB tn tp = 0 ∧ h 236 6 = 0) ∨ (tk_kd tB tn tp = 1 ∧ h 236 6 = 1 ∧ h 236 12 = tk_sw tB tn tp) ∨ (tk_kd tB tn tp = 2 ∧ h 236 6 = 2 ∧ h 236 7 = tk_nb tB tn tp) ∨ (tk_kd tB tn tp = 3 ∧ h 236 6 = 3 ∧ h 236 7 = 59) ∨ (tk_kd tB tn tp = 4 ∧ h 236 6 = 3 ∧ h 236 7 = 40) ∨ (tk_kd tB tn tp = 5 ∧ h 236 6 = 3 ∧ h 236 7 = 41) ∨ (tk_kd tB tn tp = 6 ∧ h 236 6 = 4)))) (xq0 : RefB tB tn h) (k : ∀ (h2 : hp) , GI h2 → FR [(236, 236, some (4, 4)), (236, 236, some (5, 5)), (236, 236, some (6, 6)), (236, 236, some (7, 7)), (236, 236, some (8, 8)), (236, 236, some (9, 9)), (236, 236, some (12, 12))] h h2 → ((1 ≤ h 236 8 ∧ h2 236 8 = h 236 8 ∧ h2 236 9 = h 236 9) ∨ (h 236 8 = 0 ∧ tk_kd tB tn tp = 3 ∧ h2 236 8 = h 236 8 ∧ h2 236 9 = h 236 9 ∧ (h2 236 4 = tk_nx tB tn (tk_nx tB tn tp) ∧ h2 236 5 = tk_st tB tn (tk_nx tB tn tp) ∧ ((tk_kd tB tn (tk_nx tB tn tp) = 0 ∧ h2 236 6 = 0) ∨ (tk_kd tB tn (tk_nx tB tn tp) = 1 ∧ h2 236 6 = 1 ∧ h2 236 12 = tk_sw tB tn (tk_nx tB tn tp)) ∨ (tk_kd tB tn (tk_nx tB tn tp) = 2 ∧ h2 236 6 = 2 ∧ h2 236 7 = tk_nb tB tn (tk_nx tB tn tp)) ∨ (tk_kd tB tn (tk_nx tB tn tp) = 3 ∧ h2 236 6 = 3 ∧ h2 236 7 = 59) ∨ (tk_kd tB tn (tk_nx tB tn tp) = 4 ∧ h2 236 6 = 3 ∧ h2 236 7 = 40) ∨ (tk_kd tB tn (tk_nx tB tn tp) = 5 ∧ h2 236 6 = 3 ∧ h2 236 7 = 41) ∨ (tk_kd tB tn (tk_nx tB tn tp) = 6 ∧ h2 236 6 = 4)))) ∨ (h 236 8 = 0 ∧ tk_kd tB tn tp ≠ 3 ∧ h2 236 8 = 1 ∧ h2 236 9 = tk_st tB tn tp)) → (h 236 4 ≤ h2 236 4) → (h2 236 4 ≤ h 236 3) → (1 ≤ h2 236 8 ∨ h 236 8 = 0) → (1 ≤ h2 236 8 ∨ h2 236 6 = 0 ∨ h 236 4 + 1 ≤ h2 236 4) → Q (.inl none) (hp_w h2 cr) b c) : wp (md_xa (L, xs)) (d + 2) 235 (0, [(0, .ref 236), (1, vi 59)], [], hp_w h cr, b, c) Q := by
  have F0 : FR [(236, 236, some (4, 4)), (236, 236, some (5, 5)), (236, 236, some (6, 6)), (236, 236, some (7, 7)), (236, 236, some (8, 8)), (236, 236, some (9, 9)), (236, 236, some (12, 12))] h h := FR.refl
  have tb_1 : h 236 3 = tn := xq0.2.1
  have tb_2 : 0 ≤ tn ∧ tn ≤ 800 := xq0.2.2
  have b1 := gi_b (lo := 0) (hi := 800) g 236 4 rfl
  have b2 := gi_b (lo := 0) (hi := 800) g 236 3 rfl
  have b3 := gi_b (lo := 0) (hi := 5) g 236 8 rfl
  have b4 := gi_b (lo := 0) (hi := 800) g 236 5 rfl
  have b5 := gi_b (lo := 0) (hi := 4) g 236 6 rfl
  have b6 := gi_b (lo := -9223372036854775808) (hi := 9223372036854775807) g 236 12 rfl
  have b7 := gi_b (lo := 0) (hi := 999) g 236 7 rfl
  refine wi_aload_n (i := 0) (x := 236) (nx := 1) (r1 := 0) (r2 := 0) (r3 := 0) rfl rfl ?_
  refine wr_V (k0 := 236) (rest := []) (as := [.ref 236]) (nx := 4) (r1 := 219) (r2 := 0) (r3 := 11) rfl rfl rfl (of_decide_eq_true rfl) rfl rfl (by decide) rfl rfl (of_decide_eq_true rfl) (of_decide_eq_true rfl) ?_
  refine wi_aload_n (i := 0) (x := 236) (nx := 1) (r1 := 0) (r2 := 0) (r3 := 0) rfl rfl ?_
  refine wr_gi0 (k0 := 236) (x := h 236 8) (nx := 4) (r1 := 11) (r2 := 8) (r3 := 0) rfl rfl (by decide) rfl ⟨rfl, rfl⟩ rfl rfl ?_
  refine wi_if (cd := .ne) (nx := 7) (r1 := 11) (r2 := 0) (r3 := 0) rfl (by omega) (fun (q8 : (h 236 8) ≠ 0) => ?_) (fun (q8 : ¬ ((h 236 8) ≠ 0)) => ?_)
  ·
    refine wi_iconst (n := 0) (nx := 12) (r1 := 0) (r2 := 0) (r3 := 0) rfl ?_
    refine wi_zreturn (nx := 13) (r1 := 0) (r2 := 0) (r3 := 0) rfl rfl (by omega) ?_
    refine wk_i ?_
    refine wi_if (cd := .eq) (nx := 7) (r1 := 20) (r2 := 0) (r3 := 0) rfl (by omega) (fun (q9 : 0 = 0) => ?_) (fun (q9 : ¬ (0 = 0)) => by exfalso; omega)
    refine wi_aload_n (i := 0) (x := 236) (nx := 21) (r1 := 0) (r2 := 0) (r3 := 0) rfl rfl ?_
    refine wr_V (k0 := 236) (rest := []) (as := [.ref 236]) (nx := 24) (r1 := 219) (r2 := 0) (r3 := 11) rfl rfl rfl (of_decide_eq_true rfl) rfl rfl (by decide) rfl rfl (of_decide_eq_true rfl) (of_decide_eq_true rfl) ?_
    refine wi_aload_n (i := 0) (x := 236) (nx := 1) (r1 := 0) (r2 := 0) (r3 := 0) rfl rfl ?_
    refine wr_gi0 (k0 := 236) (x := h 236 8) (nx := 4) (r1 := 11) (r2 := 8) (r3 := 0) rfl rfl (by decide) rfl ⟨rfl, rfl⟩ rfl rfl ?_
    refine wi_if (cd := .ne) (nx := 7) (r1 := 11) (r2 := 0) (r3 := 0) rfl (by omega) (fun (q10 : (h 236 8) ≠ 0) => ?_) (fun (q10 : ¬ ((h 236 8) ≠ 0)) => by exfalso; omega)
    refine wi_iconst (n := 0) (nx := 12) (r1 := 0) (r2 := 0) (r3 := 0) rfl ?_
    refine wi_zreturn (nx := 13) (r1 := 0) (r2 := 0) (r3 := 0) rfl rfl (by omega) ?_
    refine wk_i ?_
    refine wi_if (cd := .eq) (nx := 27) (r1 := 31) (r2 := 0) (r3 := 0) rfl (by omega) (fun (q11 : 0 = 0) => ?_) (fun (q11 : ¬ (0 = 0)) => by exfalso; omega)
    refine wi_return (nx := 32) (r1 := 0) (r2 := 0) (r3 := 0) rfl rfl ?_
    have b12 := gi_b (lo := -2147483648) (hi := 2147483647) g 236 9 rfl
    exact k h g F0 (show (1 ≤ (h 236 8) ∧ (h 236 8) = (h 236 8) ∧ (h 236 9) = (h 236 9)) ∨ ((h 236 8) = 0 ∧ tk_kd tB tn tp = 3 ∧ (h 236 8) = (h 236 8) ∧ (h 236 9) = (h 236 9) ∧ ((h 236 4) = tk_nx tB tn (tk_nx tB tn tp) ∧ (h 236 5) = tk_st tB tn (tk_nx tB tn tp) ∧ ((tk_kd tB tn (tk_nx tB tn tp) = 0 ∧ (h 236 6) = 0) ∨ (tk_kd tB tn (tk_nx tB tn tp) = 1 ∧ (h 236 6) = 1 ∧ (h 236 12) = tk_sw tB tn (tk_nx tB tn tp)) ∨ (tk_kd tB tn (tk_nx tB tn tp) = 2 ∧ (h 236 6) = 2 ∧ (h 236 7) = tk_nb tB tn (tk_nx tB tn tp)) ∨ (tk_kd tB tn (tk_nx tB tn tp) = 3 ∧ (h 236 6) = 3 ∧ (h 236 7) = 59) ∨ (tk_kd tB tn (tk_nx tB tn tp) = 4 ∧ (h 236 6) = 3 ∧ (h 236 7) = 40) ∨ (tk_kd tB tn (tk_nx tB tn tp) = 5 ∧ (h 236 6) = 3 ∧ (h 236 7) = 41) ∨ (tk_kd tB tn (tk_nx tB tn tp) = 6 ∧ (h 236 6) = 4)))) ∨ ((h 236 8) = 0 ∧ tk_kd tB tn tp ≠ 3 ∧ (h 236 8) = 1 ∧ (h 236 9) = tk_st tB tn tp) from (Or.inl (by omega))) (show (h 236 4) ≤ (h 236 4) by omega) (show (h 236 4) ≤ (h 236 3) by omega) (show 1 ≤ (h 236 8) ∨ (h 236 8) = 0 by omega) (show 1 ≤ (h 236 8) ∨ (h 236 6) = 0 ∨ (h 236 4) + 1 ≤ (h 236 4) by omega)
  ·
    refine wi_iconst (n := 1) (nx := 8) (r1 := 0) (r2 := 0) (r3 := 0) rfl ?_
    refine wi_goto (nx := 11) (r1 := 12) (r2 := 0) (r3 := 0) rfl ?_
    refine wi_zreturn (nx := 13) (r1 := 0) (r2 := 0) (r3 := 0) rfl rfl (by omega) ?_
    refine wk_i ?_
    refine wi_if (cd := .eq) (nx := 7) (r1 := 20) (r2 := 0) (r3 := 0) rfl (by omega) (fun (q9 : 1 = 0) => by exfalso; omega) (fun (q9 : ¬ (1 = 0)) => ?_)
    refine wi_aload_n (i := 0) (x := 236) (nx := 8) (r1 := 0) (r2 := 0) (r3 := 0) rfl rfl ?_
    refine wi_iload_n (i := 1) (e := 59) (nx := 9) (r1 := 0) (r2 := 0) (r3 := 0) rfl rfl ?_
    refine wr_V (k0 := 236) (rest := []) (as := [.ref 236, vi 59]) (nx := 12) (r1 := 236) (r2 := 1) (r3 := 11) rfl rfl rfl (of_decide_eq_true rfl) rfl rfl (by decide) rfl rfl (of_decide_eq_true rfl) (of_decide_eq_true rfl) ?_
    refine wi_aload_n (i := 0) (x := 236) (nx := 1) (r1 := 0) (r2 := 0) (r3 := 0) rfl rfl ?_
    refine wr_gi0 (k0 := 236) (x := h 236 8) (nx := 4) (r1 := 11) (r2 := 8) (r3 := 0) rfl rfl (by decide) rfl ⟨rfl, rfl⟩ rfl rfl ?_
    refine wi_if (cd := .ne) (nx := 7) (r1 := 27) (r2 := 0) (r3 := 0) rfl (by omega) (fun (q10 : (h 236 8) ≠ 0) => by exfalso; omega) (fun (q10 : ¬ ((h 236 8) ≠ 0)) => ?_)
    refine wi_aload_n (i := 0) (x := 236) (nx := 8) (r1 := 0) (r2 := 0) (r3 := 0) rfl rfl ?_
    refine wr_gi0 (k0 := 236) (x := h 236 6) (nx := 11) (r1 := 11) (r2 := 6) (r3 := 0) rfl rfl (by decide) rfl ⟨rfl, rfl⟩ rfl rfl ?_
    refine wi_iconst (n := 3) (nx := 12) (r1 := 0) (r2 := 0) (r3 := 0) rfl ?_
    refine wi_icmp (cd := .ne) (nx := 15) (r1 := 27) (r2 := 0) (r3 := 0) rfl (by omega) (by omega) (fun (q11 : (h 236 6) ≠ 3) => ?_) (fun (q11 : ¬ ((h 236 6) ≠ 3)) => ?_)
    ·
      refine wi_iconst (n := 0) (nx := 28) (r1 := 0) (r2 := 0) (r3 := 0) rfl ?_
      refine wi_zreturn (nx := 29) (r1 := 0) (r2 := 0) (r3 := 0) rfl rfl (by omega) ?_
      refine wk_i ?_
      refine wi_if (cd := .ne) (nx := 15) (r1 := 20) (r2 := 0) (r3 := 0) rfl (by omega) (fun (q12 : 0 ≠ 0) => by exfalso; omega) (fun (q12 : ¬ (0 ≠ 0)) => ?_)
      refine wi_aload_n (i := 0) (x := 236) (nx := 16) (r1 := 0) (r2 := 0) (r3 := 0) rfl rfl ?_
      refine wi_iconst (n := 1) (nx := 17) (r1 := 0) (r2 := 0) (r3 := 0) rfl ?_
      refine wr_V (k0 := 236) (rest := []) (as := [.ref 236, vi 1]) (nx := 20) (r1 := 224) (r2 := 1) (r3 := 11) rfl rfl rfl (of_decide_eq_true rfl) rfl rfl (by decide) rfl rfl (of_decide_eq_true rfl) (of_decide_eq_true rfl) ?_
      refine ct_224_236 hcr  g 1 (by omega)  (fun h13 g13 u13 (p13_0 : 1 ≤ (h13 236 8)) (p13_1 : (1 ≤ (h 236 8) ∧ (h13 236 8) = (h 236 8) ∧ (h13 236 9) = (h 236 9)) ∨ ((h 236 8) = 0 ∧ (h13 236 9) = (h 236 5) ∧ (((h 236 6) = 4 ∧ (h13 236 8) = 1) ∨ ((h 236 6) ≠ 4 ∧ (h13 236 8) = 1)))) => ?_)
      have F14 := F0.then (by decide +kernel) u13
      have b15 := gi_b (lo := 0) (hi := 5) g13 236 8 rfl
      have b16 := gi_b (lo := -2147483648) (hi := 2147483647) g 236 9 rfl
      have b17 := gi_b (lo := -2147483648) (hi := 2147483647) g13 236 9 rfl
      refine wk_n ?_
      refine wi_aload_n (i := 0) (x := 236) (nx := 21) (r1 := 0) (r2 := 0) (r3 := 0) rfl rfl ?_
      refine wr_V (k0 := 236) (rest := []) (as := [.ref 236]) (nx := 24) (r1 := 219) (r2 := 0) (r3 := 11) rfl rfl rfl (of_decide_eq_true rfl) rfl rfl (by decide) rfl rfl (of_decide_eq_true rfl) (of_decide_eq_true rfl) ?_
      refine wi_aload_n (i := 0) (x := 236) (nx := 1) (r1 := 0) (r2 := 0) (r3 := 0) rfl rfl ?_
      refine wr_gi0 (k0 := 236) (x := h13 236 8) (nx := 4) (r1 := 11) (r2 := 8) (r3 := 0) rfl rfl (by decide) rfl ⟨rfl, rfl⟩ rfl rfl ?_
      refine wi_if (cd := .ne) (nx := 7) (r1 := 11) (r2 := 0) (r3 := 0) rfl (by omega) (fun (q18 : (h13 236 8) ≠ 0) => ?_) (fun (q18 : ¬ ((h13 236 8) ≠ 0)) => by exfalso; omega)
      refine wi_iconst (n := 0) (nx := 12) (r1 := 0) (r2 := 0) (r3 := 0) rfl ?_
      refine wi_zreturn (nx := 13) (r1 := 0) (r2 := 0) (r3 := 0) rfl rfl (by omega) ?_
      refine wk_i ?_
      refine wi_if (cd := .eq) (nx := 27) (r1 := 31) (r2 := 0) (r3 := 0) rfl (by omega) (fun (q19 : 0 = 0) => ?_) (fun (q19 : ¬ (0 = 0)) => by exfalso; omega)
      refine wi_return (nx := 32) (r1 := 0) (r2 := 0) (r3 := 0) rfl rfl ?_
      have e20 : h13 236 4 = h 236 4 := (u13 236 4 rfl)
      have e21 : h13 236 5 = h 236 5 := (u13 236 5 rfl)
      have e22 : h13 236 6 = h 236 6 := (u13 236 6 rfl)
      have e23 : h13 236 12 = h 236 12 := (u13 236 12 rfl)
      have e24 : h13 236 7 = h 236 7 := (u13 236 7 rfl)
      exact k h13 g13 F14 (show (1 ≤ (h 236 8) ∧ (h13 236 8) = (h 236 8) ∧ (h13 236 9) = (h 236 9)) ∨ ((h 236 8) = 0 ∧ tk_kd tB tn tp = 3 ∧ (h13 236 8) = (h 236 8) ∧ (h13 236 9) = (h 236 9) ∧ ((h13 236 4) = tk_nx tB tn (tk_nx tB tn tp) ∧ (h13 236 5) = tk_st tB tn (tk_nx tB tn tp) ∧ ((tk_kd tB tn (tk_nx tB tn tp) = 0 ∧ (h13 236 6) = 0) ∨ (tk_kd tB tn (tk_nx tB tn tp) = 1 ∧ (h13 236 6) = 1 ∧ (h13 236 12) = tk_sw tB tn (tk_nx tB tn tp)) ∨ (tk_kd tB tn (tk_nx tB tn tp) = 2 ∧ (h13 236 6) = 2 ∧ (h13 236 7) = tk_nb tB tn (tk_nx tB tn tp)) ∨ (tk_kd tB tn (tk_nx tB tn tp) = 3 ∧ (h13 236 6) = 3 ∧ (h13 236 7) = 59) ∨ (tk_kd tB tn (tk_nx tB tn tp) = 4 ∧ (h13 236 6) = 3 ∧ (h13 236 7) = 40) ∨ (tk_kd tB tn (tk_nx tB tn tp) = 5 ∧ (h13 236 6) = 3 ∧ (h13 236 7) = 41) ∨ (tk_kd tB tn (tk_nx tB tn tp) = 6 ∧ (h13 236 6) = 4)))) ∨ ((h 236 8) = 0 ∧ tk_kd tB tn tp ≠ 3 ∧ (h13 236 8) = 1 ∧ (h13 236 9) = tk_st tB tn tp) from (Or.inr (Or.inr (by omega)))) (show (h 236 4) ≤ (h13 236 4) by omega) (show (h13 236 4) ≤ (h 236 3) by omega) (show 1 ≤ (h13 236 8) ∨ (h 236 8) = 0 by omega) (show 1 ≤ (h13 236 8) ∨ (h13 236 6) = 0 ∨ (h 236 4) + 1 ≤ (h13 236 4) by omega)
    ·
      refine wi_aload_n (i := 0) (x := 236) (nx := 16) (r1 := 0) (r2 := 0) (r3 := 0) rfl rfl ?_
      refine wr_gi0 (k0 := 236) (x := h 236 7) (nx := 19) (r1 := 11) (r2 := 7) (r3 := 0) rfl rfl (by decide) rfl ⟨rfl, rfl⟩ rfl rfl ?_
      refine wi_iload_n (i := 1) (e := 59) (nx := 20) (r1 := 0) (r2 := 0) (r3 := 0) rfl rfl ?_
      refine wi_icmp (cd := .ne) (nx := 23) (r1 := 27) (r2 := 0) (r3 := 0) rfl (by omega) (by omega) (fun (q12 : (h 236 7) ≠ 59) => ?_) (fun (q12 : ¬ ((h 236 7) ≠ 59)) => ?_)
      ·
        refine wi_iconst (n := 0) (nx := 28) (r1 := 0) (r2 := 0) (r3 := 0) rfl ?_
        refine wi_zreturn (nx := 29) (r1 := 0) (r2 := 0) (r3 := 0) rfl rfl (by omega) ?_
        refine wk_i ?_
        refine wi_if (cd := .ne) (nx := 15) (r1 := 20) (r2 := 0) (r3 := 0) rfl (by omega) (fun (q13 : 0 ≠ 0) => by exfalso; omega) (fun (q13 : ¬ (0 ≠ 0)) => ?_)
        refine wi_aload_n (i := 0) (x := 236) (nx := 16) (r1 := 0) (r2 := 0) (r3 := 0) rfl rfl ?_
        refine wi_iconst (n := 1) (nx := 17) (r1 := 0) (r2 := 0) (r3 := 0) rfl ?_
        refine wr_V (k0 := 236) (rest := []) (as := [.ref 236, vi 1]) (nx := 20) (r1 := 224) (r2 := 1) (r3 := 11) rfl rfl rfl (of_decide_eq_true rfl) rfl rfl (by decide) rfl rfl (of_decide_eq_true rfl) (of_decide_eq_true rfl) ?_
        refine ct_224_236 hcr  g 1 (by omega)  (fun h14 g14 u14 (p14_0 : 1 ≤ (h14 236 8)) (p14_1 : (1 ≤ (h 236 8) ∧ (h14 236 8) = (h 236 8) ∧ (h14 236 9) = (h 236 9)) ∨ ((h 236 8) = 0 ∧ (h14 236 9) = (h 236 5) ∧ (((h 236 6) = 4 ∧ (h14 236 8) = 1) ∨ ((h 236 6) ≠ 4 ∧ (h14 236 8) = 1)))) => ?_)
        have F15 := F0.then (by decide +kernel) u14
        have b16 := gi_b (lo := 0) (hi := 5) g14 236 8 rfl
        have b17 := gi_b (lo := -2147483648) (hi := 2147483647) g 236 9 rfl
        have b18 := gi_b (lo := -2147483648) (hi := 2147483647) g14 236 9 rfl
        refine wk_n ?_
        refine wi_aload_n (i := 0) (x := 236) (nx := 21) (r1 := 0) (r2 := 0) (r3 := 0) rfl rfl ?_
        refine wr_V (k0 := 236) (rest := []) (as := [.ref 236]) (nx := 24) (r1 := 219) (r2 := 0) (r3 := 11) rfl rfl rfl (of_decide_eq_true rfl) rfl rfl (by decide) rfl rfl (of_decide_eq_true rfl) (of_decide_eq_true rfl) ?_
        refine wi_aload_n (i := 0) (x := 236) (nx := 1) (r1 := 0) (r2 := 0) (r3 := 0) rfl rfl ?_
        refine wr_gi0 (k0 := 236) (x := h14 236 8) (nx := 4) (r1 := 11) (r2 := 8) (r3 := 0) rfl rfl (by decide) rfl ⟨rfl, rfl⟩ rfl rfl ?_
        refine wi_if (cd := .ne) (nx := 7) (r1 := 11) (r2 := 0) (r3 := 0) rfl (by omega) (fun (q19 : (h14 236 8) ≠ 0) => ?_) (fun (q19 : ¬ ((h14 236 8) ≠ 0)) => by exfalso; omega)
        refine wi_iconst (n := 0) (nx := 12) (r1 := 0) (r2 := 0) (r3 := 0) rfl ?_
        refine wi_zreturn (nx := 13) (r1 := 0) (r2 := 0) (r3 := 0) rfl rfl (by omega) ?_
        refine wk_i ?_
        refine wi_if (cd := .eq) (nx := 27) (r1 := 31) (r2 := 0) (r3 := 0) rfl (by omega) (fun (q20 : 0 = 0) => ?_) (fun (q20 : ¬ (0 = 0)) => by exfalso; omega)
        refine wi_return (nx := 32) (r1 := 0) (r2 := 0) (r3 := 0) rfl rfl ?_
        have e21 : h14 236 4 = h 236 4 := (u14 236 4 rfl)
        have e22 : h14 236 5 = h 236 5 := (u14 236 5 rfl)
        have e23 : h14 236 6 = h 236 6 := (u14 236 6 rfl)
        have e24 : h14 236 12 = h 236 12 := (u14 236 12 rfl)
        have e25 : h14 236 7 = h 236 7 := (u14 236 7 rfl)
        exact k h14 g14 F15 (show (1 ≤ (h 236 8) ∧ (h14 236 8) = (h 236 8) ∧ (h14 236 9) = (h 236 9)) ∨ ((h 236 8) = 0 ∧ tk_kd tB tn tp = 3 ∧ (h14 236 8) = (h 236 8) ∧ (h14 236 9) = (h 236 9) ∧ ((h14 236 4) = tk_nx tB tn (tk_nx tB tn tp) ∧ (h14 236 5) = tk_st tB tn (tk_nx tB tn tp) ∧ ((tk_kd tB tn (tk_nx tB tn tp) = 0 ∧ (h14 236 6) = 0) ∨ (tk_kd tB tn (tk_nx tB tn tp) = 1 ∧ (h14 236 6) = 1 ∧ (h14 236 12) = tk_sw tB tn (tk_nx tB tn tp)) ∨ (tk_kd tB tn (tk_nx tB tn tp) = 2 ∧ (h14 236 6) = 2 ∧ (h14 236 7) = tk_nb tB tn (tk_nx tB tn tp)) ∨ (tk_kd tB tn (tk_nx tB tn tp) = 3 ∧ (h14 236 6) = 3 ∧ (h14 236 7) = 59) ∨ (tk_kd tB tn (tk_nx tB tn tp) = 4 ∧ (h14 236 6) = 3 ∧ (h14 236 7) = 40) ∨ (tk_kd tB tn (tk_nx tB tn tp) = 5 ∧ (h14 236 6) = 3 ∧ (h14 236 7) = 41) ∨ (tk_kd tB tn (tk_nx tB tn tp) = 6 ∧ (h14 236 6) = 4)))) ∨ ((h 236 8) = 0 ∧ tk_kd tB tn tp ≠ 3 ∧ (h14 236 8) = 1 ∧ (h14 236 9) = tk_st tB tn tp) from (Or.inr (Or.inr (by omega)))) (show (h 236 4) ≤ (h14 236 4) by omega) (show (h14 236 4) ≤ (h 236 3) by omega) (show 1 ≤ (h14 236 8) ∨ (h 236 8) = 0 by omega) (show 1 ≤ (h14 236 8) ∨ (h14 236 6) = 0 ∨ (h 236 4) + 1 ≤ (h14 236 4) by omega)
      ·
        refine wi_iconst (n := 1) (nx := 24) (r1 := 0) (r2 := 0) (r3 := 0) rfl ?_
        refine wi_goto (nx := 27) (r1 := 28) (r2 := 0) (r3 := 0) rfl ?_
        refine wi_zreturn (nx := 29) (r1 := 0) (r2 := 0) (r3 := 0) rfl rfl (by omega) ?_
        refine wk_i ?_
        refine wi_if (cd := .ne) (nx := 15) (r1 := 20) (r2 := 0) (r3 := 0) rfl (by omega) (fun (q13 : 1 ≠ 0) => ?_) (fun (q13 : ¬ (1 ≠ 0)) => by exfalso; omega)
        refine wi_aload_n (i := 0) (x := 236) (nx := 21) (r1 := 0) (r2 := 0) (r3 := 0) rfl rfl ?_
        refine wr_V (k0 := 236) (rest := []) (as := [.ref 236]) (nx := 24) (r1 := 219) (r2 := 0) (r3 := 11) rfl rfl rfl (of_decide_eq_true rfl) rfl rfl (by decide) rfl rfl (of_decide_eq_true rfl) (of_decide_eq_true rfl) ?_
        refine wi_aload_n (i := 0) (x := 236) (nx := 1) (r1 := 0) (r2 := 0) (r3 := 0) rfl rfl ?_
        refine wr_gi0 (k0 := 236) (x := h 236 8) (nx := 4) (r1 := 11) (r2 := 8) (r3 := 0) rfl rfl (by decide) rfl ⟨rfl, rfl⟩ rfl rfl ?_
        refine wi_if (cd := .ne) (nx := 7) (r1 := 11) (r2 := 0) (r3 := 0) rfl (by omega) (fun (q14 : (h 236 8) ≠ 0) => by exfalso; omega) (fun (q14 : ¬ ((h 236 8) ≠ 0)) => ?_)
        refine wi_iconst (n := 1) (nx := 8) (r1 := 0) (r2 := 0) (r3 := 0) rfl ?_
        refine wi_goto (nx := 11) (r1 := 12) (r2 := 0) (r3 := 0) rfl ?_
        refine wi_zreturn (nx := 13) (r1 := 0) (r2 := 0) (r3 := 0) rfl rfl (by omega) ?_
        refine wk_i ?_
        refine wi_if (cd := .eq) (nx := 27) (r1 := 31) (r2 := 0) (r3 := 0) rfl (by omega) (fun (q15 : 1 = 0) => by exfalso; omega) (fun (q15 : ¬ (1 = 0)) => ?_)
        refine wi_aload_n (i := 0) (x := 236) (nx := 28) (r1 := 0) (r2 := 0) (r3 := 0) rfl rfl ?_
        refine wr_V (k0 := 236) (rest := []) (as := [.ref 236]) (nx := 31) (r1 := 215) (r2 := 0) (r3 := 11) rfl rfl rfl (of_decide_eq_true rfl) rfl rfl (by decide) rfl rfl (of_decide_eq_true rfl) (of_decide_eq_true rfl) ?_
        refine ct_215_236 hcr  g   (show (h 236 4) ≤ (h 236 3) by omega) (show (h 236 4) = (tk_nx tB tn tp) by omega) (show 0 ≤ (tk_nx tB tn tp) by omega) (show (tk_nx tB tn tp) ≤ tn by omega) xq0 (fun h16 g16 u16 (p16_0 : (h 236 4) ≤ (h16 236 4)) (p16_1 : (h16 236 4) ≤ (h 236 3)) (p16_2 : ((h16 236 4) = tk_nx tB tn (tk_nx tB tn tp) ∧ (h16 236 5) = tk_st tB tn (tk_nx tB tn tp) ∧ ((tk_kd tB tn (tk_nx tB tn tp) = 0 ∧ (h16 236 6) = 0) ∨ (tk_kd tB tn (tk_nx tB tn tp) = 1 ∧ (h16 236 6) = 1 ∧ (h16 236 12) = tk_sw tB tn (tk_nx tB tn tp)) ∨ (tk_kd tB tn (tk_nx tB tn tp) = 2 ∧ (h16 236 6) = 2 ∧ (h16 236 7) = tk_nb tB tn (tk_nx tB tn tp)) ∨ (tk_kd tB tn (tk_nx tB tn tp) = 3 ∧ (h16 236 6) = 3 ∧ (h16 236 7) = 59) ∨ (tk_kd tB tn (tk_nx tB tn tp) = 4 ∧ (h16 236 6) = 3 ∧ (h16 236 7) = 40) ∨ (tk_kd tB tn (tk_nx tB tn tp) = 5 ∧ (h16 236 6) = 3 ∧ (h16 236 7) = 41) ∨ (tk_kd tB tn (tk_nx tB tn tp) = 6 ∧ (h16 236 6) = 4)))) (p16_3 : (tk_nx tB tn tp) ≤ tk_nx tB tn (tk_nx tB tn tp) ∧ tk_nx tB tn (tk_nx tB tn tp) ≤ tn) => ?_)
        have F17 := F0.then (by decide +kernel) u16
        have b18 := gi_b (lo := 0) (hi := 800) g16 236 4 rfl
        have b19 := gi_b (lo := 0) (hi := 800) g16 236 5 rfl
        have b20 := gi_b (lo := 0) (hi := 4) g16 236 6 rfl
        have b21 := gi_b (lo := -9223372036854775808) (hi := 9223372036854775807) g16 236 12 rfl
        have b22 := gi_b (lo := 0) (hi := 999) g16 236 7 rfl
        have tN23 := @tk_nx_b tB tn (tk_nx tB tn tp) (by omega) (by omega)
        refine wk_n ?_
        refine wi_return (nx := 32) (r1 := 0) (r2 := 0) (r3 := 0) rfl rfl ?_
        have e24 : h16 236 8 = h 236 8 := (u16 236 8 rfl)
        have b25 := gi_b (lo := -2147483648) (hi := 2147483647) g 236 9 rfl
        have e26 : h16 236 9 = h 236 9 := (u16 236 9 rfl)
        exact k h16 g16 F17 (show (1 ≤ (h 236 8) ∧ (h16 236 8) = (h 236 8) ∧ (h16 236 9) = (h 236 9)) ∨ ((h 236 8) = 0 ∧ tk_kd tB tn tp = 3 ∧ (h16 236 8) = (h 236 8) ∧ (h16 236 9) = (h 236 9) ∧ ((h16 236 4) = tk_nx tB tn (tk_nx tB tn tp) ∧ (h16 236 5) = tk_st tB tn (tk_nx tB tn tp) ∧ ((tk_kd tB tn (tk_nx tB tn tp) = 0 ∧ (h16 236 6) = 0) ∨ (tk_kd tB tn (tk_nx tB tn tp) = 1 ∧ (h16 236 6) = 1 ∧ (h16 236 12) = tk_sw tB tn (tk_nx tB tn tp)) ∨ (tk_kd tB tn (tk_nx tB tn tp) = 2 ∧ (h16 236 6) = 2 ∧ (h16 236 7) = tk_nb tB tn (tk_nx tB tn tp)) ∨ (tk_kd tB tn (tk_nx tB tn tp) = 3 ∧ (h16 236 6) = 3 ∧ (h16 236 7) = 59) ∨ (tk_kd tB tn (tk_nx tB tn tp) = 4 ∧ (h16 236 6) = 3 ∧ (h16 236 7) = 40) ∨ (tk_kd tB tn (tk_nx tB tn tp) = 5 ∧ (h16 236 6) = 3 ∧ (h16 236 7) = 41) ∨ (tk_kd tB tn (tk_nx tB tn tp) = 6 ∧ (h16 236 6) = 4)))) ∨ ((h 236 8) = 0 ∧ tk_kd tB tn tp ≠ 3 ∧ (h16 236 8) = 1 ∧ (h16 236 9) = tk_st tB tn tp) from (Or.inr (Or.inl ⟨(by omega), (by omega), (by omega), (by omega), (show ((h16 236 4) = tk_nx tB tn (tk_nx tB tn tp) ∧ (h16 236 5) = tk_st tB tn (tk_nx tB tn tp) ∧ ((tk_kd tB tn (tk_nx tB tn tp) = 0 ∧ (h16 236 6) = 0) ∨ (tk_kd tB tn (tk_nx tB tn tp) = 1 ∧ (h16 236 6) = 1 ∧ (h16 236 12) = tk_sw tB tn (tk_nx tB tn tp)) ∨ (tk_kd tB tn (tk_nx tB tn tp) = 2 ∧ (h16 236 6) = 2 ∧ (h16 236 7) = tk_nb tB tn (tk_nx tB tn tp)) ∨ (tk_kd tB tn (tk_nx tB tn tp) = 3 ∧ (h16 236 6) = 3 ∧ (h16 236 7) = 59) ∨ (tk_kd tB tn (tk_nx tB tn tp) = 4 ∧ (h16 236 6) = 3 ∧ (h16 236 7) = 40) ∨ (tk_kd tB tn (tk_nx tB tn tp) = 5 ∧ (h16 236 6) = 3 ∧ (h16 236 7) = 41) ∨ (tk_kd tB tn (tk_nx tB tn tp) = 6 ∧ (h16 236 6) = 4))) by first | assumption | exact tk_mv (by assumption) (by omega) (by omega) (by omega) (by omega) (by omega))⟩))) (show (h 236 4) ≤ (h16 236 4) by omega) (show (h16 236 4) ≤ (h 236 3) by omega) (show 1 ≤ (h16 236 8) ∨ (h 236 8) = 0 by omega) (show 1 ≤ (h16 236 8) ∨ (h16 236 6) = 0 ∨ (h 236 4) + 1 ≤ (h16 236 4) by omega)
