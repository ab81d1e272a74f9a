-- method 220: Model.statement()V
set_option maxRecDepth 100000 in
set_option maxHeartbeats 100000000 in
theorem ct_220_236 {L : Nat} {xs : Nat → Int32} {d b c : Nat} {h : hp} {cr : Nat → Nat → Option Nat} {Q : hp_Q} (hcr : CR cr)  {tB : Nat → Int} {tn tp : Int} {tS : tk_S} (g : GI h)   (pp0 : h 236 4 ≤ h 236 3) (pp1 : 0 ≤ tp) (pp2 : tp ≤ tn) (pp3 : tp ≤ tk_nx tB tn tp ∧ tk_nx tB tn tp ≤ tn) (pp4 : h 236 8 = 0) (pp5 : h 239 5 ≤ 9) (pp6 : 1 ≤ h 239 5) (pp7 : h 239 7 ≤ 3) (pp8 : h 239 15 ≤ 6) (pp9 : h 239 16 ≤ 6) (pp10 : h 239 17 ≤ 6) (pp11 : h 239 18 ≤ 6) (pp12 : (h 236 4 = tk_nx tB tn tp ∧ h 236 5 = tk_st tB tn tp ∧ TKk tB tn tp (h 236 6) (h 236 7) (h 236 12))) (pp13 : tS 0 ≤ 5 ∧ tS 1 ≤ 4 ∧ tS 2 ≤ 12) (pp14 : h 236 9 = -1) (xq0 : RefB tB tn h) (xq1 : CVr tS h) (k : ∀ (h2 : hp) , GI h2 → FR [(244, 244, none), (236, 236, some (4, 4)), (236, 236, some (5, 5)), (236, 236, some (6, 6)), (236, 236, some (7, 7)), (236, 236, some (8, 8)), (236, 236, some (9, 9)), (236, 236, some (12, 12)), (236, 236, some (23, 23)), (236, 236, some (24, 24)), (236, 236, some (25, 25)), (236, 236, some (26, 26)), (239, 239, some (0, 0)), (239, 239, some (1, 1)), (239, 239, some (2, 2)), (239, 239, some (3, 3)), (239, 239, some (4, 4)), (239, 239, some (5, 5)), (239, 239, some (6, 6)), (239, 239, some (7, 7)), (239, 239, some (8, 8)), (239, 239, some (9, 9)), (239, 239, some (10, 14)), (239, 239, some (15, 15)), (239, 239, some (16, 16)), (239, 239, some (17, 17)), (239, 239, some (18, 18)), (239, 239, some (19, 30)), (239, 239, some (31, 42)), (239, 239, some (43, 54))] h h2 → (h2 236 8 = 0 ∨ 1 ≤ h2 236 8) → (h 236 4 ≤ h2 236 4) → (h2 236 4 ≤ h 236 3) → (1 ≤ h2 236 8 ∨ (h2 239 5 ≤ 9 ∧ 1 ≤ h2 239 5 ∧ h2 239 7 ≤ 3 ∧ h2 239 15 ≤ 6 ∧ h2 239 16 ≤ 6 ∧ h2 239 17 ≤ 6 ∧ h2 239 18 ≤ 6)) → (h2 236 8 ≠ 0 ∨ h2 236 9 = -1) → (tk_OR tB tn (tk_stm tB tn tp tS) h2) → Q (.inl none) (hp_w h2 cr) b c) : wp (md_xa (L, xs)) (d + 6) 220 (0, [(0, .ref 236)], [], hp_w h cr, b, c) Q := by
  have F0 : FR [(244, 244, none), (236, 236, some (4, 4)), (236, 236, some (5, 5)), (236, 236, some (6, 6)), (236, 236, some (7, 7)), (236, 236, some (8, 8)), (236, 236, some (9, 9)), (236, 236, some (12, 12)), (236, 236, some (23, 23)), (236, 236, some (24, 24)), (236, 236, some (25, 25)), (236, 236, some (26, 26)), (239, 239, some (0, 0)), (239, 239, some (1, 1)), (239, 239, some (2, 2)), (239, 239, some (3, 3)), (239, 239, some (4, 4)), (239, 239, some (5, 5)), (239, 239, some (6, 6)), (239, 239, some (7, 7)), (239, 239, some (8, 8)), (239, 239, some (9, 9)), (239, 239, some (10, 14)), (239, 239, some (15, 15)), (239, 239, some (16, 16)), (239, 239, some (17, 17)), (239, 239, some (18, 18)), (239, 239, some (19, 30)), (239, 239, some (31, 42)), (239, 239, some (43, 54))] h h := FR.refl
  have tb_1 : h 236 3 = tn := xq0.2.1
  have tb_2 : 0 ≤ tn ∧ tn ≤ 800 := xq0.2.2
  obtain ⟨⟨rv_0, rv_1, rv_2, rv_3, rv_4, rv_5, rv_6, rv_7, rv_8, rv_9⟩, ⟨rf_0, rf_1, rf_2, rf_3⟩, -⟩ := id xq1
  have b1 := gi_b (lo := 0) (hi := 5) g 239 0 rfl
  have b2 := gi_b (lo := 0) (hi := 4) g 239 1 rfl
  have b3 := gi_b (lo := 0) (hi := 12) g 239 2 rfl
  have tkk0_ := pp12.2.2
  have b4 := gi_b (lo := 0) (hi := 800) g 236 4 rfl
  have b5 := gi_b (lo := 0) (hi := 800) g 236 3 rfl
  have b6 := gi_b (lo := 0) (hi := 5) g 236 8 rfl
  have b7 := gi_b (lo := 0) (hi := 999) g 239 5 rfl
  have b8 := gi_b (lo := 0) (hi := 999) g 239 7 rfl
  have b9 := gi_b (lo := 0) (hi := 999) g 239 15 rfl
  have b10 := gi_b (lo := 0) (hi := 999) g 239 16 rfl
  have b11 := gi_b (lo := 0) (hi := 999) g 239 17 rfl
  have b12 := gi_b (lo := 0) (hi := 999) g 239 18 rfl
  have b13 := gi_b (lo := 0) (hi := 800) g 236 5 rfl
  have b14 := gi_b (lo := 0) (hi := 4) g 236 6 rfl
  have b15 := gi_b (lo := 0) (hi := 999) g 236 7 rfl
  have b16 := gi_b (lo := -9223372036854775808) (hi := 9223372036854775807) g 236 12 rfl
  have b17 := gi_b (lo := -2147483648) (hi := 2147483647) g 236 9 rfl
  refine wi_aload_n (i := 0) (x := 236) (nx := 1) (r1 := 0) (r2 := 0) (r3 := 0) rfl rfl ?_
  refine wi_ldc2_w (e := 3650034) (nx := 4) (r1 := 3650034) (r2 := 0) (r3 := 0) rfl (by decide) ?_
  refine wr_V (k0 := 236) (rest := []) (as := [.ref 236, vl 3650034]) (nx := 7) (r1 := 221) (r2 := 1) (r3 := 11) rfl rfl rfl (of_decide_eq_true rfl) rfl rfl (by decide) rfl rfl (of_decide_eq_true rfl) (of_decide_eq_true rfl) ?_
  refine wi_aload_n (i := 0) (x := 236) (nx := 1) (r1 := 0) (r2 := 0) (r3 := 0) rfl rfl ?_
  refine wr_gi0 (k0 := 236) (x := h 236 8) (nx := 4) (r1 := 11) (r2 := 8) (r3 := 0) rfl rfl (by decide) rfl ⟨rfl, rfl⟩ rfl rfl ?_
  refine wi_if (cd := .ne) (nx := 7) (r1 := 28) (r2 := 0) (r3 := 0) rfl (by omega) (fun (q18 : (h 236 8) ≠ 0) => by exfalso; omega) (fun (q18 : ¬ ((h 236 8) ≠ 0)) => ?_)
  refine wi_aload_n (i := 0) (x := 236) (nx := 8) (r1 := 0) (r2 := 0) (r3 := 0) rfl rfl ?_
  refine wr_gi0 (k0 := 236) (x := h 236 6) (nx := 11) (r1 := 11) (r2 := 6) (r3 := 0) rfl rfl (by decide) rfl ⟨rfl, rfl⟩ rfl rfl ?_
  refine wi_iconst (n := 1) (nx := 12) (r1 := 0) (r2 := 0) (r3 := 0) rfl ?_
  refine wi_icmp (cd := .ne) (nx := 15) (r1 := 28) (r2 := 0) (r3 := 0) rfl (by omega) (by omega) (fun (q19 : (h 236 6) ≠ 1) => ?_) (fun (q19 : ¬ ((h 236 6) ≠ 1)) => ?_)
  ·
    have kf20 := TKk.n1 (B := tB) (n := tn) (p := tp) (a6 := h 236 6) (by assumption) (by omega)
    replace kf20 : TKn (tk_kd tB tn tp = 1) := kf20
    refine wi_iconst (n := 0) (nx := 29) (r1 := 0) (r2 := 0) (r3 := 0) rfl ?_
    refine wi_zreturn (nx := 30) (r1 := 0) (r2 := 0) (r3 := 0) rfl rfl (by omega) ?_
    refine wk_i ?_
    refine wi_if (cd := .eq) (nx := 10) (r1 := 17) (r2 := 0) (r3 := 0) rfl (by omega) (fun (q21 : 0 = 0) => ?_) (fun (q21 : ¬ (0 = 0)) => by exfalso; omega)
    refine wi_aload_n (i := 0) (x := 236) (nx := 18) (r1 := 0) (r2 := 0) (r3 := 0) rfl rfl ?_
    refine wi_ldc2_w (e := 394693) (nx := 21) (r1 := 394693) (r2 := 0) (r3 := 0) rfl (by decide) ?_
    refine wr_V (k0 := 236) (rest := []) (as := [.ref 236, vl 394693]) (nx := 24) (r1 := 221) (r2 := 1) (r3 := 11) rfl rfl rfl (of_decide_eq_true rfl) rfl rfl (by decide) rfl rfl (of_decide_eq_true rfl) (of_decide_eq_true rfl) ?_
    refine wi_aload_n (i := 0) (x := 236) (nx := 1) (r1 := 0) (r2 := 0) (r3 := 0) rfl rfl ?_
    refine wr_gi0 (k0 := 236) (x := h 236 8) (nx := 4) (r1 := 11) (r2 := 8) (r3 := 0) rfl rfl (by decide) rfl ⟨rfl, rfl⟩ rfl rfl ?_
    refine wi_if (cd := .ne) (nx := 7) (r1 := 28) (r2 := 0) (r3 := 0) rfl (by omega) (fun (q22 : (h 236 8) ≠ 0) => by exfalso; omega) (fun (q22 : ¬ ((h 236 8) ≠ 0)) => ?_)
    refine wi_aload_n (i := 0) (x := 236) (nx := 8) (r1 := 0) (r2 := 0) (r3 := 0) rfl rfl ?_
    refine wr_gi0 (k0 := 236) (x := h 236 6) (nx := 11) (r1 := 11) (r2 := 6) (r3 := 0) rfl rfl (by decide) rfl ⟨rfl, rfl⟩ rfl rfl ?_
    refine wi_iconst (n := 1) (nx := 12) (r1 := 0) (r2 := 0) (r3 := 0) rfl ?_
    refine wi_icmp (cd := .ne) (nx := 15) (r1 := 28) (r2 := 0) (r3 := 0) rfl (by omega) (by omega) (fun (q23 : (h 236 6) ≠ 1) => ?_) (fun (q23 : ¬ ((h 236 6) ≠ 1)) => by exfalso; omega)
    refine wi_iconst (n := 0) (nx := 29) (r1 := 0) (r2 := 0) (r3 := 0) rfl ?_
    refine wi_zreturn (nx := 30) (r1 := 0) (r2 := 0) (r3 := 0) rfl rfl (by omega) ?_
    refine wk_i ?_
    refine wi_if (cd := .eq) (nx := 27) (r1 := 34) (r2 := 0) (r3 := 0) rfl (by omega) (fun (q24 : 0 = 0) => ?_) (fun (q24 : ¬ (0 = 0)) => by exfalso; omega)
    refine wi_aload_n (i := 0) (x := 236) (nx := 35) (r1 := 0) (r2 := 0) (r3 := 0) rfl rfl ?_
    refine wi_ldc2_w (e := 3122) (nx := 38) (r1 := 3122) (r2 := 0) (r3 := 0) rfl (by decide) ?_
    refine wr_V (k0 := 236) (rest := []) (as := [.ref 236, vl 3122]) (nx := 41) (r1 := 221) (r2 := 1) (r3 := 11) rfl rfl rfl (of_decide_eq_true rfl) rfl rfl (by decide) rfl rfl (of_decide_eq_true rfl) (of_decide_eq_true rfl) ?_
    refine wi_aload_n (i := 0) (x := 236) (nx := 1) (r1 := 0) (r2 := 0) (r3 := 0) rfl rfl ?_
    refine wr_gi0 (k0 := 236) (x := h 236 8) (nx := 4) (r1 := 11) (r2 := 8) (r3 := 0) rfl rfl (by decide) rfl ⟨rfl, rfl⟩ rfl rfl ?_
    refine wi_if (cd := .ne) (nx := 7) (r1 := 28) (r2 := 0) (r3 := 0) rfl (by omega) (fun (q25 : (h 236 8) ≠ 0) => by exfalso; omega) (fun (q25 : ¬ ((h 236 8) ≠ 0)) => ?_)
    refine wi_aload_n (i := 0) (x := 236) (nx := 8) (r1 := 0) (r2 := 0) (r3 := 0) rfl rfl ?_
    refine wr_gi0 (k0 := 236) (x := h 236 6) (nx := 11) (r1 := 11) (r2 := 6) (r3 := 0) rfl rfl (by decide) rfl ⟨rfl, rfl⟩ rfl rfl ?_
    refine wi_iconst (n := 1) (nx := 12) (r1 := 0) (r2 := 0) (r3 := 0) rfl ?_
    refine wi_icmp (cd := .ne) (nx := 15) (r1 := 28) (r2 := 0) (r3 := 0) rfl (by omega) (by omega) (fun (q26 : (h 236 6) ≠ 1) => ?_) (fun (q26 : ¬ ((h 236 6) ≠ 1)) => by exfalso; omega)
    refine wi_iconst (n := 0) (nx := 29) (r1 := 0) (r2 := 0) (r3 := 0) rfl ?_
    refine wi_zreturn (nx := 30) (r1 := 0) (r2 := 0) (r3 := 0) rfl rfl (by omega) ?_
    refine wk_i ?_
    refine wi_if (cd := .eq) (nx := 44) (r1 := 51) (r2 := 0) (r3 := 0) rfl (by omega) (fun (q27 : 0 = 0) => ?_) (fun (q27 : ¬ (0 = 0)) => by exfalso; omega)
    refine wi_aload_n (i := 0) (x := 236) (nx := 52) (r1 := 0) (r2 := 0) (r3 := 0) rfl rfl ?_
    refine wi_ldc2_w (e := 781652471) (nx := 55) (r1 := 781652471) (r2 := 0) (r3 := 0) rfl (by decide) ?_
    refine wr_V (k0 := 236) (rest := []) (as := [.ref 236, vl 781652471]) (nx := 58) (r1 := 221) (r2 := 1) (r3 := 11) rfl rfl rfl (of_decide_eq_true rfl) rfl rfl (by decide) rfl rfl (of_decide_eq_true rfl) (of_decide_eq_true rfl) ?_
    refine wi_aload_n (i := 0) (x := 236) (nx := 1) (r1 := 0) (r2 := 0) (r3 := 0) rfl rfl ?_
    refine wr_gi0 (k0 := 236) (x := h 236 8) (nx := 4) (r1 := 11) (r2 := 8) (r3 := 0) rfl rfl (by decide) rfl ⟨rfl, rfl⟩ rfl rfl ?_
    refine wi_if (cd := .ne) (nx := 7) (r1 := 28) (r2 := 0) (r3 := 0) rfl (by omega) (fun (q28 : (h 236 8) ≠ 0) => by exfalso; omega) (fun (q28 : ¬ ((h 236 8) ≠ 0)) => ?_)
    refine wi_aload_n (i := 0) (x := 236) (nx := 8) (r1 := 0) (r2 := 0) (r3 := 0) rfl rfl ?_
    refine wr_gi0 (k0 := 236) (x := h 236 6) (nx := 11) (r1 := 11) (r2 := 6) (r3 := 0) rfl rfl (by decide) rfl ⟨rfl, rfl⟩ rfl rfl ?_
    refine wi_iconst (n := 1) (nx := 12) (r1 := 0) (r2 := 0) (r3 := 0) rfl ?_
    refine wi_icmp (cd := .ne) (nx := 15) (r1 := 28) (r2 := 0) (r3 := 0) rfl (by omega) (by omega) (fun (q29 : (h 236 6) ≠ 1) => ?_) (fun (q29 : ¬ ((h 236 6) ≠ 1)) => by exfalso; omega)
    refine wi_iconst (n := 0) (nx := 29) (r1 := 0) (r2 := 0) (r3 := 0) rfl ?_
    refine wi_zreturn (nx := 30) (r1 := 0) (r2 := 0) (r3 := 0) rfl rfl (by omega) ?_
    refine wk_i ?_
    refine wi_if (cd := .eq) (nx := 61) (r1 := 102) (r2 := 0) (r3 := 0) rfl (by omega) (fun (q30 : 0 = 0) => ?_) (fun (q30 : ¬ (0 = 0)) => by exfalso; omega)
    refine wi_aload_n (i := 0) (x := 236) (nx := 103) (r1 := 0) (r2 := 0) (r3 := 0) rfl rfl ?_
    refine wi_ldc2_w (e := 2150504) (nx := 106) (r1 := 2150504) (r2 := 0) (r3 := 0) rfl (by decide) ?_
    refine wr_V (k0 := 236) (rest := []) (as := [.ref 236, vl 2150504]) (nx := 109) (r1 := 221) (r2 := 1) (r3 := 11) rfl rfl rfl (of_decide_eq_true rfl) rfl rfl (by decide) rfl rfl (of_decide_eq_true rfl) (of_decide_eq_true rfl) ?_
    refine wi_aload_n (i := 0) (x := 236) (nx := 1) (r1 := 0) (r2 := 0) (r3 := 0) rfl rfl ?_
    refine wr_gi0 (k0 := 236) (x := h 236 8) (nx := 4) (r1 := 11) (r2 := 8) (r3 := 0) rfl rfl (by decide) rfl ⟨rfl, rfl⟩ rfl rfl ?_
    refine wi_if (cd := .ne) (nx := 7) (r1 := 28) (r2 := 0) (r3 := 0) rfl (by omega) (fun (q31 : (h 236 8) ≠ 0) => by exfalso; omega) (fun (q31 : ¬ ((h 236 8) ≠ 0)) => ?_)
    refine wi_aload_n (i := 0) (x := 236) (nx := 8) (r1 := 0) (r2 := 0) (r3 := 0) rfl rfl ?_
    refine wr_gi0 (k0 := 236) (x := h 236 6) (nx := 11) (r1 := 11) (r2 := 6) (r3 := 0) rfl rfl (by decide) rfl ⟨rfl, rfl⟩ rfl rfl ?_
    refine wi_iconst (n := 1) (nx := 12) (r1 := 0) (r2 := 0) (r3 := 0) rfl ?_
    refine wi_icmp (cd := .ne) (nx := 15) (r1 := 28) (r2 := 0) (r3 := 0) rfl (by omega) (by omega) (fun (q32 : (h 236 6) ≠ 1) => ?_) (fun (q32 : ¬ ((h 236 6) ≠ 1)) => by exfalso; omega)
    refine wi_iconst (n := 0) (nx := 29) (r1 := 0) (r2 := 0) (r3 := 0) rfl ?_
    refine wi_zreturn (nx := 30) (r1 := 0) (r2 := 0) (r3 := 0) rfl rfl (by omega) ?_
    refine wk_i ?_
    refine wi_if (cd := .eq) (nx := 112) (r1 := 157) (r2 := 0) (r3 := 0) rfl (by omega) (fun (q33 : 0 = 0) => ?_) (fun (q33 : ¬ (0 = 0)) => by exfalso; omega)
    refine wi_aload_n (i := 0) (x := 236) (nx := 158) (r1 := 0) (r2 := 0) (r3 := 0) rfl rfl ?_
    refine wi_ldc2_w (e := 609992267) (nx := 161) (r1 := 609992267) (r2 := 0) (r3 := 0) rfl (by decide) ?_
    refine wr_V (k0 := 236) (rest := []) (as := [.ref 236, vl 609992267]) (nx := 164) (r1 := 221) (r2 := 1) (r3 := 11) rfl rfl rfl (of_decide_eq_true rfl) rfl rfl (by decide) rfl rfl (of_decide_eq_true rfl) (of_decide_eq_true rfl) ?_
    refine wi_aload_n (i := 0) (x := 236) (nx := 1) (r1 := 0) (r2 := 0) (r3 := 0) rfl rfl ?_
    refine wr_gi0 (k0 := 236) (x := h 236 8) (nx := 4) (r1 := 11) (r2 := 8) (r3 := 0) rfl rfl (by decide) rfl ⟨rfl, rfl⟩ rfl rfl ?_
    refine wi_if (cd := .ne) (nx := 7) (r1 := 28) (r2 := 0) (r3 := 0) rfl (by omega) (fun (q34 : (h 236 8) ≠ 0) => by exfalso; omega) (fun (q34 : ¬ ((h 236 8) ≠ 0)) => ?_)
    refine wi_aload_n (i := 0) (x := 236) (nx := 8) (r1 := 0) (r2 := 0) (r3 := 0) rfl rfl ?_
    refine wr_gi0 (k0 := 236) (x := h 236 6) (nx := 11) (r1 := 11) (r2 := 6) (r3 := 0) rfl rfl (by decide) rfl ⟨rfl, rfl⟩ rfl rfl ?_
    refine wi_iconst (n := 1) (nx := 12) (r1 := 0) (r2 := 0) (r3 := 0) rfl ?_
    refine wi_icmp (cd := .ne) (nx := 15) (r1 := 28) (r2 := 0) (r3 := 0) rfl (by omega) (by omega) (fun (q35 : (h 236 6) ≠ 1) => ?_) (fun (q35 : ¬ ((h 236 6) ≠ 1)) => by exfalso; omega)
    refine wi_iconst (n := 0) (nx := 29) (r1 := 0) (r2 := 0) (r3 := 0) rfl ?_
    refine wi_zreturn (nx := 30) (r1 := 0) (r2 := 0) (r3 := 0) rfl rfl (by omega) ?_
    refine wk_i ?_
    refine wi_if (cd := .eq) (nx := 167) (r1 := 212) (r2 := 0) (r3 := 0) rfl (by omega) (fun (q36 : 0 = 0) => ?_) (fun (q36 : ¬ (0 = 0)) => by exfalso; omega)
    refine wi_aload_n (i := 0) (x := 236) (nx := 213) (r1 := 0) (r2 := 0) (r3 := 0) rfl rfl ?_
    refine wi_ldc2_w (e := 639022) (nx := 216) (r1 := 639022) (r2 := 0) (r3 := 0) rfl (by decide) ?_
    refine wr_V (k0 := 236) (rest := []) (as := [.ref 236, vl 639022]) (nx := 219) (r1 := 221) (r2 := 1) (r3 := 11) rfl rfl rfl (of_decide_eq_true rfl) rfl rfl (by decide) rfl rfl (of_decide_eq_true rfl) (of_decide_eq_true rfl) ?_
    refine wi_aload_n (i := 0) (x := 236) (nx := 1) (r1 := 0) (r2 := 0) (r3 := 0) rfl rfl ?_
    refine wr_gi0 (k0 := 236) (x := h 236 8) (nx := 4) (r1 := 11) (r2 := 8) (r3 := 0) rfl rfl (by decide) rfl ⟨rfl, rfl⟩ rfl rfl ?_
    refine wi_if (cd := .ne) (nx := 7) (r1 := 28) (r2 := 0) (r3 := 0) rfl (by omega) (fun (q37 : (h 236 8) ≠ 0) => by exfalso; omega) (fun (q37 : ¬ ((h 236 8) ≠ 0)) => ?_)
    refine wi_aload_n (i := 0) (x := 236) (nx := 8) (r1 := 0) (r2 := 0) (r3 := 0) rfl rfl ?_
    refine wr_gi0 (k0 := 236) (x := h 236 6) (nx := 11) (r1 := 11) (r2 := 6) (r3 := 0) rfl rfl (by decide) rfl ⟨rfl, rfl⟩ rfl rfl ?_
    refine wi_iconst (n := 1) (nx := 12) (r1 := 0) (r2 := 0) (r3 := 0) rfl ?_
    refine wi_icmp (cd := .ne) (nx := 15) (r1 := 28) (r2 := 0) (r3 := 0) rfl (by omega) (by omega) (fun (q38 : (h 236 6) ≠ 1) => ?_) (fun (q38 : ¬ ((h 236 6) ≠ 1)) => by exfalso; omega)
    refine wi_iconst (n := 0) (nx := 29) (r1 := 0) (r2 := 0) (r3 := 0) rfl ?_
    refine wi_zreturn (nx := 30) (r1 := 0) (r2 := 0) (r3 := 0) rfl rfl (by omega) ?_
    refine wk_i ?_
    refine wi_if (cd := .eq) (nx := 222) (r1 := 251) (r2 := 0) (r3 := 0) rfl (by omega) (fun (q39 : 0 = 0) => ?_) (fun (q39 : ¬ (0 = 0)) => by exfalso; omega)
    refine wi_aload_n (i := 0) (x := 236) (nx := 252) (r1 := 0) (r2 := 0) (r3 := 0) rfl rfl ?_
    refine wi_iconst (n := 1) (nx := 253) (r1 := 0) (r2 := 0) (r3 := 0) rfl ?_
    refine wr_V (k0 := 236) (rest := []) (as := [.ref 236, vi 1]) (nx := 256) (r1 := 224) (r2 := 1) (r3 := 11) rfl rfl rfl (of_decide_eq_true rfl) rfl rfl (by decide) rfl rfl (of_decide_eq_true rfl) (of_decide_eq_true rfl) ?_
    refine ct_224_236 hcr  g 1 (by omega)  (fun h40 g40 u40 (p40_0 : 1 ≤ (h40 236 8)) (p40_1 : (1 ≤ (h 236 8) ∧ (h40 236 8) = (h 236 8) ∧ (h40 236 9) = (h 236 9)) ∨ ((h 236 8) = 0 ∧ (h40 236 9) = (h 236 5) ∧ (((h 236 6) = 4 ∧ (h40 236 8) = 1) ∨ ((h 236 6) ≠ 4 ∧ (h40 236 8) = 1)))) => ?_)
    have F41 := F0.then (by decide +kernel) u40
    have b42 := gi_b (lo := 0) (hi := 5) g40 236 8 rfl
    have b43 := gi_b (lo := -2147483648) (hi := 2147483647) g40 236 9 rfl
    replace p40_1 := p40_1.resolve_left (by omega)
    replace p40_1 := And.intro p40_1.2.1 (p40_1.2.2.elim (fun x => x.2) (fun x => x.2))
    refine wk_n ?_
    refine wi_return (nx := 257) (r1 := 0) (r2 := 0) (r3 := 0) rfl rfl ?_
    have e44 : h40 236 4 = h 236 4 := (u40 236 4 rfl)
    have e45 : h40 239 5 = h 239 5 := (u40 239 5 rfl)
    have e46 : h40 239 7 = h 239 7 := (u40 239 7 rfl)
    have e47 : h40 239 15 = h 239 15 := (u40 239 15 rfl)
    have e48 : h40 239 16 = h 239 16 := (u40 239 16 rfl)
    have e49 : h40 239 17 = h 239 17 := (u40 239 17 rfl)
    have e50 : h40 239 18 = h 239 18 := (u40 239 18 rfl)
    exact k h40 g40 F41 (show (h40 236 8) = 0 ∨ 1 ≤ (h40 236 8) from (Or.inr (by omega))) (show (h 236 4) ≤ (h40 236 4) by omega) (show (h40 236 4) ≤ (h 236 3) by omega) (show 1 ≤ (h40 236 8) ∨ ((h40 239 5) ≤ 9 ∧ 1 ≤ (h40 239 5) ∧ (h40 239 7) ≤ 3 ∧ (h40 239 15) ≤ 6 ∧ (h40 239 16) ≤ 6 ∧ (h40 239 17) ≤ 6 ∧ (h40 239 18) ≤ 6) from (Or.inl (by omega))) (show (h40 236 8) ≠ 0 ∨ (h40 236 9) = -1 from (Or.inl (by omega))) (by unfold tk_stm; (try dsimp only); rw [if_neg kf20.no]; (try dsimp only); exact tk_ORe (by omega) (by omega) (by omega))
  ·
    have kf20 := TKk.e1 (B := tB) (n := tn) (p := tp) (a6 := h 236 6) (by assumption) (by omega)
    refine wi_aload_n (i := 0) (x := 236) (nx := 16) (r1 := 0) (r2 := 0) (r3 := 0) rfl rfl ?_
    refine wr_gi1 (k0 := 236) (x := h 236 12) (nx := 19) (r1 := 11) (r2 := 12) (r3 := 0) rfl rfl (by decide) rfl ⟨rfl, rfl⟩ rfl rfl ?_
    refine wi_lload_n (i := 1) (e := 3650034) (nx := 20) (r1 := 0) (r2 := 0) (r3 := 0) rfl rfl ?_
    refine wi_lcmp (a := h 236 12) (e := 3650034) (nx := 21) (r1 := 0) (r2 := 0) (r3 := 0) rfl (by omega) (by omega) (fun r21 (fr21 : (r21 = -1 ∧ (h 236 12) < 3650034) ∨ (r21 = 0 ∧ (h 236 12) = 3650034) ∨ (r21 = 1 ∧ 3650034 < (h 236 12))) => ?_)
    refine wi_if (cd := .ne) (nx := 24) (r1 := 28) (r2 := 0) (r3 := 0) rfl (by omega) (fun (q22 : r21 ≠ 0) => ?_) (fun (q22 : ¬ (r21 ≠ 0)) => ?_)
    ·
      have wk23 : TKn (tk_wd (tk_lw tB tn tp) = 1) := tk_wcm 0 (K := 3650034) (by decide) rfl rfl (by omega) (by omega) (show tk_kd tB tn tp = 1 by omega) (show tk_sw tB tn tp ≠ 3650034 by omega)
      clear q22 fr21
      refine wi_iconst (n := 0) (nx := 29) (r1 := 0) (r2 := 0) (r3 := 0) rfl ?_
      refine wi_zreturn (nx := 30) (r1 := 0) (r2 := 0) (r3 := 0) rfl rfl (by omega) ?_
      refine wk_i ?_
      refine wi_if (cd := .eq) (nx := 10) (r1 := 17) (r2 := 0) (r3 := 0) rfl (by omega) (fun (q24 : 0 = 0) => ?_) (fun (q24 : ¬ (0 = 0)) => by exfalso; omega)
      refine wi_aload_n (i := 0) (x := 236) (nx := 18) (r1 := 0) (r2 := 0) (r3 := 0) rfl rfl ?_
      refine wi_ldc2_w (e := 394693) (nx := 21) (r1 := 394693) (r2 := 0) (r3 := 0) rfl (by decide) ?_
      refine wr_V (k0 := 236) (rest := []) (as := [.ref 236, vl 394693]) (nx := 24) (r1 := 221) (r2 := 1) (r3 := 11) rfl rfl rfl (of_decide_eq_true rfl) rfl rfl (by decide) rfl rfl (of_decide_eq_true rfl) (of_decide_eq_true rfl) ?_
      refine wi_aload_n (i := 0) (x := 236) (nx := 1) (r1 := 0) (r2 := 0) (r3 := 0) rfl rfl ?_
      refine wr_gi0 (k0 := 236) (x := h 236 8) (nx := 4) (r1 := 11) (r2 := 8) (r3 := 0) rfl rfl (by decide) rfl ⟨rfl, rfl⟩ rfl rfl ?_
      refine wi_if (cd := .ne) (nx := 7) (r1 := 28) (r2 := 0) (r3 := 0) rfl (by omega) (fun (q25 : (h 236 8) ≠ 0) => by exfalso; omega) (fun (q25 : ¬ ((h 236 8) ≠ 0)) => ?_)
      refine wi_aload_n (i := 0) (x := 236) (nx := 8) (r1 := 0) (r2 := 0) (r3 := 0) rfl rfl ?_
      refine wr_gi0 (k0 := 236) (x := h 236 6) (nx := 11) (r1 := 11) (r2 := 6) (r3 := 0) rfl rfl (by decide) rfl ⟨rfl, rfl⟩ rfl rfl ?_
      refine wi_iconst (n := 1) (nx := 12) (r1 := 0) (r2 := 0) (r3 := 0) rfl ?_
      refine wi_icmp (cd := .ne) (nx := 15) (r1 := 28) (r2 := 0) (r3 := 0) rfl (by omega) (by omega) (fun (q26 : (h 236 6) ≠ 1) => by exfalso; omega) (fun (q26 : ¬ ((h 236 6) ≠ 1)) => ?_)
      refine wi_aload_n (i := 0) (x := 236) (nx := 16) (r1 := 0) (r2 := 0) (r3 := 0) rfl rfl ?_
      refine wr_gi1 (k0 := 236) (x := h 236 12) (nx := 19) (r1 := 11) (r2 := 12) (r3 := 0) rfl rfl (by decide) rfl ⟨rfl, rfl⟩ rfl rfl ?_
      refine wi_lload_n (i := 1) (e := 394693) (nx := 20) (r1 := 0) (r2 := 0) (r3 := 0) rfl rfl ?_
      refine wi_lcmp (a := h 236 12) (e := 394693) (nx := 21) (r1 := 0) (r2 := 0) (r3 := 0) rfl (by omega) (by omega) (fun r27 (fr27 : (r27 = -1 ∧ (h 236 12) < 394693) ∨ (r27 = 0 ∧ (h 236 12) = 394693) ∨ (r27 = 1 ∧ 394693 < (h 236 12))) => ?_)
      refine wi_if (cd := .ne) (nx := 24) (r1 := 28) (r2 := 0) (r3 := 0) rfl (by omega) (fun (q28 : r27 ≠ 0) => ?_) (fun (q28 : ¬ (r27 ≠ 0)) => ?_)
      ·
        have wk29 : TKn (tk_wd (tk_lw tB tn tp) = 3) := tk_wcm 2 (K := 394693) (by decide) rfl rfl (by omega) (by omega) (show tk_kd tB tn tp = 1 by omega) (show tk_sw tB tn tp ≠ 394693 by omega)
        clear q28 fr27
        refine wi_iconst (n := 0) (nx := 29) (r1 := 0) (r2 := 0) (r3 := 0) rfl ?_
        refine wi_zreturn (nx := 30) (r1 := 0) (r2 := 0) (r3 := 0) rfl rfl (by omega) ?_
        refine wk_i ?_
        refine wi_if (cd := .eq) (nx := 27) (r1 := 34) (r2 := 0) (r3 := 0) rfl (by omega) (fun (q30 : 0 = 0) => ?_) (fun (q30 : ¬ (0 = 0)) => by exfalso; omega)
        refine wi_aload_n (i := 0) (x := 236) (nx := 35) (r1 := 0) (r2 := 0) (r3 := 0) rfl rfl ?_
        refine wi_ldc2_w (e := 3122) (nx := 38) (r1 := 3122) (r2 := 0) (r3 := 0) rfl (by decide) ?_
        refine wr_V (k0 := 236) (rest := []) (as := [.ref 236, vl 3122]) (nx := 41) (r1 := 221) (r2 := 1) (r3 := 11) rfl rfl rfl (of_decide_eq_true rfl) rfl rfl (by decide) rfl rfl (of_decide_eq_true rfl) (of_decide_eq_true rfl) ?_
        refine wi_aload_n (i := 0) (x := 236) (nx := 1) (r1 := 0) (r2 := 0) (r3 := 0) rfl rfl ?_
        refine wr_gi0 (k0 := 236) (x := h 236 8) (nx := 4) (r1 := 11) (r2 := 8) (r3 := 0) rfl rfl (by decide) rfl ⟨rfl, rfl⟩ rfl rfl ?_
        refine wi_if (cd := .ne) (nx := 7) (r1 := 28) (r2 := 0) (r3 := 0) rfl (by omega) (fun (q31 : (h 236 8) ≠ 0) => by exfalso; omega) (fun (q31 : ¬ ((h 236 8) ≠ 0)) => ?_)
        refine wi_aload_n (i := 0) (x := 236) (nx := 8) (r1 := 0) (r2 := 0) (r3 := 0) rfl rfl ?_
        refine wr_gi0 (k0 := 236) (x := h 236 6) (nx := 11) (r1 := 11) (r2 := 6) (r3 := 0) rfl rfl (by decide) rfl ⟨rfl, rfl⟩ rfl rfl ?_
        refine wi_iconst (n := 1) (nx := 12) (r1 := 0) (r2 := 0) (r3 := 0) rfl ?_
        refine wi_icmp (cd := .ne) (nx := 15) (r1 := 28) (r2 := 0) (r3 := 0) rfl (by omega) (by omega) (fun (q32 : (h 236 6) ≠ 1) => by exfalso; omega) (fun (q32 : ¬ ((h 236 6) ≠ 1)) => ?_)
        refine wi_aload_n (i := 0) (x := 236) (nx := 16) (r1 := 0) (r2 := 0) (r3 := 0) rfl rfl ?_
        refine wr_gi1 (k0 := 236) (x := h 236 12) (nx := 19) (r1 := 11) (r2 := 12) (r3 := 0) rfl rfl (by decide) rfl ⟨rfl, rfl⟩ rfl rfl ?_
        refine wi_lload_n (i := 1) (e := 3122) (nx := 20) (r1 := 0) (r2 := 0) (r3 := 0) rfl rfl ?_
        refine wi_lcmp (a := h 236 12) (e := 3122) (nx := 21) (r1 := 0) (r2 := 0) (r3 := 0) rfl (by omega) (by omega) (fun r33 (fr33 : (r33 = -1 ∧ (h 236 12) < 3122) ∨ (r33 = 0 ∧ (h 236 12) = 3122) ∨ (r33 = 1 ∧ 3122 < (h 236 12))) => ?_)
        refine wi_if (cd := .ne) (nx := 24) (r1 := 28) (r2 := 0) (r3 := 0) rfl (by omega) (fun (q34 : r33 ≠ 0) => ?_) (fun (q34 : ¬ (r33 ≠ 0)) => ?_)
        ·
          have wk35 : TKn (tk_wd (tk_lw tB tn tp) = 4) := tk_wcm 3 (K := 3122) (by decide) rfl rfl (by omega) (by omega) (show tk_kd tB tn tp = 1 by omega) (show tk_sw tB tn tp ≠ 3122 by omega)
          clear q34 fr33
          refine wi_iconst (n := 0) (nx := 29) (r1 := 0) (r2 := 0) (r3 := 0) rfl ?_
          refine wi_zreturn (nx := 30) (r1 := 0) (r2 := 0) (r3 := 0) rfl rfl (by omega) ?_
          refine wk_i ?_
          refine wi_if (cd := .eq) (nx := 44) (r1 := 51) (r2 := 0) (r3 := 0) rfl (by omega) (fun (q36 : 0 = 0) => ?_) (fun (q36 : ¬ (0 = 0)) => by exfalso; omega)
          refine wi_aload_n (i := 0) (x := 236) (nx := 52) (r1 := 0) (r2 := 0) (r3 := 0) rfl rfl ?_
          refine wi_ldc2_w (e := 781652471) (nx := 55) (r1 := 781652471) (r2 := 0) (r3 := 0) rfl (by decide) ?_
          refine wr_V (k0 := 236) (rest := []) (as := [.ref 236, vl 781652471]) (nx := 58) (r1 := 221) (r2 := 1) (r3 := 11) rfl rfl rfl (of_decide_eq_true rfl) rfl rfl (by decide) rfl rfl (of_decide_eq_true rfl) (of_decide_eq_true rfl) ?_
          refine wi_aload_n (i := 0) (x := 236) (nx := 1) (r1 := 0) (r2 := 0) (r3 := 0) rfl rfl ?_
          refine wr_gi0 (k0 := 236) (x := h 236 8) (nx := 4) (r1 := 11) (r2 := 8) (r3 := 0) rfl rfl (by decide) rfl ⟨rfl, rfl⟩ rfl rfl ?_
          refine wi_if (cd := .ne) (nx := 7) (r1 := 28) (r2 := 0) (r3 := 0) rfl (by omega) (fun (q37 : (h 236 8) ≠ 0) => by exfalso; omega) (fun (q37 : ¬ ((h 236 8) ≠ 0)) => ?_)
          refine wi_aload_n (i := 0) (x := 236) (nx := 8) (r1 := 0) (r2 := 0) (r3 := 0) rfl rfl ?_
          refine wr_gi0 (k0 := 236) (x := h 236 6) (nx := 11) (r1 := 11) (r2 := 6) (r3 := 0) rfl rfl (by decide) rfl ⟨rfl, rfl⟩ rfl rfl ?_
          refine wi_iconst (n := 1) (nx := 12) (r1 := 0) (r2 := 0) (r3 := 0) rfl ?_
          refine wi_icmp (cd := .ne) (nx := 15) (r1 := 28) (r2 := 0) (r3 := 0) rfl (by omega) (by omega) (fun (q38 : (h 236 6) ≠ 1) => by exfalso; omega) (fun (q38 : ¬ ((h 236 6) ≠ 1)) => ?_)
          refine wi_aload_n (i := 0) (x := 236) (nx := 16) (r1 := 0) (r2 := 0) (r3 := 0) rfl rfl ?_
          refine wr_gi1 (k0 := 236) (x := h 236 12) (nx := 19) (r1 := 11) (r2 := 12) (r3 := 0) rfl rfl (by decide) rfl ⟨rfl, rfl⟩ rfl rfl ?_
          refine wi_lload_n (i := 1) (e := 781652471) (nx := 20) (r1 := 0) (r2 := 0) (r3 := 0) rfl rfl ?_
          refine wi_lcmp (a := h 236 12) (e := 781652471) (nx := 21) (r1 := 0) (r2 := 0) (r3 := 0) rfl (by omega) (by omega) (fun r39 (fr39 : (r39 = -1 ∧ (h 236 12) < 781652471) ∨ (r39 = 0 ∧ (h 236 12) = 781652471) ∨ (r39 = 1 ∧ 781652471 < (h 236 12))) => ?_)
          refine wi_if (cd := .ne) (nx := 24) (r1 := 28) (r2 := 0) (r3 := 0) rfl (by omega) (fun (q40 : r39 ≠ 0) => ?_) (fun (q40 : ¬ (r39 ≠ 0)) => ?_)
          ·
            have wk41 : TKn (tk_wd (tk_lw tB tn tp) = 7) := tk_wcm 6 (K := 781652471) (by decide) rfl rfl (by omega) (by omega) (show tk_kd tB tn tp = 1 by omega) (show tk_sw tB tn tp ≠ 781652471 by omega)
            clear q40 fr39
            refine wi_iconst (n := 0) (nx := 29) (r1 := 0) (r2 := 0) (r3 := 0) rfl ?_
            refine wi_zreturn (nx := 30) (r1 := 0) (r2 := 0) (r3 := 0) rfl rfl (by omega) ?_
            refine wk_i ?_
            refine wi_if (cd := .eq) (nx := 61) (r1 := 102) (r2 := 0) (r3 := 0) rfl (by omega) (fun (q42 : 0 = 0) => ?_) (fun (q42 : ¬ (0 = 0)) => by exfalso; omega)
            refine wi_aload_n (i := 0) (x := 236) (nx := 103) (r1 := 0) (r2 := 0) (r3 := 0) rfl rfl ?_
            refine wi_ldc2_w (e := 2150504) (nx := 106) (r1 := 2150504) (r2 := 0) (r3 := 0) rfl (by decide) ?_
            refine wr_V (k0 := 236) (rest := []) (as := [.ref 236, vl 2150504]) (nx := 109) (r1 := 221) (r2 := 1) (r3 := 11) rfl rfl rfl (of_decide_eq_true rfl) rfl rfl (by decide) rfl rfl (of_decide_eq_true rfl) (of_decide_eq_true rfl) ?_
            refine wi_aload_n (i := 0) (x := 236) (nx := 1) (r1 := 0) (r2 := 0) (r3 := 0) rfl rfl ?_
            refine wr_gi0 (k0 := 236) (x := h 236 8) (nx := 4) (r1 := 11) (r2 := 8) (r3 := 0) rfl rfl (by decide) rfl ⟨rfl, rfl⟩ rfl rfl ?_
            refine wi_if (cd := .ne) (nx := 7) (r1 := 28) (r2 := 0) (r3 := 0) rfl (by omega) (fun (q43 : (h 236 8) ≠ 0) => by exfalso; omega) (fun (q43 : ¬ ((h 236 8) ≠ 0)) => ?_)
            refine wi_aload_n (i := 0) (x := 236) (nx := 8) (r1 := 0) (r2 := 0) (r3 := 0) rfl rfl ?_
            refine wr_gi0 (k0 := 236) (x := h 236 6) (nx := 11) (r1 := 11) (r2 := 6) (r3 := 0) rfl rfl (by decide) rfl ⟨rfl, rfl⟩ rfl rfl ?_
            refine wi_iconst (n := 1) (nx := 12) (r1 := 0) (r2 := 0) (r3 := 0) rfl ?_
            refine wi_icmp (cd := .ne) (nx := 15) (r1 := 28) (r2 := 0) (r3 := 0) rfl (by omega) (by omega) (fun (q44 : (h 236 6) ≠ 1) => by exfalso; omega) (fun (q44 : ¬ ((h 236 6) ≠ 1)) => ?_)
            refine wi_aload_n (i := 0) (x := 236) (nx := 16) (r1 := 0) (r2 := 0) (r3 := 0) rfl rfl ?_
            refine wr_gi1 (k0 := 236) (x := h 236 12) (nx := 19) (r1 := 11) (r2 := 12) (r3 := 0) rfl rfl (by decide) rfl ⟨rfl, rfl⟩ rfl rfl ?_
            refine wi_lload_n (i := 1) (e := 2150504) (nx := 20) (r1 := 0) (r2 := 0) (r3 := 0) rfl rfl ?_
            refine wi_lcmp (a := h 236 12) (e := 2150504) (nx := 21) (r1 := 0) (r2 := 0) (r3 := 0) rfl (by omega) (by omega) (fun r45 (fr45 : (r45 = -1 ∧ (h 236 12) < 2150504) ∨ (r45 = 0 ∧ (h 236 12) = 2150504) ∨ (r45 = 1 ∧ 2150504 < (h 236 12))) => ?_)
            refine wi_if (cd := .ne) (nx := 24) (r1 := 28) (r2 := 0) (r3 := 0) rfl (by omega) (fun (q46 : r45 ≠ 0) => ?_) (fun (q46 : ¬ (r45 ≠ 0)) => ?_)
            ·
              have wk47 : TKn (tk_wd (tk_lw tB tn tp) = 8) := tk_wcm 7 (K := 2150504) (by decide) rfl rfl (by omega) (by omega) (show tk_kd tB tn tp = 1 by omega) (show tk_sw tB tn tp ≠ 2150504 by omega)
              clear q46 fr45
              refine wi_iconst (n := 0) (nx := 29) (r1 := 0) (r2 := 0) (r3 := 0) rfl ?_
              refine wi_zreturn (nx := 30) (r1 := 0) (r2 := 0) (r3 := 0) rfl rfl (by omega) ?_
              refine wk_i ?_
              refine wi_if (cd := .eq) (nx := 112) (r1 := 157) (r2 := 0) (r3 := 0) rfl (by omega) (fun (q48 : 0 = 0) => ?_) (fun (q48 : ¬ (0 = 0)) => by exfalso; omega)
              refine wi_aload_n (i := 0) (x := 236) (nx := 158) (r1 := 0) (r2 := 0) (r3 := 0) rfl rfl ?_
              refine wi_ldc2_w (e := 609992267) (nx := 161) (r1 := 609992267) (r2 := 0) (r3 := 0) rfl (by decide) ?_
              refine wr_V (k0 := 236) (rest := []) (as := [.ref 236, vl 609992267]) (nx := 164) (r1 := 221) (r2 := 1) (r3 := 11) rfl rfl rfl (of_decide_eq_true rfl) rfl rfl (by decide) rfl rfl (of_decide_eq_true rfl) (of_decide_eq_true rfl) ?_
              refine wi_aload_n (i := 0) (x := 236) (nx := 1) (r1 := 0) (r2 := 0) (r3 := 0) rfl rfl ?_
              refine wr_gi0 (k0 := 236) (x := h 236 8) (nx := 4) (r1 := 11) (r2 := 8) (r3 := 0) rfl rfl (by decide) rfl ⟨rfl, rfl⟩ rfl rfl ?_
              refine wi_if (cd := .ne) (nx := 7) (r1 := 28) (r2 := 0) (r3 := 0) rfl (by omega) (fun (q49 : (h 236 8) ≠ 0) => by exfalso; omega) (fun (q49 : ¬ ((h 236 8) ≠ 0)) => ?_)
              refine wi_aload_n (i := 0) (x := 236) (nx := 8) (r1 := 0) (r2 := 0) (r3 := 0) rfl rfl ?_
              refine wr_gi0 (k0 := 236) (x := h 236 6) (nx := 11) (r1 := 11) (r2 := 6) (r3 := 0) rfl rfl (by decide) rfl ⟨rfl, rfl⟩ rfl rfl ?_
              refine wi_iconst (n := 1) (nx := 12) (r1 := 0) (r2 := 0) (r3 := 0) rfl ?_
              refine wi_icmp (cd := .ne) (nx := 15) (r1 := 28) (r2 := 0) (r3 := 0) rfl (by omega) (by omega) (fun (q50 : (h 236 6) ≠ 1) => by exfalso; omega) (fun (q50 : ¬ ((h 236 6) ≠ 1)) => ?_)
              refine wi_aload_n (i := 0) (x := 236) (nx := 16) (r1 := 0) (r2 := 0) (r3 := 0) rfl rfl ?_
              refine wr_gi1 (k0 := 236) (x := h 236 12) (nx := 19) (r1 := 11) (r2 := 12) (r3 := 0) rfl rfl (by decide) rfl ⟨rfl, rfl⟩ rfl rfl ?_
              refine wi_lload_n (i := 1) (e := 609992267) (nx := 20) (r1 := 0) (r2 := 0) (r3 := 0) rfl rfl ?_
              refine wi_lcmp (a := h 236 12) (e := 609992267) (nx := 21) (r1 := 0) (r2 := 0) (r3 := 0) rfl (by omega) (by omega) (fun r51 (fr51 : (r51 = -1 ∧ (h 236 12) < 609992267) ∨ (r51 = 0 ∧ (h 236 12) = 609992267) ∨ (r51 = 1 ∧ 609992267 < (h 236 12))) => ?_)
              refine wi_if (cd := .ne) (nx := 24) (r1 := 28) (r2 := 0) (r3 := 0) rfl (by omega) (fun (q52 : r51 ≠ 0) => ?_) (fun (q52 : ¬ (r51 ≠ 0)) => ?_)
              ·
                have wk53 : TKn (tk_wd (tk_lw tB tn tp) = 10) := tk_wcm 9 (K := 609992267) (by decide) rfl rfl (by omega) (by omega) (show tk_kd tB tn tp = 1 by omega) (show tk_sw tB tn tp ≠ 609992267 by omega)
                clear q52 fr51
                refine wi_iconst (n := 0) (nx := 29) (r1 := 0) (r2 := 0) (r3 := 0) rfl ?_
                refine wi_zreturn (nx := 30) (r1 := 0) (r2 := 0) (r3 := 0) rfl rfl (by omega) ?_
                refine wk_i ?_
                refine wi_if (cd := .eq) (nx := 167) (r1 := 212) (r2 := 0) (r3 := 0) rfl (by omega) (fun (q54 : 0 = 0) => ?_) (fun (q54 : ¬ (0 = 0)) => by exfalso; omega)
                refine wi_aload_n (i := 0) (x := 236) (nx := 213) (r1 := 0) (r2 := 0) (r3 := 0) rfl rfl ?_
                refine wi_ldc2_w (e := 639022) (nx := 216) (r1 := 639022) (r2 := 0) (r3 := 0) rfl (by decide) ?_
                refine wr_V (k0 := 236) (rest := []) (as := [.ref 236, vl 639022]) (nx := 219) (r1 := 221) (r2 := 1) (r3 := 11) rfl rfl rfl (of_decide_eq_true rfl) rfl rfl (by decide) rfl rfl (of_decide_eq_true rfl) (of_decide_eq_true rfl) ?_
                refine wi_aload_n (i := 0) (x := 236) (nx := 1) (r1 := 0) (r2 := 0) (r3 := 0) rfl rfl ?_
                refine wr_gi0 (k0 := 236) (x := h 236 8) (nx := 4) (r1 := 11) (r2 := 8) (r3 := 0) rfl rfl (by decide) rfl ⟨rfl, rfl⟩ rfl rfl ?_
                refine wi_if (cd := .ne) (nx := 7) (r1 := 28) (r2 := 0) (r3 := 0) rfl (by omega) (fun (q55 : (h 236 8) ≠ 0) => by exfalso; omega) (fun (q55 : ¬ ((h 236 8) ≠ 0)) => ?_)
                refine wi_aload_n (i := 0) (x := 236) (nx := 8) (r1 := 0) (r2 := 0) (r3 := 0) rfl rfl ?_
                refine wr_gi0 (k0 := 236) (x := h 236 6) (nx := 11) (r1 := 11) (r2 := 6) (r3 := 0) rfl rfl (by decide) rfl ⟨rfl, rfl⟩ rfl rfl ?_
                refine wi_iconst (n := 1) (nx := 12) (r1 := 0) (r2 := 0) (r3 := 0) rfl ?_
                refine wi_icmp (cd := .ne) (nx := 15) (r1 := 28) (r2 := 0) (r3 := 0) rfl (by omega) (by omega) (fun (q56 : (h 236 6) ≠ 1) => by exfalso; omega) (fun (q56 : ¬ ((h 236 6) ≠ 1)) => ?_)
                refine wi_aload_n (i := 0) (x := 236) (nx := 16) (r1 := 0) (r2 := 0) (r3 := 0) rfl rfl ?_
                refine wr_gi1 (k0 := 236) (x := h 236 12) (nx := 19) (r1 := 11) (r2 := 12) (r3 := 0) rfl rfl (by decide) rfl ⟨rfl, rfl⟩ rfl rfl ?_
                refine wi_lload_n (i := 1) (e := 639022) (nx := 20) (r1 := 0) (r2 := 0) (r3 := 0) rfl rfl ?_
                refine wi_lcmp (a := h 236 12) (e := 639022) (nx := 21) (r1 := 0) (r2 := 0) (r3 := 0) rfl (by omega) (by omega) (fun r57 (fr57 : (r57 = -1 ∧ (h 236 12) < 639022) ∨ (r57 = 0 ∧ (h 236 12) = 639022) ∨ (r57 = 1 ∧ 639022 < (h 236 12))) => ?_)
                refine wi_if (cd := .ne) (nx := 24) (r1 := 28) (r2 := 0) (r3 := 0) rfl (by omega) (fun (q58 : r57 ≠ 0) => ?_) (fun (q58 : ¬ (r57 ≠ 0)) => ?_)
                ·
                  have wk59 : TKn (tk_wd (tk_lw tB tn tp) = 12) := tk_wcm 11 (K := 639022) (by decide) rfl rfl (by omega) (by omega) (show tk_kd tB tn tp = 1 by omega) (show tk_sw tB tn tp ≠ 639022 by omega)
                  clear q58 fr57
                  refine wi_iconst (n := 0) (nx := 29) (r1 := 0) (r2 := 0) (r3 := 0) rfl ?_
                  refine wi_zreturn (nx := 30) (r1 := 0) (r2 := 0) (r3 := 0) rfl rfl (by omega) ?_
                  refine wk_i ?_
                  refine wi_if (cd := .eq) (nx := 222) (r1 := 251) (r2 := 0) (r3 := 0) rfl (by omega) (fun (q60 : 0 = 0) => ?_) (fun (q60 : ¬ (0 = 0)) => by exfalso; omega)
                  refine wi_aload_n (i := 0) (x := 236) (nx := 252) (r1 := 0) (r2 := 0) (r3 := 0) rfl rfl ?_
                  refine wi_iconst (n := 1) (nx := 253) (r1 := 0) (r2 := 0) (r3 := 0) rfl ?_
                  refine wr_V (k0 := 236) (rest := []) (as := [.ref 236, vi 1]) (nx := 256) (r1 := 224) (r2 := 1) (r3 := 11) rfl rfl rfl (of_decide_eq_true rfl) rfl rfl (by decide) rfl rfl (of_decide_eq_true rfl) (of_decide_eq_true rfl) ?_
                  refine ct_224_236 hcr  g 1 (by omega)  (fun h61 g61 u61 (p61_0 : 1 ≤ (h61 236 8)) (p61_1 : (1 ≤ (h 236 8) ∧ (h61 236 8) = (h 236 8) ∧ (h61 236 9) = (h 236 9)) ∨ ((h 236 8) = 0 ∧ (h61 236 9) = (h 236 5) ∧ (((h 236 6) = 4 ∧ (h61 236 8) = 1) ∨ ((h 236 6) ≠ 4 ∧ (h61 236 8) = 1)))) => ?_)
                  have F62 := F0.then (by decide +kernel) u61
                  have b63 := gi_b (lo := 0) (hi := 5) g61 236 8 rfl
                  have b64 := gi_b (lo := -2147483648) (hi := 2147483647) g61 236 9 rfl
                  replace p61_1 := p61_1.resolve_left (by omega)
                  replace p61_1 := And.intro p61_1.2.1 (p61_1.2.2.elim (fun x => x.2) (fun x => x.2))
                  refine wk_n ?_
                  refine wi_return (nx := 257) (r1 := 0) (r2 := 0) (r3 := 0) rfl rfl ?_
                  have e65 : h61 236 4 = h 236 4 := (u61 236 4 rfl)
                  have e66 : h61 239 5 = h 239 5 := (u61 239 5 rfl)
                  have e67 : h61 239 7 = h 239 7 := (u61 239 7 rfl)
                  have e68 : h61 239 15 = h 239 15 := (u61 239 15 rfl)
                  have e69 : h61 239 16 = h 239 16 := (u61 239 16 rfl)
                  have e70 : h61 239 17 = h 239 17 := (u61 239 17 rfl)
                  have e71 : h61 239 18 = h 239 18 := (u61 239 18 rfl)
                  exact k h61 g61 F62 (show (h61 236 8) = 0 ∨ 1 ≤ (h61 236 8) from (Or.inr (by omega))) (show (h 236 4) ≤ (h61 236 4) by omega) (show (h61 236 4) ≤ (h 236 3) by omega) (show 1 ≤ (h61 236 8) ∨ ((h61 239 5) ≤ 9 ∧ 1 ≤ (h61 239 5) ∧ (h61 239 7) ≤ 3 ∧ (h61 239 15) ≤ 6 ∧ (h61 239 16) ≤ 6 ∧ (h61 239 17) ≤ 6 ∧ (h61 239 18) ≤ 6) from (Or.inl (by omega))) (show (h61 236 8) ≠ 0 ∨ (h61 236 9) = -1 from (Or.inl (by omega))) (by unfold tk_stm; (try dsimp only); rw [if_pos kf20.1]; (try dsimp only); rw [if_neg wk23.no]; (try dsimp only); rw [if_neg wk29.no]; (try dsimp only); rw [if_neg wk35.no]; (try dsimp only); rw [if_neg wk41.no]; (try dsimp only); rw [if_neg wk47.no]; (try dsimp only); rw [if_neg wk53.no]; (try dsimp only); rw [if_neg wk59.no]; (try dsimp only); exact tk_ORe (by omega) (by omega) (by omega))
                ·
                  have wk59 : tk_wd (tk_lw tB tn tp) = 12 := (tk_wcp 11 (K := 639022) (by decide) rfl rfl (by omega) (by omega) (show tk_kd tB tn tp = 1 by omega) (show tk_sw tB tn tp = 639022 by omega)).2
                  clear q58 fr57
                  refine wi_iconst (n := 1) (nx := 25) (r1 := 0) (r2 := 0) (r3 := 0) rfl ?_
                  refine wi_goto (nx := 28) (r1 := 29) (r2 := 0) (r3 := 0) rfl ?_
                  refine wi_zreturn (nx := 30) (r1 := 0) (r2 := 0) (r3 := 0) rfl rfl (by omega) ?_
                  refine wk_i ?_
                  refine wi_if (cd := .eq) (nx := 222) (r1 := 251) (r2 := 0) (r3 := 0) rfl (by omega) (fun (q60 : 1 = 0) => by exfalso; omega) (fun (q60 : ¬ (1 = 0)) => ?_)
                  refine wi_aload_n (i := 0) (x := 236) (nx := 223) (r1 := 0) (r2 := 0) (r3 := 0) rfl rfl ?_
                  refine wi_aload_n (i := 0) (x := 236) (nx := 224) (r1 := 0) (r2 := 0) (r3 := 0) rfl rfl ?_
                  refine wi_aload_n (i := 0) (x := 236) (nx := 225) (r1 := 0) (r2 := 0) (r3 := 0) rfl rfl ?_
                  have b61 := gi_b (lo := 0) (hi := 1) g 236 26 rfl
                  refine wr_gi2 (k0 := 236) (x := h 236 26) (nx := 228) (r1 := 11) (r2 := 26) (r3 := 0) rfl rfl (by decide) rfl ⟨rfl, rfl⟩ rfl rfl ?_
                  refine wr_V (k0 := 236) (rest := [.ref 236]) (as := [.ref 236, vi (h 236 26)]) (nx := 231) (r1 := 234) (r2 := 1) (r3 := 11) rfl rfl rfl (of_decide_eq_true rfl) rfl rfl (by decide) rfl rfl (of_decide_eq_true rfl) (of_decide_eq_true rfl) ?_
                  refine ct_234_236 hcr  g (h 236 26) (by omega) (show (h 236 4) ≤ (h 236 3) by omega) (show 0 ≤ tp by omega) (show tp ≤ tn by omega) (show tp ≤ tk_nx tB tn tp ∧ tk_nx tB tn tp ≤ tn from ⟨by omega, by omega⟩) (show 1 ≤ (h 236 8) ∨ ((h 236 4) = tk_nx tB tn tp ∧ (h 236 5) = tk_st tB tn tp ∧ TKk tB tn tp ((h 236 6)) ((h 236 7)) ((h 236 12))) from (Or.inr (show ((h 236 4) = tk_nx tB tn tp ∧ (h 236 5) = tk_st tB tn tp ∧ TKk tB tn tp ((h 236 6)) ((h 236 7)) ((h 236 12))) by first | assumption | exact ⟨by omega, by omega, TKk.mv (by assumption) (by omega) (by omega) (by omega)⟩))) (show tk_kd tB tn tp = 1 by omega) xq0 (fun h62 z63 g62 u62 (fz63 : 1 ≤ z63 ∧ z63 ≤ 1) (p62_0 : (1 ≤ (h 236 8) ∧ (h62 236 8) = (h 236 8) ∧ (h62 236 9) = (h 236 9)) ∨ ((h 236 8) = 0 ∧ (h 236 26) = 0 ∧ (h62 236 8) = (h 236 8) ∧ (h62 236 9) = (h 236 9) ∧ ((h62 236 4) = tk_nx tB tn (tk_nx tB tn tp) ∧ (h62 236 5) = tk_st tB tn (tk_nx tB tn tp) ∧ TKk tB tn (tk_nx tB tn tp) ((h62 236 6)) ((h62 236 7)) ((h62 236 12)))) ∨ ((h 236 8) = 0 ∧ (h 236 26) = 1 ∧ (h62 236 8) = 3 ∧ (h62 236 9) = tk_st tB tn tp)) (p62_1 : (h 236 4) ≤ (h62 236 4)) (p62_2 : (h62 236 4) ≤ (h 236 3)) (p62_3 : 1 ≤ (h62 236 8) ∨ (h 236 8) = 0) (p62_4 : z63 = 1) => ?_)
                  have F64 := F0.then (by decide +kernel) u62
                  have b65 := gi_b (lo := 0) (hi := 5) g62 236 8 rfl
                  have b66 := gi_b (lo := -2147483648) (hi := 2147483647) g62 236 9 rfl
                  have b67 := gi_b (lo := 0) (hi := 800) g62 236 4 rfl
                  have b68 := gi_b (lo := 0) (hi := 800) g62 236 5 rfl
                  have b69 := gi_b (lo := 0) (hi := 4) g62 236 6 rfl
                  have b70 := gi_b (lo := 0) (hi := 999) g62 236 7 rfl
                  have b71 := gi_b (lo := -9223372036854775808) (hi := 9223372036854775807) g62 236 12 rfl
                  refine wk_i ?_
                  rcases p62_0 with p62_0 | p62_0 | p62_0
                  ·
                    exfalso; omega
                  ·
                    replace p62_3 := p62_3.resolve_left (by omega)
                    have tkk72 := (p62_0.2.2.2.2).2.2
                    have tN73 := @tk_nx_b tB tn (tk_nx tB tn tp) (by omega) (by omega)
                    refine wr_pf2 (k0 := 236) (x := z63) (bl := 0) (bh := 1) (nx := 234) (r1 := 11) (r2 := 26) (r3 := 2) rfl (by decide) rfl ⟨rfl, rfl⟩ rfl (by omega) rfl g62 rfl (by omega) (fun h74 g74 w74 u74 => ?_)
                    have F75 := F64.then rfl u74
                    refine wi_aload_n (i := 0) (x := 236) (nx := 235) (r1 := 0) (r2 := 0) (r3 := 0) rfl rfl ?_
                    refine wr_gr (k0 := 236) (x := 239) (nx := 238) (r1 := 11) (r2 := 14) (r3 := 0) rfl rfl (by decide) rfl ⟨rfl, rfl⟩ rfl ?_
                    refine wi_bipush (n := 9) (nx := 240) (r1 := 0) (r2 := 0) (r3 := 0) rfl (by decide) ?_
                    refine wi_aload_n (i := 0) (x := 236) (nx := 241) (r1 := 0) (r2 := 0) (r3 := 0) rfl rfl ?_
                    refine wi_iconst (n := 0) (nx := 242) (r1 := 0) (r2 := 0) (r3 := 0) rfl ?_
                    refine wi_bipush (n := 11) (nx := 244) (r1 := 0) (r2 := 0) (r3 := 0) rfl (by decide) ?_
                    refine wr_V (k0 := 236) (rest := [vi 9, .ref 239]) (as := [.ref 236, vi 0, vi 11]) (nx := 247) (r1 := 231) (r2 := 2) (r3 := 11) rfl rfl rfl (of_decide_eq_true rfl) rfl rfl (by decide) rfl rfl (of_decide_eq_true rfl) (of_decide_eq_true rfl) ?_
                    have e77 : h74 236 4 = h62 236 4 := (u74 236 4 rfl)
                    have e78 : h74 236 3 = h 236 3 := ((u74 236 3 rfl).trans (u62 236 3 rfl))
                    have e79 : h74 236 8 = h62 236 8 := (u74 236 8 rfl)
                    have e80 : h74 236 5 = h62 236 5 := (u74 236 5 rfl)
                    have e81 : h74 236 6 = h62 236 6 := (u74 236 6 rfl)
                    have e82 : h74 236 7 = h62 236 7 := (u74 236 7 rfl)
                    have e83 : h74 236 12 = h62 236 12 := (u74 236 12 rfl)
                    have rb85 := RefB.fr u62 rfl xq0
                    have rb86 := RefB.fr u74 rfl rb85
                    refine ct_231_236 hcr  g74 0 11 (by omega) (by omega) (show (h74 236 4) ≤ (h74 236 3) by omega) (show 0 ≤ (tk_nx tB tn tp) by omega) (show (tk_nx tB tn tp) ≤ tn by omega) (show (tk_nx tB tn tp) ≤ tk_nx tB tn (tk_nx tB tn tp) ∧ tk_nx tB tn (tk_nx tB tn tp) ≤ tn from ⟨by omega, by omega⟩) (show 1 ≤ (h74 236 8) ∨ ((h74 236 4) = tk_nx tB tn (tk_nx tB tn tp) ∧ (h74 236 5) = tk_st tB tn (tk_nx tB tn tp) ∧ TKk tB tn (tk_nx tB tn tp) ((h74 236 6)) ((h74 236 7)) ((h74 236 12))) from (Or.inr (show ((h74 236 4) = tk_nx tB tn (tk_nx tB tn tp) ∧ (h74 236 5) = tk_st tB tn (tk_nx tB tn tp) ∧ TKk tB tn (tk_nx tB tn tp) ((h74 236 6)) ((h74 236 7)) ((h74 236 12))) by first | assumption | exact ⟨by omega, by omega, TKk.mv (by assumption) (by omega) (by omega) (by omega)⟩))) rb86 (fun h76 z84 g76 u76 (fz84 : 0 ≤ z84 ∧ z84 ≤ 999) (p76_0 : (1 ≤ (h74 236 8) ∧ (h76 236 8) = (h74 236 8) ∧ (h76 236 9) = (h74 236 9)) ∨ ((h74 236 8) = 0 ∧ tk_kd tB tn (tk_nx tB tn tp) = 2 ∧ 0 ≤ tk_nb tB tn (tk_nx tB tn tp) ∧ tk_nb tB tn (tk_nx tB tn tp) ≤ 11 ∧ z84 = tk_nb tB tn (tk_nx tB tn tp) ∧ (h76 236 8) = (h74 236 8) ∧ (h76 236 9) = (h74 236 9) ∧ ((h76 236 4) = tk_nx tB tn (tk_nx tB tn (tk_nx tB tn tp)) ∧ (h76 236 5) = tk_st tB tn (tk_nx tB tn (tk_nx tB tn tp)) ∧ TKk tB tn (tk_nx tB tn (tk_nx tB tn tp)) ((h76 236 6)) ((h76 236 7)) ((h76 236 12)))) ∨ ((h74 236 8) = 0 ∧ tk_kd tB tn (tk_nx tB tn tp) ≠ 2 ∧ (h76 236 8) = 1 ∧ (h76 236 9) = tk_st tB tn (tk_nx tB tn tp)) ∨ ((h74 236 8) = 0 ∧ tk_kd tB tn (tk_nx tB tn tp) = 2 ∧ (tk_nb tB tn (tk_nx tB tn tp) < 0 ∨ 11 < tk_nb tB tn (tk_nx tB tn tp)) ∧ (h76 236 8) = 2 ∧ (h76 236 9) = tk_st tB tn (tk_nx tB tn tp))) (p76_1 : (h74 236 4) ≤ (h76 236 4)) (p76_2 : (h76 236 4) ≤ (h74 236 3)) (p76_3 : 1 ≤ (h76 236 8) ∨ (h74 236 8) = 0) (p76_4 : 1 ≤ (h76 236 8) ∨ (0 ≤ z84 ∧ z84 ≤ 11)) (p76_5 : 1 ≤ (h76 236 8) ∨ (h74 236 6) = 2) => ?_)
                    have F87 := F75.then (by decide +kernel) u76
                    have e88 : h74 236 9 = h62 236 9 := (u74 236 9 rfl)
                    have b89 := gi_b (lo := 0) (hi := 5) g76 236 8 rfl
                    have b90 := gi_b (lo := -2147483648) (hi := 2147483647) g76 236 9 rfl
                    have b91 := gi_b (lo := 0) (hi := 800) g76 236 4 rfl
                    have b92 := gi_b (lo := 0) (hi := 800) g76 236 5 rfl
                    have b93 := gi_b (lo := 0) (hi := 4) g76 236 6 rfl
                    have b94 := gi_b (lo := 0) (hi := 999) g76 236 7 rfl
                    have b95 := gi_b (lo := -9223372036854775808) (hi := 9223372036854775807) g76 236 12 rfl
                    refine wk_i ?_
                    rcases p76_0 with p76_0 | p76_0 | p76_0 | p76_0
                    ·
                      exfalso; omega
                    ·
                      replace p76_3 := p76_3.resolve_left (by omega)
                      replace p76_4 := p76_4.resolve_left (by omega)
                      replace p76_5 := p76_5.resolve_left (by omega)
                      have tkk96 := (p76_0.2.2.2.2.2.2.2).2.2
                      have dk97 : tk_kd tB tn (tk_nx tB tn tp) = 2 := p76_0.2.1
                      have dr98 : 0 ≤ tk_nb tB tn (tk_nx tB tn tp) ∧ tk_nb tB tn (tk_nx tB tn tp) ≤ 11 := ⟨p76_0.2.2.1, p76_0.2.2.2.1⟩
                      have tN99 := @tk_nx_b tB tn (tk_nx tB tn (tk_nx tB tn tp)) (by omega) (by omega)
                      refine wr_is (k0 := 239) (a := 9) (f := 9) (x := z84) (bl := 0) (bh := 999) (nx := 248) (r1 := 0) (r2 := 0) (r3 := 0) rfl (by decide) rfl (by omega) (by omega) (by decide) g76 rfl (by omega) (fun h100 g100 w100 u100 => ?_)
                      have F101 := F87.then rfl u100
                      refine wi_goto (nx := 251) (r1 := 256) (r2 := 0) (r3 := 0) rfl ?_
                      refine wi_return (nx := 257) (r1 := 0) (r2 := 0) (r3 := 0) rfl rfl ?_
                      have e102 : h100 236 8 = h76 236 8 := (u100 236 8 rfl)
                      have e103 : h100 236 4 = h76 236 4 := (u100 236 4 rfl)
                      have e104 : h100 239 5 = h 239 5 := ((u100 239 5 rfl).trans ((u76 239 5 rfl).trans ((u74 239 5 rfl).trans (u62 239 5 rfl))))
                      have e105 : h100 239 7 = h 239 7 := ((u100 239 7 rfl).trans ((u76 239 7 rfl).trans ((u74 239 7 rfl).trans (u62 239 7 rfl))))
                      have e106 : h100 239 15 = h 239 15 := ((u100 239 15 rfl).trans ((u76 239 15 rfl).trans ((u74 239 15 rfl).trans (u62 239 15 rfl))))
                      have e107 : h100 239 16 = h 239 16 := ((u100 239 16 rfl).trans ((u76 239 16 rfl).trans ((u74 239 16 rfl).trans (u62 239 16 rfl))))
                      have e108 : h100 239 17 = h 239 17 := ((u100 239 17 rfl).trans ((u76 239 17 rfl).trans ((u74 239 17 rfl).trans (u62 239 17 rfl))))
                      have e109 : h100 239 18 = h 239 18 := ((u100 239 18 rfl).trans ((u76 239 18 rfl).trans ((u74 239 18 rfl).trans (u62 239 18 rfl))))
                      have e110 : h100 236 9 = h76 236 9 := (u100 236 9 rfl)
                      have e111 : h100 239 0 = h 239 0 := ((u100 239 0 rfl).trans ((u76 239 0 rfl).trans ((u74 239 0 rfl).trans (u62 239 0 rfl))))
                      have e112 : h100 239 1 = h 239 1 := ((u100 239 1 rfl).trans ((u76 239 1 rfl).trans ((u74 239 1 rfl).trans (u62 239 1 rfl))))
                      have e113 : h100 239 2 = h 239 2 := ((u100 239 2 rfl).trans ((u76 239 2 rfl).trans ((u74 239 2 rfl).trans (u62 239 2 rfl))))
                      have b114 := gi_b (lo := 0) (hi := 999) g 239 3 rfl
                      have e115 : h100 239 3 = h 239 3 := ((u100 239 3 rfl).trans ((u76 239 3 rfl).trans ((u74 239 3 rfl).trans (u62 239 3 rfl))))
                      have b116 := gi_b (lo := 0) (hi := 999) g 239 4 rfl
                      have e117 : h100 239 4 = h 239 4 := ((u100 239 4 rfl).trans ((u76 239 4 rfl).trans ((u74 239 4 rfl).trans (u62 239 4 rfl))))
                      have b118 := gi_b (lo := 0) (hi := 999) g 239 6 rfl
                      have e119 : h100 239 6 = h 239 6 := ((u100 239 6 rfl).trans ((u76 239 6 rfl).trans ((u74 239 6 rfl).trans (u62 239 6 rfl))))
                      have b120 := gi_b (lo := 0) (hi := 999) g 239 8 rfl
                      have e121 : h100 239 8 = h 239 8 := ((u100 239 8 rfl).trans ((u76 239 8 rfl).trans ((u74 239 8 rfl).trans (u62 239 8 rfl))))
                      have e122 : h100 239 9 = z84 := w100
                      have b123 := gi_b (lo := 0) (hi := 1) g 236 23 rfl
                      have e124 : h100 236 23 = h 236 23 := ((u100 236 23 rfl).trans ((u76 236 23 rfl).trans ((u74 236 23 rfl).trans (u62 236 23 rfl))))
                      have b125 := gi_b (lo := 0) (hi := 1) g 236 24 rfl
                      have e126 : h100 236 24 = h 236 24 := ((u100 236 24 rfl).trans ((u76 236 24 rfl).trans ((u74 236 24 rfl).trans (u62 236 24 rfl))))
                      have b127 := gi_b (lo := 0) (hi := 1) g 236 25 rfl
                      have e128 : h100 236 25 = h 236 25 := ((u100 236 25 rfl).trans ((u76 236 25 rfl).trans ((u74 236 25 rfl).trans (u62 236 25 rfl))))
                      have e129 : h100 236 26 = z63 := ((u100 236 26 rfl).trans ((u76 236 26 rfl).trans w74))
                      have e130 : h100 236 5 = h76 236 5 := (u100 236 5 rfl)
                      have e131 : h100 236 6 = h76 236 6 := (u100 236 6 rfl)
                      have e132 : h100 236 7 = h76 236 7 := (u100 236 7 rfl)
                      have e133 : h100 236 12 = h76 236 12 := (u100 236 12 rfl)
                      exact k h100 g100 F101 (show (h100 236 8) = 0 ∨ 1 ≤ (h100 236 8) from (Or.inl (by omega))) (show (h 236 4) ≤ (h100 236 4) by omega) (show (h100 236 4) ≤ (h 236 3) by omega) (show 1 ≤ (h100 236 8) ∨ ((h100 239 5) ≤ 9 ∧ 1 ≤ (h100 239 5) ∧ (h100 239 7) ≤ 3 ∧ (h100 239 15) ≤ 6 ∧ (h100 239 16) ≤ 6 ∧ (h100 239 17) ≤ 6 ∧ (h100 239 18) ≤ 6) from (Or.inr (⟨by omega, by omega, by omega, by omega, by omega, by omega, by omega⟩))) (show (h100 236 8) ≠ 0 ∨ (h100 236 9) = -1 from (Or.inr (by omega))) (by unfold tk_stm; (repeat (first | unfold tk_once | unfold tk_num | unfold tk_span)); (try dsimp only); rw [if_pos kf20.1]; (repeat (first | unfold tk_once | unfold tk_num | unfold tk_span)); (try dsimp only); rw [if_neg wk23.no]; (repeat (first | unfold tk_once | unfold tk_num | unfold tk_span)); (try dsimp only); rw [if_neg wk29.no]; (repeat (first | unfold tk_once | unfold tk_num | unfold tk_span)); (try dsimp only); rw [if_neg wk35.no]; (repeat (first | unfold tk_once | unfold tk_num | unfold tk_span)); (try dsimp only); rw [if_neg wk41.no]; (repeat (first | unfold tk_once | unfold tk_num | unfold tk_span)); (try dsimp only); rw [if_neg wk47.no]; (repeat (first | unfold tk_once | unfold tk_num | unfold tk_span)); (try dsimp only); rw [if_neg wk53.no]; (repeat (first | unfold tk_once | unfold tk_num | unfold tk_span)); (try dsimp only); rw [if_pos wk59]; (repeat (first | unfold tk_once | unfold tk_num | unfold tk_span)); (try dsimp only); rw [if_neg (by omega)]; (repeat (first | unfold tk_once | unfold tk_num | unfold tk_span)); (try dsimp only); rw [if_pos dk97]; (repeat (first | unfold tk_once | unfold tk_num | unfold tk_span)); (try dsimp only); rw [if_pos dr98]; (repeat (first | unfold tk_once | unfold tk_num | unfold tk_span)); (try dsimp only); exact tk_ORs (by omega) (by first | assumption | exact ⟨by omega, by omega, TKk.mv (by assumption) (by omega) (by omega) (by omega)⟩) (CVr.flag xq1 (fun j j3 j4 j5 j6 j7 j8 j9 j60 j61 j62 j63 => by (repeat unfold tk_u); rw [if_neg j9, if_neg j63]) (fun i e => e.elim (fun e => ((u100 239 i (fn_i (by omega) fn_0)).trans ((u76 239 i (fo_nk rfl)).trans ((u74 239 i (fn_a (by omega) fn_0)).trans (u62 239 i (fo_nk rfl)))))) (fun e => ((u100 239 i (fn_i (by omega) fn_0)).trans ((u76 239 i (fo_nk rfl)).trans ((u74 239 i (fn_a (by omega) fn_0)).trans (u62 239 i (fo_nk rfl))))))) ⟨(by (repeat unfold tk_u); (repeat (first | rw [if_pos (by decide)] | rw [if_neg (by decide)])); all_goals omega), (by (repeat unfold tk_u); (repeat (first | rw [if_pos (by decide)] | rw [if_neg (by decide)])); all_goals omega), (by (repeat unfold tk_u); (repeat (first | rw [if_pos (by decide)] | rw [if_neg (by decide)])); all_goals omega), (by (repeat unfold tk_u); (repeat (first | rw [if_pos (by decide)] | rw [if_neg (by decide)])); all_goals omega), (by (repeat unfold tk_u); (repeat (first | rw [if_pos (by decide)] | rw [if_neg (by decide)])); all_goals omega), (by (repeat unfold tk_u); (repeat (first | rw [if_pos (by decide)] | rw [if_neg (by decide)])); all_goals omega), (by (repeat unfold tk_u); (repeat (first | rw [if_pos (by decide)] | rw [if_neg (by decide)])); all_goals omega)⟩ ⟨(by (repeat unfold tk_u); (repeat (first | rw [if_pos (by decide)] | rw [if_neg (by decide)])); all_goals omega), (by (repeat unfold tk_u); (repeat (first | rw [if_pos (by decide)] | rw [if_neg (by decide)])); all_goals omega), (by (repeat unfold tk_u); (repeat (first | rw [if_pos (by decide)] | rw [if_neg (by decide)])); all_goals omega), (by (repeat unfold tk_u); (repeat (first | rw [if_pos (by decide)] | rw [if_neg (by decide)])); all_goals omega)⟩ (fun i => ((u100 244 i (fn_a (by omega) fn_0)).trans ((u76 244 i (fo_nk rfl)).trans ((u74 244 i (fn_a (by omega) fn_0)).trans (u62 244 i (fo_nk rfl)))))) (by omega) (by omega) (by omega)))
                    ·
                      clear p76_3
                      clear p76_4
                      clear p76_5
                      have dn96 : TKn (tk_kd tB tn (tk_nx tB tn tp) = 2) := p76_0.2.1
                      replace p76_0 : _ := And.intro (p76_0.1) (And.intro (p76_0.2.2.1) (p76_0.2.2.2))
                      refine wr_is (k0 := 239) (a := 9) (f := 9) (x := z84) (bl := 0) (bh := 999) (nx := 248) (r1 := 0) (r2 := 0) (r3 := 0) rfl (by decide) rfl (by omega) (by omega) (by decide) g76 rfl (by omega) (fun h97 g97 w97 u97 => ?_)
                      have F98 := F87.then rfl u97
                      refine wi_goto (nx := 251) (r1 := 256) (r2 := 0) (r3 := 0) rfl ?_
                      refine wi_return (nx := 257) (r1 := 0) (r2 := 0) (r3 := 0) rfl rfl ?_
                      have e99 : h97 236 8 = h76 236 8 := (u97 236 8 rfl)
                      have e100 : h97 236 4 = h76 236 4 := (u97 236 4 rfl)
                      have e101 : h97 239 5 = h 239 5 := ((u97 239 5 rfl).trans ((u76 239 5 rfl).trans ((u74 239 5 rfl).trans (u62 239 5 rfl))))
                      have e102 : h97 239 7 = h 239 7 := ((u97 239 7 rfl).trans ((u76 239 7 rfl).trans ((u74 239 7 rfl).trans (u62 239 7 rfl))))
                      have e103 : h97 239 15 = h 239 15 := ((u97 239 15 rfl).trans ((u76 239 15 rfl).trans ((u74 239 15 rfl).trans (u62 239 15 rfl))))
                      have e104 : h97 239 16 = h 239 16 := ((u97 239 16 rfl).trans ((u76 239 16 rfl).trans ((u74 239 16 rfl).trans (u62 239 16 rfl))))
                      have e105 : h97 239 17 = h 239 17 := ((u97 239 17 rfl).trans ((u76 239 17 rfl).trans ((u74 239 17 rfl).trans (u62 239 17 rfl))))
                      have e106 : h97 239 18 = h 239 18 := ((u97 239 18 rfl).trans ((u76 239 18 rfl).trans ((u74 239 18 rfl).trans (u62 239 18 rfl))))
                      have e107 : h97 236 9 = h76 236 9 := (u97 236 9 rfl)
                      exact k h97 g97 F98 (show (h97 236 8) = 0 ∨ 1 ≤ (h97 236 8) from (Or.inr (by omega))) (show (h 236 4) ≤ (h97 236 4) by omega) (show (h97 236 4) ≤ (h 236 3) by omega) (show 1 ≤ (h97 236 8) ∨ ((h97 239 5) ≤ 9 ∧ 1 ≤ (h97 239 5) ∧ (h97 239 7) ≤ 3 ∧ (h97 239 15) ≤ 6 ∧ (h97 239 16) ≤ 6 ∧ (h97 239 17) ≤ 6 ∧ (h97 239 18) ≤ 6) from (Or.inl (by omega))) (show (h97 236 8) ≠ 0 ∨ (h97 236 9) = -1 from (Or.inl (by omega))) (by unfold tk_stm; (repeat (first | unfold tk_once | unfold tk_num | unfold tk_span)); (try dsimp only); rw [if_pos kf20.1]; (repeat (first | unfold tk_once | unfold tk_num | unfold tk_span)); (try dsimp only); rw [if_neg wk23.no]; (repeat (first | unfold tk_once | unfold tk_num | unfold tk_span)); (try dsimp only); rw [if_neg wk29.no]; (repeat (first | unfold tk_once | unfold tk_num | unfold tk_span)); (try dsimp only); rw [if_neg wk35.no]; (repeat (first | unfold tk_once | unfold tk_num | unfold tk_span)); (try dsimp only); rw [if_neg wk41.no]; (repeat (first | unfold tk_once | unfold tk_num | unfold tk_span)); (try dsimp only); rw [if_neg wk47.no]; (repeat (first | unfold tk_once | unfold tk_num | unfold tk_span)); (try dsimp only); rw [if_neg wk53.no]; (repeat (first | unfold tk_once | unfold tk_num | unfold tk_span)); (try dsimp only); rw [if_pos wk59]; (repeat (first | unfold tk_once | unfold tk_num | unfold tk_span)); (try dsimp only); rw [if_neg (by omega)]; (repeat (first | unfold tk_once | unfold tk_num | unfold tk_span)); (try dsimp only); rw [if_neg dn96.no]; (repeat (first | unfold tk_once | unfold tk_num | unfold tk_span)); (try dsimp only); exact tk_ORe (by omega) (by omega) (by omega))
                    ·
                      clear p76_3
                      clear p76_4
                      clear p76_5
                      have dk96 : tk_kd tB tn (tk_nx tB tn tp) = 2 := p76_0.2.1
                      have dr97 : TKn (0 ≤ tk_nb tB tn (tk_nx tB tn tp) ∧ tk_nb tB tn (tk_nx tB tn tp) ≤ 11) := tkn_r p76_0.2.2.1
                      replace p76_0 : _ := And.intro (p76_0.1) (And.intro (p76_0.2.1) (And.intro (p76_0.2.2.2.1) (p76_0.2.2.2.2)))
                      refine wr_is (k0 := 239) (a := 9) (f := 9) (x := z84) (bl := 0) (bh := 999) (nx := 248) (r1 := 0) (r2 := 0) (r3 := 0) rfl (by decide) rfl (by omega) (by omega) (by decide) g76 rfl (by omega) (fun h98 g98 w98 u98 => ?_)
                      have F99 := F87.then rfl u98
                      refine wi_goto (nx := 251) (r1 := 256) (r2 := 0) (r3 := 0) rfl ?_
                      refine wi_return (nx := 257) (r1 := 0) (r2 := 0) (r3 := 0) rfl rfl ?_
                      have e100 : h98 236 8 = h76 236 8 := (u98 236 8 rfl)
                      have e101 : h98 236 4 = h76 236 4 := (u98 236 4 rfl)
                      have e102 : h98 239 5 = h 239 5 := ((u98 239 5 rfl).trans ((u76 239 5 rfl).trans ((u74 239 5 rfl).trans (u62 239 5 rfl))))
                      have e103 : h98 239 7 = h 239 7 := ((u98 239 7 rfl).trans ((u76 239 7 rfl).trans ((u74 239 7 rfl).trans (u62 239 7 rfl))))
                      have e104 : h98 239 15 = h 239 15 := ((u98 239 15 rfl).trans ((u76 239 15 rfl).trans ((u74 239 15 rfl).trans (u62 239 15 rfl))))
                      have e105 : h98 239 16 = h 239 16 := ((u98 239 16 rfl).trans ((u76 239 16 rfl).trans ((u74 239 16 rfl).trans (u62 239 16 rfl))))
                      have e106 : h98 239 17 = h 239 17 := ((u98 239 17 rfl).trans ((u76 239 17 rfl).trans ((u74 239 17 rfl).trans (u62 239 17 rfl))))
                      have e107 : h98 239 18 = h 239 18 := ((u98 239 18 rfl).trans ((u76 239 18 rfl).trans ((u74 239 18 rfl).trans (u62 239 18 rfl))))
                      have e108 : h98 236 9 = h76 236 9 := (u98 236 9 rfl)
                      exact k h98 g98 F99 (show (h98 236 8) = 0 ∨ 1 ≤ (h98 236 8) from (Or.inr (by omega))) (show (h 236 4) ≤ (h98 236 4) by omega) (show (h98 236 4) ≤ (h 236 3) by omega) (show 1 ≤ (h98 236 8) ∨ ((h98 239 5) ≤ 9 ∧ 1 ≤ (h98 239 5) ∧ (h98 239 7) ≤ 3 ∧ (h98 239 15) ≤ 6 ∧ (h98 239 16) ≤ 6 ∧ (h98 239 17) ≤ 6 ∧ (h98 239 18) ≤ 6) from (Or.inl (by omega))) (show (h98 236 8) ≠ 0 ∨ (h98 236 9) = -1 from (Or.inl (by omega))) (by unfold tk_stm; (repeat (first | unfold tk_once | unfold tk_num | unfold tk_span)); (try dsimp only); rw [if_pos kf20.1]; (repeat (first | unfold tk_once | unfold tk_num | unfold tk_span)); (try dsimp only); rw [if_neg wk23.no]; (repeat (first | unfold tk_once | unfold tk_num | unfold tk_span)); (try dsimp only); rw [if_neg wk29.no]; (repeat (first | unfold tk_once | unfold tk_num | unfold tk_span)); (try dsimp only); rw [if_neg wk35.no]; (repeat (first | unfold tk_once | unfold tk_num | unfold tk_span)); (try dsimp only); rw [if_neg wk41.no]; (repeat (first | unfold tk_once | unfold tk_num | unfold tk_span)); (try dsimp only); rw [if_neg wk47.no]; (repeat (first | unfold tk_once | unfold tk_num | unfold tk_span)); (try dsimp only); rw [if_neg wk53.no]; (repeat (first | unfold tk_once | unfold tk_num | unfold tk_span)); (try dsimp only); rw [if_pos wk59]; (repeat (first | unfold tk_once | unfold tk_num | unfold tk_span)); (try dsimp only); rw [if_neg (by omega)]; (repeat (first | unfold tk_once | unfold tk_num | unfold tk_span)); (try dsimp only); rw [if_pos dk96]; (repeat (first | unfold tk_once | unfold tk_num | unfold tk_span)); (try dsimp only); rw [if_neg dr97.no]; (repeat (first | unfold tk_once | unfold tk_num | unfold tk_span)); (try dsimp only); exact tk_ORe (by omega) (by omega) (by omega))
                  ·
                    clear p62_3
                    refine wr_pf2 (k0 := 236) (x := z63) (bl := 0) (bh := 1) (nx := 234) (r1 := 11) (r2 := 26) (r3 := 2) rfl (by decide) rfl ⟨rfl, rfl⟩ rfl (by omega) rfl g62 rfl (by omega) (fun h72 g72 w72 u72 => ?_)
                    have F73 := F64.then rfl u72
                    refine wi_aload_n (i := 0) (x := 236) (nx := 235) (r1 := 0) (r2 := 0) (r3 := 0) rfl rfl ?_
                    refine wr_gr (k0 := 236) (x := 239) (nx := 238) (r1 := 11) (r2 := 14) (r3 := 0) rfl rfl (by decide) rfl ⟨rfl, rfl⟩ rfl ?_
                    refine wi_bipush (n := 9) (nx := 240) (r1 := 0) (r2 := 0) (r3 := 0) rfl (by decide) ?_
                    refine wi_aload_n (i := 0) (x := 236) (nx := 241) (r1 := 0) (r2 := 0) (r3 := 0) rfl rfl ?_
                    refine wi_iconst (n := 0) (nx := 242) (r1 := 0) (r2 := 0) (r3 := 0) rfl ?_
                    refine wi_bipush (n := 11) (nx := 244) (r1 := 0) (r2 := 0) (r3 := 0) rfl (by decide) ?_
                    refine wr_V (k0 := 236) (rest := [vi 9, .ref 239]) (as := [.ref 236, vi 0, vi 11]) (nx := 247) (r1 := 231) (r2 := 2) (r3 := 11) rfl rfl rfl (of_decide_eq_true rfl) rfl rfl (by decide) rfl rfl (of_decide_eq_true rfl) (of_decide_eq_true rfl) ?_
                    have e75 : h72 236 4 = h62 236 4 := (u72 236 4 rfl)
                    have e76 : h72 236 3 = h 236 3 := ((u72 236 3 rfl).trans (u62 236 3 rfl))
                    have e77 : h72 236 8 = h62 236 8 := (u72 236 8 rfl)
                    have e78 : h72 236 5 = h62 236 5 := (u72 236 5 rfl)
                    have e79 : h72 236 6 = h62 236 6 := (u72 236 6 rfl)
                    have e80 : h72 236 7 = h62 236 7 := (u72 236 7 rfl)
                    have e81 : h72 236 12 = h62 236 12 := (u72 236 12 rfl)
                    have rb83 := RefB.fr u62 rfl xq0
                    have rb84 := RefB.fr u72 rfl rb83
                    refine ct_231_236 hcr  g72 0 11 (by omega) (by omega) (show (h72 236 4) ≤ (h72 236 3) by omega) (show 0 ≤ tp by omega) (show tp ≤ tn by omega) (show tp ≤ tk_nx tB tn tp ∧ tk_nx tB tn tp ≤ tn from ⟨by omega, by omega⟩) (show 1 ≤ (h72 236 8) ∨ ((h72 236 4) = tk_nx tB tn tp ∧ (h72 236 5) = tk_st tB tn tp ∧ TKk tB tn tp ((h72 236 6)) ((h72 236 7)) ((h72 236 12))) from (Or.inl (by omega))) rb84 (fun h74 z82 g74 u74 (fz82 : 0 ≤ z82 ∧ z82 ≤ 999) (p74_0 : (1 ≤ (h72 236 8) ∧ (h74 236 8) = (h72 236 8) ∧ (h74 236 9) = (h72 236 9)) ∨ ((h72 236 8) = 0 ∧ tk_kd tB tn tp = 2 ∧ 0 ≤ tk_nb tB tn tp ∧ tk_nb tB tn tp ≤ 11 ∧ z82 = tk_nb tB tn tp ∧ (h74 236 8) = (h72 236 8) ∧ (h74 236 9) = (h72 236 9) ∧ ((h74 236 4) = tk_nx tB tn (tk_nx tB tn tp) ∧ (h74 236 5) = tk_st tB tn (tk_nx tB tn tp) ∧ TKk tB tn (tk_nx tB tn tp) ((h74 236 6)) ((h74 236 7)) ((h74 236 12)))) ∨ ((h72 236 8) = 0 ∧ tk_kd tB tn tp ≠ 2 ∧ (h74 236 8) = 1 ∧ (h74 236 9) = tk_st tB tn tp) ∨ ((h72 236 8) = 0 ∧ tk_kd tB tn tp = 2 ∧ (tk_nb tB tn tp < 0 ∨ 11 < tk_nb tB tn tp) ∧ (h74 236 8) = 2 ∧ (h74 236 9) = tk_st tB tn tp)) (p74_1 : (h72 236 4) ≤ (h74 236 4)) (p74_2 : (h74 236 4) ≤ (h72 236 3)) (p74_3 : 1 ≤ (h74 236 8) ∨ (h72 236 8) = 0) (p74_4 : 1 ≤ (h74 236 8) ∨ (0 ≤ z82 ∧ z82 ≤ 11)) (p74_5 : 1 ≤ (h74 236 8) ∨ (h72 236 6) = 2) => ?_)
                    have F85 := F73.then (by decide +kernel) u74
                    have e86 : h72 236 9 = h62 236 9 := (u72 236 9 rfl)
                    have b87 := gi_b (lo := 0) (hi := 5) g74 236 8 rfl
                    have b88 := gi_b (lo := -2147483648) (hi := 2147483647) g74 236 9 rfl
                    have b89 := gi_b (lo := 0) (hi := 800) g74 236 4 rfl
                    have b90 := gi_b (lo := 0) (hi := 800) g74 236 5 rfl
                    have b91 := gi_b (lo := 0) (hi := 4) g74 236 6 rfl
                    have b92 := gi_b (lo := 0) (hi := 999) g74 236 7 rfl
                    have b93 := gi_b (lo := -9223372036854775808) (hi := 9223372036854775807) g74 236 12 rfl
                    refine wk_i ?_
                    rcases p74_0 with p74_0 | p74_0 | p74_0 | p74_0
                    ·
                      replace p74_3 := p74_3.resolve_right (by omega)
                      clear p74_4
                      clear p74_5
                      refine wr_is (k0 := 239) (a := 9) (f := 9) (x := z82) (bl := 0) (bh := 999) (nx := 248) (r1 := 0) (r2 := 0) (r3 := 0) rfl (by decide) rfl (by omega) (by omega) (by decide) g74 rfl (by omega) (fun h94 g94 w94 u94 => ?_)
                      have F95 := F85.then rfl u94
                      refine wi_goto (nx := 251) (r1 := 256) (r2 := 0) (r3 := 0) rfl ?_
                      refine wi_return (nx := 257) (r1 := 0) (r2 := 0) (r3 := 0) rfl rfl ?_
                      have e96 : h94 236 8 = h74 236 8 := (u94 236 8 rfl)
                      have e97 : h94 236 4 = h74 236 4 := (u94 236 4 rfl)
                      have e98 : h94 239 5 = h 239 5 := ((u94 239 5 rfl).trans ((u74 239 5 rfl).trans ((u72 239 5 rfl).trans (u62 239 5 rfl))))
                      have e99 : h94 239 7 = h 239 7 := ((u94 239 7 rfl).trans ((u74 239 7 rfl).trans ((u72 239 7 rfl).trans (u62 239 7 rfl))))
                      have e100 : h94 239 15 = h 239 15 := ((u94 239 15 rfl).trans ((u74 239 15 rfl).trans ((u72 239 15 rfl).trans (u62 239 15 rfl))))
                      have e101 : h94 239 16 = h 239 16 := ((u94 239 16 rfl).trans ((u74 239 16 rfl).trans ((u72 239 16 rfl).trans (u62 239 16 rfl))))
                      have e102 : h94 239 17 = h 239 17 := ((u94 239 17 rfl).trans ((u74 239 17 rfl).trans ((u72 239 17 rfl).trans (u62 239 17 rfl))))
                      have e103 : h94 239 18 = h 239 18 := ((u94 239 18 rfl).trans ((u74 239 18 rfl).trans ((u72 239 18 rfl).trans (u62 239 18 rfl))))
                      have e104 : h94 236 9 = h74 236 9 := (u94 236 9 rfl)
                      exact k h94 g94 F95 (show (h94 236 8) = 0 ∨ 1 ≤ (h94 236 8) from (Or.inr (by omega))) (show (h 236 4) ≤ (h94 236 4) by omega) (show (h94 236 4) ≤ (h 236 3) by omega) (show 1 ≤ (h94 236 8) ∨ ((h94 239 5) ≤ 9 ∧ 1 ≤ (h94 239 5) ∧ (h94 239 7) ≤ 3 ∧ (h94 239 15) ≤ 6 ∧ (h94 239 16) ≤ 6 ∧ (h94 239 17) ≤ 6 ∧ (h94 239 18) ≤ 6) from (Or.inl (by omega))) (show (h94 236 8) ≠ 0 ∨ (h94 236 9) = -1 from (Or.inl (by omega))) (by unfold tk_stm; (repeat (first | unfold tk_once | unfold tk_num | unfold tk_span)); (try dsimp only); rw [if_pos kf20.1]; (repeat (first | unfold tk_once | unfold tk_num | unfold tk_span)); (try dsimp only); rw [if_neg wk23.no]; (repeat (first | unfold tk_once | unfold tk_num | unfold tk_span)); (try dsimp only); rw [if_neg wk29.no]; (repeat (first | unfold tk_once | unfold tk_num | unfold tk_span)); (try dsimp only); rw [if_neg wk35.no]; (repeat (first | unfold tk_once | unfold tk_num | unfold tk_span)); (try dsimp only); rw [if_neg wk41.no]; (repeat (first | unfold tk_once | unfold tk_num | unfold tk_span)); (try dsimp only); rw [if_neg wk47.no]; (repeat (first | unfold tk_once | unfold tk_num | unfold tk_span)); (try dsimp only); rw [if_neg wk53.no]; (repeat (first | unfold tk_once | unfold tk_num | unfold tk_span)); (try dsimp only); rw [if_pos wk59]; (repeat (first | unfold tk_once | unfold tk_num | unfold tk_span)); (try dsimp only); rw [if_pos (by omega)]; (repeat (first | unfold tk_once | unfold tk_num | unfold tk_span)); (try dsimp only); exact tk_ORe (by omega) (by omega) (by omega))
                    ·
                      have tkk94 := (p74_0.2.2.2.2.2.2.2).2.2
                      have tN95 := @tk_nx_b tB tn (tk_nx tB tn tp) (by omega) (by omega)
                      exfalso; omega
                    ·
                      exfalso; omega
                    ·
                      exfalso; omega
              ·
                have wk53 : tk_wd (tk_lw tB tn tp) = 10 := (tk_wcp 9 (K := 609992267) (by decide) rfl rfl (by omega) (by omega) (show tk_kd tB tn tp = 1 by omega) (show tk_sw tB tn tp = 609992267 by omega)).2
                clear q52 fr51
                refine wi_iconst (n := 1) (nx := 25) (r1 := 0) (r2 := 0) (r3 := 0) rfl ?_
                refine wi_goto (nx := 28) (r1 := 29) (r2 := 0) (r3 := 0) rfl ?_
                refine wi_zreturn (nx := 30) (r1 := 0) (r2 := 0) (r3 := 0) rfl rfl (by omega) ?_
                refine wk_i ?_
                refine wi_if (cd := .eq) (nx := 167) (r1 := 212) (r2 := 0) (r3 := 0) rfl (by omega) (fun (q54 : 1 = 0) => by exfalso; omega) (fun (q54 : ¬ (1 = 0)) => ?_)
                refine wi_aload_n (i := 0) (x := 236) (nx := 168) (r1 := 0) (r2 := 0) (r3 := 0) rfl rfl ?_
                refine wi_aload_n (i := 0) (x := 236) (nx := 169) (r1 := 0) (r2 := 0) (r3 := 0) rfl rfl ?_
                refine wi_aload_n (i := 0) (x := 236) (nx := 170) (r1 := 0) (r2 := 0) (r3 := 0) rfl rfl ?_
                have b55 := gi_b (lo := 0) (hi := 1) g 236 25 rfl
                refine wr_gi2 (k0 := 236) (x := h 236 25) (nx := 173) (r1 := 11) (r2 := 25) (r3 := 0) rfl rfl (by decide) rfl ⟨rfl, rfl⟩ rfl rfl ?_
                refine wr_V (k0 := 236) (rest := [.ref 236]) (as := [.ref 236, vi (h 236 25)]) (nx := 176) (r1 := 234) (r2 := 1) (r3 := 11) rfl rfl rfl (of_decide_eq_true rfl) rfl rfl (by decide) rfl rfl (of_decide_eq_true rfl) (of_decide_eq_true rfl) ?_
                refine ct_234_236 hcr  g (h 236 25) (by omega) (show (h 236 4) ≤ (h 236 3) by omega) (show 0 ≤ tp by omega) (show tp ≤ tn by omega) (show tp ≤ tk_nx tB tn tp ∧ tk_nx tB tn tp ≤ tn from ⟨by omega, by omega⟩) (show 1 ≤ (h 236 8) ∨ ((h 236 4) = tk_nx tB tn tp ∧ (h 236 5) = tk_st tB tn tp ∧ TKk tB tn tp ((h 236 6)) ((h 236 7)) ((h 236 12))) from (Or.inr (show ((h 236 4) = tk_nx tB tn tp ∧ (h 236 5) = tk_st tB tn tp ∧ TKk tB tn tp ((h 236 6)) ((h 236 7)) ((h 236 12))) by first | assumption | exact ⟨by omega, by omega, TKk.mv (by assumption) (by omega) (by omega) (by omega)⟩))) (show tk_kd tB tn tp = 1 by omega) xq0 (fun h56 z57 g56 u56 (fz57 : 1 ≤ z57 ∧ z57 ≤ 1) (p56_0 : (1 ≤ (h 236 8) ∧ (h56 236 8) = (h 236 8) ∧ (h56 236 9) = (h 236 9)) ∨ ((h 236 8) = 0 ∧ (h 236 25) = 0 ∧ (h56 236 8) = (h 236 8) ∧ (h56 236 9) = (h 236 9) ∧ ((h56 236 4) = tk_nx tB tn (tk_nx tB tn tp) ∧ (h56 236 5) = tk_st tB tn (tk_nx tB tn tp) ∧ TKk tB tn (tk_nx tB tn tp) ((h56 236 6)) ((h56 236 7)) ((h56 236 12)))) ∨ ((h 236 8) = 0 ∧ (h 236 25) = 1 ∧ (h56 236 8) = 3 ∧ (h56 236 9) = tk_st tB tn tp)) (p56_1 : (h 236 4) ≤ (h56 236 4)) (p56_2 : (h56 236 4) ≤ (h 236 3)) (p56_3 : 1 ≤ (h56 236 8) ∨ (h 236 8) = 0) (p56_4 : z57 = 1) => ?_)
                have F58 := F0.then (by decide +kernel) u56
                have b59 := gi_b (lo := 0) (hi := 5) g56 236 8 rfl
                have b60 := gi_b (lo := -2147483648) (hi := 2147483647) g56 236 9 rfl
                have b61 := gi_b (lo := 0) (hi := 800) g56 236 4 rfl
                have b62 := gi_b (lo := 0) (hi := 800) g56 236 5 rfl
                have b63 := gi_b (lo := 0) (hi := 4) g56 236 6 rfl
                have b64 := gi_b (lo := 0) (hi := 999) g56 236 7 rfl
                have b65 := gi_b (lo := -9223372036854775808) (hi := 9223372036854775807) g56 236 12 rfl
                refine wk_i ?_
                rcases p56_0 with p56_0 | p56_0 | p56_0
                ·
                  exfalso; omega
                ·
                  replace p56_3 := p56_3.resolve_left (by omega)
                  have tkk66 := (p56_0.2.2.2.2).2.2
                  have tN67 := @tk_nx_b tB tn (tk_nx tB tn tp) (by omega) (by omega)
                  refine wr_pf2 (k0 := 236) (x := z57) (bl := 0) (bh := 1) (nx := 179) (r1 := 11) (r2 := 25) (r3 := 2) rfl (by decide) rfl ⟨rfl, rfl⟩ rfl (by omega) rfl g56 rfl (by omega) (fun h68 g68 w68 u68 => ?_)
                  have F69 := F58.then rfl u68
                  refine wi_aload_n (i := 0) (x := 236) (nx := 180) (r1 := 0) (r2 := 0) (r3 := 0) rfl rfl ?_
                  refine wr_gr (k0 := 236) (x := 239) (nx := 183) (r1 := 11) (r2 := 14) (r3 := 0) rfl rfl (by decide) rfl ⟨rfl, rfl⟩ rfl ?_
                  refine wi_bipush (n := 7) (nx := 185) (r1 := 0) (r2 := 0) (r3 := 0) rfl (by decide) ?_
                  refine wi_aload_n (i := 0) (x := 236) (nx := 186) (r1 := 0) (r2 := 0) (r3 := 0) rfl rfl ?_
                  refine wi_iconst (n := 0) (nx := 187) (r1 := 0) (r2 := 0) (r3 := 0) rfl ?_
                  refine wi_iconst (n := 3) (nx := 188) (r1 := 0) (r2 := 0) (r3 := 0) rfl ?_
                  refine wr_V (k0 := 236) (rest := [vi 7, .ref 239]) (as := [.ref 236, vi 0, vi 3]) (nx := 191) (r1 := 231) (r2 := 2) (r3 := 11) rfl rfl rfl (of_decide_eq_true rfl) rfl rfl (by decide) rfl rfl (of_decide_eq_true rfl) (of_decide_eq_true rfl) ?_
                  have e71 : h68 236 4 = h56 236 4 := (u68 236 4 rfl)
                  have e72 : h68 236 3 = h 236 3 := ((u68 236 3 rfl).trans (u56 236 3 rfl))
                  have e73 : h68 236 8 = h56 236 8 := (u68 236 8 rfl)
                  have e74 : h68 236 5 = h56 236 5 := (u68 236 5 rfl)
                  have e75 : h68 236 6 = h56 236 6 := (u68 236 6 rfl)
                  have e76 : h68 236 7 = h56 236 7 := (u68 236 7 rfl)
                  have e77 : h68 236 12 = h56 236 12 := (u68 236 12 rfl)
                  have rb79 := RefB.fr u56 rfl xq0
                  have rb80 := RefB.fr u68 rfl rb79
                  refine ct_231_236 hcr  g68 0 3 (by omega) (by omega) (show (h68 236 4) ≤ (h68 236 3) by omega) (show 0 ≤ (tk_nx tB tn tp) by omega) (show (tk_nx tB tn tp) ≤ tn by omega) (show (tk_nx tB tn tp) ≤ tk_nx tB tn (tk_nx tB tn tp) ∧ tk_nx tB tn (tk_nx tB tn tp) ≤ tn from ⟨by omega, by omega⟩) (show 1 ≤ (h68 236 8) ∨ ((h68 236 4) = tk_nx tB tn (tk_nx tB tn tp) ∧ (h68 236 5) = tk_st tB tn (tk_nx tB tn tp) ∧ TKk tB tn (tk_nx tB tn tp) ((h68 236 6)) ((h68 236 7)) ((h68 236 12))) from (Or.inr (show ((h68 236 4) = tk_nx tB tn (tk_nx tB tn tp) ∧ (h68 236 5) = tk_st tB tn (tk_nx tB tn tp) ∧ TKk tB tn (tk_nx tB tn tp) ((h68 236 6)) ((h68 236 7)) ((h68 236 12))) by first | assumption | exact ⟨by omega, by omega, TKk.mv (by assumption) (by omega) (by omega) (by omega)⟩))) rb80 (fun h70 z78 g70 u70 (fz78 : 0 ≤ z78 ∧ z78 ≤ 999) (p70_0 : (1 ≤ (h68 236 8) ∧ (h70 236 8) = (h68 236 8) ∧ (h70 236 9) = (h68 236 9)) ∨ ((h68 236 8) = 0 ∧ tk_kd tB tn (tk_nx tB tn tp) = 2 ∧ 0 ≤ tk_nb tB tn (tk_nx tB tn tp) ∧ tk_nb tB tn (tk_nx tB tn tp) ≤ 3 ∧ z78 = tk_nb tB tn (tk_nx tB tn tp) ∧ (h70 236 8) = (h68 236 8) ∧ (h70 236 9) = (h68 236 9) ∧ ((h70 236 4) = tk_nx tB tn (tk_nx tB tn (tk_nx tB tn tp)) ∧ (h70 236 5) = tk_st tB tn (tk_nx tB tn (tk_nx tB tn tp)) ∧ TKk tB tn (tk_nx tB tn (tk_nx tB tn tp)) ((h70 236 6)) ((h70 236 7)) ((h70 236 12)))) ∨ ((h68 236 8) = 0 ∧ tk_kd tB tn (tk_nx tB tn tp) ≠ 2 ∧ (h70 236 8) = 1 ∧ (h70 236 9) = tk_st tB tn (tk_nx tB tn tp)) ∨ ((h68 236 8) = 0 ∧ tk_kd tB tn (tk_nx tB tn tp) = 2 ∧ (tk_nb tB tn (tk_nx tB tn tp) < 0 ∨ 3 < tk_nb tB tn (tk_nx tB tn tp)) ∧ (h70 236 8) = 2 ∧ (h70 236 9) = tk_st tB tn (tk_nx tB tn tp))) (p70_1 : (h68 236 4) ≤ (h70 236 4)) (p70_2 : (h70 236 4) ≤ (h68 236 3)) (p70_3 : 1 ≤ (h70 236 8) ∨ (h68 236 8) = 0) (p70_4 : 1 ≤ (h70 236 8) ∨ (0 ≤ z78 ∧ z78 ≤ 3)) (p70_5 : 1 ≤ (h70 236 8) ∨ (h68 236 6) = 2) => ?_)
                  have F81 := F69.then (by decide +kernel) u70
                  have e82 : h68 236 9 = h56 236 9 := (u68 236 9 rfl)
                  have b83 := gi_b (lo := 0) (hi := 5) g70 236 8 rfl
                  have b84 := gi_b (lo := -2147483648) (hi := 2147483647) g70 236 9 rfl
                  have b85 := gi_b (lo := 0) (hi := 800) g70 236 4 rfl
                  have b86 := gi_b (lo := 0) (hi := 800) g70 236 5 rfl
                  have b87 := gi_b (lo := 0) (hi := 4) g70 236 6 rfl
                  have b88 := gi_b (lo := 0) (hi := 999) g70 236 7 rfl
                  have b89 := gi_b (lo := -9223372036854775808) (hi := 9223372036854775807) g70 236 12 rfl
                  refine wk_i ?_
                  rcases p70_0 with p70_0 | p70_0 | p70_0 | p70_0
                  ·
                    exfalso; omega
                  ·
                    replace p70_3 := p70_3.resolve_left (by omega)
                    replace p70_4 := p70_4.resolve_left (by omega)
                    replace p70_5 := p70_5.resolve_left (by omega)
                    have tkk90 := (p70_0.2.2.2.2.2.2.2).2.2
                    have dk91 : tk_kd tB tn (tk_nx tB tn tp) = 2 := p70_0.2.1
                    have dr92 : 0 ≤ tk_nb tB tn (tk_nx tB tn tp) ∧ tk_nb tB tn (tk_nx tB tn tp) ≤ 3 := ⟨p70_0.2.2.1, p70_0.2.2.2.1⟩
                    have tN93 := @tk_nx_b tB tn (tk_nx tB tn (tk_nx tB tn tp)) (by omega) (by omega)
                    refine wr_is (k0 := 239) (a := 7) (f := 7) (x := z78) (bl := 0) (bh := 999) (nx := 192) (r1 := 0) (r2 := 0) (r3 := 0) rfl (by decide) rfl (by omega) (by omega) (by decide) g70 rfl (by omega) (fun h94 g94 w94 u94 => ?_)
                    have F95 := F81.then rfl u94
                    refine wi_aload_n (i := 0) (x := 236) (nx := 193) (r1 := 0) (r2 := 0) (r3 := 0) rfl rfl ?_
                    refine wr_gr (k0 := 236) (x := 239) (nx := 196) (r1 := 11) (r2 := 14) (r3 := 0) rfl rfl (by decide) rfl ⟨rfl, rfl⟩ rfl ?_
                    refine wi_bipush (n := 8) (nx := 198) (r1 := 0) (r2 := 0) (r3 := 0) rfl (by decide) ?_
                    refine wi_aload_n (i := 0) (x := 236) (nx := 199) (r1 := 0) (r2 := 0) (r3 := 0) rfl rfl ?_
                    refine wi_ldc2_w (e := 4370489) (nx := 202) (r1 := 4370489) (r2 := 0) (r3 := 0) rfl (by decide) ?_
                    refine wi_iconst (n := 0) (nx := 203) (r1 := 0) (r2 := 0) (r3 := 0) rfl ?_
                    refine wi_bipush (n := 9) (nx := 205) (r1 := 0) (r2 := 0) (r3 := 0) rfl (by decide) ?_
                    refine wr_V (k0 := 236) (rest := [vi 8, .ref 239]) (as := [.ref 236, vl 4370489, vi 0, vi 9]) (nx := 208) (r1 := 228) (r2 := 3) (r3 := 11) rfl rfl rfl (of_decide_eq_true rfl) rfl rfl (by decide) rfl rfl (of_decide_eq_true rfl) (of_decide_eq_true rfl) ?_
                    have e97 : h94 236 4 = h70 236 4 := (u94 236 4 rfl)
                    have e98 : h94 236 3 = h 236 3 := ((u94 236 3 rfl).trans ((u70 236 3 rfl).trans ((u68 236 3 rfl).trans (u56 236 3 rfl))))
                    have e99 : h94 236 8 = h70 236 8 := (u94 236 8 rfl)
                    have e100 : h94 236 5 = h70 236 5 := (u94 236 5 rfl)
                    have e101 : h94 236 6 = h70 236 6 := (u94 236 6 rfl)
                    have e102 : h94 236 7 = h70 236 7 := (u94 236 7 rfl)
                    have e103 : h94 236 12 = h70 236 12 := (u94 236 12 rfl)
                    have rb105 := RefB.fr u70 rfl rb80
                    have rb106 := RefB.fr u94 rfl rb105
                    refine ct_228_236 hcr  g94 4370489 0 9 (by omega) (by omega) (by omega) (show (h94 236 4) ≤ (h94 236 3) by omega) (show 0 ≤ (tk_nx tB tn (tk_nx tB tn tp)) by omega) (show (tk_nx tB tn (tk_nx tB tn tp)) ≤ tn by omega) (show (tk_nx tB tn (tk_nx tB tn tp)) ≤ tk_nx tB tn (tk_nx tB tn (tk_nx tB tn tp)) ∧ tk_nx tB tn (tk_nx tB tn (tk_nx tB tn tp)) ≤ tn from ⟨by omega, by omega⟩) (show 1 ≤ (h94 236 8) ∨ ((h94 236 4) = tk_nx tB tn (tk_nx tB tn (tk_nx tB tn tp)) ∧ (h94 236 5) = tk_st tB tn (tk_nx tB tn (tk_nx tB tn tp)) ∧ TKk tB tn (tk_nx tB tn (tk_nx tB tn tp)) ((h94 236 6)) ((h94 236 7)) ((h94 236 12))) from (Or.inr (show ((h94 236 4) = tk_nx tB tn (tk_nx tB tn (tk_nx tB tn tp)) ∧ (h94 236 5) = tk_st tB tn (tk_nx tB tn (tk_nx tB tn tp)) ∧ TKk tB tn (tk_nx tB tn (tk_nx tB tn tp)) ((h94 236 6)) ((h94 236 7)) ((h94 236 12))) by first | assumption | exact ⟨by omega, by omega, TKk.mv (by assumption) (by omega) (by omega) (by omega)⟩))) rb106 (fun h96 z104 g96 u96 (fz104 : 0 ≤ z104 ∧ z104 ≤ 999) (p96_0 : (1 ≤ (h94 236 8) ∧ (h96 236 8) = (h94 236 8) ∧ (h96 236 9) = (h94 236 9)) ∨ ((h94 236 8) = 0 ∧ tk_kd tB tn (tk_nx tB tn (tk_nx tB tn tp)) = 1 ∧ tk_sw tB tn (tk_nx tB tn (tk_nx tB tn tp)) = 4370489 ∧ tk_kd tB tn (tk_nx tB tn (tk_nx tB tn (tk_nx tB tn tp))) = 2 ∧ 0 ≤ tk_nb tB tn (tk_nx tB tn (tk_nx tB tn (tk_nx tB tn tp))) ∧ tk_nb tB tn (tk_nx tB tn (tk_nx tB tn (tk_nx tB tn tp))) ≤ 9 ∧ z104 = tk_nb tB tn (tk_nx tB tn (tk_nx tB tn (tk_nx tB tn tp))) ∧ (h96 236 8) = (h94 236 8) ∧ (h96 236 9) = (h94 236 9) ∧ ((h96 236 4) = tk_nx tB tn (tk_nx tB tn (tk_nx tB tn (tk_nx tB tn (tk_nx tB tn tp)))) ∧ (h96 236 5) = tk_st tB tn (tk_nx tB tn (tk_nx tB tn (tk_nx tB tn (tk_nx tB tn tp)))) ∧ TKk tB tn (tk_nx tB tn (tk_nx tB tn (tk_nx tB tn (tk_nx tB tn tp)))) ((h96 236 6)) ((h96 236 7)) ((h96 236 12)))) ∨ ((h94 236 8) = 0 ∧ (tk_kd tB tn (tk_nx tB tn (tk_nx tB tn tp)) ≠ 1 ∨ tk_sw tB tn (tk_nx tB tn (tk_nx tB tn tp)) ≠ 4370489) ∧ (h96 236 8) = 1 ∧ (h96 236 9) = tk_st tB tn (tk_nx tB tn (tk_nx tB tn tp))) ∨ ((h94 236 8) = 0 ∧ tk_kd tB tn (tk_nx tB tn (tk_nx tB tn tp)) = 1 ∧ tk_sw tB tn (tk_nx tB tn (tk_nx tB tn tp)) = 4370489 ∧ tk_kd tB tn (tk_nx tB tn (tk_nx tB tn (tk_nx tB tn tp))) ≠ 2 ∧ (h96 236 8) = 1 ∧ (h96 236 9) = tk_st tB tn (tk_nx tB tn (tk_nx tB tn (tk_nx tB tn tp)))) ∨ ((h94 236 8) = 0 ∧ tk_kd tB tn (tk_nx tB tn (tk_nx tB tn tp)) = 1 ∧ tk_sw tB tn (tk_nx tB tn (tk_nx tB tn tp)) = 4370489 ∧ tk_kd tB tn (tk_nx tB tn (tk_nx tB tn (tk_nx tB tn tp))) = 2 ∧ (tk_nb tB tn (tk_nx tB tn (tk_nx tB tn (tk_nx tB tn tp))) < 0 ∨ 9 < tk_nb tB tn (tk_nx tB tn (tk_nx tB tn (tk_nx tB tn tp)))) ∧ (h96 236 8) = 2 ∧ (h96 236 9) = tk_st tB tn (tk_nx tB tn (tk_nx tB tn (tk_nx tB tn tp))))) (p96_1 : (h94 236 4) ≤ (h96 236 4)) (p96_2 : (h96 236 4) ≤ (h94 236 3)) (p96_3 : 1 ≤ (h96 236 8) ∨ (h94 236 8) = 0) (p96_4 : 1 ≤ (h96 236 8) ∨ (0 ≤ z104 ∧ z104 ≤ 9)) => ?_)
                    have F107 := F95.then (by decide +kernel) u96
                    have e108 : h94 236 9 = h70 236 9 := (u94 236 9 rfl)
                    have b109 := gi_b (lo := 0) (hi := 5) g96 236 8 rfl
                    have b110 := gi_b (lo := -2147483648) (hi := 2147483647) g96 236 9 rfl
                    have b111 := gi_b (lo := 0) (hi := 800) g96 236 4 rfl
                    have b112 := gi_b (lo := 0) (hi := 800) g96 236 5 rfl
                    have b113 := gi_b (lo := 0) (hi := 4) g96 236 6 rfl
                    have b114 := gi_b (lo := 0) (hi := 999) g96 236 7 rfl
                    have b115 := gi_b (lo := -9223372036854775808) (hi := 9223372036854775807) g96 236 12 rfl
                    refine wk_i ?_
                    rcases p96_0 with p96_0 | p96_0 | p96_0 | p96_0 | p96_0
                    ·
                      exfalso; omega
                    ·
                      replace p96_3 := p96_3.resolve_left (by omega)
                      replace p96_4 := p96_4.resolve_left (by omega)
                      have tkk116 := (p96_0.2.2.2.2.2.2.2.2.2).2.2
                      have dw117 : tk_kd tB tn (tk_nx tB tn (tk_nx tB tn tp)) = 1 ∧ tk_wd (tk_lw tB tn (tk_nx tB tn (tk_nx tB tn tp))) = 11 := tk_wcp 10 (K := 4370489) (by decide) rfl rfl (by omega) (by omega) p96_0.2.1 p96_0.2.2.1
                      have dk118 : tk_kd tB tn (tk_nx tB tn (tk_nx tB tn (tk_nx tB tn tp))) = 2 := p96_0.2.2.2.1
                      have dr119 : 0 ≤ tk_nb tB tn (tk_nx tB tn (tk_nx tB tn (tk_nx tB tn tp))) ∧ tk_nb tB tn (tk_nx tB tn (tk_nx tB tn (tk_nx tB tn tp))) ≤ 9 := ⟨p96_0.2.2.2.2.1, p96_0.2.2.2.2.2.1⟩
                      have tN120 := @tk_nx_b tB tn (tk_nx tB tn (tk_nx tB tn (tk_nx tB tn tp))) (by omega) (by omega)
                      have tN121 := @tk_nx_b tB tn (tk_nx tB tn (tk_nx tB tn (tk_nx tB tn (tk_nx tB tn tp)))) (by omega) (by omega)
                      refine wr_is (k0 := 239) (a := 8) (f := 8) (x := z104) (bl := 0) (bh := 999) (nx := 209) (r1 := 0) (r2 := 0) (r3 := 0) rfl (by decide) rfl (by omega) (by omega) (by decide) g96 rfl (by omega) (fun h122 g122 w122 u122 => ?_)
                      have F123 := F107.then rfl u122
                      refine wi_goto (nx := 212) (r1 := 256) (r2 := 0) (r3 := 0) rfl ?_
                      refine wi_return (nx := 257) (r1 := 0) (r2 := 0) (r3 := 0) rfl rfl ?_
                      have e124 : h122 236 8 = h96 236 8 := (u122 236 8 rfl)
                      have e125 : h122 236 4 = h96 236 4 := (u122 236 4 rfl)
                      have e126 : h122 239 5 = h 239 5 := ((u122 239 5 rfl).trans ((u96 239 5 rfl).trans ((u94 239 5 rfl).trans ((u70 239 5 rfl).trans ((u68 239 5 rfl).trans (u56 239 5 rfl))))))
                      have e127 : h122 239 7 = z78 := ((u122 239 7 rfl).trans ((u96 239 7 rfl).trans w94))
                      have e128 : h122 239 15 = h 239 15 := ((u122 239 15 rfl).trans ((u96 239 15 rfl).trans ((u94 239 15 rfl).trans ((u70 239 15 rfl).trans ((u68 239 15 rfl).trans (u56 239 15 rfl))))))
                      have e129 : h122 239 16 = h 239 16 := ((u122 239 16 rfl).trans ((u96 239 16 rfl).trans ((u94 239 16 rfl).trans ((u70 239 16 rfl).trans ((u68 239 16 rfl).trans (u56 239 16 rfl))))))
                      have e130 : h122 239 17 = h 239 17 := ((u122 239 17 rfl).trans ((u96 239 17 rfl).trans ((u94 239 17 rfl).trans ((u70 239 17 rfl).trans ((u68 239 17 rfl).trans (u56 239 17 rfl))))))
                      have e131 : h122 239 18 = h 239 18 := ((u122 239 18 rfl).trans ((u96 239 18 rfl).trans ((u94 239 18 rfl).trans ((u70 239 18 rfl).trans ((u68 239 18 rfl).trans (u56 239 18 rfl))))))
                      have e132 : h122 236 9 = h96 236 9 := (u122 236 9 rfl)
                      have e133 : h122 239 0 = h 239 0 := ((u122 239 0 rfl).trans ((u96 239 0 rfl).trans ((u94 239 0 rfl).trans ((u70 239 0 rfl).trans ((u68 239 0 rfl).trans (u56 239 0 rfl))))))
                      have e134 : h122 239 1 = h 239 1 := ((u122 239 1 rfl).trans ((u96 239 1 rfl).trans ((u94 239 1 rfl).trans ((u70 239 1 rfl).trans ((u68 239 1 rfl).trans (u56 239 1 rfl))))))
                      have e135 : h122 239 2 = h 239 2 := ((u122 239 2 rfl).trans ((u96 239 2 rfl).trans ((u94 239 2 rfl).trans ((u70 239 2 rfl).trans ((u68 239 2 rfl).trans (u56 239 2 rfl))))))
                      have b136 := gi_b (lo := 0) (hi := 999) g 239 3 rfl
                      have e137 : h122 239 3 = h 239 3 := ((u122 239 3 rfl).trans ((u96 239 3 rfl).trans ((u94 239 3 rfl).trans ((u70 239 3 rfl).trans ((u68 239 3 rfl).trans (u56 239 3 rfl))))))
                      have b138 := gi_b (lo := 0) (hi := 999) g 239 4 rfl
                      have e139 : h122 239 4 = h 239 4 := ((u122 239 4 rfl).trans ((u96 239 4 rfl).trans ((u94 239 4 rfl).trans ((u70 239 4 rfl).trans ((u68 239 4 rfl).trans (u56 239 4 rfl))))))
                      have b140 := gi_b (lo := 0) (hi := 999) g 239 6 rfl
                      have e141 : h122 239 6 = h 239 6 := ((u122 239 6 rfl).trans ((u96 239 6 rfl).trans ((u94 239 6 rfl).trans ((u70 239 6 rfl).trans ((u68 239 6 rfl).trans (u56 239 6 rfl))))))
                      have e142 : h122 239 8 = z104 := w122
                      have b143 := gi_b (lo := 0) (hi := 999) g 239 9 rfl
                      have e144 : h122 239 9 = h 239 9 := ((u122 239 9 rfl).trans ((u96 239 9 rfl).trans ((u94 239 9 rfl).trans ((u70 239 9 rfl).trans ((u68 239 9 rfl).trans (u56 239 9 rfl))))))
                      have b145 := gi_b (lo := 0) (hi := 1) g 236 23 rfl
                      have e146 : h122 236 23 = h 236 23 := ((u122 236 23 rfl).trans ((u96 236 23 rfl).trans ((u94 236 23 rfl).trans ((u70 236 23 rfl).trans ((u68 236 23 rfl).trans (u56 236 23 rfl))))))
                      have b147 := gi_b (lo := 0) (hi := 1) g 236 24 rfl
                      have e148 : h122 236 24 = h 236 24 := ((u122 236 24 rfl).trans ((u96 236 24 rfl).trans ((u94 236 24 rfl).trans ((u70 236 24 rfl).trans ((u68 236 24 rfl).trans (u56 236 24 rfl))))))
                      have e149 : h122 236 25 = z57 := ((u122 236 25 rfl).trans ((u96 236 25 rfl).trans ((u94 236 25 rfl).trans ((u70 236 25 rfl).trans w68))))
                      have b150 := gi_b (lo := 0) (hi := 1) g 236 26 rfl
                      have e151 : h122 236 26 = h 236 26 := ((u122 236 26 rfl).trans ((u96 236 26 rfl).trans ((u94 236 26 rfl).trans ((u70 236 26 rfl).trans ((u68 236 26 rfl).trans (u56 236 26 rfl))))))
                      have e152 : h122 236 5 = h96 236 5 := (u122 236 5 rfl)
                      have e153 : h122 236 6 = h96 236 6 := (u122 236 6 rfl)
                      have e154 : h122 236 7 = h96 236 7 := (u122 236 7 rfl)
                      have e155 : h122 236 12 = h96 236 12 := (u122 236 12 rfl)
                      exact k h122 g122 F123 (show (h122 236 8) = 0 ∨ 1 ≤ (h122 236 8) from (Or.inl (by omega))) (show (h 236 4) ≤ (h122 236 4) by omega) (show (h122 236 4) ≤ (h 236 3) by omega) (show 1 ≤ (h122 236 8) ∨ ((h122 239 5) ≤ 9 ∧ 1 ≤ (h122 239 5) ∧ (h122 239 7) ≤ 3 ∧ (h122 239 15) ≤ 6 ∧ (h122 239 16) ≤ 6 ∧ (h122 239 17) ≤ 6 ∧ (h122 239 18) ≤ 6) from (Or.inr (⟨by omega, by omega, by omega, by omega, by omega, by omega, by omega⟩))) (show (h122 236 8) ≠ 0 ∨ (h122 236 9) = -1 from (Or.inr (by omega))) (by unfold tk_stm; (repeat (first | unfold tk_once | unfold tk_wrd | unfold tk_num | unfold tk_rework)); (try dsimp only); rw [if_pos kf20.1]; (repeat (first | unfold tk_once | unfold tk_wrd | unfold tk_num | unfold tk_rework)); (try dsimp only); rw [if_neg wk23.no]; (repeat (first | unfold tk_once | unfold tk_wrd | unfold tk_num | unfold tk_rework)); (try dsimp only); rw [if_neg wk29.no]; (repeat (first | unfold tk_once | unfold tk_wrd | unfold tk_num | unfold tk_rework)); (try dsimp only); rw [if_neg wk35.no]; (repeat (first | unfold tk_once | unfold tk_wrd | unfold tk_num | unfold tk_rework)); (try dsimp only); rw [if_neg wk41.no]; (repeat (first | unfold tk_once | unfold tk_wrd | unfold tk_num | unfold tk_rework)); (try dsimp only); rw [if_neg wk47.no]; (repeat (first | unfold tk_once | unfold tk_wrd | unfold tk_num | unfold tk_rework)); (try dsimp only); rw [if_pos wk53]; (repeat (first | unfold tk_once | unfold tk_wrd | unfold tk_num | unfold tk_rework)); (try dsimp only); rw [if_neg (by omega)]; (repeat (first | unfold tk_once | unfold tk_wrd | unfold tk_num | unfold tk_rework)); (try dsimp only); rw [if_pos dk91]; (repeat (first | unfold tk_once | unfold tk_wrd | unfold tk_num | unfold tk_rework)); (try dsimp only); rw [if_pos dr92]; (repeat (first | unfold tk_once | unfold tk_wrd | unfold tk_num | unfold tk_rework)); (try dsimp only); rw [if_pos dw117]; (repeat (first | unfold tk_once | unfold tk_wrd | unfold tk_num | unfold tk_rework)); (try dsimp only); rw [if_pos dk118]; (repeat (first | unfold tk_once | unfold tk_wrd | unfold tk_num | unfold tk_rework)); (try dsimp only); rw [if_pos dr119]; (repeat (first | unfold tk_once | unfold tk_wrd | unfold tk_num | unfold tk_rework)); (try dsimp only); exact tk_ORs (by omega) (by first | assumption | exact ⟨by omega, by omega, TKk.mv (by assumption) (by omega) (by omega) (by omega)⟩) (CVr.flag xq1 (fun j j3 j4 j5 j6 j7 j8 j9 j60 j61 j62 j63 => by (repeat unfold tk_u); rw [if_neg j8, if_neg j7, if_neg j62]) (fun i e => e.elim (fun e => ((u122 239 i (fn_i (by omega) fn_0)).trans ((u96 239 i (fo_nk rfl)).trans ((u94 239 i (fn_i (by omega) fn_0)).trans ((u70 239 i (fo_nk rfl)).trans ((u68 239 i (fn_a (by omega) fn_0)).trans (u56 239 i (fo_nk rfl)))))))) (fun e => ((u122 239 i (fn_i (by omega) fn_0)).trans ((u96 239 i (fo_nk rfl)).trans ((u94 239 i (fn_i (by omega) fn_0)).trans ((u70 239 i (fo_nk rfl)).trans ((u68 239 i (fn_a (by omega) fn_0)).trans (u56 239 i (fo_nk rfl))))))))) ⟨(by (repeat unfold tk_u); (repeat (first | rw [if_pos (by decide)] | rw [if_neg (by decide)])); all_goals omega), (by (repeat unfold tk_u); (repeat (first | rw [if_pos (by decide)] | rw [if_neg (by decide)])); all_goals omega), (by (repeat unfold tk_u); (repeat (first | rw [if_pos (by decide)] | rw [if_neg (by decide)])); all_goals omega), (by (repeat unfold tk_u); (repeat (first | rw [if_pos (by decide)] | rw [if_neg (by decide)])); all_goals omega), (by (repeat unfold tk_u); (repeat (first | rw [if_pos (by decide)] | rw [if_neg (by decide)])); all_goals omega), (by (repeat unfold tk_u); (repeat (first | rw [if_pos (by decide)] | rw [if_neg (by decide)])); all_goals omega), (by (repeat unfold tk_u); (repeat (first | rw [if_pos (by decide)] | rw [if_neg (by decide)])); all_goals omega)⟩ ⟨(by (repeat unfold tk_u); (repeat (first | rw [if_pos (by decide)] | rw [if_neg (by decide)])); all_goals omega), (by (repeat unfold tk_u); (repeat (first | rw [if_pos (by decide)] | rw [if_neg (by decide)])); all_goals omega), (by (repeat unfold tk_u); (repeat (first | rw [if_pos (by decide)] | rw [if_neg (by decide)])); all_goals omega), (by (repeat unfold tk_u); (repeat (first | rw [if_pos (by decide)] | rw [if_neg (by decide)])); all_goals omega)⟩ (fun i => ((u122 244 i (fn_a (by omega) fn_0)).trans ((u96 244 i (fo_nk rfl)).trans ((u94 244 i (fn_a (by omega) fn_0)).trans ((u70 244 i (fo_nk rfl)).trans ((u68 244 i (fn_a (by omega) fn_0)).trans (u56 244 i (fo_nk rfl)))))))) (by omega) (by omega) (by omega)))
                    ·
                      clear p96_3
                      clear p96_4
                      have dw116 : TKn (tk_kd tB tn (tk_nx tB tn (tk_nx tB tn tp)) = 1 ∧ tk_wd (tk_lw tB tn (tk_nx tB tn (tk_nx tB tn tp))) = 11) := tk_wcn 10 (K := 4370489) (by decide) rfl rfl (by omega) (by omega) p96_0.2.1
                      replace p96_0 : _ := And.intro (p96_0.1) (And.intro (p96_0.2.2.1) (p96_0.2.2.2))
                      refine wr_is (k0 := 239) (a := 8) (f := 8) (x := z104) (bl := 0) (bh := 999) (nx := 209) (r1 := 0) (r2 := 0) (r3 := 0) rfl (by decide) rfl (by omega) (by omega) (by decide) g96 rfl (by omega) (fun h117 g117 w117 u117 => ?_)
                      have F118 := F107.then rfl u117
                      refine wi_goto (nx := 212) (r1 := 256) (r2 := 0) (r3 := 0) rfl ?_
                      refine wi_return (nx := 257) (r1 := 0) (r2 := 0) (r3 := 0) rfl rfl ?_
                      have e119 : h117 236 8 = h96 236 8 := (u117 236 8 rfl)
                      have e120 : h117 236 4 = h96 236 4 := (u117 236 4 rfl)
                      have e121 : h117 239 5 = h 239 5 := ((u117 239 5 rfl).trans ((u96 239 5 rfl).trans ((u94 239 5 rfl).trans ((u70 239 5 rfl).trans ((u68 239 5 rfl).trans (u56 239 5 rfl))))))
                      have e122 : h117 239 7 = z78 := ((u117 239 7 rfl).trans ((u96 239 7 rfl).trans w94))
                      have e123 : h117 239 15 = h 239 15 := ((u117 239 15 rfl).trans ((u96 239 15 rfl).trans ((u94 239 15 rfl).trans ((u70 239 15 rfl).trans ((u68 239 15 rfl).trans (u56 239 15 rfl))))))
                      have e124 : h117 239 16 = h 239 16 := ((u117 239 16 rfl).trans ((u96 239 16 rfl).trans ((u94 239 16 rfl).trans ((u70 239 16 rfl).trans ((u68 239 16 rfl).trans (u56 239 16 rfl))))))
                      have e125 : h117 239 17 = h 239 17 := ((u117 239 17 rfl).trans ((u96 239 17 rfl).trans ((u94 239 17 rfl).trans ((u70 239 17 rfl).trans ((u68 239 17 rfl).trans (u56 239 17 rfl))))))
                      have e126 : h117 239 18 = h 239 18 := ((u117 239 18 rfl).trans ((u96 239 18 rfl).trans ((u94 239 18 rfl).trans ((u70 239 18 rfl).trans ((u68 239 18 rfl).trans (u56 239 18 rfl))))))
                      have e127 : h117 236 9 = h96 236 9 := (u117 236 9 rfl)
                      exact k h117 g117 F118 (show (h117 236 8) = 0 ∨ 1 ≤ (h117 236 8) from (Or.inr (by omega))) (show (h 236 4) ≤ (h117 236 4) by omega) (show (h117 236 4) ≤ (h 236 3) by omega) (show 1 ≤ (h117 236 8) ∨ ((h117 239 5) ≤ 9 ∧ 1 ≤ (h117 239 5) ∧ (h117 239 7) ≤ 3 ∧ (h117 239 15) ≤ 6 ∧ (h117 239 16) ≤ 6 ∧ (h117 239 17) ≤ 6 ∧ (h117 239 18) ≤ 6) from (Or.inl (by omega))) (show (h117 236 8) ≠ 0 ∨ (h117 236 9) = -1 from (Or.inl (by omega))) (by unfold tk_stm; (repeat (first | unfold tk_once | unfold tk_wrd | unfold tk_num | unfold tk_rework)); (try dsimp only); rw [if_pos kf20.1]; (repeat (first | unfold tk_once | unfold tk_wrd | unfold tk_num | unfold tk_rework)); (try dsimp only); rw [if_neg wk23.no]; (repeat (first | unfold tk_once | unfold tk_wrd | unfold tk_num | unfold tk_rework)); (try dsimp only); rw [if_neg wk29.no]; (repeat (first | unfold tk_once | unfold tk_wrd | unfold tk_num | unfold tk_rework)); (try dsimp only); rw [if_neg wk35.no]; (repeat (first | unfold tk_once | unfold tk_wrd | unfold tk_num | unfold tk_rework)); (try dsimp only); rw [if_neg wk41.no]; (repeat (first | unfold tk_once | unfold tk_wrd | unfold tk_num | unfold tk_rework)); (try dsimp only); rw [if_neg wk47.no]; (repeat (first | unfold tk_once | unfold tk_wrd | unfold tk_num | unfold tk_rework)); (try dsimp only); rw [if_pos wk53]; (repeat (first | unfold tk_once | unfold tk_wrd | unfold tk_num | unfold tk_rework)); (try dsimp only); rw [if_neg (by omega)]; (repeat (first | unfold tk_once | unfold tk_wrd | unfold tk_num | unfold tk_rework)); (try dsimp only); rw [if_pos dk91]; (repeat (first | unfold tk_once | unfold tk_wrd | unfold tk_num | unfold tk_rework)); (try dsimp only); rw [if_pos dr92]; (repeat (first | unfold tk_once | unfold tk_wrd | unfold tk_num | unfold tk_rework)); (try dsimp only); rw [if_neg dw116.no]; (repeat (first | unfold tk_once | unfold tk_wrd | unfold tk_num | unfold tk_rework)); (try dsimp only); exact tk_ORe (by omega) (by omega) (by omega))
                    ·
                      clear p96_3
                      clear p96_4
                      have dw116 : tk_kd tB tn (tk_nx tB tn (tk_nx tB tn tp)) = 1 ∧ tk_wd (tk_lw tB tn (tk_nx tB tn (tk_nx tB tn tp))) = 11 := tk_wcp 10 (K := 4370489) (by decide) rfl rfl (by omega) (by omega) p96_0.2.1 p96_0.2.2.1
                      have dn117 : TKn (tk_kd tB tn (tk_nx tB tn (tk_nx tB tn (tk_nx tB tn tp))) = 2) := p96_0.2.2.2.1
                      replace p96_0 : _ := And.intro (p96_0.1) (And.intro (p96_0.2.1) (And.intro (p96_0.2.2.1) (And.intro (p96_0.2.2.2.2.1) (p96_0.2.2.2.2.2))))
                      have tN118 := @tk_nx_b tB tn (tk_nx tB tn (tk_nx tB tn tp)) (by omega) (by omega)
                      refine wr_is (k0 := 239) (a := 8) (f := 8) (x := z104) (bl := 0) (bh := 999) (nx := 209) (r1 := 0) (r2 := 0) (r3 := 0) rfl (by decide) rfl (by omega) (by omega) (by decide) g96 rfl (by omega) (fun h119 g119 w119 u119 => ?_)
                      have F120 := F107.then rfl u119
                      refine wi_goto (nx := 212) (r1 := 256) (r2 := 0) (r3 := 0) rfl ?_
                      refine wi_return (nx := 257) (r1 := 0) (r2 := 0) (r3 := 0) rfl rfl ?_
                      have e121 : h119 236 8 = h96 236 8 := (u119 236 8 rfl)
                      have e122 : h119 236 4 = h96 236 4 := (u119 236 4 rfl)
                      have e123 : h119 239 5 = h 239 5 := ((u119 239 5 rfl).trans ((u96 239 5 rfl).trans ((u94 239 5 rfl).trans ((u70 239 5 rfl).trans ((u68 239 5 rfl).trans (u56 239 5 rfl))))))
                      have e124 : h119 239 7 = z78 := ((u119 239 7 rfl).trans ((u96 239 7 rfl).trans w94))
                      have e125 : h119 239 15 = h 239 15 := ((u119 239 15 rfl).trans ((u96 239 15 rfl).trans ((u94 239 15 rfl).trans ((u70 239 15 rfl).trans ((u68 239 15 rfl).trans (u56 239 15 rfl))))))
                      have e126 : h119 239 16 = h 239 16 := ((u119 239 16 rfl).trans ((u96 239 16 rfl).trans ((u94 239 16 rfl).trans ((u70 239 16 rfl).trans ((u68 239 16 rfl).trans (u56 239 16 rfl))))))
                      have e127 : h119 239 17 = h 239 17 := ((u119 239 17 rfl).trans ((u96 239 17 rfl).trans ((u94 239 17 rfl).trans ((u70 239 17 rfl).trans ((u68 239 17 rfl).trans (u56 239 17 rfl))))))
                      have e128 : h119 239 18 = h 239 18 := ((u119 239 18 rfl).trans ((u96 239 18 rfl).trans ((u94 239 18 rfl).trans ((u70 239 18 rfl).trans ((u68 239 18 rfl).trans (u56 239 18 rfl))))))
                      have e129 : h119 236 9 = h96 236 9 := (u119 236 9 rfl)
                      exact k h119 g119 F120 (show (h119 236 8) = 0 ∨ 1 ≤ (h119 236 8) from (Or.inr (by omega))) (show (h 236 4) ≤ (h119 236 4) by omega) (show (h119 236 4) ≤ (h 236 3) by omega) (show 1 ≤ (h119 236 8) ∨ ((h119 239 5) ≤ 9 ∧ 1 ≤ (h119 239 5) ∧ (h119 239 7) ≤ 3 ∧ (h119 239 15) ≤ 6 ∧ (h119 239 16) ≤ 6 ∧ (h119 239 17) ≤ 6 ∧ (h119 239 18) ≤ 6) from (Or.inl (by omega))) (show (h119 236 8) ≠ 0 ∨ (h119 236 9) = -1 from (Or.inl (by omega))) (by unfold tk_stm; (repeat (first | unfold tk_once | unfold tk_wrd | unfold tk_num | unfold tk_rework)); (try dsimp only); rw [if_pos kf20.1]; (repeat (first | unfold tk_once | unfold tk_wrd | unfold tk_num | unfold tk_rework)); (try dsimp only); rw [if_neg wk23.no]; (repeat (first | unfold tk_once | unfold tk_wrd | unfold tk_num | unfold tk_rework)); (try dsimp only); rw [if_neg wk29.no]; (repeat (first | unfold tk_once | unfold tk_wrd | unfold tk_num | unfold tk_rework)); (try dsimp only); rw [if_neg wk35.no]; (repeat (first | unfold tk_once | unfold tk_wrd | unfold tk_num | unfold tk_rework)); (try dsimp only); rw [if_neg wk41.no]; (repeat (first | unfold tk_once | unfold tk_wrd | unfold tk_num | unfold tk_rework)); (try dsimp only); rw [if_neg wk47.no]; (repeat (first | unfold tk_once | unfold tk_wrd | unfold tk_num | unfold tk_rework)); (try dsimp only); rw [if_pos wk53]; (repeat (first | unfold tk_once | unfold tk_wrd | unfold tk_num | unfold tk_rework)); (try dsimp only); rw [if_neg (by omega)]; (repeat (first | unfold tk_once | unfold tk_wrd | unfold tk_num | unfold tk_rework)); (try dsimp only); rw [if_pos dk91]; (repeat (first | unfold tk_once | unfold tk_wrd | unfold tk_num | unfold tk_rework)); (try dsimp only); rw [if_pos dr92]; (repeat (first | unfold tk_once | unfold tk_wrd | unfold tk_num | unfold tk_rework)); (try dsimp only); rw [if_pos dw116]; (repeat (first | unfold tk_once | unfold tk_wrd | unfold tk_num | unfold tk_rework)); (try dsimp only); rw [if_neg dn117.no]; (repeat (first | unfold tk_once | unfold tk_wrd | unfold tk_num | unfold tk_rework)); (try dsimp only); exact tk_ORe (by omega) (by omega) (by omega))
                    ·
                      clear p96_3
                      clear p96_4
                      have dw116 : tk_kd tB tn (tk_nx tB tn (tk_nx tB tn tp)) = 1 ∧ tk_wd (tk_lw tB tn (tk_nx tB tn (tk_nx tB tn tp))) = 11 := tk_wcp 10 (K := 4370489) (by decide) rfl rfl (by omega) (by omega) p96_0.2.1 p96_0.2.2.1
                      have dk117 : tk_kd tB tn (tk_nx tB tn (tk_nx tB tn (tk_nx tB tn tp))) = 2 := p96_0.2.2.2.1
                      have dr118 : TKn (0 ≤ tk_nb tB tn (tk_nx tB tn (tk_nx tB tn (tk_nx tB tn tp))) ∧ tk_nb tB tn (tk_nx tB tn (tk_nx tB tn (tk_nx tB tn tp))) ≤ 9) := tkn_r p96_0.2.2.2.2.1
                      replace p96_0 : _ := And.intro (p96_0.1) (And.intro (p96_0.2.1) (And.intro (p96_0.2.2.1) (And.intro (p96_0.2.2.2.1) (And.intro (p96_0.2.2.2.2.2.1) (p96_0.2.2.2.2.2.2)))))
                      have tN119 := @tk_nx_b tB tn (tk_nx tB tn (tk_nx tB tn tp)) (by omega) (by omega)
                      refine wr_is (k0 := 239) (a := 8) (f := 8) (x := z104) (bl := 0) (bh := 999) (nx := 209) (r1 := 0) (r2 := 0) (r3 := 0) rfl (by decide) rfl (by omega) (by omega) (by decide) g96 rfl (by omega) (fun h120 g120 w120 u120 => ?_)
                      have F121 := F107.then rfl u120
                      refine wi_goto (nx := 212) (r1 := 256) (r2 := 0) (r3 := 0) rfl ?_
                      refine wi_return (nx := 257) (r1 := 0) (r2 := 0) (r3 := 0) rfl rfl ?_
                      have e122 : h120 236 8 = h96 236 8 := (u120 236 8 rfl)
                      have e123 : h120 236 4 = h96 236 4 := (u120 236 4 rfl)
                      have e124 : h120 239 5 = h 239 5 := ((u120 239 5 rfl).trans ((u96 239 5 rfl).trans ((u94 239 5 rfl).trans ((u70 239 5 rfl).trans ((u68 239 5 rfl).trans (u56 239 5 rfl))))))
                      have e125 : h120 239 7 = z78 := ((u120 239 7 rfl).trans ((u96 239 7 rfl).trans w94))
                      have e126 : h120 239 15 = h 239 15 := ((u120 239 15 rfl).trans ((u96 239 15 rfl).trans ((u94 239 15 rfl).trans ((u70 239 15 rfl).trans ((u68 239 15 rfl).trans (u56 239 15 rfl))))))
                      have e127 : h120 239 16 = h 239 16 := ((u120 239 16 rfl).trans ((u96 239 16 rfl).trans ((u94 239 16 rfl).trans ((u70 239 16 rfl).trans ((u68 239 16 rfl).trans (u56 239 16 rfl))))))
                      have e128 : h120 239 17 = h 239 17 := ((u120 239 17 rfl).trans ((u96 239 17 rfl).trans ((u94 239 17 rfl).trans ((u70 239 17 rfl).trans ((u68 239 17 rfl).trans (u56 239 17 rfl))))))
                      have e129 : h120 239 18 = h 239 18 := ((u120 239 18 rfl).trans ((u96 239 18 rfl).trans ((u94 239 18 rfl).trans ((u70 239 18 rfl).trans ((u68 239 18 rfl).trans (u56 239 18 rfl))))))
                      have e130 : h120 236 9 = h96 236 9 := (u120 236 9 rfl)
                      exact k h120 g120 F121 (show (h120 236 8) = 0 ∨ 1 ≤ (h120 236 8) from (Or.inr (by omega))) (show (h 236 4) ≤ (h120 236 4) by omega) (show (h120 236 4) ≤ (h 236 3) by omega) (show 1 ≤ (h120 236 8) ∨ ((h120 239 5) ≤ 9 ∧ 1 ≤ (h120 239 5) ∧ (h120 239 7) ≤ 3 ∧ (h120 239 15) ≤ 6 ∧ (h120 239 16) ≤ 6 ∧ (h120 239 17) ≤ 6 ∧ (h120 239 18) ≤ 6) from (Or.inl (by omega))) (show (h120 236 8) ≠ 0 ∨ (h120 236 9) = -1 from (Or.inl (by omega))) (by unfold tk_stm; (repeat (first | unfold tk_once | unfold tk_wrd | unfold tk_num | unfold tk_rework)); (try dsimp only); rw [if_pos kf20.1]; (repeat (first | unfold tk_once | unfold tk_wrd | unfold tk_num | unfold tk_rework)); (try dsimp only); rw [if_neg wk23.no]; (repeat (first | unfold tk_once | unfold tk_wrd | unfold tk_num | unfold tk_rework)); (try dsimp only); rw [if_neg wk29.no]; (repeat (first | unfold tk_once | unfold tk_wrd | unfold tk_num | unfold tk_rework)); (try dsimp only); rw [if_neg wk35.no]; (repeat (first | unfold tk_once | unfold tk_wrd | unfold tk_num | unfold tk_rework)); (try dsimp only); rw [if_neg wk41.no]; (repeat (first | unfold tk_once | unfold tk_wrd | unfold tk_num | unfold tk_rework)); (try dsimp only); rw [if_neg wk47.no]; (repeat (first | unfold tk_once | unfold tk_wrd | unfold tk_num | unfold tk_rework)); (try dsimp only); rw [if_pos wk53]; (repeat (first | unfold tk_once | unfold tk_wrd | unfold tk_num | unfold tk_rework)); (try dsimp only); rw [if_neg (by omega)]; (repeat (first | unfold tk_once | unfold tk_wrd | unfold tk_num | unfold tk_rework)); (try dsimp only); rw [if_pos dk91]; (repeat (first | unfold tk_once | unfold tk_wrd | unfold tk_num | unfold tk_rework)); (try dsimp only); rw [if_pos dr92]; (repeat (first | unfold tk_once | unfold tk_wrd | unfold tk_num | unfold tk_rework)); (try dsimp only); rw [if_pos dw116]; (repeat (first | unfold tk_once | unfold tk_wrd | unfold tk_num | unfold tk_rework)); (try dsimp only); rw [if_pos dk117]; (repeat (first | unfold tk_once | unfold tk_wrd | unfold tk_num | unfold tk_rework)); (try dsimp only); rw [if_neg dr118.no]; (repeat (first | unfold tk_once | unfold tk_wrd | unfold tk_num | unfold tk_rework)); (try dsimp only); exact tk_ORe (by omega) (by omega) (by omega))
                  ·
                    clear p70_3
                    clear p70_4
                    clear p70_5
                    have dn90 : TKn (tk_kd tB tn (tk_nx tB tn tp) = 2) := p70_0.2.1
                    replace p70_0 : _ := And.intro (p70_0.1) (And.intro (p70_0.2.2.1) (p70_0.2.2.2))
                    refine wr_is (k0 := 239) (a := 7) (f := 7) (x := z78) (bl := 0) (bh := 999) (nx := 192) (r1 := 0) (r2 := 0) (r3 := 0) rfl (by decide) rfl (by omega) (by omega) (by decide) g70 rfl (by omega) (fun h91 g91 w91 u91 => ?_)
                    have F92 := F81.then rfl u91
                    refine wi_aload_n (i := 0) (x := 236) (nx := 193) (r1 := 0) (r2 := 0) (r3 := 0) rfl rfl ?_
                    refine wr_gr (k0 := 236) (x := 239) (nx := 196) (r1 := 11) (r2 := 14) (r3 := 0) rfl rfl (by decide) rfl ⟨rfl, rfl⟩ rfl ?_
                    refine wi_bipush (n := 8) (nx := 198) (r1 := 0) (r2 := 0) (r3 := 0) rfl (by decide) ?_
                    refine wi_aload_n (i := 0) (x := 236) (nx := 199) (r1 := 0) (r2 := 0) (r3 := 0) rfl rfl ?_
                    refine wi_ldc2_w (e := 4370489) (nx := 202) (r1 := 4370489) (r2 := 0) (r3 := 0) rfl (by decide) ?_
                    refine wi_iconst (n := 0) (nx := 203) (r1 := 0) (r2 := 0) (r3 := 0) rfl ?_
                    refine wi_bipush (n := 9) (nx := 205) (r1 := 0) (r2 := 0) (r3 := 0) rfl (by decide) ?_
                    refine wr_V (k0 := 236) (rest := [vi 8, .ref 239]) (as := [.ref 236, vl 4370489, vi 0, vi 9]) (nx := 208) (r1 := 228) (r2 := 3) (r3 := 11) rfl rfl rfl (of_decide_eq_true rfl) rfl rfl (by decide) rfl rfl (of_decide_eq_true rfl) (of_decide_eq_true rfl) ?_
                    have e94 : h91 236 4 = h70 236 4 := (u91 236 4 rfl)
                    have e95 : h91 236 3 = h 236 3 := ((u91 236 3 rfl).trans ((u70 236 3 rfl).trans ((u68 236 3 rfl).trans (u56 236 3 rfl))))
                    have e96 : h91 236 8 = h70 236 8 := (u91 236 8 rfl)
                    have e97 : h91 236 5 = h70 236 5 := (u91 236 5 rfl)
                    have e98 : h91 236 6 = h70 236 6 := (u91 236 6 rfl)
                    have e99 : h91 236 7 = h70 236 7 := (u91 236 7 rfl)
                    have e100 : h91 236 12 = h70 236 12 := (u91 236 12 rfl)
                    have rb102 := RefB.fr u70 rfl rb80
                    have rb103 := RefB.fr u91 rfl rb102
                    refine ct_228_236 hcr  g91 4370489 0 9 (by omega) (by omega) (by omega) (show (h91 236 4) ≤ (h91 236 3) by omega) (show 0 ≤ (tk_nx tB tn tp) by omega) (show (tk_nx tB tn tp) ≤ tn by omega) (show (tk_nx tB tn tp) ≤ tk_nx tB tn (tk_nx tB tn tp) ∧ tk_nx tB tn (tk_nx tB tn tp) ≤ tn from ⟨by omega, by omega⟩) (show 1 ≤ (h91 236 8) ∨ ((h91 236 4) = tk_nx tB tn (tk_nx tB tn tp) ∧ (h91 236 5) = tk_st tB tn (tk_nx tB tn tp) ∧ TKk tB tn (tk_nx tB tn tp) ((h91 236 6)) ((h91 236 7)) ((h91 236 12))) from (Or.inl (by omega))) rb103 (fun h93 z101 g93 u93 (fz101 : 0 ≤ z101 ∧ z101 ≤ 999) (p93_0 : (1 ≤ (h91 236 8) ∧ (h93 236 8) = (h91 236 8) ∧ (h93 236 9) = (h91 236 9)) ∨ ((h91 236 8) = 0 ∧ tk_kd tB tn (tk_nx tB tn tp) = 1 ∧ tk_sw tB tn (tk_nx tB tn tp) = 4370489 ∧ tk_kd tB tn (tk_nx tB tn (tk_nx tB tn tp)) = 2 ∧ 0 ≤ tk_nb tB tn (tk_nx tB tn (tk_nx tB tn tp)) ∧ tk_nb tB tn (tk_nx tB tn (tk_nx tB tn tp)) ≤ 9 ∧ z101 = tk_nb tB tn (tk_nx tB tn (tk_nx tB tn tp)) ∧ (h93 236 8) = (h91 236 8) ∧ (h93 236 9) = (h91 236 9) ∧ ((h93 236 4) = tk_nx tB tn (tk_nx tB tn (tk_nx tB tn (tk_nx tB tn tp))) ∧ (h93 236 5) = tk_st tB tn (tk_nx tB tn (tk_nx tB tn (tk_nx tB tn tp))) ∧ TKk tB tn (tk_nx tB tn (tk_nx tB tn (tk_nx tB tn tp))) ((h93 236 6)) ((h93 236 7)) ((h93 236 12)))) ∨ ((h91 236 8) = 0 ∧ (tk_kd tB tn (tk_nx tB tn tp) ≠ 1 ∨ tk_sw tB tn (tk_nx tB tn tp) ≠ 4370489) ∧ (h93 236 8) = 1 ∧ (h93 236 9) = tk_st tB tn (tk_nx tB tn tp)) ∨ ((h91 236 8) = 0 ∧ tk_kd tB tn (tk_nx tB tn tp) = 1 ∧ tk_sw tB tn (tk_nx tB tn tp) = 4370489 ∧ tk_kd tB tn (tk_nx tB tn (tk_nx tB tn tp)) ≠ 2 ∧ (h93 236 8) = 1 ∧ (h93 236 9) = tk_st tB tn (tk_nx tB tn (tk_nx tB tn tp))) ∨ ((h91 236 8) = 0 ∧ tk_kd tB tn (tk_nx tB tn tp) = 1 ∧ tk_sw tB tn (tk_nx tB tn tp) = 4370489 ∧ tk_kd tB tn (tk_nx tB tn (tk_nx tB tn tp)) = 2 ∧ (tk_nb tB tn (tk_nx tB tn (tk_nx tB tn tp)) < 0 ∨ 9 < tk_nb tB tn (tk_nx tB tn (tk_nx tB tn tp))) ∧ (h93 236 8) = 2 ∧ (h93 236 9) = tk_st tB tn (tk_nx tB tn (tk_nx tB tn tp)))) (p93_1 : (h91 236 4) ≤ (h93 236 4)) (p93_2 : (h93 236 4) ≤ (h91 236 3)) (p93_3 : 1 ≤ (h93 236 8) ∨ (h91 236 8) = 0) (p93_4 : 1 ≤ (h93 236 8) ∨ (0 ≤ z101 ∧ z101 ≤ 9)) => ?_)
                    have F104 := F92.then (by decide +kernel) u93
                    have e105 : h91 236 9 = h70 236 9 := (u91 236 9 rfl)
                    have b106 := gi_b (lo := 0) (hi := 5) g93 236 8 rfl
                    have b107 := gi_b (lo := -2147483648) (hi := 2147483647) g93 236 9 rfl
                    have b108 := gi_b (lo := 0) (hi := 800) g93 236 4 rfl
                    have b109 := gi_b (lo := 0) (hi := 800) g93 236 5 rfl
                    have b110 := gi_b (lo := 0) (hi := 4) g93 236 6 rfl
                    have b111 := gi_b (lo := 0) (hi := 999) g93 236 7 rfl
                    have b112 := gi_b (lo := -9223372036854775808) (hi := 9223372036854775807) g93 236 12 rfl
                    refine wk_i ?_
                    rcases p93_0 with p93_0 | p93_0 | p93_0 | p93_0 | p93_0
                    ·
                      replace p93_3 := p93_3.resolve_right (by omega)
                      clear p93_4
                      refine wr_is (k0 := 239) (a := 8) (f := 8) (x := z101) (bl := 0) (bh := 999) (nx := 209) (r1 := 0) (r2 := 0) (r3 := 0) rfl (by decide) rfl (by omega) (by omega) (by decide) g93 rfl (by omega) (fun h113 g113 w113 u113 => ?_)
                      have F114 := F104.then rfl u113
                      refine wi_goto (nx := 212) (r1 := 256) (r2 := 0) (r3 := 0) rfl ?_
                      refine wi_return (nx := 257) (r1 := 0) (r2 := 0) (r3 := 0) rfl rfl ?_
                      have e115 : h113 236 8 = h93 236 8 := (u113 236 8 rfl)
                      have e116 : h113 236 4 = h93 236 4 := (u113 236 4 rfl)
                      have e117 : h113 239 5 = h 239 5 := ((u113 239 5 rfl).trans ((u93 239 5 rfl).trans ((u91 239 5 rfl).trans ((u70 239 5 rfl).trans ((u68 239 5 rfl).trans (u56 239 5 rfl))))))
                      have e118 : h113 239 7 = z78 := ((u113 239 7 rfl).trans ((u93 239 7 rfl).trans w91))
                      have e119 : h113 239 15 = h 239 15 := ((u113 239 15 rfl).trans ((u93 239 15 rfl).trans ((u91 239 15 rfl).trans ((u70 239 15 rfl).trans ((u68 239 15 rfl).trans (u56 239 15 rfl))))))
                      have e120 : h113 239 16 = h 239 16 := ((u113 239 16 rfl).trans ((u93 239 16 rfl).trans ((u91 239 16 rfl).trans ((u70 239 16 rfl).trans ((u68 239 16 rfl).trans (u56 239 16 rfl))))))
                      have e121 : h113 239 17 = h 239 17 := ((u113 239 17 rfl).trans ((u93 239 17 rfl).trans ((u91 239 17 rfl).trans ((u70 239 17 rfl).trans ((u68 239 17 rfl).trans (u56 239 17 rfl))))))
                      have e122 : h113 239 18 = h 239 18 := ((u113 239 18 rfl).trans ((u93 239 18 rfl).trans ((u91 239 18 rfl).trans ((u70 239 18 rfl).trans ((u68 239 18 rfl).trans (u56 239 18 rfl))))))
                      have e123 : h113 236 9 = h93 236 9 := (u113 236 9 rfl)
                      exact k h113 g113 F114 (show (h113 236 8) = 0 ∨ 1 ≤ (h113 236 8) from (Or.inr (by omega))) (show (h 236 4) ≤ (h113 236 4) by omega) (show (h113 236 4) ≤ (h 236 3) by omega) (show 1 ≤ (h113 236 8) ∨ ((h113 239 5) ≤ 9 ∧ 1 ≤ (h113 239 5) ∧ (h113 239 7) ≤ 3 ∧ (h113 239 15) ≤ 6 ∧ (h113 239 16) ≤ 6 ∧ (h113 239 17) ≤ 6 ∧ (h113 239 18) ≤ 6) from (Or.inl (by omega))) (show (h113 236 8) ≠ 0 ∨ (h113 236 9) = -1 from (Or.inl (by omega))) (by unfold tk_stm; (repeat (first | unfold tk_once | unfold tk_wrd | unfold tk_num | unfold tk_rework)); (try dsimp only); rw [if_pos kf20.1]; (repeat (first | unfold tk_once | unfold tk_wrd | unfold tk_num | unfold tk_rework)); (try dsimp only); rw [if_neg wk23.no]; (repeat (first | unfold tk_once | unfold tk_wrd | unfold tk_num | unfold tk_rework)); (try dsimp only); rw [if_neg wk29.no]; (repeat (first | unfold tk_once | unfold tk_wrd | unfold tk_num | unfold tk_rework)); (try dsimp only); rw [if_neg wk35.no]; (repeat (first | unfold tk_once | unfold tk_wrd | unfold tk_num | unfold tk_rework)); (try dsimp only); rw [if_neg wk41.no]; (repeat (first | unfold tk_once | unfold tk_wrd | unfold tk_num | unfold tk_rework)); (try dsimp only); rw [if_neg wk47.no]; (repeat (first | unfold tk_once | unfold tk_wrd | unfold tk_num | unfold tk_rework)); (try dsimp only); rw [if_pos wk53]; (repeat (first | unfold tk_once | unfold tk_wrd | unfold tk_num | unfold tk_rework)); (try dsimp only); rw [if_neg (by omega)]; (repeat (first | unfold tk_once | unfold tk_wrd | unfold tk_num | unfold tk_rework)); (try dsimp only); rw [if_neg dn90.no]; (repeat (first | unfold tk_once | unfold tk_wrd | unfold tk_num | unfold tk_rework)); (try dsimp only); exact tk_ORe (by omega) (by omega) (by omega))
                    ·
                      have tkk113 := (p93_0.2.2.2.2.2.2.2.2.2).2.2
                      have tN114 := @tk_nx_b tB tn (tk_nx tB tn (tk_nx tB tn tp)) (by omega) (by omega)
                      have tN115 := @tk_nx_b tB tn (tk_nx tB tn (tk_nx tB tn (tk_nx tB tn tp))) (by omega) (by omega)
                      exfalso; omega
                    ·
                      exfalso; omega
                    ·
                      have tN113 := @tk_nx_b tB tn (tk_nx tB tn tp) (by omega) (by omega)
                      exfalso; omega
                    ·
                      have tN113 := @tk_nx_b tB tn (tk_nx tB tn tp) (by omega) (by omega)
                      exfalso; omega
                  ·
                    clear p70_3
                    clear p70_4
                    clear p70_5
                    have dk90 : tk_kd tB tn (tk_nx tB tn tp) = 2 := p70_0.2.1
                    have dr91 : TKn (0 ≤ tk_nb tB tn (tk_nx tB tn tp) ∧ tk_nb tB tn (tk_nx tB tn tp) ≤ 3) := tkn_r p70_0.2.2.1
                    replace p70_0 : _ := And.intro (p70_0.1) (And.intro (p70_0.2.1) (And.intro (p70_0.2.2.2.1) (p70_0.2.2.2.2)))
                    refine wr_is (k0 := 239) (a := 7) (f := 7) (x := z78) (bl := 0) (bh := 999) (nx := 192) (r1 := 0) (r2 := 0) (r3 := 0) rfl (by decide) rfl (by omega) (by omega) (by decide) g70 rfl (by omega) (fun h92 g92 w92 u92 => ?_)
                    have F93 := F81.then rfl u92
                    refine wi_aload_n (i := 0) (x := 236) (nx := 193) (r1 := 0) (r2 := 0) (r3 := 0) rfl rfl ?_
                    refine wr_gr (k0 := 236) (x := 239) (nx := 196) (r1 := 11) (r2 := 14) (r3 := 0) rfl rfl (by decide) rfl ⟨rfl, rfl⟩ rfl ?_
                    refine wi_bipush (n := 8) (nx := 198) (r1 := 0) (r2 := 0) (r3 := 0) rfl (by decide) ?_
                    refine wi_aload_n (i := 0) (x := 236) (nx := 199) (r1 := 0) (r2 := 0) (r3 := 0) rfl rfl ?_
                    refine wi_ldc2_w (e := 4370489) (nx := 202) (r1 := 4370489) (r2 := 0) (r3 := 0) rfl (by decide) ?_
                    refine wi_iconst (n := 0) (nx := 203) (r1 := 0) (r2 := 0) (r3 := 0) rfl ?_
                    refine wi_bipush (n := 9) (nx := 205) (r1 := 0) (r2 := 0) (r3 := 0) rfl (by decide) ?_
                    refine wr_V (k0 := 236) (rest := [vi 8, .ref 239]) (as := [.ref 236, vl 4370489, vi 0, vi 9]) (nx := 208) (r1 := 228) (r2 := 3) (r3 := 11) rfl rfl rfl (of_decide_eq_true rfl) rfl rfl (by decide) rfl rfl (of_decide_eq_true rfl) (of_decide_eq_true rfl) ?_
                    have e95 : h92 236 4 = h70 236 4 := (u92 236 4 rfl)
                    have e96 : h92 236 3 = h 236 3 := ((u92 236 3 rfl).trans ((u70 236 3 rfl).trans ((u68 236 3 rfl).trans (u56 236 3 rfl))))
                    have e97 : h92 236 8 = h70 236 8 := (u92 236 8 rfl)
                    have e98 : h92 236 5 = h70 236 5 := (u92 236 5 rfl)
                    have e99 : h92 236 6 = h70 236 6 := (u92 236 6 rfl)
                    have e100 : h92 236 7 = h70 236 7 := (u92 236 7 rfl)
                    have e101 : h92 236 12 = h70 236 12 := (u92 236 12 rfl)
                    have rb103 := RefB.fr u70 rfl rb80
                    have rb104 := RefB.fr u92 rfl rb103
                    refine ct_228_236 hcr  g92 4370489 0 9 (by omega) (by omega) (by omega) (show (h92 236 4) ≤ (h92 236 3) by omega) (show 0 ≤ (tk_nx tB tn tp) by omega) (show (tk_nx tB tn tp) ≤ tn by omega) (show (tk_nx tB tn tp) ≤ tk_nx tB tn (tk_nx tB tn tp) ∧ tk_nx tB tn (tk_nx tB tn tp) ≤ tn from ⟨by omega, by omega⟩) (show 1 ≤ (h92 236 8) ∨ ((h92 236 4) = tk_nx tB tn (tk_nx tB tn tp) ∧ (h92 236 5) = tk_st tB tn (tk_nx tB tn tp) ∧ TKk tB tn (tk_nx tB tn tp) ((h92 236 6)) ((h92 236 7)) ((h92 236 12))) from (Or.inl (by omega))) rb104 (fun h94 z102 g94 u94 (fz102 : 0 ≤ z102 ∧ z102 ≤ 999) (p94_0 : (1 ≤ (h92 236 8) ∧ (h94 236 8) = (h92 236 8) ∧ (h94 236 9) = (h92 236 9)) ∨ ((h92 236 8) = 0 ∧ tk_kd tB tn (tk_nx tB tn tp) = 1 ∧ tk_sw tB tn (tk_nx tB tn tp) = 4370489 ∧ tk_kd tB tn (tk_nx tB tn (tk_nx tB tn tp)) = 2 ∧ 0 ≤ tk_nb tB tn (tk_nx tB tn (tk_nx tB tn tp)) ∧ tk_nb tB tn (tk_nx tB tn (tk_nx tB tn tp)) ≤ 9 ∧ z102 = tk_nb tB tn (tk_nx tB tn (tk_nx tB tn tp)) ∧ (h94 236 8) = (h92 236 8) ∧ (h94 236 9) = (h92 236 9) ∧ ((h94 236 4) = tk_nx tB tn (tk_nx tB tn (tk_nx tB tn (tk_nx tB tn tp))) ∧ (h94 236 5) = tk_st tB tn (tk_nx tB tn (tk_nx tB tn (tk_nx tB tn tp))) ∧ TKk tB tn (tk_nx tB tn (tk_nx tB tn (tk_nx tB tn tp))) ((h94 236 6)) ((h94 236 7)) ((h94 236 12)))) ∨ ((h92 236 8) = 0 ∧ (tk_kd tB tn (tk_nx tB tn tp) ≠ 1 ∨ tk_sw tB tn (tk_nx tB tn tp) ≠ 4370489) ∧ (h94 236 8) = 1 ∧ (h94 236 9) = tk_st tB tn (tk_nx tB tn tp)) ∨ ((h92 236 8) = 0 ∧ tk_kd tB tn (tk_nx tB tn tp) = 1 ∧ tk_sw tB tn (tk_nx tB tn tp) = 4370489 ∧ tk_kd tB tn (tk_nx tB tn (tk_nx tB tn tp)) ≠ 2 ∧ (h94 236 8) = 1 ∧ (h94 236 9) = tk_st tB tn (tk_nx tB tn (tk_nx tB tn tp))) ∨ ((h92 236 8) = 0 ∧ tk_kd tB tn (tk_nx tB tn tp) = 1 ∧ tk_sw tB tn (tk_nx tB tn tp) = 4370489 ∧ tk_kd tB tn (tk_nx tB tn (tk_nx tB tn tp)) = 2 ∧ (tk_nb tB tn (tk_nx tB tn (tk_nx tB tn tp)) < 0 ∨ 9 < tk_nb tB tn (tk_nx tB tn (tk_nx tB tn tp))) ∧ (h94 236 8) = 2 ∧ (h94 236 9) = tk_st tB tn (tk_nx tB tn (tk_nx tB tn tp)))) (p94_1 : (h92 236 4) ≤ (h94 236 4)) (p94_2 : (h94 236 4) ≤ (h92 236 3)) (p94_3 : 1 ≤ (h94 236 8) ∨ (h92 236 8) = 0) (p94_4 : 1 ≤ (h94 236 8) ∨ (0 ≤ z102 ∧ z102 ≤ 9)) => ?_)
                    have F105 := F93.then (by decide +kernel) u94
                    have e106 : h92 236 9 = h70 236 9 := (u92 236 9 rfl)
                    have b107 := gi_b (lo := 0) (hi := 5) g94 236 8 rfl
                    have b108 := gi_b (lo := -2147483648) (hi := 2147483647) g94 236 9 rfl
                    have b109 := gi_b (lo := 0) (hi := 800) g94 236 4 rfl
                    have b110 := gi_b (lo := 0) (hi := 800) g94 236 5 rfl
                    have b111 := gi_b (lo := 0) (hi := 4) g94 236 6 rfl
                    have b112 := gi_b (lo := 0) (hi := 999) g94 236 7 rfl
                    have b113 := gi_b (lo := -9223372036854775808) (hi := 9223372036854775807) g94 236 12 rfl
                    refine wk_i ?_
                    rcases p94_0 with p94_0 | p94_0 | p94_0 | p94_0 | p94_0
                    ·
                      replace p94_3 := p94_3.resolve_right (by omega)
                      clear p94_4
                      refine wr_is (k0 := 239) (a := 8) (f := 8) (x := z102) (bl := 0) (bh := 999) (nx := 209) (r1 := 0) (r2 := 0) (r3 := 0) rfl (by decide) rfl (by omega) (by omega) (by decide) g94 rfl (by omega) (fun h114 g114 w114 u114 => ?_)
                      have F115 := F105.then rfl u114
                      refine wi_goto (nx := 212) (r1 := 256) (r2 := 0) (r3 := 0) rfl ?_
                      refine wi_return (nx := 257) (r1 := 0) (r2 := 0) (r3 := 0) rfl rfl ?_
                      have e116 : h114 236 8 = h94 236 8 := (u114 236 8 rfl)
                      have e117 : h114 236 4 = h94 236 4 := (u114 236 4 rfl)
                      have e118 : h114 239 5 = h 239 5 := ((u114 239 5 rfl).trans ((u94 239 5 rfl).trans ((u92 239 5 rfl).trans ((u70 239 5 rfl).trans ((u68 239 5 rfl).trans (u56 239 5 rfl))))))
                      have e119 : h114 239 7 = z78 := ((u114 239 7 rfl).trans ((u94 239 7 rfl).trans w92))
                      have e120 : h114 239 15 = h 239 15 := ((u114 239 15 rfl).trans ((u94 239 15 rfl).trans ((u92 239 15 rfl).trans ((u70 239 15 rfl).trans ((u68 239 15 rfl).trans (u56 239 15 rfl))))))
                      have e121 : h114 239 16 = h 239 16 := ((u114 239 16 rfl).trans ((u94 239 16 rfl).trans ((u92 239 16 rfl).trans ((u70 239 16 rfl).trans ((u68 239 16 rfl).trans (u56 239 16 rfl))))))
                      have e122 : h114 239 17 = h 239 17 := ((u114 239 17 rfl).trans ((u94 239 17 rfl).trans ((u92 239 17 rfl).trans ((u70 239 17 rfl).trans ((u68 239 17 rfl).trans (u56 239 17 rfl))))))
                      have e123 : h114 239 18 = h 239 18 := ((u114 239 18 rfl).trans ((u94 239 18 rfl).trans ((u92 239 18 rfl).trans ((u70 239 18 rfl).trans ((u68 239 18 rfl).trans (u56 239 18 rfl))))))
                      have e124 : h114 236 9 = h94 236 9 := (u114 236 9 rfl)
                      exact k h114 g114 F115 (show (h114 236 8) = 0 ∨ 1 ≤ (h114 236 8) from (Or.inr (by omega))) (show (h 236 4) ≤ (h114 236 4) by omega) (show (h114 236 4) ≤ (h 236 3) by omega) (show 1 ≤ (h114 236 8) ∨ ((h114 239 5) ≤ 9 ∧ 1 ≤ (h114 239 5) ∧ (h114 239 7) ≤ 3 ∧ (h114 239 15) ≤ 6 ∧ (h114 239 16) ≤ 6 ∧ (h114 239 17) ≤ 6 ∧ (h114 239 18) ≤ 6) from (Or.inl (by omega))) (show (h114 236 8) ≠ 0 ∨ (h114 236 9) = -1 from (Or.inl (by omega))) (by unfold tk_stm; (repeat (first | unfold tk_once | unfold tk_wrd | unfold tk_num | unfold tk_rework)); (try dsimp only); rw [if_pos kf20.1]; (repeat (first | unfold tk_once | unfold tk_wrd | unfold tk_num | unfold tk_rework)); (try dsimp only); rw [if_neg wk23.no]; (repeat (first | unfold tk_once | unfold tk_wrd | unfold tk_num | unfold tk_rework)); (try dsimp only); rw [if_neg wk29.no]; (repeat (first | unfold tk_once | unfold tk_wrd | unfold tk_num | unfold tk_rework)); (try dsimp only); rw [if_neg wk35.no]; (repeat (first | unfold tk_once | unfold tk_wrd | unfold tk_num | unfold tk_rework)); (try dsimp only); rw [if_neg wk41.no]; (repeat (first | unfold tk_once | unfold tk_wrd | unfold tk_num | unfold tk_rework)); (try dsimp only); rw [if_neg wk47.no]; (repeat (first | unfold tk_once | unfold tk_wrd | unfold tk_num | unfold tk_rework)); (try dsimp only); rw [if_pos wk53]; (repeat (first | unfold tk_once | unfold tk_wrd | unfold tk_num | unfold tk_rework)); (try dsimp only); rw [if_neg (by omega)]; (repeat (first | unfold tk_once | unfold tk_wrd | unfold tk_num | unfold tk_rework)); (try dsimp only); rw [if_pos dk90]; (repeat (first | unfold tk_once | unfold tk_wrd | unfold tk_num | unfold tk_rework)); (try dsimp only); rw [if_neg dr91.no]; (repeat (first | unfold tk_once | unfold tk_wrd | unfold tk_num | unfold tk_rework)); (try dsimp only); exact tk_ORe (by omega) (by omega) (by omega))
                    ·
                      have tkk114 := (p94_0.2.2.2.2.2.2.2.2.2).2.2
                      have tN115 := @tk_nx_b tB tn (tk_nx tB tn (tk_nx tB tn tp)) (by omega) (by omega)
                      have tN116 := @tk_nx_b tB tn (tk_nx tB tn (tk_nx tB tn (tk_nx tB tn tp))) (by omega) (by omega)
                      exfalso; omega
                    ·
                      exfalso; omega
                    ·
                      have tN114 := @tk_nx_b tB tn (tk_nx tB tn tp) (by omega) (by omega)
                      exfalso; omega
                    ·
                      have tN114 := @tk_nx_b tB tn (tk_nx tB tn tp) (by omega) (by omega)
                      exfalso; omega
                ·
                  clear p56_3
                  refine wr_pf2 (k0 := 236) (x := z57) (bl := 0) (bh := 1) (nx := 179) (r1 := 11) (r2 := 25) (r3 := 2) rfl (by decide) rfl ⟨rfl, rfl⟩ rfl (by omega) rfl g56 rfl (by omega) (fun h66 g66 w66 u66 => ?_)
                  have F67 := F58.then rfl u66
                  refine wi_aload_n (i := 0) (x := 236) (nx := 180) (r1 := 0) (r2 := 0) (r3 := 0) rfl rfl ?_
                  refine wr_gr (k0 := 236) (x := 239) (nx := 183) (r1 := 11) (r2 := 14) (r3 := 0) rfl rfl (by decide) rfl ⟨rfl, rfl⟩ rfl ?_
                  refine wi_bipush (n := 7) (nx := 185) (r1 := 0) (r2 := 0) (r3 := 0) rfl (by decide) ?_
                  refine wi_aload_n (i := 0) (x := 236) (nx := 186) (r1 := 0) (r2 := 0) (r3 := 0) rfl rfl ?_
                  refine wi_iconst (n := 0) (nx := 187) (r1 := 0) (r2 := 0) (r3 := 0) rfl ?_
                  refine wi_iconst (n := 3) (nx := 188) (r1 := 0) (r2 := 0) (r3 := 0) rfl ?_
                  refine wr_V (k0 := 236) (rest := [vi 7, .ref 239]) (as := [.ref 236, vi 0, vi 3]) (nx := 191) (r1 := 231) (r2 := 2) (r3 := 11) rfl rfl rfl (of_decide_eq_true rfl) rfl rfl (by decide) rfl rfl (of_decide_eq_true rfl) (of_decide_eq_true rfl) ?_
                  have e69 : h66 236 4 = h56 236 4 := (u66 236 4 rfl)
                  have e70 : h66 236 3 = h 236 3 := ((u66 236 3 rfl).trans (u56 236 3 rfl))
                  have e71 : h66 236 8 = h56 236 8 := (u66 236 8 rfl)
                  have e72 : h66 236 5 = h56 236 5 := (u66 236 5 rfl)
                  have e73 : h66 236 6 = h56 236 6 := (u66 236 6 rfl)
                  have e74 : h66 236 7 = h56 236 7 := (u66 236 7 rfl)
                  have e75 : h66 236 12 = h56 236 12 := (u66 236 12 rfl)
                  have rb77 := RefB.fr u56 rfl xq0
                  have rb78 := RefB.fr u66 rfl rb77
                  refine ct_231_236 hcr  g66 0 3 (by omega) (by omega) (show (h66 236 4) ≤ (h66 236 3) by omega) (show 0 ≤ tp by omega) (show tp ≤ tn by omega) (show tp ≤ tk_nx tB tn tp ∧ tk_nx tB tn tp ≤ tn from ⟨by omega, by omega⟩) (show 1 ≤ (h66 236 8) ∨ ((h66 236 4) = tk_nx tB tn tp ∧ (h66 236 5) = tk_st tB tn tp ∧ TKk tB tn tp ((h66 236 6)) ((h66 236 7)) ((h66 236 12))) from (Or.inl (by omega))) rb78 (fun h68 z76 g68 u68 (fz76 : 0 ≤ z76 ∧ z76 ≤ 999) (p68_0 : (1 ≤ (h66 236 8) ∧ (h68 236 8) = (h66 236 8) ∧ (h68 236 9) = (h66 236 9)) ∨ ((h66 236 8) = 0 ∧ tk_kd tB tn tp = 2 ∧ 0 ≤ tk_nb tB tn tp ∧ tk_nb tB tn tp ≤ 3 ∧ z76 = tk_nb tB tn tp ∧ (h68 236 8) = (h66 236 8) ∧ (h68 236 9) = (h66 236 9) ∧ ((h68 236 4) = tk_nx tB tn (tk_nx tB tn tp) ∧ (h68 236 5) = tk_st tB tn (tk_nx tB tn tp) ∧ TKk tB tn (tk_nx tB tn tp) ((h68 236 6)) ((h68 236 7)) ((h68 236 12)))) ∨ ((h66 236 8) = 0 ∧ tk_kd tB tn tp ≠ 2 ∧ (h68 236 8) = 1 ∧ (h68 236 9) = tk_st tB tn tp) ∨ ((h66 236 8) = 0 ∧ tk_kd tB tn tp = 2 ∧ (tk_nb tB tn tp < 0 ∨ 3 < tk_nb tB tn tp) ∧ (h68 236 8) = 2 ∧ (h68 236 9) = tk_st tB tn tp)) (p68_1 : (h66 236 4) ≤ (h68 236 4)) (p68_2 : (h68 236 4) ≤ (h66 236 3)) (p68_3 : 1 ≤ (h68 236 8) ∨ (h66 236 8) = 0) (p68_4 : 1 ≤ (h68 236 8) ∨ (0 ≤ z76 ∧ z76 ≤ 3)) (p68_5 : 1 ≤ (h68 236 8) ∨ (h66 236 6) = 2) => ?_)
                  have F79 := F67.then (by decide +kernel) u68
                  have e80 : h66 236 9 = h56 236 9 := (u66 236 9 rfl)
                  have b81 := gi_b (lo := 0) (hi := 5) g68 236 8 rfl
                  have b82 := gi_b (lo := -2147483648) (hi := 2147483647) g68 236 9 rfl
                  have b83 := gi_b (lo := 0) (hi := 800) g68 236 4 rfl
                  have b84 := gi_b (lo := 0) (hi := 800) g68 236 5 rfl
                  have b85 := gi_b (lo := 0) (hi := 4) g68 236 6 rfl
                  have b86 := gi_b (lo := 0) (hi := 999) g68 236 7 rfl
                  have b87 := gi_b (lo := -9223372036854775808) (hi := 9223372036854775807) g68 236 12 rfl
                  refine wk_i ?_
                  rcases p68_0 with p68_0 | p68_0 | p68_0 | p68_0
                  ·
                    replace p68_3 := p68_3.resolve_right (by omega)
                    clear p68_4
                    clear p68_5
                    refine wr_is (k0 := 239) (a := 7) (f := 7) (x := z76) (bl := 0) (bh := 999) (nx := 192) (r1 := 0) (r2 := 0) (r3 := 0) rfl (by decide) rfl (by omega) (by omega) (by decide) g68 rfl (by omega) (fun h88 g88 w88 u88 => ?_)
                    have F89 := F79.then rfl u88
                    refine wi_aload_n (i := 0) (x := 236) (nx := 193) (r1 := 0) (r2 := 0) (r3 := 0) rfl rfl ?_
                    refine wr_gr (k0 := 236) (x := 239) (nx := 196) (r1 := 11) (r2 := 14) (r3 := 0) rfl rfl (by decide) rfl ⟨rfl, rfl⟩ rfl ?_
                    refine wi_bipush (n := 8) (nx := 198) (r1 := 0) (r2 := 0) (r3 := 0) rfl (by decide) ?_
                    refine wi_aload_n (i := 0) (x := 236) (nx := 199) (r1 := 0) (r2 := 0) (r3 := 0) rfl rfl ?_
                    refine wi_ldc2_w (e := 4370489) (nx := 202) (r1 := 4370489) (r2 := 0) (r3 := 0) rfl (by decide) ?_
                    refine wi_iconst (n := 0) (nx := 203) (r1 := 0) (r2 := 0) (r3 := 0) rfl ?_
                    refine wi_bipush (n := 9) (nx := 205) (r1 := 0) (r2 := 0) (r3 := 0) rfl (by decide) ?_
                    refine wr_V (k0 := 236) (rest := [vi 8, .ref 239]) (as := [.ref 236, vl 4370489, vi 0, vi 9]) (nx := 208) (r1 := 228) (r2 := 3) (r3 := 11) rfl rfl rfl (of_decide_eq_true rfl) rfl rfl (by decide) rfl rfl (of_decide_eq_true rfl) (of_decide_eq_true rfl) ?_
                    have e91 : h88 236 4 = h68 236 4 := (u88 236 4 rfl)
                    have e92 : h88 236 3 = h 236 3 := ((u88 236 3 rfl).trans ((u68 236 3 rfl).trans ((u66 236 3 rfl).trans (u56 236 3 rfl))))
                    have e93 : h88 236 8 = h68 236 8 := (u88 236 8 rfl)
                    have e94 : h88 236 5 = h68 236 5 := (u88 236 5 rfl)
                    have e95 : h88 236 6 = h68 236 6 := (u88 236 6 rfl)
                    have e96 : h88 236 7 = h68 236 7 := (u88 236 7 rfl)
                    have e97 : h88 236 12 = h68 236 12 := (u88 236 12 rfl)
                    have rb99 := RefB.fr u68 rfl rb78
                    have rb100 := RefB.fr u88 rfl rb99
                    refine ct_228_236 hcr  g88 4370489 0 9 (by omega) (by omega) (by omega) (show (h88 236 4) ≤ (h88 236 3) by omega) (show 0 ≤ tp by omega) (show tp ≤ tn by omega) (show tp ≤ tk_nx tB tn tp ∧ tk_nx tB tn tp ≤ tn from ⟨by omega, by omega⟩) (show 1 ≤ (h88 236 8) ∨ ((h88 236 4) = tk_nx tB tn tp ∧ (h88 236 5) = tk_st tB tn tp ∧ TKk tB tn tp ((h88 236 6)) ((h88 236 7)) ((h88 236 12))) from (Or.inl (by omega))) rb100 (fun h90 z98 g90 u90 (fz98 : 0 ≤ z98 ∧ z98 ≤ 999) (p90_0 : (1 ≤ (h88 236 8) ∧ (h90 236 8) = (h88 236 8) ∧ (h90 236 9) = (h88 236 9)) ∨ ((h88 236 8) = 0 ∧ tk_kd tB tn tp = 1 ∧ tk_sw tB tn tp = 4370489 ∧ tk_kd tB tn (tk_nx tB tn tp) = 2 ∧ 0 ≤ tk_nb tB tn (tk_nx tB tn tp) ∧ tk_nb tB tn (tk_nx tB tn tp) ≤ 9 ∧ z98 = tk_nb tB tn (tk_nx tB tn tp) ∧ (h90 236 8) = (h88 236 8) ∧ (h90 236 9) = (h88 236 9) ∧ ((h90 236 4) = tk_nx tB tn (tk_nx tB tn (tk_nx tB tn tp)) ∧ (h90 236 5) = tk_st tB tn (tk_nx tB tn (tk_nx tB tn tp)) ∧ TKk tB tn (tk_nx tB tn (tk_nx tB tn tp)) ((h90 236 6)) ((h90 236 7)) ((h90 236 12)))) ∨ ((h88 236 8) = 0 ∧ (tk_kd tB tn tp ≠ 1 ∨ tk_sw tB tn tp ≠ 4370489) ∧ (h90 236 8) = 1 ∧ (h90 236 9) = tk_st tB tn tp) ∨ ((h88 236 8) = 0 ∧ tk_kd tB tn tp = 1 ∧ tk_sw tB tn tp = 4370489 ∧ tk_kd tB tn (tk_nx tB tn tp) ≠ 2 ∧ (h90 236 8) = 1 ∧ (h90 236 9) = tk_st tB tn (tk_nx tB tn tp)) ∨ ((h88 236 8) = 0 ∧ tk_kd tB tn tp = 1 ∧ tk_sw tB tn tp = 4370489 ∧ tk_kd tB tn (tk_nx tB tn tp) = 2 ∧ (tk_nb tB tn (tk_nx tB tn tp) < 0 ∨ 9 < tk_nb tB tn (tk_nx tB tn tp)) ∧ (h90 236 8) = 2 ∧ (h90 236 9) = tk_st tB tn (tk_nx tB tn tp))) (p90_1 : (h88 236 4) ≤ (h90 236 4)) (p90_2 : (h90 236 4) ≤ (h88 236 3)) (p90_3 : 1 ≤ (h90 236 8) ∨ (h88 236 8) = 0) (p90_4 : 1 ≤ (h90 236 8) ∨ (0 ≤ z98 ∧ z98 ≤ 9)) => ?_)
                    have F101 := F89.then (by decide +kernel) u90
                    have e102 : h88 236 9 = h68 236 9 := (u88 236 9 rfl)
                    have b103 := gi_b (lo := 0) (hi := 5) g90 236 8 rfl
                    have b104 := gi_b (lo := -2147483648) (hi := 2147483647) g90 236 9 rfl
                    have b105 := gi_b (lo := 0) (hi := 800) g90 236 4 rfl
                    have b106 := gi_b (lo := 0) (hi := 800) g90 236 5 rfl
                    have b107 := gi_b (lo := 0) (hi := 4) g90 236 6 rfl
                    have b108 := gi_b (lo := 0) (hi := 999) g90 236 7 rfl
                    have b109 := gi_b (lo := -9223372036854775808) (hi := 9223372036854775807) g90 236 12 rfl
                    refine wk_i ?_
                    rcases p90_0 with p90_0 | p90_0 | p90_0 | p90_0 | p90_0
                    ·
                      replace p90_3 := p90_3.resolve_right (by omega)
                      clear p90_4
                      refine wr_is (k0 := 239) (a := 8) (f := 8) (x := z98) (bl := 0) (bh := 999) (nx := 209) (r1 := 0) (r2 := 0) (r3 := 0) rfl (by decide) rfl (by omega) (by omega) (by decide) g90 rfl (by omega) (fun h110 g110 w110 u110 => ?_)
                      have F111 := F101.then rfl u110
                      refine wi_goto (nx := 212) (r1 := 256) (r2 := 0) (r3 := 0) rfl ?_
                      refine wi_return (nx := 257) (r1 := 0) (r2 := 0) (r3 := 0) rfl rfl ?_
                      have e112 : h110 236 8 = h90 236 8 := (u110 236 8 rfl)
                      have e113 : h110 236 4 = h90 236 4 := (u110 236 4 rfl)
                      have e114 : h110 239 5 = h 239 5 := ((u110 239 5 rfl).trans ((u90 239 5 rfl).trans ((u88 239 5 rfl).trans ((u68 239 5 rfl).trans ((u66 239 5 rfl).trans (u56 239 5 rfl))))))
                      have e115 : h110 239 7 = z76 := ((u110 239 7 rfl).trans ((u90 239 7 rfl).trans w88))
                      have e116 : h110 239 15 = h 239 15 := ((u110 239 15 rfl).trans ((u90 239 15 rfl).trans ((u88 239 15 rfl).trans ((u68 239 15 rfl).trans ((u66 239 15 rfl).trans (u56 239 15 rfl))))))
                      have e117 : h110 239 16 = h 239 16 := ((u110 239 16 rfl).trans ((u90 239 16 rfl).trans ((u88 239 16 rfl).trans ((u68 239 16 rfl).trans ((u66 239 16 rfl).trans (u56 239 16 rfl))))))
                      have e118 : h110 239 17 = h 239 17 := ((u110 239 17 rfl).trans ((u90 239 17 rfl).trans ((u88 239 17 rfl).trans ((u68 239 17 rfl).trans ((u66 239 17 rfl).trans (u56 239 17 rfl))))))
                      have e119 : h110 239 18 = h 239 18 := ((u110 239 18 rfl).trans ((u90 239 18 rfl).trans ((u88 239 18 rfl).trans ((u68 239 18 rfl).trans ((u66 239 18 rfl).trans (u56 239 18 rfl))))))
                      have e120 : h110 236 9 = h90 236 9 := (u110 236 9 rfl)
                      exact k h110 g110 F111 (show (h110 236 8) = 0 ∨ 1 ≤ (h110 236 8) from (Or.inr (by omega))) (show (h 236 4) ≤ (h110 236 4) by omega) (show (h110 236 4) ≤ (h 236 3) by omega) (show 1 ≤ (h110 236 8) ∨ ((h110 239 5) ≤ 9 ∧ 1 ≤ (h110 239 5) ∧ (h110 239 7) ≤ 3 ∧ (h110 239 15) ≤ 6 ∧ (h110 239 16) ≤ 6 ∧ (h110 239 17) ≤ 6 ∧ (h110 239 18) ≤ 6) from (Or.inl (by omega))) (show (h110 236 8) ≠ 0 ∨ (h110 236 9) = -1 from (Or.inl (by omega))) (by unfold tk_stm; (repeat (first | unfold tk_once | unfold tk_wrd | unfold tk_num | unfold tk_rework)); (try dsimp only); rw [if_pos kf20.1]; (repeat (first | unfold tk_once | unfold tk_wrd | unfold tk_num | unfold tk_rework)); (try dsimp only); rw [if_neg wk23.no]; (repeat (first | unfold tk_once | unfold tk_wrd | unfold tk_num | unfold tk_rework)); (try dsimp only); rw [if_neg wk29.no]; (repeat (first | unfold tk_once | unfold tk_wrd | unfold tk_num | unfold tk_rework)); (try dsimp only); rw [if_neg wk35.no]; (repeat (first | unfold tk_once | unfold tk_wrd | unfold tk_num | unfold tk_rework)); (try dsimp only); rw [if_neg wk41.no]; (repeat (first | unfold tk_once | unfold tk_wrd | unfold tk_num | unfold tk_rework)); (try dsimp only); rw [if_neg wk47.no]; (repeat (first | unfold tk_once | unfold tk_wrd | unfold tk_num | unfold tk_rework)); (try dsimp only); rw [if_pos wk53]; (repeat (first | unfold tk_once | unfold tk_wrd | unfold tk_num | unfold tk_rework)); (try dsimp only); rw [if_pos (by omega)]; (repeat (first | unfold tk_once | unfold tk_wrd | unfold tk_num | unfold tk_rework)); (try dsimp only); exact tk_ORe (by omega) (by omega) (by omega))
                    ·
                      have tkk110 := (p90_0.2.2.2.2.2.2.2.2.2).2.2
                      have tN111 := @tk_nx_b tB tn (tk_nx tB tn tp) (by omega) (by omega)
                      have tN112 := @tk_nx_b tB tn (tk_nx tB tn (tk_nx tB tn tp)) (by omega) (by omega)
                      exfalso; omega
                    ·
                      exfalso; omega
                    ·
                      have tN110 := @tk_nx_b tB tn tp (by omega) (by omega)
                      exfalso; omega
                    ·
                      have tN110 := @tk_nx_b tB tn tp (by omega) (by omega)
                      exfalso; omega
                  ·
                    have tkk88 := (p68_0.2.2.2.2.2.2.2).2.2
                    have tN89 := @tk_nx_b tB tn (tk_nx tB tn tp) (by omega) (by omega)
                    exfalso; omega
                  ·
                    exfalso; omega
                  ·
                    exfalso; omega
            ·
              have wk47 : tk_wd (tk_lw tB tn tp) = 8 := (tk_wcp 7 (K := 2150504) (by decide) rfl rfl (by omega) (by omega) (show tk_kd tB tn tp = 1 by omega) (show tk_sw tB tn tp = 2150504 by omega)).2
              clear q46 fr45
              refine wi_iconst (n := 1) (nx := 25) (r1 := 0) (r2 := 0) (r3 := 0) rfl ?_
              refine wi_goto (nx := 28) (r1 := 29) (r2 := 0) (r3 := 0) rfl ?_
              refine wi_zreturn (nx := 30) (r1 := 0) (r2 := 0) (r3 := 0) rfl rfl (by omega) ?_
              refine wk_i ?_
              refine wi_if (cd := .eq) (nx := 112) (r1 := 157) (r2 := 0) (r3 := 0) rfl (by omega) (fun (q48 : 1 = 0) => by exfalso; omega) (fun (q48 : ¬ (1 = 0)) => ?_)
              refine wi_aload_n (i := 0) (x := 236) (nx := 113) (r1 := 0) (r2 := 0) (r3 := 0) rfl rfl ?_
              refine wi_aload_n (i := 0) (x := 236) (nx := 114) (r1 := 0) (r2 := 0) (r3 := 0) rfl rfl ?_
              refine wi_aload_n (i := 0) (x := 236) (nx := 115) (r1 := 0) (r2 := 0) (r3 := 0) rfl rfl ?_
              have b49 := gi_b (lo := 0) (hi := 1) g 236 24 rfl
              refine wr_gi2 (k0 := 236) (x := h 236 24) (nx := 118) (r1 := 11) (r2 := 24) (r3 := 0) rfl rfl (by decide) rfl ⟨rfl, rfl⟩ rfl rfl ?_
              refine wr_V (k0 := 236) (rest := [.ref 236]) (as := [.ref 236, vi (h 236 24)]) (nx := 121) (r1 := 234) (r2 := 1) (r3 := 11) rfl rfl rfl (of_decide_eq_true rfl) rfl rfl (by decide) rfl rfl (of_decide_eq_true rfl) (of_decide_eq_true rfl) ?_
              refine ct_234_236 hcr  g (h 236 24) (by omega) (show (h 236 4) ≤ (h 236 3) by omega) (show 0 ≤ tp by omega) (show tp ≤ tn by omega) (show tp ≤ tk_nx tB tn tp ∧ tk_nx tB tn tp ≤ tn from ⟨by omega, by omega⟩) (show 1 ≤ (h 236 8) ∨ ((h 236 4) = tk_nx tB tn tp ∧ (h 236 5) = tk_st tB tn tp ∧ TKk tB tn tp ((h 236 6)) ((h 236 7)) ((h 236 12))) from (Or.inr (show ((h 236 4) = tk_nx tB tn tp ∧ (h 236 5) = tk_st tB tn tp ∧ TKk tB tn tp ((h 236 6)) ((h 236 7)) ((h 236 12))) by first | assumption | exact ⟨by omega, by omega, TKk.mv (by assumption) (by omega) (by omega) (by omega)⟩))) (show tk_kd tB tn tp = 1 by omega) xq0 (fun h50 z51 g50 u50 (fz51 : 1 ≤ z51 ∧ z51 ≤ 1) (p50_0 : (1 ≤ (h 236 8) ∧ (h50 236 8) = (h 236 8) ∧ (h50 236 9) = (h 236 9)) ∨ ((h 236 8) = 0 ∧ (h 236 24) = 0 ∧ (h50 236 8) = (h 236 8) ∧ (h50 236 9) = (h 236 9) ∧ ((h50 236 4) = tk_nx tB tn (tk_nx tB tn tp) ∧ (h50 236 5) = tk_st tB tn (tk_nx tB tn tp) ∧ TKk tB tn (tk_nx tB tn tp) ((h50 236 6)) ((h50 236 7)) ((h50 236 12)))) ∨ ((h 236 8) = 0 ∧ (h 236 24) = 1 ∧ (h50 236 8) = 3 ∧ (h50 236 9) = tk_st tB tn tp)) (p50_1 : (h 236 4) ≤ (h50 236 4)) (p50_2 : (h50 236 4) ≤ (h 236 3)) (p50_3 : 1 ≤ (h50 236 8) ∨ (h 236 8) = 0) (p50_4 : z51 = 1) => ?_)
              have F52 := F0.then (by decide +kernel) u50
              have b53 := gi_b (lo := 0) (hi := 5) g50 236 8 rfl
              have b54 := gi_b (lo := -2147483648) (hi := 2147483647) g50 236 9 rfl
              have b55 := gi_b (lo := 0) (hi := 800) g50 236 4 rfl
              have b56 := gi_b (lo := 0) (hi := 800) g50 236 5 rfl
              have b57 := gi_b (lo := 0) (hi := 4) g50 236 6 rfl
              have b58 := gi_b (lo := 0) (hi := 999) g50 236 7 rfl
              have b59 := gi_b (lo := -9223372036854775808) (hi := 9223372036854775807) g50 236 12 rfl
              refine wk_i ?_
              rcases p50_0 with p50_0 | p50_0 | p50_0
              ·
                exfalso; omega
              ·
                replace p50_3 := p50_3.resolve_left (by omega)
                have tkk60 := (p50_0.2.2.2.2).2.2
                have tN61 := @tk_nx_b tB tn (tk_nx tB tn tp) (by omega) (by omega)
                refine wr_pf2 (k0 := 236) (x := z51) (bl := 0) (bh := 1) (nx := 124) (r1 := 11) (r2 := 24) (r3 := 2) rfl (by decide) rfl ⟨rfl, rfl⟩ rfl (by omega) rfl g50 rfl (by omega) (fun h62 g62 w62 u62 => ?_)
                have F63 := F52.then rfl u62
                refine wi_aload_n (i := 0) (x := 236) (nx := 125) (r1 := 0) (r2 := 0) (r3 := 0) rfl rfl ?_
                refine wr_gr (k0 := 236) (x := 239) (nx := 128) (r1 := 11) (r2 := 14) (r3 := 0) rfl rfl (by decide) rfl ⟨rfl, rfl⟩ rfl ?_
                refine wi_iconst (n := 5) (nx := 129) (r1 := 0) (r2 := 0) (r3 := 0) rfl ?_
                refine wi_aload_n (i := 0) (x := 236) (nx := 130) (r1 := 0) (r2 := 0) (r3 := 0) rfl rfl ?_
                refine wi_iconst (n := 1) (nx := 131) (r1 := 0) (r2 := 0) (r3 := 0) rfl ?_
                refine wi_bipush (n := 9) (nx := 133) (r1 := 0) (r2 := 0) (r3 := 0) rfl (by decide) ?_
                refine wr_V (k0 := 236) (rest := [vi 5, .ref 239]) (as := [.ref 236, vi 1, vi 9]) (nx := 136) (r1 := 231) (r2 := 2) (r3 := 11) rfl rfl rfl (of_decide_eq_true rfl) rfl rfl (by decide) rfl rfl (of_decide_eq_true rfl) (of_decide_eq_true rfl) ?_
                have e65 : h62 236 4 = h50 236 4 := (u62 236 4 rfl)
                have e66 : h62 236 3 = h 236 3 := ((u62 236 3 rfl).trans (u50 236 3 rfl))
                have e67 : h62 236 8 = h50 236 8 := (u62 236 8 rfl)
                have e68 : h62 236 5 = h50 236 5 := (u62 236 5 rfl)
                have e69 : h62 236 6 = h50 236 6 := (u62 236 6 rfl)
                have e70 : h62 236 7 = h50 236 7 := (u62 236 7 rfl)
                have e71 : h62 236 12 = h50 236 12 := (u62 236 12 rfl)
                have rb73 := RefB.fr u50 rfl xq0
                have rb74 := RefB.fr u62 rfl rb73
                refine ct_231_236 hcr  g62 1 9 (by omega) (by omega) (show (h62 236 4) ≤ (h62 236 3) by omega) (show 0 ≤ (tk_nx tB tn tp) by omega) (show (tk_nx tB tn tp) ≤ tn by omega) (show (tk_nx tB tn tp) ≤ tk_nx tB tn (tk_nx tB tn tp) ∧ tk_nx tB tn (tk_nx tB tn tp) ≤ tn from ⟨by omega, by omega⟩) (show 1 ≤ (h62 236 8) ∨ ((h62 236 4) = tk_nx tB tn (tk_nx tB tn tp) ∧ (h62 236 5) = tk_st tB tn (tk_nx tB tn tp) ∧ TKk tB tn (tk_nx tB tn tp) ((h62 236 6)) ((h62 236 7)) ((h62 236 12))) from (Or.inr (show ((h62 236 4) = tk_nx tB tn (tk_nx tB tn tp) ∧ (h62 236 5) = tk_st tB tn (tk_nx tB tn tp) ∧ TKk tB tn (tk_nx tB tn tp) ((h62 236 6)) ((h62 236 7)) ((h62 236 12))) by first | assumption | exact ⟨by omega, by omega, TKk.mv (by assumption) (by omega) (by omega) (by omega)⟩))) rb74 (fun h64 z72 g64 u64 (fz72 : 0 ≤ z72 ∧ z72 ≤ 999) (p64_0 : (1 ≤ (h62 236 8) ∧ (h64 236 8) = (h62 236 8) ∧ (h64 236 9) = (h62 236 9)) ∨ ((h62 236 8) = 0 ∧ tk_kd tB tn (tk_nx tB tn tp) = 2 ∧ 1 ≤ tk_nb tB tn (tk_nx tB tn tp) ∧ tk_nb tB tn (tk_nx tB tn tp) ≤ 9 ∧ z72 = tk_nb tB tn (tk_nx tB tn tp) ∧ (h64 236 8) = (h62 236 8) ∧ (h64 236 9) = (h62 236 9) ∧ ((h64 236 4) = tk_nx tB tn (tk_nx tB tn (tk_nx tB tn tp)) ∧ (h64 236 5) = tk_st tB tn (tk_nx tB tn (tk_nx tB tn tp)) ∧ TKk tB tn (tk_nx tB tn (tk_nx tB tn tp)) ((h64 236 6)) ((h64 236 7)) ((h64 236 12)))) ∨ ((h62 236 8) = 0 ∧ tk_kd tB tn (tk_nx tB tn tp) ≠ 2 ∧ (h64 236 8) = 1 ∧ (h64 236 9) = tk_st tB tn (tk_nx tB tn tp)) ∨ ((h62 236 8) = 0 ∧ tk_kd tB tn (tk_nx tB tn tp) = 2 ∧ (tk_nb tB tn (tk_nx tB tn tp) < 1 ∨ 9 < tk_nb tB tn (tk_nx tB tn tp)) ∧ (h64 236 8) = 2 ∧ (h64 236 9) = tk_st tB tn (tk_nx tB tn tp))) (p64_1 : (h62 236 4) ≤ (h64 236 4)) (p64_2 : (h64 236 4) ≤ (h62 236 3)) (p64_3 : 1 ≤ (h64 236 8) ∨ (h62 236 8) = 0) (p64_4 : 1 ≤ (h64 236 8) ∨ (1 ≤ z72 ∧ z72 ≤ 9)) (p64_5 : 1 ≤ (h64 236 8) ∨ (h62 236 6) = 2) => ?_)
                have F75 := F63.then (by decide +kernel) u64
                have e76 : h62 236 9 = h50 236 9 := (u62 236 9 rfl)
                have b77 := gi_b (lo := 0) (hi := 5) g64 236 8 rfl
                have b78 := gi_b (lo := -2147483648) (hi := 2147483647) g64 236 9 rfl
                have b79 := gi_b (lo := 0) (hi := 800) g64 236 4 rfl
                have b80 := gi_b (lo := 0) (hi := 800) g64 236 5 rfl
                have b81 := gi_b (lo := 0) (hi := 4) g64 236 6 rfl
                have b82 := gi_b (lo := 0) (hi := 999) g64 236 7 rfl
                have b83 := gi_b (lo := -9223372036854775808) (hi := 9223372036854775807) g64 236 12 rfl
                refine wk_i ?_
                rcases p64_0 with p64_0 | p64_0 | p64_0 | p64_0
                ·
                  exfalso; omega
                ·
                  replace p64_3 := p64_3.resolve_left (by omega)
                  replace p64_4 := p64_4.resolve_left (by omega)
                  replace p64_5 := p64_5.resolve_left (by omega)
                  have tkk84 := (p64_0.2.2.2.2.2.2.2).2.2
                  have dk85 : tk_kd tB tn (tk_nx tB tn tp) = 2 := p64_0.2.1
                  have dr86 : 1 ≤ tk_nb tB tn (tk_nx tB tn tp) ∧ tk_nb tB tn (tk_nx tB tn tp) ≤ 9 := ⟨p64_0.2.2.1, p64_0.2.2.2.1⟩
                  have tN87 := @tk_nx_b tB tn (tk_nx tB tn (tk_nx tB tn tp)) (by omega) (by omega)
                  refine wr_is (k0 := 239) (a := 5) (f := 5) (x := z72) (bl := 0) (bh := 999) (nx := 137) (r1 := 0) (r2 := 0) (r3 := 0) rfl (by decide) rfl (by omega) (by omega) (by decide) g64 rfl (by omega) (fun h88 g88 w88 u88 => ?_)
                  have F89 := F75.then rfl u88
                  refine wi_aload_n (i := 0) (x := 236) (nx := 138) (r1 := 0) (r2 := 0) (r3 := 0) rfl rfl ?_
                  refine wr_gr (k0 := 236) (x := 239) (nx := 141) (r1 := 11) (r2 := 14) (r3 := 0) rfl rfl (by decide) rfl ⟨rfl, rfl⟩ rfl ?_
                  refine wi_bipush (n := 6) (nx := 143) (r1 := 0) (r2 := 0) (r3 := 0) rfl (by decide) ?_
                  refine wi_aload_n (i := 0) (x := 236) (nx := 144) (r1 := 0) (r2 := 0) (r3 := 0) rfl rfl ?_
                  refine wi_ldc2_w (e := 17484005) (nx := 147) (r1 := 17484005) (r2 := 0) (r3 := 0) rfl (by decide) ?_
                  refine wi_iconst (n := 0) (nx := 148) (r1 := 0) (r2 := 0) (r3 := 0) rfl ?_
                  refine wi_bipush (n := 99) (nx := 150) (r1 := 0) (r2 := 0) (r3 := 0) rfl (by decide) ?_
                  refine wr_V (k0 := 236) (rest := [vi 6, .ref 239]) (as := [.ref 236, vl 17484005, vi 0, vi 99]) (nx := 153) (r1 := 228) (r2 := 3) (r3 := 11) rfl rfl rfl (of_decide_eq_true rfl) rfl rfl (by decide) rfl rfl (of_decide_eq_true rfl) (of_decide_eq_true rfl) ?_
                  have e91 : h88 236 4 = h64 236 4 := (u88 236 4 rfl)
                  have e92 : h88 236 3 = h 236 3 := ((u88 236 3 rfl).trans ((u64 236 3 rfl).trans ((u62 236 3 rfl).trans (u50 236 3 rfl))))
                  have e93 : h88 236 8 = h64 236 8 := (u88 236 8 rfl)
                  have e94 : h88 236 5 = h64 236 5 := (u88 236 5 rfl)
                  have e95 : h88 236 6 = h64 236 6 := (u88 236 6 rfl)
                  have e96 : h88 236 7 = h64 236 7 := (u88 236 7 rfl)
                  have e97 : h88 236 12 = h64 236 12 := (u88 236 12 rfl)
                  have rb99 := RefB.fr u64 rfl rb74
                  have rb100 := RefB.fr u88 rfl rb99
                  refine ct_228_236 hcr  g88 17484005 0 99 (by omega) (by omega) (by omega) (show (h88 236 4) ≤ (h88 236 3) by omega) (show 0 ≤ (tk_nx tB tn (tk_nx tB tn tp)) by omega) (show (tk_nx tB tn (tk_nx tB tn tp)) ≤ tn by omega) (show (tk_nx tB tn (tk_nx tB tn tp)) ≤ tk_nx tB tn (tk_nx tB tn (tk_nx tB tn tp)) ∧ tk_nx tB tn (tk_nx tB tn (tk_nx tB tn tp)) ≤ tn from ⟨by omega, by omega⟩) (show 1 ≤ (h88 236 8) ∨ ((h88 236 4) = tk_nx tB tn (tk_nx tB tn (tk_nx tB tn tp)) ∧ (h88 236 5) = tk_st tB tn (tk_nx tB tn (tk_nx tB tn tp)) ∧ TKk tB tn (tk_nx tB tn (tk_nx tB tn tp)) ((h88 236 6)) ((h88 236 7)) ((h88 236 12))) from (Or.inr (show ((h88 236 4) = tk_nx tB tn (tk_nx tB tn (tk_nx tB tn tp)) ∧ (h88 236 5) = tk_st tB tn (tk_nx tB tn (tk_nx tB tn tp)) ∧ TKk tB tn (tk_nx tB tn (tk_nx tB tn tp)) ((h88 236 6)) ((h88 236 7)) ((h88 236 12))) by first | assumption | exact ⟨by omega, by omega, TKk.mv (by assumption) (by omega) (by omega) (by omega)⟩))) rb100 (fun h90 z98 g90 u90 (fz98 : 0 ≤ z98 ∧ z98 ≤ 999) (p90_0 : (1 ≤ (h88 236 8) ∧ (h90 236 8) = (h88 236 8) ∧ (h90 236 9) = (h88 236 9)) ∨ ((h88 236 8) = 0 ∧ tk_kd tB tn (tk_nx tB tn (tk_nx tB tn tp)) = 1 ∧ tk_sw tB tn (tk_nx tB tn (tk_nx tB tn tp)) = 17484005 ∧ tk_kd tB tn (tk_nx tB tn (tk_nx tB tn (tk_nx tB tn tp))) = 2 ∧ 0 ≤ tk_nb tB tn (tk_nx tB tn (tk_nx tB tn (tk_nx tB tn tp))) ∧ tk_nb tB tn (tk_nx tB tn (tk_nx tB tn (tk_nx tB tn tp))) ≤ 99 ∧ z98 = tk_nb tB tn (tk_nx tB tn (tk_nx tB tn (tk_nx tB tn tp))) ∧ (h90 236 8) = (h88 236 8) ∧ (h90 236 9) = (h88 236 9) ∧ ((h90 236 4) = tk_nx tB tn (tk_nx tB tn (tk_nx tB tn (tk_nx tB tn (tk_nx tB tn tp)))) ∧ (h90 236 5) = tk_st tB tn (tk_nx tB tn (tk_nx tB tn (tk_nx tB tn (tk_nx tB tn tp)))) ∧ TKk tB tn (tk_nx tB tn (tk_nx tB tn (tk_nx tB tn (tk_nx tB tn tp)))) ((h90 236 6)) ((h90 236 7)) ((h90 236 12)))) ∨ ((h88 236 8) = 0 ∧ (tk_kd tB tn (tk_nx tB tn (tk_nx tB tn tp)) ≠ 1 ∨ tk_sw tB tn (tk_nx tB tn (tk_nx tB tn tp)) ≠ 17484005) ∧ (h90 236 8) = 1 ∧ (h90 236 9) = tk_st tB tn (tk_nx tB tn (tk_nx tB tn tp))) ∨ ((h88 236 8) = 0 ∧ tk_kd tB tn (tk_nx tB tn (tk_nx tB tn tp)) = 1 ∧ tk_sw tB tn (tk_nx tB tn (tk_nx tB tn tp)) = 17484005 ∧ tk_kd tB tn (tk_nx tB tn (tk_nx tB tn (tk_nx tB tn tp))) ≠ 2 ∧ (h90 236 8) = 1 ∧ (h90 236 9) = tk_st tB tn (tk_nx tB tn (tk_nx tB tn (tk_nx tB tn tp)))) ∨ ((h88 236 8) = 0 ∧ tk_kd tB tn (tk_nx tB tn (tk_nx tB tn tp)) = 1 ∧ tk_sw tB tn (tk_nx tB tn (tk_nx tB tn tp)) = 17484005 ∧ tk_kd tB tn (tk_nx tB tn (tk_nx tB tn (tk_nx tB tn tp))) = 2 ∧ (tk_nb tB tn (tk_nx tB tn (tk_nx tB tn (tk_nx tB tn tp))) < 0 ∨ 99 < tk_nb tB tn (tk_nx tB tn (tk_nx tB tn (tk_nx tB tn tp)))) ∧ (h90 236 8) = 2 ∧ (h90 236 9) = tk_st tB tn (tk_nx tB tn (tk_nx tB tn (tk_nx tB tn tp))))) (p90_1 : (h88 236 4) ≤ (h90 236 4)) (p90_2 : (h90 236 4) ≤ (h88 236 3)) (p90_3 : 1 ≤ (h90 236 8) ∨ (h88 236 8) = 0) (p90_4 : 1 ≤ (h90 236 8) ∨ (0 ≤ z98 ∧ z98 ≤ 99)) => ?_)
                  have F101 := F89.then (by decide +kernel) u90
                  have e102 : h88 236 9 = h64 236 9 := (u88 236 9 rfl)
                  have b103 := gi_b (lo := 0) (hi := 5) g90 236 8 rfl
                  have b104 := gi_b (lo := -2147483648) (hi := 2147483647) g90 236 9 rfl
                  have b105 := gi_b (lo := 0) (hi := 800) g90 236 4 rfl
                  have b106 := gi_b (lo := 0) (hi := 800) g90 236 5 rfl
                  have b107 := gi_b (lo := 0) (hi := 4) g90 236 6 rfl
                  have b108 := gi_b (lo := 0) (hi := 999) g90 236 7 rfl
                  have b109 := gi_b (lo := -9223372036854775808) (hi := 9223372036854775807) g90 236 12 rfl
                  refine wk_i ?_
                  rcases p90_0 with p90_0 | p90_0 | p90_0 | p90_0 | p90_0
                  ·
                    exfalso; omega
                  ·
                    replace p90_3 := p90_3.resolve_left (by omega)
                    replace p90_4 := p90_4.resolve_left (by omega)
                    have tkk110 := (p90_0.2.2.2.2.2.2.2.2.2).2.2
                    have dw111 : tk_kd tB tn (tk_nx tB tn (tk_nx tB tn tp)) = 1 ∧ tk_wd (tk_lw tB tn (tk_nx tB tn (tk_nx tB tn tp))) = 9 := tk_wcp 8 (K := 17484005) (by decide) rfl rfl (by omega) (by omega) p90_0.2.1 p90_0.2.2.1
                    have dk112 : tk_kd tB tn (tk_nx tB tn (tk_nx tB tn (tk_nx tB tn tp))) = 2 := p90_0.2.2.2.1
                    have dr113 : 0 ≤ tk_nb tB tn (tk_nx tB tn (tk_nx tB tn (tk_nx tB tn tp))) ∧ tk_nb tB tn (tk_nx tB tn (tk_nx tB tn (tk_nx tB tn tp))) ≤ 99 := ⟨p90_0.2.2.2.2.1, p90_0.2.2.2.2.2.1⟩
                    have tN114 := @tk_nx_b tB tn (tk_nx tB tn (tk_nx tB tn (tk_nx tB tn tp))) (by omega) (by omega)
                    have tN115 := @tk_nx_b tB tn (tk_nx tB tn (tk_nx tB tn (tk_nx tB tn (tk_nx tB tn tp)))) (by omega) (by omega)
                    refine wr_is (k0 := 239) (a := 6) (f := 6) (x := z98) (bl := 0) (bh := 999) (nx := 154) (r1 := 0) (r2 := 0) (r3 := 0) rfl (by decide) rfl (by omega) (by omega) (by decide) g90 rfl (by omega) (fun h116 g116 w116 u116 => ?_)
                    have F117 := F101.then rfl u116
                    refine wi_goto (nx := 157) (r1 := 256) (r2 := 0) (r3 := 0) rfl ?_
                    refine wi_return (nx := 257) (r1 := 0) (r2 := 0) (r3 := 0) rfl rfl ?_
                    have e118 : h116 236 8 = h90 236 8 := (u116 236 8 rfl)
                    have e119 : h116 236 4 = h90 236 4 := (u116 236 4 rfl)
                    have e120 : h116 239 5 = z72 := ((u116 239 5 rfl).trans ((u90 239 5 rfl).trans w88))
                    have e121 : h116 239 7 = h 239 7 := ((u116 239 7 rfl).trans ((u90 239 7 rfl).trans ((u88 239 7 rfl).trans ((u64 239 7 rfl).trans ((u62 239 7 rfl).trans (u50 239 7 rfl))))))
                    have e122 : h116 239 15 = h 239 15 := ((u116 239 15 rfl).trans ((u90 239 15 rfl).trans ((u88 239 15 rfl).trans ((u64 239 15 rfl).trans ((u62 239 15 rfl).trans (u50 239 15 rfl))))))
                    have e123 : h116 239 16 = h 239 16 := ((u116 239 16 rfl).trans ((u90 239 16 rfl).trans ((u88 239 16 rfl).trans ((u64 239 16 rfl).trans ((u62 239 16 rfl).trans (u50 239 16 rfl))))))
                    have e124 : h116 239 17 = h 239 17 := ((u116 239 17 rfl).trans ((u90 239 17 rfl).trans ((u88 239 17 rfl).trans ((u64 239 17 rfl).trans ((u62 239 17 rfl).trans (u50 239 17 rfl))))))
                    have e125 : h116 239 18 = h 239 18 := ((u116 239 18 rfl).trans ((u90 239 18 rfl).trans ((u88 239 18 rfl).trans ((u64 239 18 rfl).trans ((u62 239 18 rfl).trans (u50 239 18 rfl))))))
                    have e126 : h116 236 9 = h90 236 9 := (u116 236 9 rfl)
                    have e127 : h116 239 0 = h 239 0 := ((u116 239 0 rfl).trans ((u90 239 0 rfl).trans ((u88 239 0 rfl).trans ((u64 239 0 rfl).trans ((u62 239 0 rfl).trans (u50 239 0 rfl))))))
                    have e128 : h116 239 1 = h 239 1 := ((u116 239 1 rfl).trans ((u90 239 1 rfl).trans ((u88 239 1 rfl).trans ((u64 239 1 rfl).trans ((u62 239 1 rfl).trans (u50 239 1 rfl))))))
                    have e129 : h116 239 2 = h 239 2 := ((u116 239 2 rfl).trans ((u90 239 2 rfl).trans ((u88 239 2 rfl).trans ((u64 239 2 rfl).trans ((u62 239 2 rfl).trans (u50 239 2 rfl))))))
                    have b130 := gi_b (lo := 0) (hi := 999) g 239 3 rfl
                    have e131 : h116 239 3 = h 239 3 := ((u116 239 3 rfl).trans ((u90 239 3 rfl).trans ((u88 239 3 rfl).trans ((u64 239 3 rfl).trans ((u62 239 3 rfl).trans (u50 239 3 rfl))))))
                    have b132 := gi_b (lo := 0) (hi := 999) g 239 4 rfl
                    have e133 : h116 239 4 = h 239 4 := ((u116 239 4 rfl).trans ((u90 239 4 rfl).trans ((u88 239 4 rfl).trans ((u64 239 4 rfl).trans ((u62 239 4 rfl).trans (u50 239 4 rfl))))))
                    have e134 : h116 239 6 = z98 := w116
                    have b135 := gi_b (lo := 0) (hi := 999) g 239 8 rfl
                    have e136 : h116 239 8 = h 239 8 := ((u116 239 8 rfl).trans ((u90 239 8 rfl).trans ((u88 239 8 rfl).trans ((u64 239 8 rfl).trans ((u62 239 8 rfl).trans (u50 239 8 rfl))))))
                    have b137 := gi_b (lo := 0) (hi := 999) g 239 9 rfl
                    have e138 : h116 239 9 = h 239 9 := ((u116 239 9 rfl).trans ((u90 239 9 rfl).trans ((u88 239 9 rfl).trans ((u64 239 9 rfl).trans ((u62 239 9 rfl).trans (u50 239 9 rfl))))))
                    have b139 := gi_b (lo := 0) (hi := 1) g 236 23 rfl
                    have e140 : h116 236 23 = h 236 23 := ((u116 236 23 rfl).trans ((u90 236 23 rfl).trans ((u88 236 23 rfl).trans ((u64 236 23 rfl).trans ((u62 236 23 rfl).trans (u50 236 23 rfl))))))
                    have e141 : h116 236 24 = z51 := ((u116 236 24 rfl).trans ((u90 236 24 rfl).trans ((u88 236 24 rfl).trans ((u64 236 24 rfl).trans w62))))
                    have b142 := gi_b (lo := 0) (hi := 1) g 236 25 rfl
                    have e143 : h116 236 25 = h 236 25 := ((u116 236 25 rfl).trans ((u90 236 25 rfl).trans ((u88 236 25 rfl).trans ((u64 236 25 rfl).trans ((u62 236 25 rfl).trans (u50 236 25 rfl))))))
                    have b144 := gi_b (lo := 0) (hi := 1) g 236 26 rfl
                    have e145 : h116 236 26 = h 236 26 := ((u116 236 26 rfl).trans ((u90 236 26 rfl).trans ((u88 236 26 rfl).trans ((u64 236 26 rfl).trans ((u62 236 26 rfl).trans (u50 236 26 rfl))))))
                    have e146 : h116 236 5 = h90 236 5 := (u116 236 5 rfl)
                    have e147 : h116 236 6 = h90 236 6 := (u116 236 6 rfl)
                    have e148 : h116 236 7 = h90 236 7 := (u116 236 7 rfl)
                    have e149 : h116 236 12 = h90 236 12 := (u116 236 12 rfl)
                    exact k h116 g116 F117 (show (h116 236 8) = 0 ∨ 1 ≤ (h116 236 8) from (Or.inl (by omega))) (show (h 236 4) ≤ (h116 236 4) by omega) (show (h116 236 4) ≤ (h 236 3) by omega) (show 1 ≤ (h116 236 8) ∨ ((h116 239 5) ≤ 9 ∧ 1 ≤ (h116 239 5) ∧ (h116 239 7) ≤ 3 ∧ (h116 239 15) ≤ 6 ∧ (h116 239 16) ≤ 6 ∧ (h116 239 17) ≤ 6 ∧ (h116 239 18) ≤ 6) from (Or.inr (⟨by omega, by omega, by omega, by omega, by omega, by omega, by omega⟩))) (show (h116 236 8) ≠ 0 ∨ (h116 236 9) = -1 from (Or.inr (by omega))) (by unfold tk_stm; (repeat (first | unfold tk_once | unfold tk_wrd | unfold tk_num | unfold tk_batch)); (try dsimp only); rw [if_pos kf20.1]; (repeat (first | unfold tk_once | unfold tk_wrd | unfold tk_num | unfold tk_batch)); (try dsimp only); rw [if_neg wk23.no]; (repeat (first | unfold tk_once | unfold tk_wrd | unfold tk_num | unfold tk_batch)); (try dsimp only); rw [if_neg wk29.no]; (repeat (first | unfold tk_once | unfold tk_wrd | unfold tk_num | unfold tk_batch)); (try dsimp only); rw [if_neg wk35.no]; (repeat (first | unfold tk_once | unfold tk_wrd | unfold tk_num | unfold tk_batch)); (try dsimp only); rw [if_neg wk41.no]; (repeat (first | unfold tk_once | unfold tk_wrd | unfold tk_num | unfold tk_batch)); (try dsimp only); rw [if_pos wk47]; (repeat (first | unfold tk_once | unfold tk_wrd | unfold tk_num | unfold tk_batch)); (try dsimp only); rw [if_neg (by omega)]; (repeat (first | unfold tk_once | unfold tk_wrd | unfold tk_num | unfold tk_batch)); (try dsimp only); rw [if_pos dk85]; (repeat (first | unfold tk_once | unfold tk_wrd | unfold tk_num | unfold tk_batch)); (try dsimp only); rw [if_pos dr86]; (repeat (first | unfold tk_once | unfold tk_wrd | unfold tk_num | unfold tk_batch)); (try dsimp only); rw [if_pos dw111]; (repeat (first | unfold tk_once | unfold tk_wrd | unfold tk_num | unfold tk_batch)); (try dsimp only); rw [if_pos dk112]; (repeat (first | unfold tk_once | unfold tk_wrd | unfold tk_num | unfold tk_batch)); (try dsimp only); rw [if_pos dr113]; (repeat (first | unfold tk_once | unfold tk_wrd | unfold tk_num | unfold tk_batch)); (try dsimp only); exact tk_ORs (by omega) (by first | assumption | exact ⟨by omega, by omega, TKk.mv (by assumption) (by omega) (by omega) (by omega)⟩) (CVr.flag xq1 (fun j j3 j4 j5 j6 j7 j8 j9 j60 j61 j62 j63 => by (repeat unfold tk_u); rw [if_neg j6, if_neg j5, if_neg j61]) (fun i e => e.elim (fun e => ((u116 239 i (fn_i (by omega) fn_0)).trans ((u90 239 i (fo_nk rfl)).trans ((u88 239 i (fn_i (by omega) fn_0)).trans ((u64 239 i (fo_nk rfl)).trans ((u62 239 i (fn_a (by omega) fn_0)).trans (u50 239 i (fo_nk rfl)))))))) (fun e => ((u116 239 i (fn_i (by omega) fn_0)).trans ((u90 239 i (fo_nk rfl)).trans ((u88 239 i (fn_i (by omega) fn_0)).trans ((u64 239 i (fo_nk rfl)).trans ((u62 239 i (fn_a (by omega) fn_0)).trans (u50 239 i (fo_nk rfl))))))))) ⟨(by (repeat unfold tk_u); (repeat (first | rw [if_pos (by decide)] | rw [if_neg (by decide)])); all_goals omega), (by (repeat unfold tk_u); (repeat (first | rw [if_pos (by decide)] | rw [if_neg (by decide)])); all_goals omega), (by (repeat unfold tk_u); (repeat (first | rw [if_pos (by decide)] | rw [if_neg (by decide)])); all_goals omega), (by (repeat unfold tk_u); (repeat (first | rw [if_pos (by decide)] | rw [if_neg (by decide)])); all_goals omega), (by (repeat unfold tk_u); (repeat (first | rw [if_pos (by decide)] | rw [if_neg (by decide)])); all_goals omega), (by (repeat unfold tk_u); (repeat (first | rw [if_pos (by decide)] | rw [if_neg (by decide)])); all_goals omega), (by (repeat unfold tk_u); (repeat (first | rw [if_pos (by decide)] | rw [if_neg (by decide)])); all_goals omega)⟩ ⟨(by (repeat unfold tk_u); (repeat (first | rw [if_pos (by decide)] | rw [if_neg (by decide)])); all_goals omega), (by (repeat unfold tk_u); (repeat (first | rw [if_pos (by decide)] | rw [if_neg (by decide)])); all_goals omega), (by (repeat unfold tk_u); (repeat (first | rw [if_pos (by decide)] | rw [if_neg (by decide)])); all_goals omega), (by (repeat unfold tk_u); (repeat (first | rw [if_pos (by decide)] | rw [if_neg (by decide)])); all_goals omega)⟩ (fun i => ((u116 244 i (fn_a (by omega) fn_0)).trans ((u90 244 i (fo_nk rfl)).trans ((u88 244 i (fn_a (by omega) fn_0)).trans ((u64 244 i (fo_nk rfl)).trans ((u62 244 i (fn_a (by omega) fn_0)).trans (u50 244 i (fo_nk rfl)))))))) (by omega) (by omega) (by omega)))
                  ·
                    clear p90_3
                    clear p90_4
                    have dw110 : TKn (tk_kd tB tn (tk_nx tB tn (tk_nx tB tn tp)) = 1 ∧ tk_wd (tk_lw tB tn (tk_nx tB tn (tk_nx tB tn tp))) = 9) := tk_wcn 8 (K := 17484005) (by decide) rfl rfl (by omega) (by omega) p90_0.2.1
                    replace p90_0 : _ := And.intro (p90_0.1) (And.intro (p90_0.2.2.1) (p90_0.2.2.2))
                    refine wr_is (k0 := 239) (a := 6) (f := 6) (x := z98) (bl := 0) (bh := 999) (nx := 154) (r1 := 0) (r2 := 0) (r3 := 0) rfl (by decide) rfl (by omega) (by omega) (by decide) g90 rfl (by omega) (fun h111 g111 w111 u111 => ?_)
                    have F112 := F101.then rfl u111
                    refine wi_goto (nx := 157) (r1 := 256) (r2 := 0) (r3 := 0) rfl ?_
                    refine wi_return (nx := 257) (r1 := 0) (r2 := 0) (r3 := 0) rfl rfl ?_
                    have e113 : h111 236 8 = h90 236 8 := (u111 236 8 rfl)
                    have e114 : h111 236 4 = h90 236 4 := (u111 236 4 rfl)
                    have e115 : h111 239 5 = z72 := ((u111 239 5 rfl).trans ((u90 239 5 rfl).trans w88))
                    have e116 : h111 239 7 = h 239 7 := ((u111 239 7 rfl).trans ((u90 239 7 rfl).trans ((u88 239 7 rfl).trans ((u64 239 7 rfl).trans ((u62 239 7 rfl).trans (u50 239 7 rfl))))))
                    have e117 : h111 239 15 = h 239 15 := ((u111 239 15 rfl).trans ((u90 239 15 rfl).trans ((u88 239 15 rfl).trans ((u64 239 15 rfl).trans ((u62 239 15 rfl).trans (u50 239 15 rfl))))))
                    have e118 : h111 239 16 = h 239 16 := ((u111 239 16 rfl).trans ((u90 239 16 rfl).trans ((u88 239 16 rfl).trans ((u64 239 16 rfl).trans ((u62 239 16 rfl).trans (u50 239 16 rfl))))))
                    have e119 : h111 239 17 = h 239 17 := ((u111 239 17 rfl).trans ((u90 239 17 rfl).trans ((u88 239 17 rfl).trans ((u64 239 17 rfl).trans ((u62 239 17 rfl).trans (u50 239 17 rfl))))))
                    have e120 : h111 239 18 = h 239 18 := ((u111 239 18 rfl).trans ((u90 239 18 rfl).trans ((u88 239 18 rfl).trans ((u64 239 18 rfl).trans ((u62 239 18 rfl).trans (u50 239 18 rfl))))))
                    have e121 : h111 236 9 = h90 236 9 := (u111 236 9 rfl)
                    exact k h111 g111 F112 (show (h111 236 8) = 0 ∨ 1 ≤ (h111 236 8) from (Or.inr (by omega))) (show (h 236 4) ≤ (h111 236 4) by omega) (show (h111 236 4) ≤ (h 236 3) by omega) (show 1 ≤ (h111 236 8) ∨ ((h111 239 5) ≤ 9 ∧ 1 ≤ (h111 239 5) ∧ (h111 239 7) ≤ 3 ∧ (h111 239 15) ≤ 6 ∧ (h111 239 16) ≤ 6 ∧ (h111 239 17) ≤ 6 ∧ (h111 239 18) ≤ 6) from (Or.inl (by omega))) (show (h111 236 8) ≠ 0 ∨ (h111 236 9) = -1 from (Or.inl (by omega))) (by unfold tk_stm; (repeat (first | unfold tk_once | unfold tk_wrd | unfold tk_num | unfold tk_batch)); (try dsimp only); rw [if_pos kf20.1]; (repeat (first | unfold tk_once | unfold tk_wrd | unfold tk_num | unfold tk_batch)); (try dsimp only); rw [if_neg wk23.no]; (repeat (first | unfold tk_once | unfold tk_wrd | unfold tk_num | unfold tk_batch)); (try dsimp only); rw [if_neg wk29.no]; (repeat (first | unfold tk_once | unfold tk_wrd | unfold tk_num | unfold tk_batch)); (try dsimp only); rw [if_neg wk35.no]; (repeat (first | unfold tk_once | unfold tk_wrd | unfold tk_num | unfold tk_batch)); (try dsimp only); rw [if_neg wk41.no]; (repeat (first | unfold tk_once | unfold tk_wrd | unfold tk_num | unfold tk_batch)); (try dsimp only); rw [if_pos wk47]; (repeat (first | unfold tk_once | unfold tk_wrd | unfold tk_num | unfold tk_batch)); (try dsimp only); rw [if_neg (by omega)]; (repeat (first | unfold tk_once | unfold tk_wrd | unfold tk_num | unfold tk_batch)); (try dsimp only); rw [if_pos dk85]; (repeat (first | unfold tk_once | unfold tk_wrd | unfold tk_num | unfold tk_batch)); (try dsimp only); rw [if_pos dr86]; (repeat (first | unfold tk_once | unfold tk_wrd | unfold tk_num | unfold tk_batch)); (try dsimp only); rw [if_neg dw110.no]; (repeat (first | unfold tk_once | unfold tk_wrd | unfold tk_num | unfold tk_batch)); (try dsimp only); exact tk_ORe (by omega) (by omega) (by omega))
                  ·
                    clear p90_3
                    clear p90_4
                    have dw110 : tk_kd tB tn (tk_nx tB tn (tk_nx tB tn tp)) = 1 ∧ tk_wd (tk_lw tB tn (tk_nx tB tn (tk_nx tB tn tp))) = 9 := tk_wcp 8 (K := 17484005) (by decide) rfl rfl (by omega) (by omega) p90_0.2.1 p90_0.2.2.1
                    have dn111 : TKn (tk_kd tB tn (tk_nx tB tn (tk_nx tB tn (tk_nx tB tn tp))) = 2) := p90_0.2.2.2.1
                    replace p90_0 : _ := And.intro (p90_0.1) (And.intro (p90_0.2.1) (And.intro (p90_0.2.2.1) (And.intro (p90_0.2.2.2.2.1) (p90_0.2.2.2.2.2))))
                    have tN112 := @tk_nx_b tB tn (tk_nx tB tn (tk_nx tB tn tp)) (by omega) (by omega)
                    refine wr_is (k0 := 239) (a := 6) (f := 6) (x := z98) (bl := 0) (bh := 999) (nx := 154) (r1 := 0) (r2 := 0) (r3 := 0) rfl (by decide) rfl (by omega) (by omega) (by decide) g90 rfl (by omega) (fun h113 g113 w113 u113 => ?_)
                    have F114 := F101.then rfl u113
                    refine wi_goto (nx := 157) (r1 := 256) (r2 := 0) (r3 := 0) rfl ?_
                    refine wi_return (nx := 257) (r1 := 0) (r2 := 0) (r3 := 0) rfl rfl ?_
                    have e115 : h113 236 8 = h90 236 8 := (u113 236 8 rfl)
                    have e116 : h113 236 4 = h90 236 4 := (u113 236 4 rfl)
                    have e117 : h113 239 5 = z72 := ((u113 239 5 rfl).trans ((u90 239 5 rfl).trans w88))
                    have e118 : h113 239 7 = h 239 7 := ((u113 239 7 rfl).trans ((u90 239 7 rfl).trans ((u88 239 7 rfl).trans ((u64 239 7 rfl).trans ((u62 239 7 rfl).trans (u50 239 7 rfl))))))
                    have e119 : h113 239 15 = h 239 15 := ((u113 239 15 rfl).trans ((u90 239 15 rfl).trans ((u88 239 15 rfl).trans ((u64 239 15 rfl).trans ((u62 239 15 rfl).trans (u50 239 15 rfl))))))
                    have e120 : h113 239 16 = h 239 16 := ((u113 239 16 rfl).trans ((u90 239 16 rfl).trans ((u88 239 16 rfl).trans ((u64 239 16 rfl).trans ((u62 239 16 rfl).trans (u50 239 16 rfl))))))
                    have e121 : h113 239 17 = h 239 17 := ((u113 239 17 rfl).trans ((u90 239 17 rfl).trans ((u88 239 17 rfl).trans ((u64 239 17 rfl).trans ((u62 239 17 rfl).trans (u50 239 17 rfl))))))
                    have e122 : h113 239 18 = h 239 18 := ((u113 239 18 rfl).trans ((u90 239 18 rfl).trans ((u88 239 18 rfl).trans ((u64 239 18 rfl).trans ((u62 239 18 rfl).trans (u50 239 18 rfl))))))
                    have e123 : h113 236 9 = h90 236 9 := (u113 236 9 rfl)
                    exact k h113 g113 F114 (show (h113 236 8) = 0 ∨ 1 ≤ (h113 236 8) from (Or.inr (by omega))) (show (h 236 4) ≤ (h113 236 4) by omega) (show (h113 236 4) ≤ (h 236 3) by omega) (show 1 ≤ (h113 236 8) ∨ ((h113 239 5) ≤ 9 ∧ 1 ≤ (h113 239 5) ∧ (h113 239 7) ≤ 3 ∧ (h113 239 15) ≤ 6 ∧ (h113 239 16) ≤ 6 ∧ (h113 239 17) ≤ 6 ∧ (h113 239 18) ≤ 6) from (Or.inl (by omega))) (show (h113 236 8) ≠ 0 ∨ (h113 236 9) = -1 from (Or.inl (by omega))) (by unfold tk_stm; (repeat (first | unfold tk_once | unfold tk_wrd | unfold tk_num | unfold tk_batch)); (try dsimp only); rw [if_pos kf20.1]; (repeat (first | unfold tk_once | unfold tk_wrd | unfold tk_num | unfold tk_batch)); (try dsimp only); rw [if_neg wk23.no]; (repeat (first | unfold tk_once | unfold tk_wrd | unfold tk_num | unfold tk_batch)); (try dsimp only); rw [if_neg wk29.no]; (repeat (first | unfold tk_once | unfold tk_wrd | unfold tk_num | unfold tk_batch)); (try dsimp only); rw [if_neg wk35.no]; (repeat (first | unfold tk_once | unfold tk_wrd | unfold tk_num | unfold tk_batch)); (try dsimp only); rw [if_neg wk41.no]; (repeat (first | unfold tk_once | unfold tk_wrd | unfold tk_num | unfold tk_batch)); (try dsimp only); rw [if_pos wk47]; (repeat (first | unfold tk_once | unfold tk_wrd | unfold tk_num | unfold tk_batch)); (try dsimp only); rw [if_neg (by omega)]; (repeat (first | unfold tk_once | unfold tk_wrd | unfold tk_num | unfold tk_batch)); (try dsimp only); rw [if_pos dk85]; (repeat (first | unfold tk_once | unfold tk_wrd | unfold tk_num | unfold tk_batch)); (try dsimp only); rw [if_pos dr86]; (repeat (first | unfold tk_once | unfold tk_wrd | unfold tk_num | unfold tk_batch)); (try dsimp only); rw [if_pos dw110]; (repeat (first | unfold tk_once | unfold tk_wrd | unfold tk_num | unfold tk_batch)); (try dsimp only); rw [if_neg dn111.no]; (repeat (first | unfold tk_once | unfold tk_wrd | unfold tk_num | unfold tk_batch)); (try dsimp only); exact tk_ORe (by omega) (by omega) (by omega))
                  ·
                    clear p90_3
                    clear p90_4
                    have dw110 : tk_kd tB tn (tk_nx tB tn (tk_nx tB tn tp)) = 1 ∧ tk_wd (tk_lw tB tn (tk_nx tB tn (tk_nx tB tn tp))) = 9 := tk_wcp 8 (K := 17484005) (by decide) rfl rfl (by omega) (by omega) p90_0.2.1 p90_0.2.2.1
                    have dk111 : tk_kd tB tn (tk_nx tB tn (tk_nx tB tn (tk_nx tB tn tp))) = 2 := p90_0.2.2.2.1
                    have dr112 : TKn (0 ≤ tk_nb tB tn (tk_nx tB tn (tk_nx tB tn (tk_nx tB tn tp))) ∧ tk_nb tB tn (tk_nx tB tn (tk_nx tB tn (tk_nx tB tn tp))) ≤ 99) := tkn_r p90_0.2.2.2.2.1
                    replace p90_0 : _ := And.intro (p90_0.1) (And.intro (p90_0.2.1) (And.intro (p90_0.2.2.1) (And.intro (p90_0.2.2.2.1) (And.intro (p90_0.2.2.2.2.2.1) (p90_0.2.2.2.2.2.2)))))
                    have tN113 := @tk_nx_b tB tn (tk_nx tB tn (tk_nx tB tn tp)) (by omega) (by omega)
                    refine wr_is (k0 := 239) (a := 6) (f := 6) (x := z98) (bl := 0) (bh := 999) (nx := 154) (r1 := 0) (r2 := 0) (r3 := 0) rfl (by decide) rfl (by omega) (by omega) (by decide) g90 rfl (by omega) (fun h114 g114 w114 u114 => ?_)
                    have F115 := F101.then rfl u114
                    refine wi_goto (nx := 157) (r1 := 256) (r2 := 0) (r3 := 0) rfl ?_
                    refine wi_return (nx := 257) (r1 := 0) (r2 := 0) (r3 := 0) rfl rfl ?_
                    have e116 : h114 236 8 = h90 236 8 := (u114 236 8 rfl)
                    have e117 : h114 236 4 = h90 236 4 := (u114 236 4 rfl)
                    have e118 : h114 239 5 = z72 := ((u114 239 5 rfl).trans ((u90 239 5 rfl).trans w88))
                    have e119 : h114 239 7 = h 239 7 := ((u114 239 7 rfl).trans ((u90 239 7 rfl).trans ((u88 239 7 rfl).trans ((u64 239 7 rfl).trans ((u62 239 7 rfl).trans (u50 239 7 rfl))))))
                    have e120 : h114 239 15 = h 239 15 := ((u114 239 15 rfl).trans ((u90 239 15 rfl).trans ((u88 239 15 rfl).trans ((u64 239 15 rfl).trans ((u62 239 15 rfl).trans (u50 239 15 rfl))))))
                    have e121 : h114 239 16 = h 239 16 := ((u114 239 16 rfl).trans ((u90 239 16 rfl).trans ((u88 239 16 rfl).trans ((u64 239 16 rfl).trans ((u62 239 16 rfl).trans (u50 239 16 rfl))))))
                    have e122 : h114 239 17 = h 239 17 := ((u114 239 17 rfl).trans ((u90 239 17 rfl).trans ((u88 239 17 rfl).trans ((u64 239 17 rfl).trans ((u62 239 17 rfl).trans (u50 239 17 rfl))))))
                    have e123 : h114 239 18 = h 239 18 := ((u114 239 18 rfl).trans ((u90 239 18 rfl).trans ((u88 239 18 rfl).trans ((u64 239 18 rfl).trans ((u62 239 18 rfl).trans (u50 239 18 rfl))))))
                    have e124 : h114 236 9 = h90 236 9 := (u114 236 9 rfl)
                    exact k h114 g114 F115 (show (h114 236 8) = 0 ∨ 1 ≤ (h114 236 8) from (Or.inr (by omega))) (show (h 236 4) ≤ (h114 236 4) by omega) (show (h114 236 4) ≤ (h 236 3) by omega) (show 1 ≤ (h114 236 8) ∨ ((h114 239 5) ≤ 9 ∧ 1 ≤ (h114 239 5) ∧ (h114 239 7) ≤ 3 ∧ (h114 239 15) ≤ 6 ∧ (h114 239 16) ≤ 6 ∧ (h114 239 17) ≤ 6 ∧ (h114 239 18) ≤ 6) from (Or.inl (by omega))) (show (h114 236 8) ≠ 0 ∨ (h114 236 9) = -1 from (Or.inl (by omega))) (by unfold tk_stm; (repeat (first | unfold tk_once | unfold tk_wrd | unfold tk_num | unfold tk_batch)); (try dsimp only); rw [if_pos kf20.1]; (repeat (first | unfold tk_once | unfold tk_wrd | unfold tk_num | unfold tk_batch)); (try dsimp only); rw [if_neg wk23.no]; (repeat (first | unfold tk_once | unfold tk_wrd | unfold tk_num | unfold tk_batch)); (try dsimp only); rw [if_neg wk29.no]; (repeat (first | unfold tk_once | unfold tk_wrd | unfold tk_num | unfold tk_batch)); (try dsimp only); rw [if_neg wk35.no]; (repeat (first | unfold tk_once | unfold tk_wrd | unfold tk_num | unfold tk_batch)); (try dsimp only); rw [if_neg wk41.no]; (repeat (first | unfold tk_once | unfold tk_wrd | unfold tk_num | unfold tk_batch)); (try dsimp only); rw [if_pos wk47]; (repeat (first | unfold tk_once | unfold tk_wrd | unfold tk_num | unfold tk_batch)); (try dsimp only); rw [if_neg (by omega)]; (repeat (first | unfold tk_once | unfold tk_wrd | unfold tk_num | unfold tk_batch)); (try dsimp only); rw [if_pos dk85]; (repeat (first | unfold tk_once | unfold tk_wrd | unfold tk_num | unfold tk_batch)); (try dsimp only); rw [if_pos dr86]; (repeat (first | unfold tk_once | unfold tk_wrd | unfold tk_num | unfold tk_batch)); (try dsimp only); rw [if_pos dw110]; (repeat (first | unfold tk_once | unfold tk_wrd | unfold tk_num | unfold tk_batch)); (try dsimp only); rw [if_pos dk111]; (repeat (first | unfold tk_once | unfold tk_wrd | unfold tk_num | unfold tk_batch)); (try dsimp only); rw [if_neg dr112.no]; (repeat (first | unfold tk_once | unfold tk_wrd | unfold tk_num | unfold tk_batch)); (try dsimp only); exact tk_ORe (by omega) (by omega) (by omega))
                ·
                  clear p64_3
                  clear p64_4
                  clear p64_5
                  have dn84 : TKn (tk_kd tB tn (tk_nx tB tn tp) = 2) := p64_0.2.1
                  replace p64_0 : _ := And.intro (p64_0.1) (And.intro (p64_0.2.2.1) (p64_0.2.2.2))
                  refine wr_is (k0 := 239) (a := 5) (f := 5) (x := z72) (bl := 0) (bh := 999) (nx := 137) (r1 := 0) (r2 := 0) (r3 := 0) rfl (by decide) rfl (by omega) (by omega) (by decide) g64 rfl (by omega) (fun h85 g85 w85 u85 => ?_)
                  have F86 := F75.then rfl u85
                  refine wi_aload_n (i := 0) (x := 236) (nx := 138) (r1 := 0) (r2 := 0) (r3 := 0) rfl rfl ?_
                  refine wr_gr (k0 := 236) (x := 239) (nx := 141) (r1 := 11) (r2 := 14) (r3 := 0) rfl rfl (by decide) rfl ⟨rfl, rfl⟩ rfl ?_
                  refine wi_bipush (n := 6) (nx := 143) (r1 := 0) (r2 := 0) (r3 := 0) rfl (by decide) ?_
                  refine wi_aload_n (i := 0) (x := 236) (nx := 144) (r1 := 0) (r2 := 0) (r3 := 0) rfl rfl ?_
                  refine wi_ldc2_w (e := 17484005) (nx := 147) (r1 := 17484005) (r2 := 0) (r3 := 0) rfl (by decide) ?_
                  refine wi_iconst (n := 0) (nx := 148) (r1 := 0) (r2 := 0) (r3 := 0) rfl ?_
                  refine wi_bipush (n := 99) (nx := 150) (r1 := 0) (r2 := 0) (r3 := 0) rfl (by decide) ?_
                  refine wr_V (k0 := 236) (rest := [vi 6, .ref 239]) (as := [.ref 236, vl 17484005, vi 0, vi 99]) (nx := 153) (r1 := 228) (r2 := 3) (r3 := 11) rfl rfl rfl (of_decide_eq_true rfl) rfl rfl (by decide) rfl rfl (of_decide_eq_true rfl) (of_decide_eq_true rfl) ?_
                  have e88 : h85 236 4 = h64 236 4 := (u85 236 4 rfl)
                  have e89 : h85 236 3 = h 236 3 := ((u85 236 3 rfl).trans ((u64 236 3 rfl).trans ((u62 236 3 rfl).trans (u50 236 3 rfl))))
                  have e90 : h85 236 8 = h64 236 8 := (u85 236 8 rfl)
                  have e91 : h85 236 5 = h64 236 5 := (u85 236 5 rfl)
                  have e92 : h85 236 6 = h64 236 6 := (u85 236 6 rfl)
                  have e93 : h85 236 7 = h64 236 7 := (u85 236 7 rfl)
                  have e94 : h85 236 12 = h64 236 12 := (u85 236 12 rfl)
                  have rb96 := RefB.fr u64 rfl rb74
                  have rb97 := RefB.fr u85 rfl rb96
                  refine ct_228_236 hcr  g85 17484005 0 99 (by omega) (by omega) (by omega) (show (h85 236 4) ≤ (h85 236 3) by omega) (show 0 ≤ (tk_nx tB tn tp) by omega) (show (tk_nx tB tn tp) ≤ tn by omega) (show (tk_nx tB tn tp) ≤ tk_nx tB tn (tk_nx tB tn tp) ∧ tk_nx tB tn (tk_nx tB tn tp) ≤ tn from ⟨by omega, by omega⟩) (show 1 ≤ (h85 236 8) ∨ ((h85 236 4) = tk_nx tB tn (tk_nx tB tn tp) ∧ (h85 236 5) = tk_st tB tn (tk_nx tB tn tp) ∧ TKk tB tn (tk_nx tB tn tp) ((h85 236 6)) ((h85 236 7)) ((h85 236 12))) from (Or.inl (by omega))) rb97 (fun h87 z95 g87 u87 (fz95 : 0 ≤ z95 ∧ z95 ≤ 999) (p87_0 : (1 ≤ (h85 236 8) ∧ (h87 236 8) = (h85 236 8) ∧ (h87 236 9) = (h85 236 9)) ∨ ((h85 236 8) = 0 ∧ tk_kd tB tn (tk_nx tB tn tp) = 1 ∧ tk_sw tB tn (tk_nx tB tn tp) = 17484005 ∧ tk_kd tB tn (tk_nx tB tn (tk_nx tB tn tp)) = 2 ∧ 0 ≤ tk_nb tB tn (tk_nx tB tn (tk_nx tB tn tp)) ∧ tk_nb tB tn (tk_nx tB tn (tk_nx tB tn tp)) ≤ 99 ∧ z95 = tk_nb tB tn (tk_nx tB tn (tk_nx tB tn tp)) ∧ (h87 236 8) = (h85 236 8) ∧ (h87 236 9) = (h85 236 9) ∧ ((h87 236 4) = tk_nx tB tn (tk_nx tB tn (tk_nx tB tn (tk_nx tB tn tp))) ∧ (h87 236 5) = tk_st tB tn (tk_nx tB tn (tk_nx tB tn (tk_nx tB tn tp))) ∧ TKk tB tn (tk_nx tB tn (tk_nx tB tn (tk_nx tB tn tp))) ((h87 236 6)) ((h87 236 7)) ((h87 236 12)))) ∨ ((h85 236 8) = 0 ∧ (tk_kd tB tn (tk_nx tB tn tp) ≠ 1 ∨ tk_sw tB tn (tk_nx tB tn tp) ≠ 17484005) ∧ (h87 236 8) = 1 ∧ (h87 236 9) = tk_st tB tn (tk_nx tB tn tp)) ∨ ((h85 236 8) = 0 ∧ tk_kd tB tn (tk_nx tB tn tp) = 1 ∧ tk_sw tB tn (tk_nx tB tn tp) = 17484005 ∧ tk_kd tB tn (tk_nx tB tn (tk_nx tB tn tp)) ≠ 2 ∧ (h87 236 8) = 1 ∧ (h87 236 9) = tk_st tB tn (tk_nx tB tn (tk_nx tB tn tp))) ∨ ((h85 236 8) = 0 ∧ tk_kd tB tn (tk_nx tB tn tp) = 1 ∧ tk_sw tB tn (tk_nx tB tn tp) = 17484005 ∧ tk_kd tB tn (tk_nx tB tn (tk_nx tB tn tp)) = 2 ∧ (tk_nb tB tn (tk_nx tB tn (tk_nx tB tn tp)) < 0 ∨ 99 < tk_nb tB tn (tk_nx tB tn (tk_nx tB tn tp))) ∧ (h87 236 8) = 2 ∧ (h87 236 9) = tk_st tB tn (tk_nx tB tn (tk_nx tB tn tp)))) (p87_1 : (h85 236 4) ≤ (h87 236 4)) (p87_2 : (h87 236 4) ≤ (h85 236 3)) (p87_3 : 1 ≤ (h87 236 8) ∨ (h85 236 8) = 0) (p87_4 : 1 ≤ (h87 236 8) ∨ (0 ≤ z95 ∧ z95 ≤ 99)) => ?_)
                  have F98 := F86.then (by decide +kernel) u87
                  have e99 : h85 236 9 = h64 236 9 := (u85 236 9 rfl)
                  have b100 := gi_b (lo := 0) (hi := 5) g87 236 8 rfl
                  have b101 := gi_b (lo := -2147483648) (hi := 2147483647) g87 236 9 rfl
                  have b102 := gi_b (lo := 0) (hi := 800) g87 236 4 rfl
                  have b103 := gi_b (lo := 0) (hi := 800) g87 236 5 rfl
                  have b104 := gi_b (lo := 0) (hi := 4) g87 236 6 rfl
                  have b105 := gi_b (lo := 0) (hi := 999) g87 236 7 rfl
                  have b106 := gi_b (lo := -9223372036854775808) (hi := 9223372036854775807) g87 236 12 rfl
                  refine wk_i ?_
                  rcases p87_0 with p87_0 | p87_0 | p87_0 | p87_0 | p87_0
                  ·
                    replace p87_3 := p87_3.resolve_right (by omega)
                    clear p87_4
                    refine wr_is (k0 := 239) (a := 6) (f := 6) (x := z95) (bl := 0) (bh := 999) (nx := 154) (r1 := 0) (r2 := 0) (r3 := 0) rfl (by decide) rfl (by omega) (by omega) (by decide) g87 rfl (by omega) (fun h107 g107 w107 u107 => ?_)
                    have F108 := F98.then rfl u107
                    refine wi_goto (nx := 157) (r1 := 256) (r2 := 0) (r3 := 0) rfl ?_
                    refine wi_return (nx := 257) (r1 := 0) (r2 := 0) (r3 := 0) rfl rfl ?_
                    have e109 : h107 236 8 = h87 236 8 := (u107 236 8 rfl)
                    have e110 : h107 236 4 = h87 236 4 := (u107 236 4 rfl)
                    have e111 : h107 239 5 = z72 := ((u107 239 5 rfl).trans ((u87 239 5 rfl).trans w85))
                    have e112 : h107 239 7 = h 239 7 := ((u107 239 7 rfl).trans ((u87 239 7 rfl).trans ((u85 239 7 rfl).trans ((u64 239 7 rfl).trans ((u62 239 7 rfl).trans (u50 239 7 rfl))))))
                    have e113 : h107 239 15 = h 239 15 := ((u107 239 15 rfl).trans ((u87 239 15 rfl).trans ((u85 239 15 rfl).trans ((u64 239 15 rfl).trans ((u62 239 15 rfl).trans (u50 239 15 rfl))))))
                    have e114 : h107 239 16 = h 239 16 := ((u107 239 16 rfl).trans ((u87 239 16 rfl).trans ((u85 239 16 rfl).trans ((u64 239 16 rfl).trans ((u62 239 16 rfl).trans (u50 239 16 rfl))))))
                    have e115 : h107 239 17 = h 239 17 := ((u107 239 17 rfl).trans ((u87 239 17 rfl).trans ((u85 239 17 rfl).trans ((u64 239 17 rfl).trans ((u62 239 17 rfl).trans (u50 239 17 rfl))))))
                    have e116 : h107 239 18 = h 239 18 := ((u107 239 18 rfl).trans ((u87 239 18 rfl).trans ((u85 239 18 rfl).trans ((u64 239 18 rfl).trans ((u62 239 18 rfl).trans (u50 239 18 rfl))))))
                    have e117 : h107 236 9 = h87 236 9 := (u107 236 9 rfl)
                    exact k h107 g107 F108 (show (h107 236 8) = 0 ∨ 1 ≤ (h107 236 8) from (Or.inr (by omega))) (show (h 236 4) ≤ (h107 236 4) by omega) (show (h107 236 4) ≤ (h 236 3) by omega) (show 1 ≤ (h107 236 8) ∨ ((h107 239 5) ≤ 9 ∧ 1 ≤ (h107 239 5) ∧ (h107 239 7) ≤ 3 ∧ (h107 239 15) ≤ 6 ∧ (h107 239 16) ≤ 6 ∧ (h107 239 17) ≤ 6 ∧ (h107 239 18) ≤ 6) from (Or.inl (by omega))) (show (h107 236 8) ≠ 0 ∨ (h107 236 9) = -1 from (Or.inl (by omega))) (by unfold tk_stm; (repeat (first | unfold tk_once | unfold tk_wrd | unfold tk_num | unfold tk_batch)); (try dsimp only); rw [if_pos kf20.1]; (repeat (first | unfold tk_once | unfold tk_wrd | unfold tk_num | unfold tk_batch)); (try dsimp only); rw [if_neg wk23.no]; (repeat (first | unfold tk_once | unfold tk_wrd | unfold tk_num | unfold tk_batch)); (try dsimp only); rw [if_neg wk29.no]; (repeat (first | unfold tk_once | unfold tk_wrd | unfold tk_num | unfold tk_batch)); (try dsimp only); rw [if_neg wk35.no]; (repeat (first | unfold tk_once | unfold tk_wrd | unfold tk_num | unfold tk_batch)); (try dsimp only); rw [if_neg wk41.no]; (repeat (first | unfold tk_once | unfold tk_wrd | unfold tk_num | unfold tk_batch)); (try dsimp only); rw [if_pos wk47]; (repeat (first | unfold tk_once | unfold tk_wrd | unfold tk_num | unfold tk_batch)); (try dsimp only); rw [if_neg (by omega)]; (repeat (first | unfold tk_once | unfold tk_wrd | unfold tk_num | unfold tk_batch)); (try dsimp only); rw [if_neg dn84.no]; (repeat (first | unfold tk_once | unfold tk_wrd | unfold tk_num | unfold tk_batch)); (try dsimp only); exact tk_ORe (by omega) (by omega) (by omega))
                  ·
                    have tkk107 := (p87_0.2.2.2.2.2.2.2.2.2).2.2
                    have tN108 := @tk_nx_b tB tn (tk_nx tB tn (tk_nx tB tn tp)) (by omega) (by omega)
                    have tN109 := @tk_nx_b tB tn (tk_nx tB tn (tk_nx tB tn (tk_nx tB tn tp))) (by omega) (by omega)
                    exfalso; omega
                  ·
                    exfalso; omega
                  ·
                    have tN107 := @tk_nx_b tB tn (tk_nx tB tn tp) (by omega) (by omega)
                    exfalso; omega
                  ·
                    have tN107 := @tk_nx_b tB tn (tk_nx tB tn tp) (by omega) (by omega)
                    exfalso; omega
                ·
                  clear p64_3
                  clear p64_4
                  clear p64_5
                  have dk84 : tk_kd tB tn (tk_nx tB tn tp) = 2 := p64_0.2.1
                  have dr85 : TKn (1 ≤ tk_nb tB tn (tk_nx tB tn tp) ∧ tk_nb tB tn (tk_nx tB tn tp) ≤ 9) := tkn_r p64_0.2.2.1
                  replace p64_0 : _ := And.intro (p64_0.1) (And.intro (p64_0.2.1) (And.intro (p64_0.2.2.2.1) (p64_0.2.2.2.2)))
                  refine wr_is (k0 := 239) (a := 5) (f := 5) (x := z72) (bl := 0) (bh := 999) (nx := 137) (r1 := 0) (r2 := 0) (r3 := 0) rfl (by decide) rfl (by omega) (by omega) (by decide) g64 rfl (by omega) (fun h86 g86 w86 u86 => ?_)
                  have F87 := F75.then rfl u86
                  refine wi_aload_n (i := 0) (x := 236) (nx := 138) (r1 := 0) (r2 := 0) (r3 := 0) rfl rfl ?_
                  refine wr_gr (k0 := 236) (x := 239) (nx := 141) (r1 := 11) (r2 := 14) (r3 := 0) rfl rfl (by decide) rfl ⟨rfl, rfl⟩ rfl ?_
                  refine wi_bipush (n := 6) (nx := 143) (r1 := 0) (r2 := 0) (r3 := 0) rfl (by decide) ?_
                  refine wi_aload_n (i := 0) (x := 236) (nx := 144) (r1 := 0) (r2 := 0) (r3 := 0) rfl rfl ?_
                  refine wi_ldc2_w (e := 17484005) (nx := 147) (r1 := 17484005) (r2 := 0) (r3 := 0) rfl (by decide) ?_
                  refine wi_iconst (n := 0) (nx := 148) (r1 := 0) (r2 := 0) (r3 := 0) rfl ?_
                  refine wi_bipush (n := 99) (nx := 150) (r1 := 0) (r2 := 0) (r3 := 0) rfl (by decide) ?_
                  refine wr_V (k0 := 236) (rest := [vi 6, .ref 239]) (as := [.ref 236, vl 17484005, vi 0, vi 99]) (nx := 153) (r1 := 228) (r2 := 3) (r3 := 11) rfl rfl rfl (of_decide_eq_true rfl) rfl rfl (by decide) rfl rfl (of_decide_eq_true rfl) (of_decide_eq_true rfl) ?_
                  have e89 : h86 236 4 = h64 236 4 := (u86 236 4 rfl)
                  have e90 : h86 236 3 = h 236 3 := ((u86 236 3 rfl).trans ((u64 236 3 rfl).trans ((u62 236 3 rfl).trans (u50 236 3 rfl))))
                  have e91 : h86 236 8 = h64 236 8 := (u86 236 8 rfl)
                  have e92 : h86 236 5 = h64 236 5 := (u86 236 5 rfl)
                  have e93 : h86 236 6 = h64 236 6 := (u86 236 6 rfl)
                  have e94 : h86 236 7 = h64 236 7 := (u86 236 7 rfl)
                  have e95 : h86 236 12 = h64 236 12 := (u86 236 12 rfl)
                  have rb97 := RefB.fr u64 rfl rb74
                  have rb98 := RefB.fr u86 rfl rb97
                  refine ct_228_236 hcr  g86 17484005 0 99 (by omega) (by omega) (by omega) (show (h86 236 4) ≤ (h86 236 3) by omega) (show 0 ≤ (tk_nx tB tn tp) by omega) (show (tk_nx tB tn tp) ≤ tn by omega) (show (tk_nx tB tn tp) ≤ tk_nx tB tn (tk_nx tB tn tp) ∧ tk_nx tB tn (tk_nx tB tn tp) ≤ tn from ⟨by omega, by omega⟩) (show 1 ≤ (h86 236 8) ∨ ((h86 236 4) = tk_nx tB tn (tk_nx tB tn tp) ∧ (h86 236 5) = tk_st tB tn (tk_nx tB tn tp) ∧ TKk tB tn (tk_nx tB tn tp) ((h86 236 6)) ((h86 236 7)) ((h86 236 12))) from (Or.inl (by omega))) rb98 (fun h88 z96 g88 u88 (fz96 : 0 ≤ z96 ∧ z96 ≤ 999) (p88_0 : (1 ≤ (h86 236 8) ∧ (h88 236 8) = (h86 236 8) ∧ (h88 236 9) = (h86 236 9)) ∨ ((h86 236 8) = 0 ∧ tk_kd tB tn (tk_nx tB tn tp) = 1 ∧ tk_sw tB tn (tk_nx tB tn tp) = 17484005 ∧ tk_kd tB tn (tk_nx tB tn (tk_nx tB tn tp)) = 2 ∧ 0 ≤ tk_nb tB tn (tk_nx tB tn (tk_nx tB tn tp)) ∧ tk_nb tB tn (tk_nx tB tn (tk_nx tB tn tp)) ≤ 99 ∧ z96 = tk_nb tB tn (tk_nx tB tn (tk_nx tB tn tp)) ∧ (h88 236 8) = (h86 236 8) ∧ (h88 236 9) = (h86 236 9) ∧ ((h88 236 4) = tk_nx tB tn (tk_nx tB tn (tk_nx tB tn (tk_nx tB tn tp))) ∧ (h88 236 5) = tk_st tB tn (tk_nx tB tn (tk_nx tB tn (tk_nx tB tn tp))) ∧ TKk tB tn (tk_nx tB tn (tk_nx tB tn (tk_nx tB tn tp))) ((h88 236 6)) ((h88 236 7)) ((h88 236 12)))) ∨ ((h86 236 8) = 0 ∧ (tk_kd tB tn (tk_nx tB tn tp) ≠ 1 ∨ tk_sw tB tn (tk_nx tB tn tp) ≠ 17484005) ∧ (h88 236 8) = 1 ∧ (h88 236 9) = tk_st tB tn (tk_nx tB tn tp)) ∨ ((h86 236 8) = 0 ∧ tk_kd tB tn (tk_nx tB tn tp) = 1 ∧ tk_sw tB tn (tk_nx tB tn tp) = 17484005 ∧ tk_kd tB tn (tk_nx tB tn (tk_nx tB tn tp)) ≠ 2 ∧ (h88 236 8) = 1 ∧ (h88 236 9) = tk_st tB tn (tk_nx tB tn (tk_nx tB tn tp))) ∨ ((h86 236 8) = 0 ∧ tk_kd tB tn (tk_nx tB tn tp) = 1 ∧ tk_sw tB tn (tk_nx tB tn tp) = 17484005 ∧ tk_kd tB tn (tk_nx tB tn (tk_nx tB tn tp)) = 2 ∧ (tk_nb tB tn (tk_nx tB tn (tk_nx tB tn tp)) < 0 ∨ 99 < tk_nb tB tn (tk_nx tB tn (tk_nx tB tn tp))) ∧ (h88 236 8) = 2 ∧ (h88 236 9) = tk_st tB tn (tk_nx tB tn (tk_nx tB tn tp)))) (p88_1 : (h86 236 4) ≤ (h88 236 4)) (p88_2 : (h88 236 4) ≤ (h86 236 3)) (p88_3 : 1 ≤ (h88 236 8) ∨ (h86 236 8) = 0) (p88_4 : 1 ≤ (h88 236 8) ∨ (0 ≤ z96 ∧ z96 ≤ 99)) => ?_)
                  have F99 := F87.then (by decide +kernel) u88
                  have e100 : h86 236 9 = h64 236 9 := (u86 236 9 rfl)
                  have b101 := gi_b (lo := 0) (hi := 5) g88 236 8 rfl
                  have b102 := gi_b (lo := -2147483648) (hi := 2147483647) g88 236 9 rfl
                  have b103 := gi_b (lo := 0) (hi := 800) g88 236 4 rfl
                  have b104 := gi_b (lo := 0) (hi := 800) g88 236 5 rfl
                  have b105 := gi_b (lo := 0) (hi := 4) g88 236 6 rfl
                  have b106 := gi_b (lo := 0) (hi := 999) g88 236 7 rfl
                  have b107 := gi_b (lo := -9223372036854775808) (hi := 9223372036854775807) g88 236 12 rfl
                  refine wk_i ?_
                  rcases p88_0 with p88_0 | p88_0 | p88_0 | p88_0 | p88_0
                  ·
                    replace p88_3 := p88_3.resolve_right (by omega)
                    clear p88_4
                    refine wr_is (k0 := 239) (a := 6) (f := 6) (x := z96) (bl := 0) (bh := 999) (nx := 154) (r1 := 0) (r2 := 0) (r3 := 0) rfl (by decide) rfl (by omega) (by omega) (by decide) g88 rfl (by omega) (fun h108 g108 w108 u108 => ?_)
                    have F109 := F99.then rfl u108
                    refine wi_goto (nx := 157) (r1 := 256) (r2 := 0) (r3 := 0) rfl ?_
                    refine wi_return (nx := 257) (r1 := 0) (r2 := 0) (r3 := 0) rfl rfl ?_
                    have e110 : h108 236 8 = h88 236 8 := (u108 236 8 rfl)
                    have e111 : h108 236 4 = h88 236 4 := (u108 236 4 rfl)
                    have e112 : h108 239 5 = z72 := ((u108 239 5 rfl).trans ((u88 239 5 rfl).trans w86))
                    have e113 : h108 239 7 = h 239 7 := ((u108 239 7 rfl).trans ((u88 239 7 rfl).trans ((u86 239 7 rfl).trans ((u64 239 7 rfl).trans ((u62 239 7 rfl).trans (u50 239 7 rfl))))))
                    have e114 : h108 239 15 = h 239 15 := ((u108 239 15 rfl).trans ((u88 239 15 rfl).trans ((u86 239 15 rfl).trans ((u64 239 15 rfl).trans ((u62 239 15 rfl).trans (u50 239 15 rfl))))))
                    have e115 : h108 239 16 = h 239 16 := ((u108 239 16 rfl).trans ((u88 239 16 rfl).trans ((u86 239 16 rfl).trans ((u64 239 16 rfl).trans ((u62 239 16 rfl).trans (u50 239 16 rfl))))))
                    have e116 : h108 239 17 = h 239 17 := ((u108 239 17 rfl).trans ((u88 239 17 rfl).trans ((u86 239 17 rfl).trans ((u64 239 17 rfl).trans ((u62 239 17 rfl).trans (u50 239 17 rfl))))))
                    have e117 : h108 239 18 = h 239 18 := ((u108 239 18 rfl).trans ((u88 239 18 rfl).trans ((u86 239 18 rfl).trans ((u64 239 18 rfl).trans ((u62 239 18 rfl).trans (u50 239 18 rfl))))))
                    have e118 : h108 236 9 = h88 236 9 := (u108 236 9 rfl)
                    exact k h108 g108 F109 (show (h108 236 8) = 0 ∨ 1 ≤ (h108 236 8) from (Or.inr (by omega))) (show (h 236 4) ≤ (h108 236 4) by omega) (show (h108 236 4) ≤ (h 236 3) by omega) (show 1 ≤ (h108 236 8) ∨ ((h108 239 5) ≤ 9 ∧ 1 ≤ (h108 239 5) ∧ (h108 239 7) ≤ 3 ∧ (h108 239 15) ≤ 6 ∧ (h108 239 16) ≤ 6 ∧ (h108 239 17) ≤ 6 ∧ (h108 239 18) ≤ 6) from (Or.inl (by omega))) (show (h108 236 8) ≠ 0 ∨ (h108 236 9) = -1 from (Or.inl (by omega))) (by unfold tk_stm; (repeat (first | unfold tk_once | unfold tk_wrd | unfold tk_num | unfold tk_batch)); (try dsimp only); rw [if_pos kf20.1]; (repeat (first | unfold tk_once | unfold tk_wrd | unfold tk_num | unfold tk_batch)); (try dsimp only); rw [if_neg wk23.no]; (repeat (first | unfold tk_once | unfold tk_wrd | unfold tk_num | unfold tk_batch)); (try dsimp only); rw [if_neg wk29.no]; (repeat (first | unfold tk_once | unfold tk_wrd | unfold tk_num | unfold tk_batch)); (try dsimp only); rw [if_neg wk35.no]; (repeat (first | unfold tk_once | unfold tk_wrd | unfold tk_num | unfold tk_batch)); (try dsimp only); rw [if_neg wk41.no]; (repeat (first | unfold tk_once | unfold tk_wrd | unfold tk_num | unfold tk_batch)); (try dsimp only); rw [if_pos wk47]; (repeat (first | unfold tk_once | unfold tk_wrd | unfold tk_num | unfold tk_batch)); (try dsimp only); rw [if_neg (by omega)]; (repeat (first | unfold tk_once | unfold tk_wrd | unfold tk_num | unfold tk_batch)); (try dsimp only); rw [if_pos dk84]; (repeat (first | unfold tk_once | unfold tk_wrd | unfold tk_num | unfold tk_batch)); (try dsimp only); rw [if_neg dr85.no]; (repeat (first | unfold tk_once | unfold tk_wrd | unfold tk_num | unfold tk_batch)); (try dsimp only); exact tk_ORe (by omega) (by omega) (by omega))
                  ·
                    have tkk108 := (p88_0.2.2.2.2.2.2.2.2.2).2.2
                    have tN109 := @tk_nx_b tB tn (tk_nx tB tn (tk_nx tB tn tp)) (by omega) (by omega)
                    have tN110 := @tk_nx_b tB tn (tk_nx tB tn (tk_nx tB tn (tk_nx tB tn tp))) (by omega) (by omega)
                    exfalso; omega
                  ·
                    exfalso; omega
                  ·
                    have tN108 := @tk_nx_b tB tn (tk_nx tB tn tp) (by omega) (by omega)
                    exfalso; omega
                  ·
                    have tN108 := @tk_nx_b tB tn (tk_nx tB tn tp) (by omega) (by omega)
                    exfalso; omega
              ·
                clear p50_3
                refine wr_pf2 (k0 := 236) (x := z51) (bl := 0) (bh := 1) (nx := 124) (r1 := 11) (r2 := 24) (r3 := 2) rfl (by decide) rfl ⟨rfl, rfl⟩ rfl (by omega) rfl g50 rfl (by omega) (fun h60 g60 w60 u60 => ?_)
                have F61 := F52.then rfl u60
                refine wi_aload_n (i := 0) (x := 236) (nx := 125) (r1 := 0) (r2 := 0) (r3 := 0) rfl rfl ?_
                refine wr_gr (k0 := 236) (x := 239) (nx := 128) (r1 := 11) (r2 := 14) (r3 := 0) rfl rfl (by decide) rfl ⟨rfl, rfl⟩ rfl ?_
                refine wi_iconst (n := 5) (nx := 129) (r1 := 0) (r2 := 0) (r3 := 0) rfl ?_
                refine wi_aload_n (i := 0) (x := 236) (nx := 130) (r1 := 0) (r2 := 0) (r3 := 0) rfl rfl ?_
                refine wi_iconst (n := 1) (nx := 131) (r1 := 0) (r2 := 0) (r3 := 0) rfl ?_
                refine wi_bipush (n := 9) (nx := 133) (r1 := 0) (r2 := 0) (r3 := 0) rfl (by decide) ?_
                refine wr_V (k0 := 236) (rest := [vi 5, .ref 239]) (as := [.ref 236, vi 1, vi 9]) (nx := 136) (r1 := 231) (r2 := 2) (r3 := 11) rfl rfl rfl (of_decide_eq_true rfl) rfl rfl (by decide) rfl rfl (of_decide_eq_true rfl) (of_decide_eq_true rfl) ?_
                have e63 : h60 236 4 = h50 236 4 := (u60 236 4 rfl)
                have e64 : h60 236 3 = h 236 3 := ((u60 236 3 rfl).trans (u50 236 3 rfl))
                have e65 : h60 236 8 = h50 236 8 := (u60 236 8 rfl)
                have e66 : h60 236 5 = h50 236 5 := (u60 236 5 rfl)
                have e67 : h60 236 6 = h50 236 6 := (u60 236 6 rfl)
                have e68 : h60 236 7 = h50 236 7 := (u60 236 7 rfl)
                have e69 : h60 236 12 = h50 236 12 := (u60 236 12 rfl)
                have rb71 := RefB.fr u50 rfl xq0
                have rb72 := RefB.fr u60 rfl rb71
                refine ct_231_236 hcr  g60 1 9 (by omega) (by omega) (show (h60 236 4) ≤ (h60 236 3) by omega) (show 0 ≤ tp by omega) (show tp ≤ tn by omega) (show tp ≤ tk_nx tB tn tp ∧ tk_nx tB tn tp ≤ tn from ⟨by omega, by omega⟩) (show 1 ≤ (h60 236 8) ∨ ((h60 236 4) = tk_nx tB tn tp ∧ (h60 236 5) = tk_st tB tn tp ∧ TKk tB tn tp ((h60 236 6)) ((h60 236 7)) ((h60 236 12))) from (Or.inl (by omega))) rb72 (fun h62 z70 g62 u62 (fz70 : 0 ≤ z70 ∧ z70 ≤ 999) (p62_0 : (1 ≤ (h60 236 8) ∧ (h62 236 8) = (h60 236 8) ∧ (h62 236 9) = (h60 236 9)) ∨ ((h60 236 8) = 0 ∧ tk_kd tB tn tp = 2 ∧ 1 ≤ tk_nb tB tn tp ∧ tk_nb tB tn tp ≤ 9 ∧ z70 = tk_nb tB tn tp ∧ (h62 236 8) = (h60 236 8) ∧ (h62 236 9) = (h60 236 9) ∧ ((h62 236 4) = tk_nx tB tn (tk_nx tB tn tp) ∧ (h62 236 5) = tk_st tB tn (tk_nx tB tn tp) ∧ TKk tB tn (tk_nx tB tn tp) ((h62 236 6)) ((h62 236 7)) ((h62 236 12)))) ∨ ((h60 236 8) = 0 ∧ tk_kd tB tn tp ≠ 2 ∧ (h62 236 8) = 1 ∧ (h62 236 9) = tk_st tB tn tp) ∨ ((h60 236 8) = 0 ∧ tk_kd tB tn tp = 2 ∧ (tk_nb tB tn tp < 1 ∨ 9 < tk_nb tB tn tp) ∧ (h62 236 8) = 2 ∧ (h62 236 9) = tk_st tB tn tp)) (p62_1 : (h60 236 4) ≤ (h62 236 4)) (p62_2 : (h62 236 4) ≤ (h60 236 3)) (p62_3 : 1 ≤ (h62 236 8) ∨ (h60 236 8) = 0) (p62_4 : 1 ≤ (h62 236 8) ∨ (1 ≤ z70 ∧ z70 ≤ 9)) (p62_5 : 1 ≤ (h62 236 8) ∨ (h60 236 6) = 2) => ?_)
                have F73 := F61.then (by decide +kernel) u62
                have e74 : h60 236 9 = h50 236 9 := (u60 236 9 rfl)
                have b75 := gi_b (lo := 0) (hi := 5) g62 236 8 rfl
                have b76 := gi_b (lo := -2147483648) (hi := 2147483647) g62 236 9 rfl
                have b77 := gi_b (lo := 0) (hi := 800) g62 236 4 rfl
                have b78 := gi_b (lo := 0) (hi := 800) g62 236 5 rfl
                have b79 := gi_b (lo := 0) (hi := 4) g62 236 6 rfl
                have b80 := gi_b (lo := 0) (hi := 999) g62 236 7 rfl
                have b81 := gi_b (lo := -9223372036854775808) (hi := 9223372036854775807) g62 236 12 rfl
                refine wk_i ?_
                rcases p62_0 with p62_0 | p62_0 | p62_0 | p62_0
                ·
                  replace p62_3 := p62_3.resolve_right (by omega)
                  clear p62_4
                  clear p62_5
                  refine wr_is (k0 := 239) (a := 5) (f := 5) (x := z70) (bl := 0) (bh := 999) (nx := 137) (r1 := 0) (r2 := 0) (r3 := 0) rfl (by decide) rfl (by omega) (by omega) (by decide) g62 rfl (by omega) (fun h82 g82 w82 u82 => ?_)
                  have F83 := F73.then rfl u82
                  refine wi_aload_n (i := 0) (x := 236) (nx := 138) (r1 := 0) (r2 := 0) (r3 := 0) rfl rfl ?_
                  refine wr_gr (k0 := 236) (x := 239) (nx := 141) (r1 := 11) (r2 := 14) (r3 := 0) rfl rfl (by decide) rfl ⟨rfl, rfl⟩ rfl ?_
                  refine wi_bipush (n := 6) (nx := 143) (r1 := 0) (r2 := 0) (r3 := 0) rfl (by decide) ?_
                  refine wi_aload_n (i := 0) (x := 236) (nx := 144) (r1 := 0) (r2 := 0) (r3 := 0) rfl rfl ?_
                  refine wi_ldc2_w (e := 17484005) (nx := 147) (r1 := 17484005) (r2 := 0) (r3 := 0) rfl (by decide) ?_
                  refine wi_iconst (n := 0) (nx := 148) (r1 := 0) (r2 := 0) (r3 := 0) rfl ?_
                  refine wi_bipush (n := 99) (nx := 150) (r1 := 0) (r2 := 0) (r3 := 0) rfl (by decide) ?_
                  refine wr_V (k0 := 236) (rest := [vi 6, .ref 239]) (as := [.ref 236, vl 17484005, vi 0, vi 99]) (nx := 153) (r1 := 228) (r2 := 3) (r3 := 11) rfl rfl rfl (of_decide_eq_true rfl) rfl rfl (by decide) rfl rfl (of_decide_eq_true rfl) (of_decide_eq_true rfl) ?_
                  have e85 : h82 236 4 = h62 236 4 := (u82 236 4 rfl)
                  have e86 : h82 236 3 = h 236 3 := ((u82 236 3 rfl).trans ((u62 236 3 rfl).trans ((u60 236 3 rfl).trans (u50 236 3 rfl))))
                  have e87 : h82 236 8 = h62 236 8 := (u82 236 8 rfl)
                  have e88 : h82 236 5 = h62 236 5 := (u82 236 5 rfl)
                  have e89 : h82 236 6 = h62 236 6 := (u82 236 6 rfl)
                  have e90 : h82 236 7 = h62 236 7 := (u82 236 7 rfl)
                  have e91 : h82 236 12 = h62 236 12 := (u82 236 12 rfl)
                  have rb93 := RefB.fr u62 rfl rb72
                  have rb94 := RefB.fr u82 rfl rb93
                  refine ct_228_236 hcr  g82 17484005 0 99 (by omega) (by omega) (by omega) (show (h82 236 4) ≤ (h82 236 3) by omega) (show 0 ≤ tp by omega) (show tp ≤ tn by omega) (show tp ≤ tk_nx tB tn tp ∧ tk_nx tB tn tp ≤ tn from ⟨by omega, by omega⟩) (show 1 ≤ (h82 236 8) ∨ ((h82 236 4) = tk_nx tB tn tp ∧ (h82 236 5) = tk_st tB tn tp ∧ TKk tB tn tp ((h82 236 6)) ((h82 236 7)) ((h82 236 12))) from (Or.inl (by omega))) rb94 (fun h84 z92 g84 u84 (fz92 : 0 ≤ z92 ∧ z92 ≤ 999) (p84_0 : (1 ≤ (h82 236 8) ∧ (h84 236 8) = (h82 236 8) ∧ (h84 236 9) = (h82 236 9)) ∨ ((h82 236 8) = 0 ∧ tk_kd tB tn tp = 1 ∧ tk_sw tB tn tp = 17484005 ∧ tk_kd tB tn (tk_nx tB tn tp) = 2 ∧ 0 ≤ tk_nb tB tn (tk_nx tB tn tp) ∧ tk_nb tB tn (tk_nx tB tn tp) ≤ 99 ∧ z92 = tk_nb tB tn (tk_nx tB tn tp) ∧ (h84 236 8) = (h82 236 8) ∧ (h84 236 9) = (h82 236 9) ∧ ((h84 236 4) = tk_nx tB tn (tk_nx tB tn (tk_nx tB tn tp)) ∧ (h84 236 5) = tk_st tB tn (tk_nx tB tn (tk_nx tB tn tp)) ∧ TKk tB tn (tk_nx tB tn (tk_nx tB tn tp)) ((h84 236 6)) ((h84 236 7)) ((h84 236 12)))) ∨ ((h82 236 8) = 0 ∧ (tk_kd tB tn tp ≠ 1 ∨ tk_sw tB tn tp ≠ 17484005) ∧ (h84 236 8) = 1 ∧ (h84 236 9) = tk_st tB tn tp) ∨ ((h82 236 8) = 0 ∧ tk_kd tB tn tp = 1 ∧ tk_sw tB tn tp = 17484005 ∧ tk_kd tB tn (tk_nx tB tn tp) ≠ 2 ∧ (h84 236 8) = 1 ∧ (h84 236 9) = tk_st tB tn (tk_nx tB tn tp)) ∨ ((h82 236 8) = 0 ∧ tk_kd tB tn tp = 1 ∧ tk_sw tB tn tp = 17484005 ∧ tk_kd tB tn (tk_nx tB tn tp) = 2 ∧ (tk_nb tB tn (tk_nx tB tn tp) < 0 ∨ 99 < tk_nb tB tn (tk_nx tB tn tp)) ∧ (h84 236 8) = 2 ∧ (h84 236 9) = tk_st tB tn (tk_nx tB tn tp))) (p84_1 : (h82 236 4) ≤ (h84 236 4)) (p84_2 : (h84 236 4) ≤ (h82 236 3)) (p84_3 : 1 ≤ (h84 236 8) ∨ (h82 236 8) = 0) (p84_4 : 1 ≤ (h84 236 8) ∨ (0 ≤ z92 ∧ z92 ≤ 99)) => ?_)
                  have F95 := F83.then (by decide +kernel) u84
                  have e96 : h82 236 9 = h62 236 9 := (u82 236 9 rfl)
                  have b97 := gi_b (lo := 0) (hi := 5) g84 236 8 rfl
                  have b98 := gi_b (lo := -2147483648) (hi := 2147483647) g84 236 9 rfl
                  have b99 := gi_b (lo := 0) (hi := 800) g84 236 4 rfl
                  have b100 := gi_b (lo := 0) (hi := 800) g84 236 5 rfl
                  have b101 := gi_b (lo := 0) (hi := 4) g84 236 6 rfl
                  have b102 := gi_b (lo := 0) (hi := 999) g84 236 7 rfl
                  have b103 := gi_b (lo := -9223372036854775808) (hi := 9223372036854775807) g84 236 12 rfl
                  refine wk_i ?_
                  rcases p84_0 with p84_0 | p84_0 | p84_0 | p84_0 | p84_0
                  ·
                    replace p84_3 := p84_3.resolve_right (by omega)
                    clear p84_4
                    refine wr_is (k0 := 239) (a := 6) (f := 6) (x := z92) (bl := 0) (bh := 999) (nx := 154) (r1 := 0) (r2 := 0) (r3 := 0) rfl (by decide) rfl (by omega) (by omega) (by decide) g84 rfl (by omega) (fun h104 g104 w104 u104 => ?_)
                    have F105 := F95.then rfl u104
                    refine wi_goto (nx := 157) (r1 := 256) (r2 := 0) (r3 := 0) rfl ?_
                    refine wi_return (nx := 257) (r1 := 0) (r2 := 0) (r3 := 0) rfl rfl ?_
                    have e106 : h104 236 8 = h84 236 8 := (u104 236 8 rfl)
                    have e107 : h104 236 4 = h84 236 4 := (u104 236 4 rfl)
                    have e108 : h104 239 5 = z70 := ((u104 239 5 rfl).trans ((u84 239 5 rfl).trans w82))
                    have e109 : h104 239 7 = h 239 7 := ((u104 239 7 rfl).trans ((u84 239 7 rfl).trans ((u82 239 7 rfl).trans ((u62 239 7 rfl).trans ((u60 239 7 rfl).trans (u50 239 7 rfl))))))
                    have e110 : h104 239 15 = h 239 15 := ((u104 239 15 rfl).trans ((u84 239 15 rfl).trans ((u82 239 15 rfl).trans ((u62 239 15 rfl).trans ((u60 239 15 rfl).trans (u50 239 15 rfl))))))
                    have e111 : h104 239 16 = h 239 16 := ((u104 239 16 rfl).trans ((u84 239 16 rfl).trans ((u82 239 16 rfl).trans ((u62 239 16 rfl).trans ((u60 239 16 rfl).trans (u50 239 16 rfl))))))
                    have e112 : h104 239 17 = h 239 17 := ((u104 239 17 rfl).trans ((u84 239 17 rfl).trans ((u82 239 17 rfl).trans ((u62 239 17 rfl).trans ((u60 239 17 rfl).trans (u50 239 17 rfl))))))
                    have e113 : h104 239 18 = h 239 18 := ((u104 239 18 rfl).trans ((u84 239 18 rfl).trans ((u82 239 18 rfl).trans ((u62 239 18 rfl).trans ((u60 239 18 rfl).trans (u50 239 18 rfl))))))
                    have e114 : h104 236 9 = h84 236 9 := (u104 236 9 rfl)
                    exact k h104 g104 F105 (show (h104 236 8) = 0 ∨ 1 ≤ (h104 236 8) from (Or.inr (by omega))) (show (h 236 4) ≤ (h104 236 4) by omega) (show (h104 236 4) ≤ (h 236 3) by omega) (show 1 ≤ (h104 236 8) ∨ ((h104 239 5) ≤ 9 ∧ 1 ≤ (h104 239 5) ∧ (h104 239 7) ≤ 3 ∧ (h104 239 15) ≤ 6 ∧ (h104 239 16) ≤ 6 ∧ (h104 239 17) ≤ 6 ∧ (h104 239 18) ≤ 6) from (Or.inl (by omega))) (show (h104 236 8) ≠ 0 ∨ (h104 236 9) = -1 from (Or.inl (by omega))) (by unfold tk_stm; (repeat (first | unfold tk_once | unfold tk_wrd | unfold tk_num | unfold tk_batch)); (try dsimp only); rw [if_pos kf20.1]; (repeat (first | unfold tk_once | unfold tk_wrd | unfold tk_num | unfold tk_batch)); (try dsimp only); rw [if_neg wk23.no]; (repeat (first | unfold tk_once | unfold tk_wrd | unfold tk_num | unfold tk_batch)); (try dsimp only); rw [if_neg wk29.no]; (repeat (first | unfold tk_once | unfold tk_wrd | unfold tk_num | unfold tk_batch)); (try dsimp only); rw [if_neg wk35.no]; (repeat (first | unfold tk_once | unfold tk_wrd | unfold tk_num | unfold tk_batch)); (try dsimp only); rw [if_neg wk41.no]; (repeat (first | unfold tk_once | unfold tk_wrd | unfold tk_num | unfold tk_batch)); (try dsimp only); rw [if_pos wk47]; (repeat (first | unfold tk_once | unfold tk_wrd | unfold tk_num | unfold tk_batch)); (try dsimp only); rw [if_pos (by omega)]; (repeat (first | unfold tk_once | unfold tk_wrd | unfold tk_num | unfold tk_batch)); (try dsimp only); exact tk_ORe (by omega) (by omega) (by omega))
                  ·
                    have tkk104 := (p84_0.2.2.2.2.2.2.2.2.2).2.2
                    have tN105 := @tk_nx_b tB tn (tk_nx tB tn tp) (by omega) (by omega)
                    have tN106 := @tk_nx_b tB tn (tk_nx tB tn (tk_nx tB tn tp)) (by omega) (by omega)
                    exfalso; omega
                  ·
                    exfalso; omega
                  ·
                    have tN104 := @tk_nx_b tB tn tp (by omega) (by omega)
                    exfalso; omega
                  ·
                    have tN104 := @tk_nx_b tB tn tp (by omega) (by omega)
                    exfalso; omega
                ·
                  have tkk82 := (p62_0.2.2.2.2.2.2.2).2.2
                  have tN83 := @tk_nx_b tB tn (tk_nx tB tn tp) (by omega) (by omega)
                  exfalso; omega
                ·
                  exfalso; omega
                ·
                  exfalso; omega
          ·
            have wk41 : tk_wd (tk_lw tB tn tp) = 7 := (tk_wcp 6 (K := 781652471) (by decide) rfl rfl (by omega) (by omega) (show tk_kd tB tn tp = 1 by omega) (show tk_sw tB tn tp = 781652471 by omega)).2
            clear q40 fr39
            refine wi_iconst (n := 1) (nx := 25) (r1 := 0) (r2 := 0) (r3 := 0) rfl ?_
            refine wi_goto (nx := 28) (r1 := 29) (r2 := 0) (r3 := 0) rfl ?_
            refine wi_zreturn (nx := 30) (r1 := 0) (r2 := 0) (r3 := 0) rfl rfl (by omega) ?_
            refine wk_i ?_
            refine wi_if (cd := .eq) (nx := 61) (r1 := 102) (r2 := 0) (r3 := 0) rfl (by omega) (fun (q42 : 1 = 0) => by exfalso; omega) (fun (q42 : ¬ (1 = 0)) => ?_)
            refine wi_aload_n (i := 0) (x := 236) (nx := 62) (r1 := 0) (r2 := 0) (r3 := 0) rfl rfl ?_
            refine wi_aload_n (i := 0) (x := 236) (nx := 63) (r1 := 0) (r2 := 0) (r3 := 0) rfl rfl ?_
            refine wi_aload_n (i := 0) (x := 236) (nx := 64) (r1 := 0) (r2 := 0) (r3 := 0) rfl rfl ?_
            have b43 := gi_b (lo := 0) (hi := 1) g 236 23 rfl
            refine wr_gi2 (k0 := 236) (x := h 236 23) (nx := 67) (r1 := 11) (r2 := 23) (r3 := 0) rfl rfl (by decide) rfl ⟨rfl, rfl⟩ rfl rfl ?_
            refine wr_V (k0 := 236) (rest := [.ref 236]) (as := [.ref 236, vi (h 236 23)]) (nx := 70) (r1 := 234) (r2 := 1) (r3 := 11) rfl rfl rfl (of_decide_eq_true rfl) rfl rfl (by decide) rfl rfl (of_decide_eq_true rfl) (of_decide_eq_true rfl) ?_
            refine ct_234_236 hcr  g (h 236 23) (by omega) (show (h 236 4) ≤ (h 236 3) by omega) (show 0 ≤ tp by omega) (show tp ≤ tn by omega) (show tp ≤ tk_nx tB tn tp ∧ tk_nx tB tn tp ≤ tn from ⟨by omega, by omega⟩) (show 1 ≤ (h 236 8) ∨ ((h 236 4) = tk_nx tB tn tp ∧ (h 236 5) = tk_st tB tn tp ∧ TKk tB tn tp ((h 236 6)) ((h 236 7)) ((h 236 12))) from (Or.inr (show ((h 236 4) = tk_nx tB tn tp ∧ (h 236 5) = tk_st tB tn tp ∧ TKk tB tn tp ((h 236 6)) ((h 236 7)) ((h 236 12))) by first | assumption | exact ⟨by omega, by omega, TKk.mv (by assumption) (by omega) (by omega) (by omega)⟩))) (show tk_kd tB tn tp = 1 by omega) xq0 (fun h44 z45 g44 u44 (fz45 : 1 ≤ z45 ∧ z45 ≤ 1) (p44_0 : (1 ≤ (h 236 8) ∧ (h44 236 8) = (h 236 8) ∧ (h44 236 9) = (h 236 9)) ∨ ((h 236 8) = 0 ∧ (h 236 23) = 0 ∧ (h44 236 8) = (h 236 8) ∧ (h44 236 9) = (h 236 9) ∧ ((h44 236 4) = tk_nx tB tn (tk_nx tB tn tp) ∧ (h44 236 5) = tk_st tB tn (tk_nx tB tn tp) ∧ TKk tB tn (tk_nx tB tn tp) ((h44 236 6)) ((h44 236 7)) ((h44 236 12)))) ∨ ((h 236 8) = 0 ∧ (h 236 23) = 1 ∧ (h44 236 8) = 3 ∧ (h44 236 9) = tk_st tB tn tp)) (p44_1 : (h 236 4) ≤ (h44 236 4)) (p44_2 : (h44 236 4) ≤ (h 236 3)) (p44_3 : 1 ≤ (h44 236 8) ∨ (h 236 8) = 0) (p44_4 : z45 = 1) => ?_)
            have F46 := F0.then (by decide +kernel) u44
            have b47 := gi_b (lo := 0) (hi := 5) g44 236 8 rfl
            have b48 := gi_b (lo := -2147483648) (hi := 2147483647) g44 236 9 rfl
            have b49 := gi_b (lo := 0) (hi := 800) g44 236 4 rfl
            have b50 := gi_b (lo := 0) (hi := 800) g44 236 5 rfl
            have b51 := gi_b (lo := 0) (hi := 4) g44 236 6 rfl
            have b52 := gi_b (lo := 0) (hi := 999) g44 236 7 rfl
            have b53 := gi_b (lo := -9223372036854775808) (hi := 9223372036854775807) g44 236 12 rfl
            refine wk_i ?_
            rcases p44_0 with p44_0 | p44_0 | p44_0
            ·
              exfalso; omega
            ·
              replace p44_3 := p44_3.resolve_left (by omega)
              have tkk54 := (p44_0.2.2.2.2).2.2
              have tN55 := @tk_nx_b tB tn (tk_nx tB tn tp) (by omega) (by omega)
              refine wr_pf2 (k0 := 236) (x := z45) (bl := 0) (bh := 1) (nx := 73) (r1 := 11) (r2 := 23) (r3 := 2) rfl (by decide) rfl ⟨rfl, rfl⟩ rfl (by omega) rfl g44 rfl (by omega) (fun h56 g56 w56 u56 => ?_)
              have F57 := F46.then rfl u56
              refine wi_aload_n (i := 0) (x := 236) (nx := 74) (r1 := 0) (r2 := 0) (r3 := 0) rfl rfl ?_
              refine wr_gr (k0 := 236) (x := 239) (nx := 77) (r1 := 11) (r2 := 14) (r3 := 0) rfl rfl (by decide) rfl ⟨rfl, rfl⟩ rfl ?_
              refine wi_iconst (n := 3) (nx := 78) (r1 := 0) (r2 := 0) (r3 := 0) rfl ?_
              refine wi_aload_n (i := 0) (x := 236) (nx := 79) (r1 := 0) (r2 := 0) (r3 := 0) rfl rfl ?_
              refine wi_iconst (n := 0) (nx := 80) (r1 := 0) (r2 := 0) (r3 := 0) rfl ?_
              refine wi_bipush (n := 11) (nx := 82) (r1 := 0) (r2 := 0) (r3 := 0) rfl (by decide) ?_
              refine wr_V (k0 := 236) (rest := [vi 3, .ref 239]) (as := [.ref 236, vi 0, vi 11]) (nx := 85) (r1 := 231) (r2 := 2) (r3 := 11) rfl rfl rfl (of_decide_eq_true rfl) rfl rfl (by decide) rfl rfl (of_decide_eq_true rfl) (of_decide_eq_true rfl) ?_
              have e59 : h56 236 4 = h44 236 4 := (u56 236 4 rfl)
              have e60 : h56 236 3 = h 236 3 := ((u56 236 3 rfl).trans (u44 236 3 rfl))
              have e61 : h56 236 8 = h44 236 8 := (u56 236 8 rfl)
              have e62 : h56 236 5 = h44 236 5 := (u56 236 5 rfl)
              have e63 : h56 236 6 = h44 236 6 := (u56 236 6 rfl)
              have e64 : h56 236 7 = h44 236 7 := (u56 236 7 rfl)
              have e65 : h56 236 12 = h44 236 12 := (u56 236 12 rfl)
              have rb67 := RefB.fr u44 rfl xq0
              have rb68 := RefB.fr u56 rfl rb67
              refine ct_231_236 hcr  g56 0 11 (by omega) (by omega) (show (h56 236 4) ≤ (h56 236 3) by omega) (show 0 ≤ (tk_nx tB tn tp) by omega) (show (tk_nx tB tn tp) ≤ tn by omega) (show (tk_nx tB tn tp) ≤ tk_nx tB tn (tk_nx tB tn tp) ∧ tk_nx tB tn (tk_nx tB tn tp) ≤ tn from ⟨by omega, by omega⟩) (show 1 ≤ (h56 236 8) ∨ ((h56 236 4) = tk_nx tB tn (tk_nx tB tn tp) ∧ (h56 236 5) = tk_st tB tn (tk_nx tB tn tp) ∧ TKk tB tn (tk_nx tB tn tp) ((h56 236 6)) ((h56 236 7)) ((h56 236 12))) from (Or.inr (show ((h56 236 4) = tk_nx tB tn (tk_nx tB tn tp) ∧ (h56 236 5) = tk_st tB tn (tk_nx tB tn tp) ∧ TKk tB tn (tk_nx tB tn tp) ((h56 236 6)) ((h56 236 7)) ((h56 236 12))) by first | assumption | exact ⟨by omega, by omega, TKk.mv (by assumption) (by omega) (by omega) (by omega)⟩))) rb68 (fun h58 z66 g58 u58 (fz66 : 0 ≤ z66 ∧ z66 ≤ 999) (p58_0 : (1 ≤ (h56 236 8) ∧ (h58 236 8) = (h56 236 8) ∧ (h58 236 9) = (h56 236 9)) ∨ ((h56 236 8) = 0 ∧ tk_kd tB tn (tk_nx tB tn tp) = 2 ∧ 0 ≤ tk_nb tB tn (tk_nx tB tn tp) ∧ tk_nb tB tn (tk_nx tB tn tp) ≤ 11 ∧ z66 = tk_nb tB tn (tk_nx tB tn tp) ∧ (h58 236 8) = (h56 236 8) ∧ (h58 236 9) = (h56 236 9) ∧ ((h58 236 4) = tk_nx tB tn (tk_nx tB tn (tk_nx tB tn tp)) ∧ (h58 236 5) = tk_st tB tn (tk_nx tB tn (tk_nx tB tn tp)) ∧ TKk tB tn (tk_nx tB tn (tk_nx tB tn tp)) ((h58 236 6)) ((h58 236 7)) ((h58 236 12)))) ∨ ((h56 236 8) = 0 ∧ tk_kd tB tn (tk_nx tB tn tp) ≠ 2 ∧ (h58 236 8) = 1 ∧ (h58 236 9) = tk_st tB tn (tk_nx tB tn tp)) ∨ ((h56 236 8) = 0 ∧ tk_kd tB tn (tk_nx tB tn tp) = 2 ∧ (tk_nb tB tn (tk_nx tB tn tp) < 0 ∨ 11 < tk_nb tB tn (tk_nx tB tn tp)) ∧ (h58 236 8) = 2 ∧ (h58 236 9) = tk_st tB tn (tk_nx tB tn tp))) (p58_1 : (h56 236 4) ≤ (h58 236 4)) (p58_2 : (h58 236 4) ≤ (h56 236 3)) (p58_3 : 1 ≤ (h58 236 8) ∨ (h56 236 8) = 0) (p58_4 : 1 ≤ (h58 236 8) ∨ (0 ≤ z66 ∧ z66 ≤ 11)) (p58_5 : 1 ≤ (h58 236 8) ∨ (h56 236 6) = 2) => ?_)
              have F69 := F57.then (by decide +kernel) u58
              have e70 : h56 236 9 = h44 236 9 := (u56 236 9 rfl)
              have b71 := gi_b (lo := 0) (hi := 5) g58 236 8 rfl
              have b72 := gi_b (lo := -2147483648) (hi := 2147483647) g58 236 9 rfl
              have b73 := gi_b (lo := 0) (hi := 800) g58 236 4 rfl
              have b74 := gi_b (lo := 0) (hi := 800) g58 236 5 rfl
              have b75 := gi_b (lo := 0) (hi := 4) g58 236 6 rfl
              have b76 := gi_b (lo := 0) (hi := 999) g58 236 7 rfl
              have b77 := gi_b (lo := -9223372036854775808) (hi := 9223372036854775807) g58 236 12 rfl
              refine wk_i ?_
              rcases p58_0 with p58_0 | p58_0 | p58_0 | p58_0
              ·
                exfalso; omega
              ·
                replace p58_3 := p58_3.resolve_left (by omega)
                replace p58_4 := p58_4.resolve_left (by omega)
                replace p58_5 := p58_5.resolve_left (by omega)
                have tkk78 := (p58_0.2.2.2.2.2.2.2).2.2
                have dk79 : tk_kd tB tn (tk_nx tB tn tp) = 2 := p58_0.2.1
                have dr80 : 0 ≤ tk_nb tB tn (tk_nx tB tn tp) ∧ tk_nb tB tn (tk_nx tB tn tp) ≤ 11 := ⟨p58_0.2.2.1, p58_0.2.2.2.1⟩
                have tN81 := @tk_nx_b tB tn (tk_nx tB tn (tk_nx tB tn tp)) (by omega) (by omega)
                refine wr_is (k0 := 239) (a := 3) (f := 3) (x := z66) (bl := 0) (bh := 999) (nx := 86) (r1 := 0) (r2 := 0) (r3 := 0) rfl (by decide) rfl (by omega) (by omega) (by decide) g58 rfl (by omega) (fun h82 g82 w82 u82 => ?_)
                have F83 := F69.then rfl u82
                refine wi_aload_n (i := 0) (x := 236) (nx := 87) (r1 := 0) (r2 := 0) (r3 := 0) rfl rfl ?_
                refine wr_gr (k0 := 236) (x := 239) (nx := 90) (r1 := 11) (r2 := 14) (r3 := 0) rfl rfl (by decide) rfl ⟨rfl, rfl⟩ rfl ?_
                refine wi_iconst (n := 4) (nx := 91) (r1 := 0) (r2 := 0) (r3 := 0) rfl ?_
                refine wi_aload_n (i := 0) (x := 236) (nx := 92) (r1 := 0) (r2 := 0) (r3 := 0) rfl rfl ?_
                refine wi_iconst (n := 0) (nx := 93) (r1 := 0) (r2 := 0) (r3 := 0) rfl ?_
                refine wi_bipush (n := 11) (nx := 95) (r1 := 0) (r2 := 0) (r3 := 0) rfl (by decide) ?_
                refine wr_V (k0 := 236) (rest := [vi 4, .ref 239]) (as := [.ref 236, vi 0, vi 11]) (nx := 98) (r1 := 231) (r2 := 2) (r3 := 11) rfl rfl rfl (of_decide_eq_true rfl) rfl rfl (by decide) rfl rfl (of_decide_eq_true rfl) (of_decide_eq_true rfl) ?_
                have e85 : h82 236 4 = h58 236 4 := (u82 236 4 rfl)
                have e86 : h82 236 3 = h 236 3 := ((u82 236 3 rfl).trans ((u58 236 3 rfl).trans ((u56 236 3 rfl).trans (u44 236 3 rfl))))
                have e87 : h82 236 8 = h58 236 8 := (u82 236 8 rfl)
                have e88 : h82 236 5 = h58 236 5 := (u82 236 5 rfl)
                have e89 : h82 236 6 = h58 236 6 := (u82 236 6 rfl)
                have e90 : h82 236 7 = h58 236 7 := (u82 236 7 rfl)
                have e91 : h82 236 12 = h58 236 12 := (u82 236 12 rfl)
                have rb93 := RefB.fr u58 rfl rb68
                have rb94 := RefB.fr u82 rfl rb93
                refine ct_231_236 hcr  g82 0 11 (by omega) (by omega) (show (h82 236 4) ≤ (h82 236 3) by omega) (show 0 ≤ (tk_nx tB tn (tk_nx tB tn tp)) by omega) (show (tk_nx tB tn (tk_nx tB tn tp)) ≤ tn by omega) (show (tk_nx tB tn (tk_nx tB tn tp)) ≤ tk_nx tB tn (tk_nx tB tn (tk_nx tB tn tp)) ∧ tk_nx tB tn (tk_nx tB tn (tk_nx tB tn tp)) ≤ tn from ⟨by omega, by omega⟩) (show 1 ≤ (h82 236 8) ∨ ((h82 236 4) = tk_nx tB tn (tk_nx tB tn (tk_nx tB tn tp)) ∧ (h82 236 5) = tk_st tB tn (tk_nx tB tn (tk_nx tB tn tp)) ∧ TKk tB tn (tk_nx tB tn (tk_nx tB tn tp)) ((h82 236 6)) ((h82 236 7)) ((h82 236 12))) from (Or.inr (show ((h82 236 4) = tk_nx tB tn (tk_nx tB tn (tk_nx tB tn tp)) ∧ (h82 236 5) = tk_st tB tn (tk_nx tB tn (tk_nx tB tn tp)) ∧ TKk tB tn (tk_nx tB tn (tk_nx tB tn tp)) ((h82 236 6)) ((h82 236 7)) ((h82 236 12))) by first | assumption | exact ⟨by omega, by omega, TKk.mv (by assumption) (by omega) (by omega) (by omega)⟩))) rb94 (fun h84 z92 g84 u84 (fz92 : 0 ≤ z92 ∧ z92 ≤ 999) (p84_0 : (1 ≤ (h82 236 8) ∧ (h84 236 8) = (h82 236 8) ∧ (h84 236 9) = (h82 236 9)) ∨ ((h82 236 8) = 0 ∧ tk_kd tB tn (tk_nx tB tn (tk_nx tB tn tp)) = 2 ∧ 0 ≤ tk_nb tB tn (tk_nx tB tn (tk_nx tB tn tp)) ∧ tk_nb tB tn (tk_nx tB tn (tk_nx tB tn tp)) ≤ 11 ∧ z92 = tk_nb tB tn (tk_nx tB tn (tk_nx tB tn tp)) ∧ (h84 236 8) = (h82 236 8) ∧ (h84 236 9) = (h82 236 9) ∧ ((h84 236 4) = tk_nx tB tn (tk_nx tB tn (tk_nx tB tn (tk_nx tB tn tp))) ∧ (h84 236 5) = tk_st tB tn (tk_nx tB tn (tk_nx tB tn (tk_nx tB tn tp))) ∧ TKk tB tn (tk_nx tB tn (tk_nx tB tn (tk_nx tB tn tp))) ((h84 236 6)) ((h84 236 7)) ((h84 236 12)))) ∨ ((h82 236 8) = 0 ∧ tk_kd tB tn (tk_nx tB tn (tk_nx tB tn tp)) ≠ 2 ∧ (h84 236 8) = 1 ∧ (h84 236 9) = tk_st tB tn (tk_nx tB tn (tk_nx tB tn tp))) ∨ ((h82 236 8) = 0 ∧ tk_kd tB tn (tk_nx tB tn (tk_nx tB tn tp)) = 2 ∧ (tk_nb tB tn (tk_nx tB tn (tk_nx tB tn tp)) < 0 ∨ 11 < tk_nb tB tn (tk_nx tB tn (tk_nx tB tn tp))) ∧ (h84 236 8) = 2 ∧ (h84 236 9) = tk_st tB tn (tk_nx tB tn (tk_nx tB tn tp)))) (p84_1 : (h82 236 4) ≤ (h84 236 4)) (p84_2 : (h84 236 4) ≤ (h82 236 3)) (p84_3 : 1 ≤ (h84 236 8) ∨ (h82 236 8) = 0) (p84_4 : 1 ≤ (h84 236 8) ∨ (0 ≤ z92 ∧ z92 ≤ 11)) (p84_5 : 1 ≤ (h84 236 8) ∨ (h82 236 6) = 2) => ?_)
                have F95 := F83.then (by decide +kernel) u84
                have e96 : h82 236 9 = h58 236 9 := (u82 236 9 rfl)
                have b97 := gi_b (lo := 0) (hi := 5) g84 236 8 rfl
                have b98 := gi_b (lo := -2147483648) (hi := 2147483647) g84 236 9 rfl
                have b99 := gi_b (lo := 0) (hi := 800) g84 236 4 rfl
                have b100 := gi_b (lo := 0) (hi := 800) g84 236 5 rfl
                have b101 := gi_b (lo := 0) (hi := 4) g84 236 6 rfl
                have b102 := gi_b (lo := 0) (hi := 999) g84 236 7 rfl
                have b103 := gi_b (lo := -9223372036854775808) (hi := 9223372036854775807) g84 236 12 rfl
                refine wk_i ?_
                rcases p84_0 with p84_0 | p84_0 | p84_0 | p84_0
                ·
                  exfalso; omega
                ·
                  replace p84_3 := p84_3.resolve_left (by omega)
                  replace p84_4 := p84_4.resolve_left (by omega)
                  replace p84_5 := p84_5.resolve_left (by omega)
                  have tkk104 := (p84_0.2.2.2.2.2.2.2).2.2
                  have dk105 : tk_kd tB tn (tk_nx tB tn (tk_nx tB tn tp)) = 2 := p84_0.2.1
                  have dr106 : 0 ≤ tk_nb tB tn (tk_nx tB tn (tk_nx tB tn tp)) ∧ tk_nb tB tn (tk_nx tB tn (tk_nx tB tn tp)) ≤ 11 := ⟨p84_0.2.2.1, p84_0.2.2.2.1⟩
                  have tN107 := @tk_nx_b tB tn (tk_nx tB tn (tk_nx tB tn (tk_nx tB tn tp))) (by omega) (by omega)
                  refine wr_is (k0 := 239) (a := 4) (f := 4) (x := z92) (bl := 0) (bh := 999) (nx := 99) (r1 := 0) (r2 := 0) (r3 := 0) rfl (by decide) rfl (by omega) (by omega) (by decide) g84 rfl (by omega) (fun h108 g108 w108 u108 => ?_)
                  have F109 := F95.then rfl u108
                  refine wi_goto (nx := 102) (r1 := 256) (r2 := 0) (r3 := 0) rfl ?_
                  refine wi_return (nx := 257) (r1 := 0) (r2 := 0) (r3 := 0) rfl rfl ?_
                  have e110 : h108 236 8 = h84 236 8 := (u108 236 8 rfl)
                  have e111 : h108 236 4 = h84 236 4 := (u108 236 4 rfl)
                  have e112 : h108 239 5 = h 239 5 := ((u108 239 5 rfl).trans ((u84 239 5 rfl).trans ((u82 239 5 rfl).trans ((u58 239 5 rfl).trans ((u56 239 5 rfl).trans (u44 239 5 rfl))))))
                  have e113 : h108 239 7 = h 239 7 := ((u108 239 7 rfl).trans ((u84 239 7 rfl).trans ((u82 239 7 rfl).trans ((u58 239 7 rfl).trans ((u56 239 7 rfl).trans (u44 239 7 rfl))))))
                  have e114 : h108 239 15 = h 239 15 := ((u108 239 15 rfl).trans ((u84 239 15 rfl).trans ((u82 239 15 rfl).trans ((u58 239 15 rfl).trans ((u56 239 15 rfl).trans (u44 239 15 rfl))))))
                  have e115 : h108 239 16 = h 239 16 := ((u108 239 16 rfl).trans ((u84 239 16 rfl).trans ((u82 239 16 rfl).trans ((u58 239 16 rfl).trans ((u56 239 16 rfl).trans (u44 239 16 rfl))))))
                  have e116 : h108 239 17 = h 239 17 := ((u108 239 17 rfl).trans ((u84 239 17 rfl).trans ((u82 239 17 rfl).trans ((u58 239 17 rfl).trans ((u56 239 17 rfl).trans (u44 239 17 rfl))))))
                  have e117 : h108 239 18 = h 239 18 := ((u108 239 18 rfl).trans ((u84 239 18 rfl).trans ((u82 239 18 rfl).trans ((u58 239 18 rfl).trans ((u56 239 18 rfl).trans (u44 239 18 rfl))))))
                  have e118 : h108 236 9 = h84 236 9 := (u108 236 9 rfl)
                  have e119 : h108 239 0 = h 239 0 := ((u108 239 0 rfl).trans ((u84 239 0 rfl).trans ((u82 239 0 rfl).trans ((u58 239 0 rfl).trans ((u56 239 0 rfl).trans (u44 239 0 rfl))))))
                  have e120 : h108 239 1 = h 239 1 := ((u108 239 1 rfl).trans ((u84 239 1 rfl).trans ((u82 239 1 rfl).trans ((u58 239 1 rfl).trans ((u56 239 1 rfl).trans (u44 239 1 rfl))))))
                  have e121 : h108 239 2 = h 239 2 := ((u108 239 2 rfl).trans ((u84 239 2 rfl).trans ((u82 239 2 rfl).trans ((u58 239 2 rfl).trans ((u56 239 2 rfl).trans (u44 239 2 rfl))))))
                  have e122 : h108 239 3 = z66 := ((u108 239 3 rfl).trans ((u84 239 3 rfl).trans w82))
                  have e123 : h108 239 4 = z92 := w108
                  have b124 := gi_b (lo := 0) (hi := 999) g 239 6 rfl
                  have e125 : h108 239 6 = h 239 6 := ((u108 239 6 rfl).trans ((u84 239 6 rfl).trans ((u82 239 6 rfl).trans ((u58 239 6 rfl).trans ((u56 239 6 rfl).trans (u44 239 6 rfl))))))
                  have b126 := gi_b (lo := 0) (hi := 999) g 239 8 rfl
                  have e127 : h108 239 8 = h 239 8 := ((u108 239 8 rfl).trans ((u84 239 8 rfl).trans ((u82 239 8 rfl).trans ((u58 239 8 rfl).trans ((u56 239 8 rfl).trans (u44 239 8 rfl))))))
                  have b128 := gi_b (lo := 0) (hi := 999) g 239 9 rfl
                  have e129 : h108 239 9 = h 239 9 := ((u108 239 9 rfl).trans ((u84 239 9 rfl).trans ((u82 239 9 rfl).trans ((u58 239 9 rfl).trans ((u56 239 9 rfl).trans (u44 239 9 rfl))))))
                  have e130 : h108 236 23 = z45 := ((u108 236 23 rfl).trans ((u84 236 23 rfl).trans ((u82 236 23 rfl).trans ((u58 236 23 rfl).trans w56))))
                  have b131 := gi_b (lo := 0) (hi := 1) g 236 24 rfl
                  have e132 : h108 236 24 = h 236 24 := ((u108 236 24 rfl).trans ((u84 236 24 rfl).trans ((u82 236 24 rfl).trans ((u58 236 24 rfl).trans ((u56 236 24 rfl).trans (u44 236 24 rfl))))))
                  have b133 := gi_b (lo := 0) (hi := 1) g 236 25 rfl
                  have e134 : h108 236 25 = h 236 25 := ((u108 236 25 rfl).trans ((u84 236 25 rfl).trans ((u82 236 25 rfl).trans ((u58 236 25 rfl).trans ((u56 236 25 rfl).trans (u44 236 25 rfl))))))
                  have b135 := gi_b (lo := 0) (hi := 1) g 236 26 rfl
                  have e136 : h108 236 26 = h 236 26 := ((u108 236 26 rfl).trans ((u84 236 26 rfl).trans ((u82 236 26 rfl).trans ((u58 236 26 rfl).trans ((u56 236 26 rfl).trans (u44 236 26 rfl))))))
                  have e137 : h108 236 5 = h84 236 5 := (u108 236 5 rfl)
                  have e138 : h108 236 6 = h84 236 6 := (u108 236 6 rfl)
                  have e139 : h108 236 7 = h84 236 7 := (u108 236 7 rfl)
                  have e140 : h108 236 12 = h84 236 12 := (u108 236 12 rfl)
                  exact k h108 g108 F109 (show (h108 236 8) = 0 ∨ 1 ≤ (h108 236 8) from (Or.inl (by omega))) (show (h 236 4) ≤ (h108 236 4) by omega) (show (h108 236 4) ≤ (h 236 3) by omega) (show 1 ≤ (h108 236 8) ∨ ((h108 239 5) ≤ 9 ∧ 1 ≤ (h108 239 5) ∧ (h108 239 7) ≤ 3 ∧ (h108 239 15) ≤ 6 ∧ (h108 239 16) ≤ 6 ∧ (h108 239 17) ≤ 6 ∧ (h108 239 18) ≤ 6) from (Or.inr (⟨by omega, by omega, by omega, by omega, by omega, by omega, by omega⟩))) (show (h108 236 8) ≠ 0 ∨ (h108 236 9) = -1 from (Or.inr (by omega))) (by unfold tk_stm; (repeat (first | unfold tk_once | unfold tk_num | unfold tk_window)); (try dsimp only); rw [if_pos kf20.1]; (repeat (first | unfold tk_once | unfold tk_num | unfold tk_window)); (try dsimp only); rw [if_neg wk23.no]; (repeat (first | unfold tk_once | unfold tk_num | unfold tk_window)); (try dsimp only); rw [if_neg wk29.no]; (repeat (first | unfold tk_once | unfold tk_num | unfold tk_window)); (try dsimp only); rw [if_neg wk35.no]; (repeat (first | unfold tk_once | unfold tk_num | unfold tk_window)); (try dsimp only); rw [if_pos wk41]; (repeat (first | unfold tk_once | unfold tk_num | unfold tk_window)); (try dsimp only); rw [if_neg (by omega)]; (repeat (first | unfold tk_once | unfold tk_num | unfold tk_window)); (try dsimp only); rw [if_pos dk79]; (repeat (first | unfold tk_once | unfold tk_num | unfold tk_window)); (try dsimp only); rw [if_pos dr80]; (repeat (first | unfold tk_once | unfold tk_num | unfold tk_window)); (try dsimp only); rw [if_pos dk105]; (repeat (first | unfold tk_once | unfold tk_num | unfold tk_window)); (try dsimp only); rw [if_pos dr106]; (repeat (first | unfold tk_once | unfold tk_num | unfold tk_window)); (try dsimp only); exact tk_ORs (by omega) (by first | assumption | exact ⟨by omega, by omega, TKk.mv (by assumption) (by omega) (by omega) (by omega)⟩) (CVr.flag xq1 (fun j j3 j4 j5 j6 j7 j8 j9 j60 j61 j62 j63 => by (repeat unfold tk_u); rw [if_neg j4, if_neg j3, if_neg j60]) (fun i e => e.elim (fun e => ((u108 239 i (fn_i (by omega) fn_0)).trans ((u84 239 i (fo_nk rfl)).trans ((u82 239 i (fn_i (by omega) fn_0)).trans ((u58 239 i (fo_nk rfl)).trans ((u56 239 i (fn_a (by omega) fn_0)).trans (u44 239 i (fo_nk rfl)))))))) (fun e => ((u108 239 i (fn_i (by omega) fn_0)).trans ((u84 239 i (fo_nk rfl)).trans ((u82 239 i (fn_i (by omega) fn_0)).trans ((u58 239 i (fo_nk rfl)).trans ((u56 239 i (fn_a (by omega) fn_0)).trans (u44 239 i (fo_nk rfl))))))))) ⟨(by (repeat unfold tk_u); (repeat (first | rw [if_pos (by decide)] | rw [if_neg (by decide)])); all_goals omega), (by (repeat unfold tk_u); (repeat (first | rw [if_pos (by decide)] | rw [if_neg (by decide)])); all_goals omega), (by (repeat unfold tk_u); (repeat (first | rw [if_pos (by decide)] | rw [if_neg (by decide)])); all_goals omega), (by (repeat unfold tk_u); (repeat (first | rw [if_pos (by decide)] | rw [if_neg (by decide)])); all_goals omega), (by (repeat unfold tk_u); (repeat (first | rw [if_pos (by decide)] | rw [if_neg (by decide)])); all_goals omega), (by (repeat unfold tk_u); (repeat (first | rw [if_pos (by decide)] | rw [if_neg (by decide)])); all_goals omega), (by (repeat unfold tk_u); (repeat (first | rw [if_pos (by decide)] | rw [if_neg (by decide)])); all_goals omega)⟩ ⟨(by (repeat unfold tk_u); (repeat (first | rw [if_pos (by decide)] | rw [if_neg (by decide)])); all_goals omega), (by (repeat unfold tk_u); (repeat (first | rw [if_pos (by decide)] | rw [if_neg (by decide)])); all_goals omega), (by (repeat unfold tk_u); (repeat (first | rw [if_pos (by decide)] | rw [if_neg (by decide)])); all_goals omega), (by (repeat unfold tk_u); (repeat (first | rw [if_pos (by decide)] | rw [if_neg (by decide)])); all_goals omega)⟩ (fun i => ((u108 244 i (fn_a (by omega) fn_0)).trans ((u84 244 i (fo_nk rfl)).trans ((u82 244 i (fn_a (by omega) fn_0)).trans ((u58 244 i (fo_nk rfl)).trans ((u56 244 i (fn_a (by omega) fn_0)).trans (u44 244 i (fo_nk rfl)))))))) (by omega) (by omega) (by omega)))
                ·
                  clear p84_3
                  clear p84_4
                  clear p84_5
                  have dn104 : TKn (tk_kd tB tn (tk_nx tB tn (tk_nx tB tn tp)) = 2) := p84_0.2.1
                  replace p84_0 : _ := And.intro (p84_0.1) (And.intro (p84_0.2.2.1) (p84_0.2.2.2))
                  refine wr_is (k0 := 239) (a := 4) (f := 4) (x := z92) (bl := 0) (bh := 999) (nx := 99) (r1 := 0) (r2 := 0) (r3 := 0) rfl (by decide) rfl (by omega) (by omega) (by decide) g84 rfl (by omega) (fun h105 g105 w105 u105 => ?_)
                  have F106 := F95.then rfl u105
                  refine wi_goto (nx := 102) (r1 := 256) (r2 := 0) (r3 := 0) rfl ?_
                  refine wi_return (nx := 257) (r1 := 0) (r2 := 0) (r3 := 0) rfl rfl ?_
                  have e107 : h105 236 8 = h84 236 8 := (u105 236 8 rfl)
                  have e108 : h105 236 4 = h84 236 4 := (u105 236 4 rfl)
                  have e109 : h105 239 5 = h 239 5 := ((u105 239 5 rfl).trans ((u84 239 5 rfl).trans ((u82 239 5 rfl).trans ((u58 239 5 rfl).trans ((u56 239 5 rfl).trans (u44 239 5 rfl))))))
                  have e110 : h105 239 7 = h 239 7 := ((u105 239 7 rfl).trans ((u84 239 7 rfl).trans ((u82 239 7 rfl).trans ((u58 239 7 rfl).trans ((u56 239 7 rfl).trans (u44 239 7 rfl))))))
                  have e111 : h105 239 15 = h 239 15 := ((u105 239 15 rfl).trans ((u84 239 15 rfl).trans ((u82 239 15 rfl).trans ((u58 239 15 rfl).trans ((u56 239 15 rfl).trans (u44 239 15 rfl))))))
                  have e112 : h105 239 16 = h 239 16 := ((u105 239 16 rfl).trans ((u84 239 16 rfl).trans ((u82 239 16 rfl).trans ((u58 239 16 rfl).trans ((u56 239 16 rfl).trans (u44 239 16 rfl))))))
                  have e113 : h105 239 17 = h 239 17 := ((u105 239 17 rfl).trans ((u84 239 17 rfl).trans ((u82 239 17 rfl).trans ((u58 239 17 rfl).trans ((u56 239 17 rfl).trans (u44 239 17 rfl))))))
                  have e114 : h105 239 18 = h 239 18 := ((u105 239 18 rfl).trans ((u84 239 18 rfl).trans ((u82 239 18 rfl).trans ((u58 239 18 rfl).trans ((u56 239 18 rfl).trans (u44 239 18 rfl))))))
                  have e115 : h105 236 9 = h84 236 9 := (u105 236 9 rfl)
                  exact k h105 g105 F106 (show (h105 236 8) = 0 ∨ 1 ≤ (h105 236 8) from (Or.inr (by omega))) (show (h 236 4) ≤ (h105 236 4) by omega) (show (h105 236 4) ≤ (h 236 3) by omega) (show 1 ≤ (h105 236 8) ∨ ((h105 239 5) ≤ 9 ∧ 1 ≤ (h105 239 5) ∧ (h105 239 7) ≤ 3 ∧ (h105 239 15) ≤ 6 ∧ (h105 239 16) ≤ 6 ∧ (h105 239 17) ≤ 6 ∧ (h105 239 18) ≤ 6) from (Or.inl (by omega))) (show (h105 236 8) ≠ 0 ∨ (h105 236 9) = -1 from (Or.inl (by omega))) (by unfold tk_stm; (repeat (first | unfold tk_once | unfold tk_num | unfold tk_window)); (try dsimp only); rw [if_pos kf20.1]; (repeat (first | unfold tk_once | unfold tk_num | unfold tk_window)); (try dsimp only); rw [if_neg wk23.no]; (repeat (first | unfold tk_once | unfold tk_num | unfold tk_window)); (try dsimp only); rw [if_neg wk29.no]; (repeat (first | unfold tk_once | unfold tk_num | unfold tk_window)); (try dsimp only); rw [if_neg wk35.no]; (repeat (first | unfold tk_once | unfold tk_num | unfold tk_window)); (try dsimp only); rw [if_pos wk41]; (repeat (first | unfold tk_once | unfold tk_num | unfold tk_window)); (try dsimp only); rw [if_neg (by omega)]; (repeat (first | unfold tk_once | unfold tk_num | unfold tk_window)); (try dsimp only); rw [if_pos dk79]; (repeat (first | unfold tk_once | unfold tk_num | unfold tk_window)); (try dsimp only); rw [if_pos dr80]; (repeat (first | unfold tk_once | unfold tk_num | unfold tk_window)); (try dsimp only); rw [if_neg dn104.no]; (repeat (first | unfold tk_once | unfold tk_num | unfold tk_window)); (try dsimp only); exact tk_ORe (by omega) (by omega) (by omega))
                ·
                  clear p84_3
                  clear p84_4
                  clear p84_5
                  have dk104 : tk_kd tB tn (tk_nx tB tn (tk_nx tB tn tp)) = 2 := p84_0.2.1
                  have dr105 : TKn (0 ≤ tk_nb tB tn (tk_nx tB tn (tk_nx tB tn tp)) ∧ tk_nb tB tn (tk_nx tB tn (tk_nx tB tn tp)) ≤ 11) := tkn_r p84_0.2.2.1
                  replace p84_0 : _ := And.intro (p84_0.1) (And.intro (p84_0.2.1) (And.intro (p84_0.2.2.2.1) (p84_0.2.2.2.2)))
                  refine wr_is (k0 := 239) (a := 4) (f := 4) (x := z92) (bl := 0) (bh := 999) (nx := 99) (r1 := 0) (r2 := 0) (r3 := 0) rfl (by decide) rfl (by omega) (by omega) (by decide) g84 rfl (by omega) (fun h106 g106 w106 u106 => ?_)
                  have F107 := F95.then rfl u106
                  refine wi_goto (nx := 102) (r1 := 256) (r2 := 0) (r3 := 0) rfl ?_
                  refine wi_return (nx := 257) (r1 := 0) (r2 := 0) (r3 := 0) rfl rfl ?_
                  have e108 : h106 236 8 = h84 236 8 := (u106 236 8 rfl)
                  have e109 : h106 236 4 = h84 236 4 := (u106 236 4 rfl)
                  have e110 : h106 239 5 = h 239 5 := ((u106 239 5 rfl).trans ((u84 239 5 rfl).trans ((u82 239 5 rfl).trans ((u58 239 5 rfl).trans ((u56 239 5 rfl).trans (u44 239 5 rfl))))))
                  have e111 : h106 239 7 = h 239 7 := ((u106 239 7 rfl).trans ((u84 239 7 rfl).trans ((u82 239 7 rfl).trans ((u58 239 7 rfl).trans ((u56 239 7 rfl).trans (u44 239 7 rfl))))))
                  have e112 : h106 239 15 = h 239 15 := ((u106 239 15 rfl).trans ((u84 239 15 rfl).trans ((u82 239 15 rfl).trans ((u58 239 15 rfl).trans ((u56 239 15 rfl).trans (u44 239 15 rfl))))))
                  have e113 : h106 239 16 = h 239 16 := ((u106 239 16 rfl).trans ((u84 239 16 rfl).trans ((u82 239 16 rfl).trans ((u58 239 16 rfl).trans ((u56 239 16 rfl).trans (u44 239 16 rfl))))))
                  have e114 : h106 239 17 = h 239 17 := ((u106 239 17 rfl).trans ((u84 239 17 rfl).trans ((u82 239 17 rfl).trans ((u58 239 17 rfl).trans ((u56 239 17 rfl).trans (u44 239 17 rfl))))))
                  have e115 : h106 239 18 = h 239 18 := ((u106 239 18 rfl).trans ((u84 239 18 rfl).trans ((u82 239 18 rfl).trans ((u58 239 18 rfl).trans ((u56 239 18 rfl).trans (u44 239 18 rfl))))))
                  have e116 : h106 236 9 = h84 236 9 := (u106 236 9 rfl)
                  exact k h106 g106 F107 (show (h106 236 8) = 0 ∨ 1 ≤ (h106 236 8) from (Or.inr (by omega))) (show (h 236 4) ≤ (h106 236 4) by omega) (show (h106 236 4) ≤ (h 236 3) by omega) (show 1 ≤ (h106 236 8) ∨ ((h106 239 5) ≤ 9 ∧ 1 ≤ (h106 239 5) ∧ (h106 239 7) ≤ 3 ∧ (h106 239 15) ≤ 6 ∧ (h106 239 16) ≤ 6 ∧ (h106 239 17) ≤ 6 ∧ (h106 239 18) ≤ 6) from (Or.inl (by omega))) (show (h106 236 8) ≠ 0 ∨ (h106 236 9) = -1 from (Or.inl (by omega))) (by unfold tk_stm; (repeat (first | unfold tk_once | unfold tk_num | unfold tk_window)); (try dsimp only); rw [if_pos kf20.1]; (repeat (first | unfold tk_once | unfold tk_num | unfold tk_window)); (try dsimp only); rw [if_neg wk23.no]; (repeat (first | unfold tk_once | unfold tk_num | unfold tk_window)); (try dsimp only); rw [if_neg wk29.no]; (repeat (first | unfold tk_once | unfold tk_num | unfold tk_window)); (try dsimp only); rw [if_neg wk35.no]; (repeat (first | unfold tk_once | unfold tk_num | unfold tk_window)); (try dsimp only); rw [if_pos wk41]; (repeat (first | unfold tk_once | unfold tk_num | unfold tk_window)); (try dsimp only); rw [if_neg (by omega)]; (repeat (first | unfold tk_once | unfold tk_num | unfold tk_window)); (try dsimp only); rw [if_pos dk79]; (repeat (first | unfold tk_once | unfold tk_num | unfold tk_window)); (try dsimp only); rw [if_pos dr80]; (repeat (first | unfold tk_once | unfold tk_num | unfold tk_window)); (try dsimp only); rw [if_pos dk104]; (repeat (first | unfold tk_once | unfold tk_num | unfold tk_window)); (try dsimp only); rw [if_neg dr105.no]; (repeat (first | unfold tk_once | unfold tk_num | unfold tk_window)); (try dsimp only); exact tk_ORe (by omega) (by omega) (by omega))
              ·
                clear p58_3
                clear p58_4
                clear p58_5
                have dn78 : TKn (tk_kd tB tn (tk_nx tB tn tp) = 2) := p58_0.2.1
                replace p58_0 : _ := And.intro (p58_0.1) (And.intro (p58_0.2.2.1) (p58_0.2.2.2))
                refine wr_is (k0 := 239) (a := 3) (f := 3) (x := z66) (bl := 0) (bh := 999) (nx := 86) (r1 := 0) (r2 := 0) (r3 := 0) rfl (by decide) rfl (by omega) (by omega) (by decide) g58 rfl (by omega) (fun h79 g79 w79 u79 => ?_)
                have F80 := F69.then rfl u79
                refine wi_aload_n (i := 0) (x := 236) (nx := 87) (r1 := 0) (r2 := 0) (r3 := 0) rfl rfl ?_
                refine wr_gr (k0 := 236) (x := 239) (nx := 90) (r1 := 11) (r2 := 14) (r3 := 0) rfl rfl (by decide) rfl ⟨rfl, rfl⟩ rfl ?_
                refine wi_iconst (n := 4) (nx := 91) (r1 := 0) (r2 := 0) (r3 := 0) rfl ?_
                refine wi_aload_n (i := 0) (x := 236) (nx := 92) (r1 := 0) (r2 := 0) (r3 := 0) rfl rfl ?_
                refine wi_iconst (n := 0) (nx := 93) (r1 := 0) (r2 := 0) (r3 := 0) rfl ?_
                refine wi_bipush (n := 11) (nx := 95) (r1 := 0) (r2 := 0) (r3 := 0) rfl (by decide) ?_
                refine wr_V (k0 := 236) (rest := [vi 4, .ref 239]) (as := [.ref 236, vi 0, vi 11]) (nx := 98) (r1 := 231) (r2 := 2) (r3 := 11) rfl rfl rfl (of_decide_eq_true rfl) rfl rfl (by decide) rfl rfl (of_decide_eq_true rfl) (of_decide_eq_true rfl) ?_
                have e82 : h79 236 4 = h58 236 4 := (u79 236 4 rfl)
                have e83 : h79 236 3 = h 236 3 := ((u79 236 3 rfl).trans ((u58 236 3 rfl).trans ((u56 236 3 rfl).trans (u44 236 3 rfl))))
                have e84 : h79 236 8 = h58 236 8 := (u79 236 8 rfl)
                have e85 : h79 236 5 = h58 236 5 := (u79 236 5 rfl)
                have e86 : h79 236 6 = h58 236 6 := (u79 236 6 rfl)
                have e87 : h79 236 7 = h58 236 7 := (u79 236 7 rfl)
                have e88 : h79 236 12 = h58 236 12 := (u79 236 12 rfl)
                have rb90 := RefB.fr u58 rfl rb68
                have rb91 := RefB.fr u79 rfl rb90
                refine ct_231_236 hcr  g79 0 11 (by omega) (by omega) (show (h79 236 4) ≤ (h79 236 3) by omega) (show 0 ≤ (tk_nx tB tn tp) by omega) (show (tk_nx tB tn tp) ≤ tn by omega) (show (tk_nx tB tn tp) ≤ tk_nx tB tn (tk_nx tB tn tp) ∧ tk_nx tB tn (tk_nx tB tn tp) ≤ tn from ⟨by omega, by omega⟩) (show 1 ≤ (h79 236 8) ∨ ((h79 236 4) = tk_nx tB tn (tk_nx tB tn tp) ∧ (h79 236 5) = tk_st tB tn (tk_nx tB tn tp) ∧ TKk tB tn (tk_nx tB tn tp) ((h79 236 6)) ((h79 236 7)) ((h79 236 12))) from (Or.inl (by omega))) rb91 (fun h81 z89 g81 u81 (fz89 : 0 ≤ z89 ∧ z89 ≤ 999) (p81_0 : (1 ≤ (h79 236 8) ∧ (h81 236 8) = (h79 236 8) ∧ (h81 236 9) = (h79 236 9)) ∨ ((h79 236 8) = 0 ∧ tk_kd tB tn (tk_nx tB tn tp) = 2 ∧ 0 ≤ tk_nb tB tn (tk_nx tB tn tp) ∧ tk_nb tB tn (tk_nx tB tn tp) ≤ 11 ∧ z89 = tk_nb tB tn (tk_nx tB tn tp) ∧ (h81 236 8) = (h79 236 8) ∧ (h81 236 9) = (h79 236 9) ∧ ((h81 236 4) = tk_nx tB tn (tk_nx tB tn (tk_nx tB tn tp)) ∧ (h81 236 5) = tk_st tB tn (tk_nx tB tn (tk_nx tB tn tp)) ∧ TKk tB tn (tk_nx tB tn (tk_nx tB tn tp)) ((h81 236 6)) ((h81 236 7)) ((h81 236 12)))) ∨ ((h79 236 8) = 0 ∧ tk_kd tB tn (tk_nx tB tn tp) ≠ 2 ∧ (h81 236 8) = 1 ∧ (h81 236 9) = tk_st tB tn (tk_nx tB tn tp)) ∨ ((h79 236 8) = 0 ∧ tk_kd tB tn (tk_nx tB tn tp) = 2 ∧ (tk_nb tB tn (tk_nx tB tn tp) < 0 ∨ 11 < tk_nb tB tn (tk_nx tB tn tp)) ∧ (h81 236 8) = 2 ∧ (h81 236 9) = tk_st tB tn (tk_nx tB tn tp))) (p81_1 : (h79 236 4) ≤ (h81 236 4)) (p81_2 : (h81 236 4) ≤ (h79 236 3)) (p81_3 : 1 ≤ (h81 236 8) ∨ (h79 236 8) = 0) (p81_4 : 1 ≤ (h81 236 8) ∨ (0 ≤ z89 ∧ z89 ≤ 11)) (p81_5 : 1 ≤ (h81 236 8) ∨ (h79 236 6) = 2) => ?_)
                have F92 := F80.then (by decide +kernel) u81
                have e93 : h79 236 9 = h58 236 9 := (u79 236 9 rfl)
                have b94 := gi_b (lo := 0) (hi := 5) g81 236 8 rfl
                have b95 := gi_b (lo := -2147483648) (hi := 2147483647) g81 236 9 rfl
                have b96 := gi_b (lo := 0) (hi := 800) g81 236 4 rfl
                have b97 := gi_b (lo := 0) (hi := 800) g81 236 5 rfl
                have b98 := gi_b (lo := 0) (hi := 4) g81 236 6 rfl
                have b99 := gi_b (lo := 0) (hi := 999) g81 236 7 rfl
                have b100 := gi_b (lo := -9223372036854775808) (hi := 9223372036854775807) g81 236 12 rfl
                refine wk_i ?_
                rcases p81_0 with p81_0 | p81_0 | p81_0 | p81_0
                ·
                  replace p81_3 := p81_3.resolve_right (by omega)
                  clear p81_4
                  clear p81_5
                  refine wr_is (k0 := 239) (a := 4) (f := 4) (x := z89) (bl := 0) (bh := 999) (nx := 99) (r1 := 0) (r2 := 0) (r3 := 0) rfl (by decide) rfl (by omega) (by omega) (by decide) g81 rfl (by omega) (fun h101 g101 w101 u101 => ?_)
                  have F102 := F92.then rfl u101
                  refine wi_goto (nx := 102) (r1 := 256) (r2 := 0) (r3 := 0) rfl ?_
                  refine wi_return (nx := 257) (r1 := 0) (r2 := 0) (r3 := 0) rfl rfl ?_
                  have e103 : h101 236 8 = h81 236 8 := (u101 236 8 rfl)
                  have e104 : h101 236 4 = h81 236 4 := (u101 236 4 rfl)
                  have e105 : h101 239 5 = h 239 5 := ((u101 239 5 rfl).trans ((u81 239 5 rfl).trans ((u79 239 5 rfl).trans ((u58 239 5 rfl).trans ((u56 239 5 rfl).trans (u44 239 5 rfl))))))
                  have e106 : h101 239 7 = h 239 7 := ((u101 239 7 rfl).trans ((u81 239 7 rfl).trans ((u79 239 7 rfl).trans ((u58 239 7 rfl).trans ((u56 239 7 rfl).trans (u44 239 7 rfl))))))
                  have e107 : h101 239 15 = h 239 15 := ((u101 239 15 rfl).trans ((u81 239 15 rfl).trans ((u79 239 15 rfl).trans ((u58 239 15 rfl).trans ((u56 239 15 rfl).trans (u44 239 15 rfl))))))
                  have e108 : h101 239 16 = h 239 16 := ((u101 239 16 rfl).trans ((u81 239 16 rfl).trans ((u79 239 16 rfl).trans ((u58 239 16 rfl).trans ((u56 239 16 rfl).trans (u44 239 16 rfl))))))
                  have e109 : h101 239 17 = h 239 17 := ((u101 239 17 rfl).trans ((u81 239 17 rfl).trans ((u79 239 17 rfl).trans ((u58 239 17 rfl).trans ((u56 239 17 rfl).trans (u44 239 17 rfl))))))
                  have e110 : h101 239 18 = h 239 18 := ((u101 239 18 rfl).trans ((u81 239 18 rfl).trans ((u79 239 18 rfl).trans ((u58 239 18 rfl).trans ((u56 239 18 rfl).trans (u44 239 18 rfl))))))
                  have e111 : h101 236 9 = h81 236 9 := (u101 236 9 rfl)
                  exact k h101 g101 F102 (show (h101 236 8) = 0 ∨ 1 ≤ (h101 236 8) from (Or.inr (by omega))) (show (h 236 4) ≤ (h101 236 4) by omega) (show (h101 236 4) ≤ (h 236 3) by omega) (show 1 ≤ (h101 236 8) ∨ ((h101 239 5) ≤ 9 ∧ 1 ≤ (h101 239 5) ∧ (h101 239 7) ≤ 3 ∧ (h101 239 15) ≤ 6 ∧ (h101 239 16) ≤ 6 ∧ (h101 239 17) ≤ 6 ∧ (h101 239 18) ≤ 6) from (Or.inl (by omega))) (show (h101 236 8) ≠ 0 ∨ (h101 236 9) = -1 from (Or.inl (by omega))) (by unfold tk_stm; (repeat (first | unfold tk_once | unfold tk_num | unfold tk_window)); (try dsimp only); rw [if_pos kf20.1]; (repeat (first | unfold tk_once | unfold tk_num | unfold tk_window)); (try dsimp only); rw [if_neg wk23.no]; (repeat (first | unfold tk_once | unfold tk_num | unfold tk_window)); (try dsimp only); rw [if_neg wk29.no]; (repeat (first | unfold tk_once | unfold tk_num | unfold tk_window)); (try dsimp only); rw [if_neg wk35.no]; (repeat (first | unfold tk_once | unfold tk_num | unfold tk_window)); (try dsimp only); rw [if_pos wk41]; (repeat (first | unfold tk_once | unfold tk_num | unfold tk_window)); (try dsimp only); rw [if_neg (by omega)]; (repeat (first | unfold tk_once | unfold tk_num | unfold tk_window)); (try dsimp only); rw [if_neg dn78.no]; (repeat (first | unfold tk_once | unfold tk_num | unfold tk_window)); (try dsimp only); exact tk_ORe (by omega) (by omega) (by omega))
                ·
                  have tkk101 := (p81_0.2.2.2.2.2.2.2).2.2
                  have tN102 := @tk_nx_b tB tn (tk_nx tB tn (tk_nx tB tn tp)) (by omega) (by omega)
                  exfalso; omega
                ·
                  exfalso; omega
                ·
                  exfalso; omega
              ·
                clear p58_3
                clear p58_4
                clear p58_5
                have dk78 : tk_kd tB tn (tk_nx tB tn tp) = 2 := p58_0.2.1
                have dr79 : TKn (0 ≤ tk_nb tB tn (tk_nx tB tn tp) ∧ tk_nb tB tn (tk_nx tB tn tp) ≤ 11) := tkn_r p58_0.2.2.1
                replace p58_0 : _ := And.intro (p58_0.1) (And.intro (p58_0.2.1) (And.intro (p58_0.2.2.2.1) (p58_0.2.2.2.2)))
                refine wr_is (k0 := 239) (a := 3) (f := 3) (x := z66) (bl := 0) (bh := 999) (nx := 86) (r1 := 0) (r2 := 0) (r3 := 0) rfl (by decide) rfl (by omega) (by omega) (by decide) g58 rfl (by omega) (fun h80 g80 w80 u80 => ?_)
                have F81 := F69.then rfl u80
                refine wi_aload_n (i := 0) (x := 236) (nx := 87) (r1 := 0) (r2 := 0) (r3 := 0) rfl rfl ?_
                refine wr_gr (k0 := 236) (x := 239) (nx := 90) (r1 := 11) (r2 := 14) (r3 := 0) rfl rfl (by decide) rfl ⟨rfl, rfl⟩ rfl ?_
                refine wi_iconst (n := 4) (nx := 91) (r1 := 0) (r2 := 0) (r3 := 0) rfl ?_
                refine wi_aload_n (i := 0) (x := 236) (nx := 92) (r1 := 0) (r2 := 0) (r3 := 0) rfl rfl ?_
                refine wi_iconst (n := 0) (nx := 93) (r1 := 0) (r2 := 0) (r3 := 0) rfl ?_
                refine wi_bipush (n := 11) (nx := 95) (r1 := 0) (r2 := 0) (r3 := 0) rfl (by decide) ?_
                refine wr_V (k0 := 236) (rest := [vi 4, .ref 239]) (as := [.ref 236, vi 0, vi 11]) (nx := 98) (r1 := 231) (r2 := 2) (r3 := 11) rfl rfl rfl (of_decide_eq_true rfl) rfl rfl (by decide) rfl rfl (of_decide_eq_true rfl) (of_decide_eq_true rfl) ?_
                have e83 : h80 236 4 = h58 236 4 := (u80 236 4 rfl)
                have e84 : h80 236 3 = h 236 3 := ((u80 236 3 rfl).trans ((u58 236 3 rfl).trans ((u56 236 3 rfl).trans (u44 236 3 rfl))))
                have e85 : h80 236 8 = h58 236 8 := (u80 236 8 rfl)
                have e86 : h80 236 5 = h58 236 5 := (u80 236 5 rfl)
                have e87 : h80 236 6 = h58 236 6 := (u80 236 6 rfl)
                have e88 : h80 236 7 = h58 236 7 := (u80 236 7 rfl)
                have e89 : h80 236 12 = h58 236 12 := (u80 236 12 rfl)
                have rb91 := RefB.fr u58 rfl rb68
                have rb92 := RefB.fr u80 rfl rb91
                refine ct_231_236 hcr  g80 0 11 (by omega) (by omega) (show (h80 236 4) ≤ (h80 236 3) by omega) (show 0 ≤ (tk_nx tB tn tp) by omega) (show (tk_nx tB tn tp) ≤ tn by omega) (show (tk_nx tB tn tp) ≤ tk_nx tB tn (tk_nx tB tn tp) ∧ tk_nx tB tn (tk_nx tB tn tp) ≤ tn from ⟨by omega, by omega⟩) (show 1 ≤ (h80 236 8) ∨ ((h80 236 4) = tk_nx tB tn (tk_nx tB tn tp) ∧ (h80 236 5) = tk_st tB tn (tk_nx tB tn tp) ∧ TKk tB tn (tk_nx tB tn tp) ((h80 236 6)) ((h80 236 7)) ((h80 236 12))) from (Or.inl (by omega))) rb92 (fun h82 z90 g82 u82 (fz90 : 0 ≤ z90 ∧ z90 ≤ 999) (p82_0 : (1 ≤ (h80 236 8) ∧ (h82 236 8) = (h80 236 8) ∧ (h82 236 9) = (h80 236 9)) ∨ ((h80 236 8) = 0 ∧ tk_kd tB tn (tk_nx tB tn tp) = 2 ∧ 0 ≤ tk_nb tB tn (tk_nx tB tn tp) ∧ tk_nb tB tn (tk_nx tB tn tp) ≤ 11 ∧ z90 = tk_nb tB tn (tk_nx tB tn tp) ∧ (h82 236 8) = (h80 236 8) ∧ (h82 236 9) = (h80 236 9) ∧ ((h82 236 4) = tk_nx tB tn (tk_nx tB tn (tk_nx tB tn tp)) ∧ (h82 236 5) = tk_st tB tn (tk_nx tB tn (tk_nx tB tn tp)) ∧ TKk tB tn (tk_nx tB tn (tk_nx tB tn tp)) ((h82 236 6)) ((h82 236 7)) ((h82 236 12)))) ∨ ((h80 236 8) = 0 ∧ tk_kd tB tn (tk_nx tB tn tp) ≠ 2 ∧ (h82 236 8) = 1 ∧ (h82 236 9) = tk_st tB tn (tk_nx tB tn tp)) ∨ ((h80 236 8) = 0 ∧ tk_kd tB tn (tk_nx tB tn tp) = 2 ∧ (tk_nb tB tn (tk_nx tB tn tp) < 0 ∨ 11 < tk_nb tB tn (tk_nx tB tn tp)) ∧ (h82 236 8) = 2 ∧ (h82 236 9) = tk_st tB tn (tk_nx tB tn tp))) (p82_1 : (h80 236 4) ≤ (h82 236 4)) (p82_2 : (h82 236 4) ≤ (h80 236 3)) (p82_3 : 1 ≤ (h82 236 8) ∨ (h80 236 8) = 0) (p82_4 : 1 ≤ (h82 236 8) ∨ (0 ≤ z90 ∧ z90 ≤ 11)) (p82_5 : 1 ≤ (h82 236 8) ∨ (h80 236 6) = 2) => ?_)
                have F93 := F81.then (by decide +kernel) u82
                have e94 : h80 236 9 = h58 236 9 := (u80 236 9 rfl)
                have b95 := gi_b (lo := 0) (hi := 5) g82 236 8 rfl
                have b96 := gi_b (lo := -2147483648) (hi := 2147483647) g82 236 9 rfl
                have b97 := gi_b (lo := 0) (hi := 800) g82 236 4 rfl
                have b98 := gi_b (lo := 0) (hi := 800) g82 236 5 rfl
                have b99 := gi_b (lo := 0) (hi := 4) g82 236 6 rfl
                have b100 := gi_b (lo := 0) (hi := 999) g82 236 7 rfl
                have b101 := gi_b (lo := -9223372036854775808) (hi := 9223372036854775807) g82 236 12 rfl
                refine wk_i ?_
                rcases p82_0 with p82_0 | p82_0 | p82_0 | p82_0
                ·
                  replace p82_3 := p82_3.resolve_right (by omega)
                  clear p82_4
                  clear p82_5
                  refine wr_is (k0 := 239) (a := 4) (f := 4) (x := z90) (bl := 0) (bh := 999) (nx := 99) (r1 := 0) (r2 := 0) (r3 := 0) rfl (by decide) rfl (by omega) (by omega) (by decide) g82 rfl (by omega) (fun h102 g102 w102 u102 => ?_)
                  have F103 := F93.then rfl u102
                  refine wi_goto (nx := 102) (r1 := 256) (r2 := 0) (r3 := 0) rfl ?_
                  refine wi_return (nx := 257) (r1 := 0) (r2 := 0) (r3 := 0) rfl rfl ?_
                  have e104 : h102 236 8 = h82 236 8 := (u102 236 8 rfl)
                  have e105 : h102 236 4 = h82 236 4 := (u102 236 4 rfl)
                  have e106 : h102 239 5 = h 239 5 := ((u102 239 5 rfl).trans ((u82 239 5 rfl).trans ((u80 239 5 rfl).trans ((u58 239 5 rfl).trans ((u56 239 5 rfl).trans (u44 239 5 rfl))))))
                  have e107 : h102 239 7 = h 239 7 := ((u102 239 7 rfl).trans ((u82 239 7 rfl).trans ((u80 239 7 rfl).trans ((u58 239 7 rfl).trans ((u56 239 7 rfl).trans (u44 239 7 rfl))))))
                  have e108 : h102 239 15 = h 239 15 := ((u102 239 15 rfl).trans ((u82 239 15 rfl).trans ((u80 239 15 rfl).trans ((u58 239 15 rfl).trans ((u56 239 15 rfl).trans (u44 239 15 rfl))))))
                  have e109 : h102 239 16 = h 239 16 := ((u102 239 16 rfl).trans ((u82 239 16 rfl).trans ((u80 239 16 rfl).trans ((u58 239 16 rfl).trans ((u56 239 16 rfl).trans (u44 239 16 rfl))))))
                  have e110 : h102 239 17 = h 239 17 := ((u102 239 17 rfl).trans ((u82 239 17 rfl).trans ((u80 239 17 rfl).trans ((u58 239 17 rfl).trans ((u56 239 17 rfl).trans (u44 239 17 rfl))))))
                  have e111 : h102 239 18 = h 239 18 := ((u102 239 18 rfl).trans ((u82 239 18 rfl).trans ((u80 239 18 rfl).trans ((u58 239 18 rfl).trans ((u56 239 18 rfl).trans (u44 239 18 rfl))))))
                  have e112 : h102 236 9 = h82 236 9 := (u102 236 9 rfl)
                  exact k h102 g102 F103 (show (h102 236 8) = 0 ∨ 1 ≤ (h102 236 8) from (Or.inr (by omega))) (show (h 236 4) ≤ (h102 236 4) by omega) (show (h102 236 4) ≤ (h 236 3) by omega) (show 1 ≤ (h102 236 8) ∨ ((h102 239 5) ≤ 9 ∧ 1 ≤ (h102 239 5) ∧ (h102 239 7) ≤ 3 ∧ (h102 239 15) ≤ 6 ∧ (h102 239 16) ≤ 6 ∧ (h102 239 17) ≤ 6 ∧ (h102 239 18) ≤ 6) from (Or.inl (by omega))) (show (h102 236 8) ≠ 0 ∨ (h102 236 9) = -1 from (Or.inl (by omega))) (by unfold tk_stm; (repeat (first | unfold tk_once | unfold tk_num | unfold tk_window)); (try dsimp only); rw [if_pos kf20.1]; (repeat (first | unfold tk_once | unfold tk_num | unfold tk_window)); (try dsimp only); rw [if_neg wk23.no]; (repeat (first | unfold tk_once | unfold tk_num | unfold tk_window)); (try dsimp only); rw [if_neg wk29.no]; (repeat (first | unfold tk_once | unfold tk_num | unfold tk_window)); (try dsimp only); rw [if_neg wk35.no]; (repeat (first | unfold tk_once | unfold tk_num | unfold tk_window)); (try dsimp only); rw [if_pos wk41]; (repeat (first | unfold tk_once | unfold tk_num | unfold tk_window)); (try dsimp only); rw [if_neg (by omega)]; (repeat (first | unfold tk_once | unfold tk_num | unfold tk_window)); (try dsimp only); rw [if_pos dk78]; (repeat (first | unfold tk_once | unfold tk_num | unfold tk_window)); (try dsimp only); rw [if_neg dr79.no]; (repeat (first | unfold tk_once | unfold tk_num | unfold tk_window)); (try dsimp only); exact tk_ORe (by omega) (by omega) (by omega))
                ·
                  have tkk102 := (p82_0.2.2.2.2.2.2.2).2.2
                  have tN103 := @tk_nx_b tB tn (tk_nx tB tn (tk_nx tB tn tp)) (by omega) (by omega)
                  exfalso; omega
                ·
                  exfalso; omega
                ·
                  exfalso; omega
            ·
              clear p44_3
              refine wr_pf2 (k0 := 236) (x := z45) (bl := 0) (bh := 1) (nx := 73) (r1 := 11) (r2 := 23) (r3 := 2) rfl (by decide) rfl ⟨rfl, rfl⟩ rfl (by omega) rfl g44 rfl (by omega) (fun h54 g54 w54 u54 => ?_)
              have F55 := F46.then rfl u54
              refine wi_aload_n (i := 0) (x := 236) (nx := 74) (r1 := 0) (r2 := 0) (r3 := 0) rfl rfl ?_
              refine wr_gr (k0 := 236) (x := 239) (nx := 77) (r1 := 11) (r2 := 14) (r3 := 0) rfl rfl (by decide) rfl ⟨rfl, rfl⟩ rfl ?_
              refine wi_iconst (n := 3) (nx := 78) (r1 := 0) (r2 := 0) (r3 := 0) rfl ?_
              refine wi_aload_n (i := 0) (x := 236) (nx := 79) (r1 := 0) (r2 := 0) (r3 := 0) rfl rfl ?_
              refine wi_iconst (n := 0) (nx := 80) (r1 := 0) (r2 := 0) (r3 := 0) rfl ?_
              refine wi_bipush (n := 11) (nx := 82) (r1 := 0) (r2 := 0) (r3 := 0) rfl (by decide) ?_
              refine wr_V (k0 := 236) (rest := [vi 3, .ref 239]) (as := [.ref 236, vi 0, vi 11]) (nx := 85) (r1 := 231) (r2 := 2) (r3 := 11) rfl rfl rfl (of_decide_eq_true rfl) rfl rfl (by decide) rfl rfl (of_decide_eq_true rfl) (of_decide_eq_true rfl) ?_
              have e57 : h54 236 4 = h44 236 4 := (u54 236 4 rfl)
              have e58 : h54 236 3 = h 236 3 := ((u54 236 3 rfl).trans (u44 236 3 rfl))
              have e59 : h54 236 8 = h44 236 8 := (u54 236 8 rfl)
              have e60 : h54 236 5 = h44 236 5 := (u54 236 5 rfl)
              have e61 : h54 236 6 = h44 236 6 := (u54 236 6 rfl)
              have e62 : h54 236 7 = h44 236 7 := (u54 236 7 rfl)
              have e63 : h54 236 12 = h44 236 12 := (u54 236 12 rfl)
              have rb65 := RefB.fr u44 rfl xq0
              have rb66 := RefB.fr u54 rfl rb65
              refine ct_231_236 hcr  g54 0 11 (by omega) (by omega) (show (h54 236 4) ≤ (h54 236 3) by omega) (show 0 ≤ tp by omega) (show tp ≤ tn by omega) (show tp ≤ tk_nx tB tn tp ∧ tk_nx tB tn tp ≤ tn from ⟨by omega, by omega⟩) (show 1 ≤ (h54 236 8) ∨ ((h54 236 4) = tk_nx tB tn tp ∧ (h54 236 5) = tk_st tB tn tp ∧ TKk tB tn tp ((h54 236 6)) ((h54 236 7)) ((h54 236 12))) from (Or.inl (by omega))) rb66 (fun h56 z64 g56 u56 (fz64 : 0 ≤ z64 ∧ z64 ≤ 999) (p56_0 : (1 ≤ (h54 236 8) ∧ (h56 236 8) = (h54 236 8) ∧ (h56 236 9) = (h54 236 9)) ∨ ((h54 236 8) = 0 ∧ tk_kd tB tn tp = 2 ∧ 0 ≤ tk_nb tB tn tp ∧ tk_nb tB tn tp ≤ 11 ∧ z64 = tk_nb tB tn tp ∧ (h56 236 8) = (h54 236 8) ∧ (h56 236 9) = (h54 236 9) ∧ ((h56 236 4) = tk_nx tB tn (tk_nx tB tn tp) ∧ (h56 236 5) = tk_st tB tn (tk_nx tB tn tp) ∧ TKk tB tn (tk_nx tB tn tp) ((h56 236 6)) ((h56 236 7)) ((h56 236 12)))) ∨ ((h54 236 8) = 0 ∧ tk_kd tB tn tp ≠ 2 ∧ (h56 236 8) = 1 ∧ (h56 236 9) = tk_st tB tn tp) ∨ ((h54 236 8) = 0 ∧ tk_kd tB tn tp = 2 ∧ (tk_nb tB tn tp < 0 ∨ 11 < tk_nb tB tn tp) ∧ (h56 236 8) = 2 ∧ (h56 236 9) = tk_st tB tn tp)) (p56_1 : (h54 236 4) ≤ (h56 236 4)) (p56_2 : (h56 236 4) ≤ (h54 236 3)) (p56_3 : 1 ≤ (h56 236 8) ∨ (h54 236 8) = 0) (p56_4 : 1 ≤ (h56 236 8) ∨ (0 ≤ z64 ∧ z64 ≤ 11)) (p56_5 : 1 ≤ (h56 236 8) ∨ (h54 236 6) = 2) => ?_)
              have F67 := F55.then (by decide +kernel) u56
              have e68 : h54 236 9 = h44 236 9 := (u54 236 9 rfl)
              have b69 := gi_b (lo := 0) (hi := 5) g56 236 8 rfl
              have b70 := gi_b (lo := -2147483648) (hi := 2147483647) g56 236 9 rfl
              have b71 := gi_b (lo := 0) (hi := 800) g56 236 4 rfl
              have b72 := gi_b (lo := 0) (hi := 800) g56 236 5 rfl
              have b73 := gi_b (lo := 0) (hi := 4) g56 236 6 rfl
              have b74 := gi_b (lo := 0) (hi := 999) g56 236 7 rfl
              have b75 := gi_b (lo := -9223372036854775808) (hi := 9223372036854775807) g56 236 12 rfl
              refine wk_i ?_
              rcases p56_0 with p56_0 | p56_0 | p56_0 | p56_0
              ·
                replace p56_3 := p56_3.resolve_right (by omega)
                clear p56_4
                clear p56_5
                refine wr_is (k0 := 239) (a := 3) (f := 3) (x := z64) (bl := 0) (bh := 999) (nx := 86) (r1 := 0) (r2 := 0) (r3 := 0) rfl (by decide) rfl (by omega) (by omega) (by decide) g56 rfl (by omega) (fun h76 g76 w76 u76 => ?_)
                have F77 := F67.then rfl u76
                refine wi_aload_n (i := 0) (x := 236) (nx := 87) (r1 := 0) (r2 := 0) (r3 := 0) rfl rfl ?_
                refine wr_gr (k0 := 236) (x := 239) (nx := 90) (r1 := 11) (r2 := 14) (r3 := 0) rfl rfl (by decide) rfl ⟨rfl, rfl⟩ rfl ?_
                refine wi_iconst (n := 4) (nx := 91) (r1 := 0) (r2 := 0) (r3 := 0) rfl ?_
                refine wi_aload_n (i := 0) (x := 236) (nx := 92) (r1 := 0) (r2 := 0) (r3 := 0) rfl rfl ?_
                refine wi_iconst (n := 0) (nx := 93) (r1 := 0) (r2 := 0) (r3 := 0) rfl ?_
                refine wi_bipush (n := 11) (nx := 95) (r1 := 0) (r2 := 0) (r3 := 0) rfl (by decide) ?_
                refine wr_V (k0 := 236) (rest := [vi 4, .ref 239]) (as := [.ref 236, vi 0, vi 11]) (nx := 98) (r1 := 231) (r2 := 2) (r3 := 11) rfl rfl rfl (of_decide_eq_true rfl) rfl rfl (by decide) rfl rfl (of_decide_eq_true rfl) (of_decide_eq_true rfl) ?_
                have e79 : h76 236 4 = h56 236 4 := (u76 236 4 rfl)
                have e80 : h76 236 3 = h 236 3 := ((u76 236 3 rfl).trans ((u56 236 3 rfl).trans ((u54 236 3 rfl).trans (u44 236 3 rfl))))
                have e81 : h76 236 8 = h56 236 8 := (u76 236 8 rfl)
                have e82 : h76 236 5 = h56 236 5 := (u76 236 5 rfl)
                have e83 : h76 236 6 = h56 236 6 := (u76 236 6 rfl)
                have e84 : h76 236 7 = h56 236 7 := (u76 236 7 rfl)
                have e85 : h76 236 12 = h56 236 12 := (u76 236 12 rfl)
                have rb87 := RefB.fr u56 rfl rb66
                have rb88 := RefB.fr u76 rfl rb87
                refine ct_231_236 hcr  g76 0 11 (by omega) (by omega) (show (h76 236 4) ≤ (h76 236 3) by omega) (show 0 ≤ tp by omega) (show tp ≤ tn by omega) (show tp ≤ tk_nx tB tn tp ∧ tk_nx tB tn tp ≤ tn from ⟨by omega, by omega⟩) (show 1 ≤ (h76 236 8) ∨ ((h76 236 4) = tk_nx tB tn tp ∧ (h76 236 5) = tk_st tB tn tp ∧ TKk tB tn tp ((h76 236 6)) ((h76 236 7)) ((h76 236 12))) from (Or.inl (by omega))) rb88 (fun h78 z86 g78 u78 (fz86 : 0 ≤ z86 ∧ z86 ≤ 999) (p78_0 : (1 ≤ (h76 236 8) ∧ (h78 236 8) = (h76 236 8) ∧ (h78 236 9) = (h76 236 9)) ∨ ((h76 236 8) = 0 ∧ tk_kd tB tn tp = 2 ∧ 0 ≤ tk_nb tB tn tp ∧ tk_nb tB tn tp ≤ 11 ∧ z86 = tk_nb tB tn tp ∧ (h78 236 8) = (h76 236 8) ∧ (h78 236 9) = (h76 236 9) ∧ ((h78 236 4) = tk_nx tB tn (tk_nx tB tn tp) ∧ (h78 236 5) = tk_st tB tn (tk_nx tB tn tp) ∧ TKk tB tn (tk_nx tB tn tp) ((h78 236 6)) ((h78 236 7)) ((h78 236 12)))) ∨ ((h76 236 8) = 0 ∧ tk_kd tB tn tp ≠ 2 ∧ (h78 236 8) = 1 ∧ (h78 236 9) = tk_st tB tn tp) ∨ ((h76 236 8) = 0 ∧ tk_kd tB tn tp = 2 ∧ (tk_nb tB tn tp < 0 ∨ 11 < tk_nb tB tn tp) ∧ (h78 236 8) = 2 ∧ (h78 236 9) = tk_st tB tn tp)) (p78_1 : (h76 236 4) ≤ (h78 236 4)) (p78_2 : (h78 236 4) ≤ (h76 236 3)) (p78_3 : 1 ≤ (h78 236 8) ∨ (h76 236 8) = 0) (p78_4 : 1 ≤ (h78 236 8) ∨ (0 ≤ z86 ∧ z86 ≤ 11)) (p78_5 : 1 ≤ (h78 236 8) ∨ (h76 236 6) = 2) => ?_)
                have F89 := F77.then (by decide +kernel) u78
                have e90 : h76 236 9 = h56 236 9 := (u76 236 9 rfl)
                have b91 := gi_b (lo := 0) (hi := 5) g78 236 8 rfl
                have b92 := gi_b (lo := -2147483648) (hi := 2147483647) g78 236 9 rfl
                have b93 := gi_b (lo := 0) (hi := 800) g78 236 4 rfl
                have b94 := gi_b (lo := 0) (hi := 800) g78 236 5 rfl
                have b95 := gi_b (lo := 0) (hi := 4) g78 236 6 rfl
                have b96 := gi_b (lo := 0) (hi := 999) g78 236 7 rfl
                have b97 := gi_b (lo := -9223372036854775808) (hi := 9223372036854775807) g78 236 12 rfl
                refine wk_i ?_
                rcases p78_0 with p78_0 | p78_0 | p78_0 | p78_0
                ·
                  replace p78_3 := p78_3.resolve_right (by omega)
                  clear p78_4
                  clear p78_5
                  refine wr_is (k0 := 239) (a := 4) (f := 4) (x := z86) (bl := 0) (bh := 999) (nx := 99) (r1 := 0) (r2 := 0) (r3 := 0) rfl (by decide) rfl (by omega) (by omega) (by decide) g78 rfl (by omega) (fun h98 g98 w98 u98 => ?_)
                  have F99 := F89.then rfl u98
                  refine wi_goto (nx := 102) (r1 := 256) (r2 := 0) (r3 := 0) rfl ?_
                  refine wi_return (nx := 257) (r1 := 0) (r2 := 0) (r3 := 0) rfl rfl ?_
                  have e100 : h98 236 8 = h78 236 8 := (u98 236 8 rfl)
                  have e101 : h98 236 4 = h78 236 4 := (u98 236 4 rfl)
                  have e102 : h98 239 5 = h 239 5 := ((u98 239 5 rfl).trans ((u78 239 5 rfl).trans ((u76 239 5 rfl).trans ((u56 239 5 rfl).trans ((u54 239 5 rfl).trans (u44 239 5 rfl))))))
                  have e103 : h98 239 7 = h 239 7 := ((u98 239 7 rfl).trans ((u78 239 7 rfl).trans ((u76 239 7 rfl).trans ((u56 239 7 rfl).trans ((u54 239 7 rfl).trans (u44 239 7 rfl))))))
                  have e104 : h98 239 15 = h 239 15 := ((u98 239 15 rfl).trans ((u78 239 15 rfl).trans ((u76 239 15 rfl).trans ((u56 239 15 rfl).trans ((u54 239 15 rfl).trans (u44 239 15 rfl))))))
                  have e105 : h98 239 16 = h 239 16 := ((u98 239 16 rfl).trans ((u78 239 16 rfl).trans ((u76 239 16 rfl).trans ((u56 239 16 rfl).trans ((u54 239 16 rfl).trans (u44 239 16 rfl))))))
                  have e106 : h98 239 17 = h 239 17 := ((u98 239 17 rfl).trans ((u78 239 17 rfl).trans ((u76 239 17 rfl).trans ((u56 239 17 rfl).trans ((u54 239 17 rfl).trans (u44 239 17 rfl))))))
                  have e107 : h98 239 18 = h 239 18 := ((u98 239 18 rfl).trans ((u78 239 18 rfl).trans ((u76 239 18 rfl).trans ((u56 239 18 rfl).trans ((u54 239 18 rfl).trans (u44 239 18 rfl))))))
                  have e108 : h98 236 9 = h78 236 9 := (u98 236 9 rfl)
                  exact k h98 g98 F99 (show (h98 236 8) = 0 ∨ 1 ≤ (h98 236 8) from (Or.inr (by omega))) (show (h 236 4) ≤ (h98 236 4) by omega) (show (h98 236 4) ≤ (h 236 3) by omega) (show 1 ≤ (h98 236 8) ∨ ((h98 239 5) ≤ 9 ∧ 1 ≤ (h98 239 5) ∧ (h98 239 7) ≤ 3 ∧ (h98 239 15) ≤ 6 ∧ (h98 239 16) ≤ 6 ∧ (h98 239 17) ≤ 6 ∧ (h98 239 18) ≤ 6) from (Or.inl (by omega))) (show (h98 236 8) ≠ 0 ∨ (h98 236 9) = -1 from (Or.inl (by omega))) (by unfold tk_stm; (repeat (first | unfold tk_once | unfold tk_num | unfold tk_window)); (try dsimp only); rw [if_pos kf20.1]; (repeat (first | unfold tk_once | unfold tk_num | unfold tk_window)); (try dsimp only); rw [if_neg wk23.no]; (repeat (first | unfold tk_once | unfold tk_num | unfold tk_window)); (try dsimp only); rw [if_neg wk29.no]; (repeat (first | unfold tk_once | unfold tk_num | unfold tk_window)); (try dsimp only); rw [if_neg wk35.no]; (repeat (first | unfold tk_once | unfold tk_num | unfold tk_window)); (try dsimp only); rw [if_pos wk41]; (repeat (first | unfold tk_once | unfold tk_num | unfold tk_window)); (try dsimp only); rw [if_pos (by omega)]; (repeat (first | unfold tk_once | unfold tk_num | unfold tk_window)); (try dsimp only); exact tk_ORe (by omega) (by omega) (by omega))
                ·
                  have tkk98 := (p78_0.2.2.2.2.2.2.2).2.2
                  have tN99 := @tk_nx_b tB tn (tk_nx tB tn tp) (by omega) (by omega)
                  exfalso; omega
                ·
                  exfalso; omega
                ·
                  exfalso; omega
              ·
                have tkk76 := (p56_0.2.2.2.2.2.2.2).2.2
                have tN77 := @tk_nx_b tB tn (tk_nx tB tn tp) (by omega) (by omega)
                exfalso; omega
              ·
                exfalso; omega
              ·
                exfalso; omega
        ·
          have wk35 : tk_wd (tk_lw tB tn tp) = 4 := (tk_wcp 3 (K := 3122) (by decide) rfl rfl (by omega) (by omega) (show tk_kd tB tn tp = 1 by omega) (show tk_sw tB tn tp = 3122 by omega)).2
          clear q34 fr33
          refine wi_iconst (n := 1) (nx := 25) (r1 := 0) (r2 := 0) (r3 := 0) rfl ?_
          refine wi_goto (nx := 28) (r1 := 29) (r2 := 0) (r3 := 0) rfl ?_
          refine wi_zreturn (nx := 30) (r1 := 0) (r2 := 0) (r3 := 0) rfl rfl (by omega) ?_
          refine wk_i ?_
          refine wi_if (cd := .eq) (nx := 44) (r1 := 51) (r2 := 0) (r3 := 0) rfl (by omega) (fun (q36 : 1 = 0) => by exfalso; omega) (fun (q36 : ¬ (1 = 0)) => ?_)
          refine wi_aload_n (i := 0) (x := 236) (nx := 45) (r1 := 0) (r2 := 0) (r3 := 0) rfl rfl ?_
          refine wr_V (k0 := 236) (rest := []) (as := [.ref 236]) (nx := 48) (r1 := 233) (r2 := 0) (r3 := 11) rfl rfl rfl (of_decide_eq_true rfl) rfl rfl (by decide) rfl rfl (of_decide_eq_true rfl) (of_decide_eq_true rfl) ?_
          refine ct_233_236 hcr  g   (show (h 236 4) ≤ (h 236 3) by omega) (show 0 ≤ tp by omega) (show tp ≤ tn by omega) (show tp ≤ tk_nx tB tn tp ∧ tk_nx tB tn tp ≤ tn from ⟨by omega, by omega⟩) (show (h 236 8) = 0 by omega) (show (h 239 5) ≤ 9 by omega) (show 1 ≤ (h 239 5) by omega) (show (h 239 7) ≤ 3 by omega) (show (h 239 15) ≤ 6 by omega) (show (h 239 16) ≤ 6 by omega) (show (h 239 17) ≤ 6 by omega) (show (h 239 18) ≤ 6 by omega) (show ((h 236 4) = tk_nx tB tn tp ∧ (h 236 5) = tk_st tB tn tp ∧ TKk tB tn tp ((h 236 6)) ((h 236 7)) ((h 236 12))) by first | assumption | exact ⟨by omega, by omega, TKk.mv (by assumption) (by omega) (by omega) (by omega)⟩) (show tS 0 ≤ 5 ∧ tS 1 ≤ 4 ∧ tS 2 ≤ 12 from ⟨by omega, by omega, by omega⟩) (show (h 236 9) = -1 by omega) (show tk_kd tB tn tp = 1 by omega) xq0 xq1 (fun h37 g37 u37 (p37_0 : (h 236 4) ≤ (h37 236 4)) (p37_1 : (h37 236 4) ≤ (h 236 3)) (p37_2 : 1 ≤ (h37 236 8) ∨ ((h37 239 5) ≤ 9 ∧ 1 ≤ (h37 239 5) ∧ (h37 239 7) ≤ 3 ∧ (h37 239 15) ≤ 6 ∧ (h37 239 16) ≤ 6 ∧ (h37 239 17) ≤ 6 ∧ (h37 239 18) ≤ 6)) (p37_3 : (h37 236 8) ≠ 0 ∨ (h37 236 9) = -1) y37_0 => ?_)
          have F38 := F0.then (by decide +kernel) u37
          have b39 := gi_b (lo := 0) (hi := 800) g37 236 4 rfl
          have b40 := gi_b (lo := 0) (hi := 5) g37 236 8 rfl
          have e41 : h37 239 5 = h 239 5 := (u37 239 5 rfl)
          have e42 : h37 239 7 = h 239 7 := (u37 239 7 rfl)
          have e43 : h37 239 15 = h 239 15 := (u37 239 15 rfl)
          have e44 : h37 239 16 = h 239 16 := (u37 239 16 rfl)
          have e45 : h37 239 17 = h 239 17 := (u37 239 17 rfl)
          have e46 : h37 239 18 = h 239 18 := (u37 239 18 rfl)
          have b47 := gi_b (lo := -2147483648) (hi := 2147483647) g37 236 9 rfl
          clear p37_2
          refine wk_n ?_
          refine wi_goto (nx := 51) (r1 := 256) (r2 := 0) (r3 := 0) rfl ?_
          refine wi_return (nx := 257) (r1 := 0) (r2 := 0) (r3 := 0) rfl rfl ?_
          exact k h37 g37 F38 (show (h37 236 8) = 0 ∨ 1 ≤ (h37 236 8) by omega) (show (h 236 4) ≤ (h37 236 4) by omega) (show (h37 236 4) ≤ (h 236 3) by omega) (show 1 ≤ (h37 236 8) ∨ ((h37 239 5) ≤ 9 ∧ 1 ≤ (h37 239 5) ∧ (h37 239 7) ≤ 3 ∧ (h37 239 15) ≤ 6 ∧ (h37 239 16) ≤ 6 ∧ (h37 239 17) ≤ 6 ∧ (h37 239 18) ≤ 6) from (Or.inr (⟨by omega, by omega, by omega, by omega, by omega, by omega, by omega⟩))) (show (h37 236 8) ≠ 0 ∨ (h37 236 9) = -1 by omega) (by unfold tk_stm; (try dsimp only); rw [if_pos kf20.1]; (try dsimp only); rw [if_neg wk23.no]; (try dsimp only); rw [if_neg wk29.no]; (try dsimp only); rw [if_pos wk35]; (try dsimp only); exact y37_0)
      ·
        have wk29 : tk_wd (tk_lw tB tn tp) = 3 := (tk_wcp 2 (K := 394693) (by decide) rfl rfl (by omega) (by omega) (show tk_kd tB tn tp = 1 by omega) (show tk_sw tB tn tp = 394693 by omega)).2
        clear q28 fr27
        refine wi_iconst (n := 1) (nx := 25) (r1 := 0) (r2 := 0) (r3 := 0) rfl ?_
        refine wi_goto (nx := 28) (r1 := 29) (r2 := 0) (r3 := 0) rfl ?_
        refine wi_zreturn (nx := 30) (r1 := 0) (r2 := 0) (r3 := 0) rfl rfl (by omega) ?_
        refine wk_i ?_
        refine wi_if (cd := .eq) (nx := 27) (r1 := 34) (r2 := 0) (r3 := 0) rfl (by omega) (fun (q30 : 1 = 0) => by exfalso; omega) (fun (q30 : ¬ (1 = 0)) => ?_)
        refine wi_aload_n (i := 0) (x := 236) (nx := 28) (r1 := 0) (r2 := 0) (r3 := 0) rfl rfl ?_
        refine wr_V (k0 := 236) (rest := []) (as := [.ref 236]) (nx := 31) (r1 := 232) (r2 := 0) (r3 := 11) rfl rfl rfl (of_decide_eq_true rfl) rfl rfl (by decide) rfl rfl (of_decide_eq_true rfl) (of_decide_eq_true rfl) ?_
        refine ct_232_236 hcr  g   (show (h 236 4) ≤ (h 236 3) by omega) (show 0 ≤ tp by omega) (show tp ≤ tn by omega) (show tp ≤ tk_nx tB tn tp ∧ tk_nx tB tn tp ≤ tn from ⟨by omega, by omega⟩) (show (h 236 8) = 0 by omega) (show (h 239 5) ≤ 9 by omega) (show 1 ≤ (h 239 5) by omega) (show (h 239 7) ≤ 3 by omega) (show (h 239 15) ≤ 6 by omega) (show (h 239 16) ≤ 6 by omega) (show (h 239 17) ≤ 6 by omega) (show (h 239 18) ≤ 6 by omega) (show ((h 236 4) = tk_nx tB tn tp ∧ (h 236 5) = tk_st tB tn tp ∧ TKk tB tn tp ((h 236 6)) ((h 236 7)) ((h 236 12))) by first | assumption | exact ⟨by omega, by omega, TKk.mv (by assumption) (by omega) (by omega) (by omega)⟩) (show tS 0 ≤ 5 ∧ tS 1 ≤ 4 ∧ tS 2 ≤ 12 from ⟨by omega, by omega, by omega⟩) (show (h 236 9) = -1 by omega) (show tk_kd tB tn tp = 1 by omega) xq0 xq1 (fun h31 g31 u31 (p31_0 : (h 236 4) ≤ (h31 236 4)) (p31_1 : (h31 236 4) ≤ (h 236 3)) (p31_2 : 1 ≤ (h31 236 8) ∨ ((h31 239 5) ≤ 9 ∧ 1 ≤ (h31 239 5) ∧ (h31 239 7) ≤ 3 ∧ (h31 239 15) ≤ 6 ∧ (h31 239 16) ≤ 6 ∧ (h31 239 17) ≤ 6 ∧ (h31 239 18) ≤ 6)) (p31_3 : (h31 236 8) ≠ 0 ∨ (h31 236 9) = -1) y31_0 => ?_)
        have F32 := F0.then (by decide +kernel) u31
        have b33 := gi_b (lo := 0) (hi := 800) g31 236 4 rfl
        have b34 := gi_b (lo := 0) (hi := 5) g31 236 8 rfl
        have e35 : h31 239 5 = h 239 5 := (u31 239 5 rfl)
        have e36 : h31 239 7 = h 239 7 := (u31 239 7 rfl)
        have b37 := gi_b (lo := 0) (hi := 999) g31 239 15 rfl
        have b38 := gi_b (lo := 0) (hi := 999) g31 239 16 rfl
        have b39 := gi_b (lo := 0) (hi := 999) g31 239 17 rfl
        have b40 := gi_b (lo := 0) (hi := 999) g31 239 18 rfl
        have b41 := gi_b (lo := -2147483648) (hi := 2147483647) g31 236 9 rfl
        refine wk_n ?_
        refine wi_goto (nx := 34) (r1 := 256) (r2 := 0) (r3 := 0) rfl ?_
        refine wi_return (nx := 257) (r1 := 0) (r2 := 0) (r3 := 0) rfl rfl ?_
        exact k h31 g31 F32 (show (h31 236 8) = 0 ∨ 1 ≤ (h31 236 8) by omega) (show (h 236 4) ≤ (h31 236 4) by omega) (show (h31 236 4) ≤ (h 236 3) by omega) (show 1 ≤ (h31 236 8) ∨ ((h31 239 5) ≤ 9 ∧ 1 ≤ (h31 239 5) ∧ (h31 239 7) ≤ 3 ∧ (h31 239 15) ≤ 6 ∧ (h31 239 16) ≤ 6 ∧ (h31 239 17) ≤ 6 ∧ (h31 239 18) ≤ 6) by omega) (show (h31 236 8) ≠ 0 ∨ (h31 236 9) = -1 by omega) (by unfold tk_stm; (try dsimp only); rw [if_pos kf20.1]; (try dsimp only); rw [if_neg wk23.no]; (try dsimp only); rw [if_pos wk29]; (try dsimp only); exact y31_0)
    ·
      have wk23 : tk_wd (tk_lw tB tn tp) = 1 := (tk_wcp 0 (K := 3650034) (by decide) rfl rfl (by omega) (by omega) (show tk_kd tB tn tp = 1 by omega) (show tk_sw tB tn tp = 3650034 by omega)).2
      clear q22 fr21
      refine wi_iconst (n := 1) (nx := 25) (r1 := 0) (r2 := 0) (r3 := 0) rfl ?_
      refine wi_goto (nx := 28) (r1 := 29) (r2 := 0) (r3 := 0) rfl ?_
      refine wi_zreturn (nx := 30) (r1 := 0) (r2 := 0) (r3 := 0) rfl rfl (by omega) ?_
      refine wk_i ?_
      refine wi_if (cd := .eq) (nx := 10) (r1 := 17) (r2 := 0) (r3 := 0) rfl (by omega) (fun (q24 : 1 = 0) => by exfalso; omega) (fun (q24 : ¬ (1 = 0)) => ?_)
      refine wi_aload_n (i := 0) (x := 236) (nx := 11) (r1 := 0) (r2 := 0) (r3 := 0) rfl rfl ?_
      refine wr_V (k0 := 236) (rest := []) (as := [.ref 236]) (nx := 14) (r1 := 222) (r2 := 0) (r3 := 11) rfl rfl rfl (of_decide_eq_true rfl) rfl rfl (by decide) rfl rfl (of_decide_eq_true rfl) (of_decide_eq_true rfl) ?_
      refine ct_222_236 hcr  g   (show (h 236 4) ≤ (h 236 3) by omega) (show 0 ≤ tp by omega) (show tp ≤ tn by omega) (show tp ≤ tk_nx tB tn tp ∧ tk_nx tB tn tp ≤ tn from ⟨by omega, by omega⟩) (show (h 236 8) = 0 by omega) (show (h 239 5) ≤ 9 by omega) (show 1 ≤ (h 239 5) by omega) (show (h 239 7) ≤ 3 by omega) (show (h 239 15) ≤ 6 by omega) (show (h 239 16) ≤ 6 by omega) (show (h 239 17) ≤ 6 by omega) (show (h 239 18) ≤ 6 by omega) (show ((h 236 4) = tk_nx tB tn tp ∧ (h 236 5) = tk_st tB tn tp ∧ TKk tB tn tp ((h 236 6)) ((h 236 7)) ((h 236 12))) by first | assumption | exact ⟨by omega, by omega, TKk.mv (by assumption) (by omega) (by omega) (by omega)⟩) (show tS 0 ≤ 5 ∧ tS 1 ≤ 4 ∧ tS 2 ≤ 12 from ⟨by omega, by omega, by omega⟩) (show (h 236 9) = -1 by omega) (show tk_kd tB tn tp = 1 by omega) xq0 xq1 (fun h25 g25 u25 (p25_0 : (h 236 4) ≤ (h25 236 4)) (p25_1 : (h25 236 4) ≤ (h 236 3)) (p25_2 : 1 ≤ (h25 236 8) ∨ ((h25 239 5) ≤ 9 ∧ 1 ≤ (h25 239 5) ∧ (h25 239 7) ≤ 3 ∧ (h25 239 15) ≤ 6 ∧ (h25 239 16) ≤ 6 ∧ (h25 239 17) ≤ 6 ∧ (h25 239 18) ≤ 6)) (p25_3 : (h25 236 8) ≠ 0 ∨ (h25 236 9) = -1) y25_0 => ?_)
      have F26 := F0.then (by decide +kernel) u25
      have b27 := gi_b (lo := 0) (hi := 800) g25 236 4 rfl
      have b28 := gi_b (lo := 0) (hi := 5) g25 236 8 rfl
      have e29 : h25 239 5 = h 239 5 := (u25 239 5 rfl)
      have e30 : h25 239 7 = h 239 7 := (u25 239 7 rfl)
      have e31 : h25 239 15 = h 239 15 := (u25 239 15 rfl)
      have e32 : h25 239 16 = h 239 16 := (u25 239 16 rfl)
      have e33 : h25 239 17 = h 239 17 := (u25 239 17 rfl)
      have e34 : h25 239 18 = h 239 18 := (u25 239 18 rfl)
      have b35 := gi_b (lo := -2147483648) (hi := 2147483647) g25 236 9 rfl
      clear p25_2
      refine wk_n ?_
      refine wi_goto (nx := 17) (r1 := 256) (r2 := 0) (r3 := 0) rfl ?_
      refine wi_return (nx := 257) (r1 := 0) (r2 := 0) (r3 := 0) rfl rfl ?_
      exact k h25 g25 F26 (show (h25 236 8) = 0 ∨ 1 ≤ (h25 236 8) by omega) (show (h 236 4) ≤ (h25 236 4) by omega) (show (h25 236 4) ≤ (h 236 3) by omega) (show 1 ≤ (h25 236 8) ∨ ((h25 239 5) ≤ 9 ∧ 1 ≤ (h25 239 5) ∧ (h25 239 7) ≤ 3 ∧ (h25 239 15) ≤ 6 ∧ (h25 239 16) ≤ 6 ∧ (h25 239 17) ≤ 6 ∧ (h25 239 18) ≤ 6) from (Or.inr (⟨by omega, by omega, by omega, by omega, by omega, by omega, by omega⟩))) (show (h25 236 8) ≠ 0 ∨ (h25 236 9) = -1 by omega) (by unfold tk_stm; (try dsimp only); rw [if_pos kf20.1]; (try dsimp only); rw [if_pos wk23]; (try dsimp only); exact y25_0)
