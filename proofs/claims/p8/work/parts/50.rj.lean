-- method 220: Model.statement()V
set_option maxRecDepth 100000 in
set_option maxHeartbeats 100000000 in
theorem ct_220_236 {L : Nat} {xs : Nat → Int32} {d b c : Nat} {h : hp} {cr : Nat → Nat → Option Nat} {Q : hp_Q} (hcr : CR cr)  {tB : Nat → Int} {tn tp : Int} {tS : tk_S} (g : GI h)   (pp0 : h 236 4 ≤ h 236 3) (pp1 : 0 ≤ tp) (pp2 : tp ≤ tn) (pp3 : tp ≤ tk_nx tB tn tp ∧ tk_nx tB tn tp ≤ tn) (pp4 : h 236 8 = 0) (pp5 : h 239 5 ≤ 9) (pp6 : 1 ≤ h 239 5) (pp7 : h 239 7 ≤ 3) (pp8 : h 239 15 ≤ 6) (pp9 : h 239 16 ≤ 6) (pp10 : h 239 17 ≤ 6) (pp11 : h 239 18 ≤ 6) (pp12 : (h 236 4 = tk_nx tB tn tp ∧ h 236 5 = tk_st tB tn tp ∧ TKk tB tn tp (h 236 6) (h 236 7) (h 236 12))) (pp13 : tS 0 ≤ 5 ∧ tS 1 ≤ 4 ∧ tS 2 ≤ 12) (pp14 : h 236 9 = -1) (xq0 : RefB tB tn h) (xq1 : CVr tS h) (k : ∀ (h2 : hp) , GI h2 → FR [(244, 244, none), (236, 236, some (4, 4)), (236, 236, some (5, 5)), (236, 236, some (6, 6)), (236, 236, some (7, 7)), (236, 236, some (8, 8)), (236, 236, some (9, 9)), (236, 236, some (12, 12)), (236, 236, some (23, 23)), (236, 236, some (24, 24)), (236, 236, some (25, 25)), (236, 236, some (26, 26)), (239, 239, some (0, 0)), (239, 239, some (1, 1)), (239, 239, some (2, 2)), (239, 239, some (3, 3)), (239, 239, some (4, 4)), (239, 239, some (5, 5)), (239, 239, some (6, 6)), (239, 239, some (7, 7)), (239, 239, some (8, 8)), (239, 239, some (9, 9)), (239, 239, some (10, 14)), (239, 239, some (15, 15)), (239, 239, some (16, 16)), (239, 239, some (17, 17)), (239, 239, some (18, 18)), (239, 239, some (19, 30)), (239, 239, some (31, 42)), (239, 239, some (43, 54))] h h2 → (h2 236 8 = 0 ∨ 1 ≤ h2 236 8) → (h 236 4 ≤ h2 236 4) → (h2 236 4 ≤ h 236 3) → (1 ≤ h2 236 8 ∨ (h2 239 5 ≤ 9 ∧ 1 ≤ h2 239 5 ∧ h2 239 7 ≤ 3 ∧ h2 239 15 ≤ 6 ∧ h2 239 16 ≤ 6 ∧ h2 239 17 ≤ 6 ∧ h2 239 18 ≤ 6)) → (h2 236 8 ≠ 0 ∨ h2 236 9 = -1) → (tk_OR tB tn (tk_stm tB tn tp tS) h2) → Q (.inl none) (hp_w h2 cr) b c) : wp (md_xa (L, xs)) (d + 6) 220 (0, [(0, .ref 236)], [], hp_w h cr, b, c) Q := by
  have F0 : FR [(244, 244, none), (236, 236, some (4, 4)), (236, 236, some (5, 5)), (236, 236, some (6, 6)), (236, 236, some (7, 7)), (236, 236, some (8, 8)), (236, 236, some (9, 9)), (236, 236, some (12, 12)), (236, 236, some (23, 23)), (236, 236, some (24, 24)), (236, 236, some (25, 25)), (236, 236, some (26, 26)), (239, 239, some (0, 0)), (239, 239, some (1, 1)), (239, 239, some (2, 2)), (239, 239, some (3, 3)), (239, 239, some (4, 4)), (239, 239, some (5, 5)), (239, 239, some (6, 6)), (239, 239, some (7, 7)), (239, 239, some (8, 8)), (239, 239, some (9, 9)), (239, 239, some (10, 14)), (239, 239, some (15, 15)), (239, 239, some (16, 16)), (239, 239, some (17, 17)), (239, 239, some (18, 18)), (239, 239, some (19, 30)), (239, 239, some (31, 42)), (239, 239, some (43, 54))] h h := FR.refl
  have tb_1 : h 236 3 = tn := xq0.2.1
  have tb_2 : 0 ≤ tn ∧ tn ≤ 800 := xq0.2.2
  obtain ⟨⟨rv_0, rv_1, rv_2, rv_3, rv_4, rv_5, rv_6, rv_7, rv_8, rv_9⟩, ⟨rf_0, rf_1, rf_2, rf_3⟩, -⟩ := id xq1
  have b1 := gi_b (lo := 0) (hi := 5) g 239 0 rfl
  have b2 := gi_b (lo := 0) (hi := 4) g 239 1 rfl
  have b3 := gi_b (lo := 0) (hi := 12) g 239 2 rfl
  have tkk0_ := pp12.2.2
  have b4 := gi_b (lo := 0) (hi := 800) g 236 4 rfl
  have b5 := gi_b (lo := 0) (hi := 800) g 236 3 rfl
  have b6 := gi_b (lo := 0) (hi := 5) g 236 8 rfl
  have b7 := gi_b (lo := 0) (hi := 999) g 239 5 rfl
  have b8 := gi_b (lo := 0) (hi := 999) g 239 7 rfl
  have b9 := gi_b (lo := 0) (hi := 999) g 239 15 rfl
  have b10 := gi_b (lo := 0) (hi := 999) g 239 16 rfl
  have b11 := gi_b (lo := 0) (hi := 999) g 239 17 rfl
  have b12 := gi_b (lo := 0) (hi := 999) g 239 18 rfl
  have b13 := gi_b (lo := 0) (hi := 800) g 236 5 rfl
  have b14 := gi_b (lo := 0) (hi := 4) g 236 6 rfl
  have b15 := gi_b (lo := 0) (hi := 999) g 236 7 rfl
  have b16 := gi_b (lo := -9223372036854775808) (hi := 9223372036854775807) g 236 12 rfl
  have b17 := gi_b (lo := -2147483648) (hi := 2147483647) g 236 9 rfl
  refine wi_aload_n (i := 0) (x := 236) (nx := 1) (r1 := 0) (r2 := 0) (r3 := 0) rfl rfl ?_
  refine wi_ldc2_w (e := 3650034) (nx := 4) (r1 := 3650034) (r2 := 0) (r3 := 0) rfl (by decide) ?_
  refine wr_V (k0 := 236) (rest := []) (as := [.ref 236, vl 3650034]) (nx := 7) (r1 := 221) (r2 := 1) (r3 := 11) rfl rfl rfl (of_decide_eq_true rfl) rfl rfl (by decide) rfl rfl (of_decide_eq_true rfl) (of_decide_eq_true rfl) ?_
  refine wi_aload_n (i := 0) (x := 236) (nx := 1) (r1 := 0) (r2 := 0) (r3 := 0) rfl rfl ?_
  refine wr_gi0 (k0 := 236) (x := h 236 8) (nx := 4) (r1 := 11) (r2 := 8) (r3 := 0) rfl rfl (by decide) rfl ⟨rfl, rfl⟩ rfl rfl ?_
  refine wi_if (cd := .ne) (nx := 7) (r1 := 28) (r2 := 0) (r3 := 0) rfl (by omega) (fun (q18 : (h 236 8) ≠ 0) => by exfalso; omega) (fun (q18 : ¬ ((h 236 8) ≠ 0)) => ?_)
  refine wi_aload_n (i := 0) (x := 236) (nx := 8) (r1 := 0) (r2 := 0) (r3 := 0) rfl rfl ?_
  refine wr_gi0 (k0 := 236) (x := h 236 6) (nx := 11) (r1 := 11) (r2 := 6) (r3 := 0) rfl rfl (by decide) rfl ⟨rfl, rfl⟩ rfl rfl ?_
  refine wi_iconst (n := 1) (nx := 12) (r1 := 0) (r2 := 0) (r3 := 0) rfl ?_
  refine wi_icmp (cd := .ne) (nx := 15) (r1 := 28) (r2 := 0) (r3 := 0) rfl (by omega) (by omega) (fun (q20 : (h 236 6) ≠ 1) => ?_) (fun (q20 : ¬ ((h 236 6) ≠ 1)) => ?_)
  ·
    try have kf21 := TKk.n1 (B := tB) (n := tn) (p := tp) (a6 := h 236 6) (by assumption) (by omega)
    refine wi_iconst (n := 0) (nx := 29) (r1 := 0) (r2 := 0) (r3 := 0) rfl ?_
    refine wi_zreturn (nx := 30) (r1 := 0) (r2 := 0) (r3 := 0) rfl rfl (by omega) ?_
    refine wk_i ?_
    refine wi_if (cd := .eq) (nx := 10) (r1 := 17) (r2 := 0) (r3 := 0) rfl (by omega) (fun (q22 : 0 = 0) => ?_) (fun (q22 : ¬ (0 = 0)) => by exfalso; omega)
    refine wi_aload_n (i := 0) (x := 236) (nx := 18) (r1 := 0) (r2 := 0) (r3 := 0) rfl rfl ?_
    refine wi_ldc2_w (e := 394693) (nx := 21) (r1 := 394693) (r2 := 0) (r3 := 0) rfl (by decide) ?_
    refine wr_V (k0 := 236) (rest := []) (as := [.ref 236, vl 394693]) (nx := 24) (r1 := 221) (r2 := 1) (r3 := 11) rfl rfl rfl (of_decide_eq_true rfl) rfl rfl (by decide) rfl rfl (of_decide_eq_true rfl) (of_decide_eq_true rfl) ?_
    refine wi_aload_n (i := 0) (x := 236) (nx := 1) (r1 := 0) (r2 := 0) (r3 := 0) rfl rfl ?_
    refine wr_gi0 (k0 := 236) (x := h 236 8) (nx := 4) (r1 := 11) (r2 := 8) (r3 := 0) rfl rfl (by decide) rfl ⟨rfl, rfl⟩ rfl rfl ?_
    refine wi_if (cd := .ne) (nx := 7) (r1 := 28) (r2 := 0) (r3 := 0) rfl (by omega) (fun (q23 : (h 236 8) ≠ 0) => by exfalso; omega) (fun (q23 : ¬ ((h 236 8) ≠ 0)) => ?_)
    refine wi_aload_n (i := 0) (x := 236) (nx := 8) (r1 := 0) (r2 := 0) (r3 := 0) rfl rfl ?_
    refine wr_gi0 (k0 := 236) (x := h 236 6) (nx := 11) (r1 := 11) (r2 := 6) (r3 := 0) rfl rfl (by decide) rfl ⟨rfl, rfl⟩ rfl rfl ?_
    refine wi_iconst (n := 1) (nx := 12) (r1 := 0) (r2 := 0) (r3 := 0) rfl ?_
    refine wi_icmp (cd := .ne) (nx := 15) (r1 := 28) (r2 := 0) (r3 := 0) rfl (by omega) (by omega) (fun (q25 : (h 236 6) ≠ 1) => ?_) (fun (q25 : ¬ ((h 236 6) ≠ 1)) => by exfalso; omega)
    try have kf26 := TKk.n1 (B := tB) (n := tn) (p := tp) (a6 := h 236 6) (by assumption) (by omega)
    refine wi_iconst (n := 0) (nx := 29) (r1 := 0) (r2 := 0) (r3 := 0) rfl ?_
    refine wi_zreturn (nx := 30) (r1 := 0) (r2 := 0) (r3 := 0) rfl rfl (by omega) ?_
    refine wk_i ?_
    refine wi_if (cd := .eq) (nx := 27) (r1 := 34) (r2 := 0) (r3 := 0) rfl (by omega) (fun (q27 : 0 = 0) => ?_) (fun (q27 : ¬ (0 = 0)) => by exfalso; omega)
    refine wi_aload_n (i := 0) (x := 236) (nx := 35) (r1 := 0) (r2 := 0) (r3 := 0) rfl rfl ?_
    refine wi_ldc2_w (e := 3122) (nx := 38) (r1 := 3122) (r2 := 0) (r3 := 0) rfl (by decide) ?_
    refine wr_V (k0 := 236) (rest := []) (as := [.ref 236, vl 3122]) (nx := 41) (r1 := 221) (r2 := 1) (r3 := 11) rfl rfl rfl (of_decide_eq_true rfl) rfl rfl (by decide) rfl rfl (of_decide_eq_true rfl) (of_decide_eq_true rfl) ?_
    refine wi_aload_n (i := 0) (x := 236) (nx := 1) (r1 := 0) (r2 := 0) (r3 := 0) rfl rfl ?_
    refine wr_gi0 (k0 := 236) (x := h 236 8) (nx := 4) (r1 := 11) (r2 := 8) (r3 := 0) rfl rfl (by decide) rfl ⟨rfl, rfl⟩ rfl rfl ?_
    refine wi_if (cd := .ne) (nx := 7) (r1 := 28) (r2 := 0) (r3 := 0) rfl (by omega) (fun (q28 : (h 236 8) ≠ 0) => by exfalso; omega) (fun (q28 : ¬ ((h 236 8) ≠ 0)) => ?_)
    refine wi_aload_n (i := 0) (x := 236) (nx := 8) (r1 := 0) (r2 := 0) (r3 := 0) rfl rfl ?_
    refine wr_gi0 (k0 := 236) (x := h 236 6) (nx := 11) (r1 := 11) (r2 := 6) (r3 := 0) rfl rfl (by decide) rfl ⟨rfl, rfl⟩ rfl rfl ?_
    refine wi_iconst (n := 1) (nx := 12) (r1 := 0) (r2 := 0) (r3 := 0) rfl ?_
    refine wi_icmp (cd := .ne) (nx := 15) (r1 := 28) (r2 := 0) (r3 := 0) rfl (by omega) (by omega) (fun (q30 : (h 236 6) ≠ 1) => ?_) (fun (q30 : ¬ ((h 236 6) ≠ 1)) => by exfalso; omega)
    try have kf31 := TKk.n1 (B := tB) (n := tn) (p := tp) (a6 := h 236 6) (by assumption) (by omega)
    refine wi_iconst (n := 0) (nx := 29) (r1 := 0) (r2 := 0) (r3 := 0) rfl ?_
    refine wi_zreturn (nx := 30) (r1 := 0) (r2 := 0) (r3 := 0) rfl rfl (by omega) ?_
    refine wk_i ?_
    refine wi_if (cd := .eq) (nx := 44) (r1 := 51) (r2 := 0) (r3 := 0) rfl (by omega) (fun (q32 : 0 = 0) => ?_) (fun (q32 : ¬ (0 = 0)) => by exfalso; omega)
    refine wi_aload_n (i := 0) (x := 236) (nx := 52) (r1 := 0) (r2 := 0) (r3 := 0) rfl rfl ?_
    refine wi_ldc2_w (e := 781652471) (nx := 55) (r1 := 781652471) (r2 := 0) (r3 := 0) rfl (by decide) ?_
    refine wr_V (k0 := 236) (rest := []) (as := [.ref 236, vl 781652471]) (nx := 58) (r1 := 221) (r2 := 1) (r3 := 11) rfl rfl rfl (of_decide_eq_true rfl) rfl rfl (by decide) rfl rfl (of_decide_eq_true rfl) (of_decide_eq_true rfl) ?_
    refine wi_aload_n (i := 0) (x := 236) (nx := 1) (r1 := 0) (r2 := 0) (r3 := 0) rfl rfl ?_
    refine wr_gi0 (k0 := 236) (x := h 236 8) (nx := 4) (r1 := 11) (r2 := 8) (r3 := 0) rfl rfl (by decide) rfl ⟨rfl, rfl⟩ rfl rfl ?_
    refine wi_if (cd := .ne) (nx := 7) (r1 := 28) (r2 := 0) (r3 := 0) rfl (by omega) (fun (q33 : (h 236 8) ≠ 0) => by exfalso; omega) (fun (q33 : ¬ ((h 236 8) ≠ 0)) => ?_)
    refine wi_aload_n (i := 0) (x := 236) (nx := 8) (r1 := 0) (r2 := 0) (r3 := 0) rfl rfl ?_
    refine wr_gi0 (k0 := 236) (x := h 236 6) (nx := 11) (r1 := 11) (r2 := 6) (r3 := 0) rfl rfl (by decide) rfl ⟨rfl, rfl⟩ rfl rfl ?_
    refine wi_iconst (n := 1) (nx := 12) (r1 := 0) (r2 := 0) (r3 := 0) rfl ?_
    refine wi_icmp (cd := .ne) (nx := 15) (r1 := 28) (r2 := 0) (r3 := 0) rfl (by omega) (by omega) (fun (q35 : (h 236 6) ≠ 1) => ?_) (fun (q35 : ¬ ((h 236 6) ≠ 1)) => by exfalso; omega)
    try have kf36 := TKk.n1 (B := tB) (n := tn) (p := tp) (a6 := h 236 6) (by assumption) (by omega)
    refine wi_iconst (n := 0) (nx := 29) (r1 := 0) (r2 := 0) (r3 := 0) rfl ?_
    refine wi_zreturn (nx := 30) (r1 := 0) (r2 := 0) (r3 := 0) rfl rfl (by omega) ?_
    refine wk_i ?_
    refine wi_if (cd := .eq) (nx := 61) (r1 := 102) (r2 := 0) (r3 := 0) rfl (by omega) (fun (q37 : 0 = 0) => ?_) (fun (q37 : ¬ (0 = 0)) => by exfalso; omega)
    refine wi_aload_n (i := 0) (x := 236) (nx := 103) (r1 := 0) (r2 := 0) (r3 := 0) rfl rfl ?_
    refine wi_ldc2_w (e := 2150504) (nx := 106) (r1 := 2150504) (r2 := 0) (r3 := 0) rfl (by decide) ?_
    refine wr_V (k0 := 236) (rest := []) (as := [.ref 236, vl 2150504]) (nx := 109) (r1 := 221) (r2 := 1) (r3 := 11) rfl rfl rfl (of_decide_eq_true rfl) rfl rfl (by decide) rfl rfl (of_decide_eq_true rfl) (of_decide_eq_true rfl) ?_
    refine wi_aload_n (i := 0) (x := 236) (nx := 1) (r1 := 0) (r2 := 0) (r3 := 0) rfl rfl ?_
    refine wr_gi0 (k0 := 236) (x := h 236 8) (nx := 4) (r1 := 11) (r2 := 8) (r3 := 0) rfl rfl (by decide) rfl ⟨rfl, rfl⟩ rfl rfl ?_
    refine wi_if (cd := .ne) (nx := 7) (r1 := 28) (r2 := 0) (r3 := 0) rfl (by omega) (fun (q38 : (h 236 8) ≠ 0) => by exfalso; omega) (fun (q38 : ¬ ((h 236 8) ≠ 0)) => ?_)
    refine wi_aload_n (i := 0) (x := 236) (nx := 8) (r1 := 0) (r2 := 0) (r3 := 0) rfl rfl ?_
    refine wr_gi0 (k0 := 236) (x := h 236 6) (nx := 11) (r1 := 11) (r2 := 6) (r3 := 0) rfl rfl (by decide) rfl ⟨rfl, rfl⟩ rfl rfl ?_
    refine wi_iconst (n := 1) (nx := 12) (r1 := 0) (r2 := 0) (r3 := 0) rfl ?_
    refine wi_icmp (cd := .ne) (nx := 15) (r1 := 28) (r2 := 0) (r3 := 0) rfl (by omega) (by omega) (fun (q40 : (h 236 6) ≠ 1) => ?_) (fun (q40 : ¬ ((h 236 6) ≠ 1)) => by exfalso; omega)
    try have kf41 := TKk.n1 (B := tB) (n := tn) (p := tp) (a6 := h 236 6) (by assumption) (by omega)
    refine wi_iconst (n := 0) (nx := 29) (r1 := 0) (r2 := 0) (r3 := 0) rfl ?_
    refine wi_zreturn (nx := 30) (r1 := 0) (r2 := 0) (r3 := 0) rfl rfl (by omega) ?_
    refine wk_i ?_
    refine wi_if (cd := .eq) (nx := 112) (r1 := 157) (r2 := 0) (r3 := 0) rfl (by omega) (fun (q42 : 0 = 0) => ?_) (fun (q42 : ¬ (0 = 0)) => by exfalso; omega)
    refine wi_aload_n (i := 0) (x := 236) (nx := 158) (r1 := 0) (r2 := 0) (r3 := 0) rfl rfl ?_
    refine wi_ldc2_w (e := 609992267) (nx := 161) (r1 := 609992267) (r2 := 0) (r3 := 0) rfl (by decide) ?_
    refine wr_V (k0 := 236) (rest := []) (as := [.ref 236, vl 609992267]) (nx := 164) (r1 := 221) (r2 := 1) (r3 := 11) rfl rfl rfl (of_decide_eq_true rfl) rfl rfl (by decide) rfl rfl (of_decide_eq_true rfl) (of_decide_eq_true rfl) ?_
    refine wi_aload_n (i := 0) (x := 236) (nx := 1) (r1 := 0) (r2 := 0) (r3 := 0) rfl rfl ?_
    refine wr_gi0 (k0 := 236) (x := h 236 8) (nx := 4) (r1 := 11) (r2 := 8) (r3 := 0) rfl rfl (by decide) rfl ⟨rfl, rfl⟩ rfl rfl ?_
    refine wi_if (cd := .ne) (nx := 7) (r1 := 28) (r2 := 0) (r3 := 0) rfl (by omega) (fun (q43 : (h 236 8) ≠ 0) => by exfalso; omega) (fun (q43 : ¬ ((h 236 8) ≠ 0)) => ?_)
    refine wi_aload_n (i := 0) (x := 236) (nx := 8) (r1 := 0) (r2 := 0) (r3 := 0) rfl rfl ?_
    refine wr_gi0 (k0 := 236) (x := h 236 6) (nx := 11) (r1 := 11) (r2 := 6) (r3 := 0) rfl rfl (by decide) rfl ⟨rfl, rfl⟩ rfl rfl ?_
    refine wi_iconst (n := 1) (nx := 12) (r1 := 0) (r2 := 0) (r3 := 0) rfl ?_
    refine wi_icmp (cd := .ne) (nx := 15) (r1 := 28) (r2 := 0) (r3 := 0) rfl (by omega) (by omega) (fun (q45 : (h 236 6) ≠ 1) => ?_) (fun (q45 : ¬ ((h 236 6) ≠ 1)) => by exfalso; omega)
    try have kf46 := TKk.n1 (B := tB) (n := tn) (p := tp) (a6 := h 236 6) (by assumption) (by omega)
    refine wi_iconst (n := 0) (nx := 29) (r1 := 0) (r2 := 0) (r3 := 0) rfl ?_
    refine wi_zreturn (nx := 30) (r1 := 0) (r2 := 0) (r3 := 0) rfl rfl (by omega) ?_
    refine wk_i ?_
    refine wi_if (cd := .eq) (nx := 167) (r1 := 212) (r2 := 0) (r3 := 0) rfl (by omega) (fun (q47 : 0 = 0) => ?_) (fun (q47 : ¬ (0 = 0)) => by exfalso; omega)
    refine wi_aload_n (i := 0) (x := 236) (nx := 213) (r1 := 0) (r2 := 0) (r3 := 0) rfl rfl ?_
    refine wi_ldc2_w (e := 639022) (nx := 216) (r1 := 639022) (r2 := 0) (r3 := 0) rfl (by decide) ?_
    refine wr_V (k0 := 236) (rest := []) (as := [.ref 236, vl 639022]) (nx := 219) (r1 := 221) (r2 := 1) (r3 := 11) rfl rfl rfl (of_decide_eq_true rfl) rfl rfl (by decide) rfl rfl (of_decide_eq_true rfl) (of_decide_eq_true rfl) ?_
    refine wi_aload_n (i := 0) (x := 236) (nx := 1) (r1 := 0) (r2 := 0) (r3 := 0) rfl rfl ?_
    refine wr_gi0 (k0 := 236) (x := h 236 8) (nx := 4) (r1 := 11) (r2 := 8) (r3 := 0) rfl rfl (by decide) rfl ⟨rfl, rfl⟩ rfl rfl ?_
    refine wi_if (cd := .ne) (nx := 7) (r1 := 28) (r2 := 0) (r3 := 0) rfl (by omega) (fun (q48 : (h 236 8) ≠ 0) => by exfalso; omega) (fun (q48 : ¬ ((h 236 8) ≠ 0)) => ?_)
    refine wi_aload_n (i := 0) (x := 236) (nx := 8) (r1 := 0) (r2 := 0) (r3 := 0) rfl rfl ?_
    refine wr_gi0 (k0 := 236) (x := h 236 6) (nx := 11) (r1 := 11) (r2 := 6) (r3 := 0) rfl rfl (by decide) rfl ⟨rfl, rfl⟩ rfl rfl ?_
    refine wi_iconst (n := 1) (nx := 12) (r1 := 0) (r2 := 0) (r3 := 0) rfl ?_
    refine wi_icmp (cd := .ne) (nx := 15) (r1 := 28) (r2 := 0) (r3 := 0) rfl (by omega) (by omega) (fun (q50 : (h 236 6) ≠ 1) => ?_) (fun (q50 : ¬ ((h 236 6) ≠ 1)) => by exfalso; omega)
    try have kf51 := TKk.n1 (B := tB) (n := tn) (p := tp) (a6 := h 236 6) (by assumption) (by omega)
    refine wi_iconst (n := 0) (nx := 29) (r1 := 0) (r2 := 0) (r3 := 0) rfl ?_
    refine wi_zreturn (nx := 30) (r1 := 0) (r2 := 0) (r3 := 0) rfl rfl (by omega) ?_
    refine wk_i ?_
    refine wi_if (cd := .eq) (nx := 222) (r1 := 251) (r2 := 0) (r3 := 0) rfl (by omega) (fun (q52 : 0 = 0) => ?_) (fun (q52 : ¬ (0 = 0)) => by exfalso; omega)
    refine wi_aload_n (i := 0) (x := 236) (nx := 252) (r1 := 0) (r2 := 0) (r3 := 0) rfl rfl ?_
    refine wi_iconst (n := 1) (nx := 253) (r1 := 0) (r2 := 0) (r3 := 0) rfl ?_
    refine wr_V (k0 := 236) (rest := []) (as := [.ref 236, vi 1]) (nx := 256) (r1 := 224) (r2 := 1) (r3 := 11) rfl rfl rfl (of_decide_eq_true rfl) rfl rfl (by decide) rfl rfl (of_decide_eq_true rfl) (of_decide_eq_true rfl) ?_
    refine ct_224_236 hcr  g 1 (by omega)  (fun h53 g53 u53 (p53_0 : 1 ≤ (h53 236 8)) (p53_1 : (1 ≤ (h 236 8) ∧ (h53 236 8) = (h 236 8) ∧ (h53 236 9) = (h 236 9)) ∨ ((h 236 8) = 0 ∧ (h53 236 9) = (h 236 5) ∧ (((h 236 6) = 4 ∧ (h53 236 8) = 1) ∨ ((h 236 6) ≠ 4 ∧ (h53 236 8) = 1)))) => ?_)
    have F54 := F0.then (by decide +kernel) u53
    have b55 := gi_b (lo := 0) (hi := 5) g53 236 8 rfl
    have b56 := gi_b (lo := -2147483648) (hi := 2147483647) g53 236 9 rfl
    refine wk_n ?_
    refine wi_return (nx := 257) (r1 := 0) (r2 := 0) (r3 := 0) rfl rfl ?_
    have e57 : h53 236 4 = h 236 4 := (u53 236 4 rfl)
    have e58 : h53 239 5 = h 239 5 := (u53 239 5 rfl)
    have e59 : h53 239 7 = h 239 7 := (u53 239 7 rfl)
    have e60 : h53 239 15 = h 239 15 := (u53 239 15 rfl)
    have e61 : h53 239 16 = h 239 16 := (u53 239 16 rfl)
    have e62 : h53 239 17 = h 239 17 := (u53 239 17 rfl)
    have e63 : h53 239 18 = h 239 18 := (u53 239 18 rfl)
    exact k h53 g53 F54 (show (h53 236 8) = 0 ∨ 1 ≤ (h53 236 8) by omega) (show (h 236 4) ≤ (h53 236 4) by omega) (show (h53 236 4) ≤ (h 236 3) by omega) (show 1 ≤ (h53 236 8) ∨ ((h53 239 5) ≤ 9 ∧ 1 ≤ (h53 239 5) ∧ (h53 239 7) ≤ 3 ∧ (h53 239 15) ≤ 6 ∧ (h53 239 16) ≤ 6 ∧ (h53 239 17) ≤ 6 ∧ (h53 239 18) ≤ 6) by omega) (show (h53 236 8) ≠ 0 ∨ (h53 236 9) = -1 by omega) (by unfold tk_stm; (repeat (first | rw [if_pos (by omega)] | rw [if_neg (by omega)])); first | exact tk_ORe (by omega) (by omega) (by omega) | ((repeat' split) <;> (first | exact tk_ORe (by omega) (by omega) (by omega) | (exfalso; omega))))
  ·
    try have kf21 := TKk.e1 (B := tB) (n := tn) (p := tp) (a6 := h 236 6) (by assumption) (by omega)
    refine wi_aload_n (i := 0) (x := 236) (nx := 16) (r1 := 0) (r2 := 0) (r3 := 0) rfl rfl ?_
    refine wr_gi1 (k0 := 236) (x := h 236 12) (nx := 19) (r1 := 11) (r2 := 12) (r3 := 0) rfl rfl (by decide) rfl ⟨rfl, rfl⟩ rfl rfl ?_
    refine wi_lload_n (i := 1) (e := 3650034) (nx := 20) (r1 := 0) (r2 := 0) (r3 := 0) rfl rfl ?_
    refine wi_lcmp (a := h 236 12) (e := 3650034) (nx := 21) (r1 := 0) (r2 := 0) (r3 := 0) rfl (by omega) (by omega) (fun r22 (fr22 : (r22 = -1 ∧ (h 236 12) < 3650034) ∨ (r22 = 0 ∧ (h 236 12) = 3650034) ∨ (r22 = 1 ∧ 3650034 < (h 236 12))) => ?_)
    refine wi_if (cd := .ne) (nx := 24) (r1 := 28) (r2 := 0) (r3 := 0) rfl (by omega) (fun (q23 : r22 ≠ 0) => ?_) (fun (q23 : ¬ (r22 ≠ 0)) => ?_)
    ·
      try have wk24 : tk_wd (tk_lw tB tn tp) ≠ 1 := fun e => absurd ((tk_wk (B := tB) (n := tn) (p := tp) 0 (by decide) (by omega) (by omega) (by omega)).mpr e) (by show ¬ (tk_sw tB tn tp = 3650034); omega)
      refine wi_iconst (n := 0) (nx := 29) (r1 := 0) (r2 := 0) (r3 := 0) rfl ?_
      refine wi_zreturn (nx := 30) (r1 := 0) (r2 := 0) (r3 := 0) rfl rfl (by omega) ?_
      refine wk_i ?_
      refine wi_if (cd := .eq) (nx := 10) (r1 := 17) (r2 := 0) (r3 := 0) rfl (by omega) (fun (q25 : 0 = 0) => ?_) (fun (q25 : ¬ (0 = 0)) => by exfalso; omega)
      refine wi_aload_n (i := 0) (x := 236) (nx := 18) (r1 := 0) (r2 := 0) (r3 := 0) rfl rfl ?_
      refine wi_ldc2_w (e := 394693) (nx := 21) (r1 := 394693) (r2 := 0) (r3 := 0) rfl (by decide) ?_
      refine wr_V (k0 := 236) (rest := []) (as := [.ref 236, vl 394693]) (nx := 24) (r1 := 221) (r2 := 1) (r3 := 11) rfl rfl rfl (of_decide_eq_true rfl) rfl rfl (by decide) rfl rfl (of_decide_eq_true rfl) (of_decide_eq_true rfl) ?_
      refine wi_aload_n (i := 0) (x := 236) (nx := 1) (r1 := 0) (r2 := 0) (r3 := 0) rfl rfl ?_
      refine wr_gi0 (k0 := 236) (x := h 236 8) (nx := 4) (r1 := 11) (r2 := 8) (r3 := 0) rfl rfl (by decide) rfl ⟨rfl, rfl⟩ rfl rfl ?_
      refine wi_if (cd := .ne) (nx := 7) (r1 := 28) (r2 := 0) (r3 := 0) rfl (by omega) (fun (q26 : (h 236 8) ≠ 0) => by exfalso; omega) (fun (q26 : ¬ ((h 236 8) ≠ 0)) => ?_)
      refine wi_aload_n (i := 0) (x := 236) (nx := 8) (r1 := 0) (r2 := 0) (r3 := 0) rfl rfl ?_
      refine wr_gi0 (k0 := 236) (x := h 236 6) (nx := 11) (r1 := 11) (r2 := 6) (r3 := 0) rfl rfl (by decide) rfl ⟨rfl, rfl⟩ rfl rfl ?_
      refine wi_iconst (n := 1) (nx := 12) (r1 := 0) (r2 := 0) (r3 := 0) rfl ?_
      refine wi_icmp (cd := .ne) (nx := 15) (r1 := 28) (r2 := 0) (r3 := 0) rfl (by omega) (by omega) (fun (q28 : (h 236 6) ≠ 1) => by exfalso; omega) (fun (q28 : ¬ ((h 236 6) ≠ 1)) => ?_)
      try have kf29 := TKk.e1 (B := tB) (n := tn) (p := tp) (a6 := h 236 6) (by assumption) (by omega)
      refine wi_aload_n (i := 0) (x := 236) (nx := 16) (r1 := 0) (r2 := 0) (r3 := 0) rfl rfl ?_
      refine wr_gi1 (k0 := 236) (x := h 236 12) (nx := 19) (r1 := 11) (r2 := 12) (r3 := 0) rfl rfl (by decide) rfl ⟨rfl, rfl⟩ rfl rfl ?_
      refine wi_lload_n (i := 1) (e := 394693) (nx := 20) (r1 := 0) (r2 := 0) (r3 := 0) rfl rfl ?_
      refine wi_lcmp (a := h 236 12) (e := 394693) (nx := 21) (r1 := 0) (r2 := 0) (r3 := 0) rfl (by omega) (by omega) (fun r30 (fr30 : (r30 = -1 ∧ (h 236 12) < 394693) ∨ (r30 = 0 ∧ (h 236 12) = 394693) ∨ (r30 = 1 ∧ 394693 < (h 236 12))) => ?_)
      refine wi_if (cd := .ne) (nx := 24) (r1 := 28) (r2 := 0) (r3 := 0) rfl (by omega) (fun (q31 : r30 ≠ 0) => ?_) (fun (q31 : ¬ (r30 ≠ 0)) => ?_)
      ·
        try have wk32 : tk_wd (tk_lw tB tn tp) ≠ 3 := fun e => absurd ((tk_wk (B := tB) (n := tn) (p := tp) 2 (by decide) (by omega) (by omega) (by omega)).mpr e) (by show ¬ (tk_sw tB tn tp = 394693); omega)
        refine wi_iconst (n := 0) (nx := 29) (r1 := 0) (r2 := 0) (r3 := 0) rfl ?_
        refine wi_zreturn (nx := 30) (r1 := 0) (r2 := 0) (r3 := 0) rfl rfl (by omega) ?_
        refine wk_i ?_
        refine wi_if (cd := .eq) (nx := 27) (r1 := 34) (r2 := 0) (r3 := 0) rfl (by omega) (fun (q33 : 0 = 0) => ?_) (fun (q33 : ¬ (0 = 0)) => by exfalso; omega)
        refine wi_aload_n (i := 0) (x := 236) (nx := 35) (r1 := 0) (r2 := 0) (r3 := 0) rfl rfl ?_
        refine wi_ldc2_w (e := 3122) (nx := 38) (r1 := 3122) (r2 := 0) (r3 := 0) rfl (by decide) ?_
        refine wr_V (k0 := 236) (rest := []) (as := [.ref 236, vl 3122]) (nx := 41) (r1 := 221) (r2 := 1) (r3 := 11) rfl rfl rfl (of_decide_eq_true rfl) rfl rfl (by decide) rfl rfl (of_decide_eq_true rfl) (of_decide_eq_true rfl) ?_
        refine wi_aload_n (i := 0) (x := 236) (nx := 1) (r1 := 0) (r2 := 0) (r3 := 0) rfl rfl ?_
        refine wr_gi0 (k0 := 236) (x := h 236 8) (nx := 4) (r1 := 11) (r2 := 8) (r3 := 0) rfl rfl (by decide) rfl ⟨rfl, rfl⟩ rfl rfl ?_
        refine wi_if (cd := .ne) (nx := 7) (r1 := 28) (r2 := 0) (r3 := 0) rfl (by omega) (fun (q34 : (h 236 8) ≠ 0) => by exfalso; omega) (fun (q34 : ¬ ((h 236 8) ≠ 0)) => ?_)
        refine wi_aload_n (i := 0) (x := 236) (nx := 8) (r1 := 0) (r2 := 0) (r3 := 0) rfl rfl ?_
        refine wr_gi0 (k0 := 236) (x := h 236 6) (nx := 11) (r1 := 11) (r2 := 6) (r3 := 0) rfl rfl (by decide) rfl ⟨rfl, rfl⟩ rfl rfl ?_
        refine wi_iconst (n := 1) (nx := 12) (r1 := 0) (r2 := 0) (r3 := 0) rfl ?_
        refine wi_icmp (cd := .ne) (nx := 15) (r1 := 28) (r2 := 0) (r3 := 0) rfl (by omega) (by omega) (fun (q36 : (h 236 6) ≠ 1) => by exfalso; omega) (fun (q36 : ¬ ((h 236 6) ≠ 1)) => ?_)
        try have kf37 := TKk.e1 (B := tB) (n := tn) (p := tp) (a6 := h 236 6) (by assumption) (by omega)
        refine wi_aload_n (i := 0) (x := 236) (nx := 16) (r1 := 0) (r2 := 0) (r3 := 0) rfl rfl ?_
        refine wr_gi1 (k0 := 236) (x := h 236 12) (nx := 19) (r1 := 11) (r2 := 12) (r3 := 0) rfl rfl (by decide) rfl ⟨rfl, rfl⟩ rfl rfl ?_
        refine wi_lload_n (i := 1) (e := 3122) (nx := 20) (r1 := 0) (r2 := 0) (r3 := 0) rfl rfl ?_
        refine wi_lcmp (a := h 236 12) (e := 3122) (nx := 21) (r1 := 0) (r2 := 0) (r3 := 0) rfl (by omega) (by omega) (fun r38 (fr38 : (r38 = -1 ∧ (h 236 12) < 3122) ∨ (r38 = 0 ∧ (h 236 12) = 3122) ∨ (r38 = 1 ∧ 3122 < (h 236 12))) => ?_)
        refine wi_if (cd := .ne) (nx := 24) (r1 := 28) (r2 := 0) (r3 := 0) rfl (by omega) (fun (q39 : r38 ≠ 0) => ?_) (fun (q39 : ¬ (r38 ≠ 0)) => ?_)
        ·
          try have wk40 : tk_wd (tk_lw tB tn tp) ≠ 4 := fun e => absurd ((tk_wk (B := tB) (n := tn) (p := tp) 3 (by decide) (by omega) (by omega) (by omega)).mpr e) (by show ¬ (tk_sw tB tn tp = 3122); omega)
          refine wi_iconst (n := 0) (nx := 29) (r1 := 0) (r2 := 0) (r3 := 0) rfl ?_
          refine wi_zreturn (nx := 30) (r1 := 0) (r2 := 0) (r3 := 0) rfl rfl (by omega) ?_
          refine wk_i ?_
          refine wi_if (cd := .eq) (nx := 44) (r1 := 51) (r2 := 0) (r3 := 0) rfl (by omega) (fun (q41 : 0 = 0) => ?_) (fun (q41 : ¬ (0 = 0)) => by exfalso; omega)
          refine wi_aload_n (i := 0) (x := 236) (nx := 52) (r1 := 0) (r2 := 0) (r3 := 0) rfl rfl ?_
          refine wi_ldc2_w (e := 781652471) (nx := 55) (r1 := 781652471) (r2 := 0) (r3 := 0) rfl (by decide) ?_
          refine wr_V (k0 := 236) (rest := []) (as := [.ref 236, vl 781652471]) (nx := 58) (r1 := 221) (r2 := 1) (r3 := 11) rfl rfl rfl (of_decide_eq_true rfl) rfl rfl (by decide) rfl rfl (of_decide_eq_true rfl) (of_decide_eq_true rfl) ?_
          refine wi_aload_n (i := 0) (x := 236) (nx := 1) (r1 := 0) (r2 := 0) (r3 := 0) rfl rfl ?_
          refine wr_gi0 (k0 := 236) (x := h 236 8) (nx := 4) (r1 := 11) (r2 := 8) (r3 := 0) rfl rfl (by decide) rfl ⟨rfl, rfl⟩ rfl rfl ?_
          refine wi_if (cd := .ne) (nx := 7) (r1 := 28) (r2 := 0) (r3 := 0) rfl (by omega) (fun (q42 : (h 236 8) ≠ 0) => by exfalso; omega) (fun (q42 : ¬ ((h 236 8) ≠ 0)) => ?_)
          refine wi_aload_n (i := 0) (x := 236) (nx := 8) (r1 := 0) (r2 := 0) (r3 := 0) rfl rfl ?_
          refine wr_gi0 (k0 := 236) (x := h 236 6) (nx := 11) (r1 := 11) (r2 := 6) (r3 := 0) rfl rfl (by decide) rfl ⟨rfl, rfl⟩ rfl rfl ?_
          refine wi_iconst (n := 1) (nx := 12) (r1 := 0) (r2 := 0) (r3 := 0) rfl ?_
          refine wi_icmp (cd := .ne) (nx := 15) (r1 := 28) (r2 := 0) (r3 := 0) rfl (by omega) (by omega) (fun (q44 : (h 236 6) ≠ 1) => by exfalso; omega) (fun (q44 : ¬ ((h 236 6) ≠ 1)) => ?_)
          try have kf45 := TKk.e1 (B := tB) (n := tn) (p := tp) (a6 := h 236 6) (by assumption) (by omega)
          refine wi_aload_n (i := 0) (x := 236) (nx := 16) (r1 := 0) (r2 := 0) (r3 := 0) rfl rfl ?_
          refine wr_gi1 (k0 := 236) (x := h 236 12) (nx := 19) (r1 := 11) (r2 := 12) (r3 := 0) rfl rfl (by decide) rfl ⟨rfl, rfl⟩ rfl rfl ?_
          refine wi_lload_n (i := 1) (e := 781652471) (nx := 20) (r1 := 0) (r2 := 0) (r3 := 0) rfl rfl ?_
          refine wi_lcmp (a := h 236 12) (e := 781652471) (nx := 21) (r1 := 0) (r2 := 0) (r3 := 0) rfl (by omega) (by omega) (fun r46 (fr46 : (r46 = -1 ∧ (h 236 12) < 781652471) ∨ (r46 = 0 ∧ (h 236 12) = 781652471) ∨ (r46 = 1 ∧ 781652471 < (h 236 12))) => ?_)
          refine wi_if (cd := .ne) (nx := 24) (r1 := 28) (r2 := 0) (r3 := 0) rfl (by omega) (fun (q47 : r46 ≠ 0) => ?_) (fun (q47 : ¬ (r46 ≠ 0)) => ?_)
          ·
            try have wk48 : tk_wd (tk_lw tB tn tp) ≠ 7 := fun e => absurd ((tk_wk (B := tB) (n := tn) (p := tp) 6 (by decide) (by omega) (by omega) (by omega)).mpr e) (by show ¬ (tk_sw tB tn tp = 781652471); omega)
            refine wi_iconst (n := 0) (nx := 29) (r1 := 0) (r2 := 0) (r3 := 0) rfl ?_
            refine wi_zreturn (nx := 30) (r1 := 0) (r2 := 0) (r3 := 0) rfl rfl (by omega) ?_
            refine wk_i ?_
            refine wi_if (cd := .eq) (nx := 61) (r1 := 102) (r2 := 0) (r3 := 0) rfl (by omega) (fun (q49 : 0 = 0) => ?_) (fun (q49 : ¬ (0 = 0)) => by exfalso; omega)
            refine wi_aload_n (i := 0) (x := 236) (nx := 103) (r1 := 0) (r2 := 0) (r3 := 0) rfl rfl ?_
            refine wi_ldc2_w (e := 2150504) (nx := 106) (r1 := 2150504) (r2 := 0) (r3 := 0) rfl (by decide) ?_
            refine wr_V (k0 := 236) (rest := []) (as := [.ref 236, vl 2150504]) (nx := 109) (r1 := 221) (r2 := 1) (r3 := 11) rfl rfl rfl (of_decide_eq_true rfl) rfl rfl (by decide) rfl rfl (of_decide_eq_true rfl) (of_decide_eq_true rfl) ?_
            refine wi_aload_n (i := 0) (x := 236) (nx := 1) (r1 := 0) (r2 := 0) (r3 := 0) rfl rfl ?_
            refine wr_gi0 (k0 := 236) (x := h 236 8) (nx := 4) (r1 := 11) (r2 := 8) (r3 := 0) rfl rfl (by decide) rfl ⟨rfl, rfl⟩ rfl rfl ?_
            refine wi_if (cd := .ne) (nx := 7) (r1 := 28) (r2 := 0) (r3 := 0) rfl (by omega) (fun (q50 : (h 236 8) ≠ 0) => by exfalso; omega) (fun (q50 : ¬ ((h 236 8) ≠ 0)) => ?_)
            refine wi_aload_n (i := 0) (x := 236) (nx := 8) (r1 := 0) (r2 := 0) (r3 := 0) rfl rfl ?_
            refine wr_gi0 (k0 := 236) (x := h 236 6) (nx := 11) (r1 := 11) (r2 := 6) (r3 := 0) rfl rfl (by decide) rfl ⟨rfl, rfl⟩ rfl rfl ?_
            refine wi_iconst (n := 1) (nx := 12) (r1 := 0) (r2 := 0) (r3 := 0) rfl ?_
            refine wi_icmp (cd := .ne) (nx := 15) (r1 := 28) (r2 := 0) (r3 := 0) rfl (by omega) (by omega) (fun (q52 : (h 236 6) ≠ 1) => by exfalso; omega) (fun (q52 : ¬ ((h 236 6) ≠ 1)) => ?_)
            try have kf53 := TKk.e1 (B := tB) (n := tn) (p := tp) (a6 := h 236 6) (by assumption) (by omega)
            refine wi_aload_n (i := 0) (x := 236) (nx := 16) (r1 := 0) (r2 := 0) (r3 := 0) rfl rfl ?_
            refine wr_gi1 (k0 := 236) (x := h 236 12) (nx := 19) (r1 := 11) (r2 := 12) (r3 := 0) rfl rfl (by decide) rfl ⟨rfl, rfl⟩ rfl rfl ?_
            refine wi_lload_n (i := 1) (e := 2150504) (nx := 20) (r1 := 0) (r2 := 0) (r3 := 0) rfl rfl ?_
            refine wi_lcmp (a := h 236 12) (e := 2150504) (nx := 21) (r1 := 0) (r2 := 0) (r3 := 0) rfl (by omega) (by omega) (fun r54 (fr54 : (r54 = -1 ∧ (h 236 12) < 2150504) ∨ (r54 = 0 ∧ (h 236 12) = 2150504) ∨ (r54 = 1 ∧ 2150504 < (h 236 12))) => ?_)
            refine wi_if (cd := .ne) (nx := 24) (r1 := 28) (r2 := 0) (r3 := 0) rfl (by omega) (fun (q55 : r54 ≠ 0) => ?_) (fun (q55 : ¬ (r54 ≠ 0)) => ?_)
            ·
              try have wk56 : tk_wd (tk_lw tB tn tp) ≠ 8 := fun e => absurd ((tk_wk (B := tB) (n := tn) (p := tp) 7 (by decide) (by omega) (by omega) (by omega)).mpr e) (by show ¬ (tk_sw tB tn tp = 2150504); omega)
              refine wi_iconst (n := 0) (nx := 29) (r1 := 0) (r2 := 0) (r3 := 0) rfl ?_
              refine wi_zreturn (nx := 30) (r1 := 0) (r2 := 0) (r3 := 0) rfl rfl (by omega) ?_
              refine wk_i ?_
              refine wi_if (cd := .eq) (nx := 112) (r1 := 157) (r2 := 0) (r3 := 0) rfl (by omega) (fun (q57 : 0 = 0) => ?_) (fun (q57 : ¬ (0 = 0)) => by exfalso; omega)
              refine wi_aload_n (i := 0) (x := 236) (nx := 158) (r1 := 0) (r2 := 0) (r3 := 0) rfl rfl ?_
              refine wi_ldc2_w (e := 609992267) (nx := 161) (r1 := 609992267) (r2 := 0) (r3 := 0) rfl (by decide) ?_
              refine wr_V (k0 := 236) (rest := []) (as := [.ref 236, vl 609992267]) (nx := 164) (r1 := 221) (r2 := 1) (r3 := 11) rfl rfl rfl (of_decide_eq_true rfl) rfl rfl (by decide) rfl rfl (of_decide_eq_true rfl) (of_decide_eq_true rfl) ?_
              refine wi_aload_n (i := 0) (x := 236) (nx := 1) (r1 := 0) (r2 := 0) (r3 := 0) rfl rfl ?_
              refine wr_gi0 (k0 := 236) (x := h 236 8) (nx := 4) (r1 := 11) (r2 := 8) (r3 := 0) rfl rfl (by decide) rfl ⟨rfl, rfl⟩ rfl rfl ?_
              refine wi_if (cd := .ne) (nx := 7) (r1 := 28) (r2 := 0) (r3 := 0) rfl (by omega) (fun (q58 : (h 236 8) ≠ 0) => by exfalso; omega) (fun (q58 : ¬ ((h 236 8) ≠ 0)) => ?_)
              refine wi_aload_n (i := 0) (x := 236) (nx := 8) (r1 := 0) (r2 := 0) (r3 := 0) rfl rfl ?_
              refine wr_gi0 (k0 := 236) (x := h 236 6) (nx := 11) (r1 := 11) (r2 := 6) (r3 := 0) rfl rfl (by decide) rfl ⟨rfl, rfl⟩ rfl rfl ?_
              refine wi_iconst (n := 1) (nx := 12) (r1 := 0) (r2 := 0) (r3 := 0) rfl ?_
              refine wi_icmp (cd := .ne) (nx := 15) (r1 := 28) (r2 := 0) (r3 := 0) rfl (by omega) (by omega) (fun (q60 : (h 236 6) ≠ 1) => by exfalso; omega) (fun (q60 : ¬ ((h 236 6) ≠ 1)) => ?_)
              try have kf61 := TKk.e1 (B := tB) (n := tn) (p := tp) (a6 := h 236 6) (by assumption) (by omega)
              refine wi_aload_n (i := 0) (x := 236) (nx := 16) (r1 := 0) (r2 := 0) (r3 := 0) rfl rfl ?_
              refine wr_gi1 (k0 := 236) (x := h 236 12) (nx := 19) (r1 := 11) (r2 := 12) (r3 := 0) rfl rfl (by decide) rfl ⟨rfl, rfl⟩ rfl rfl ?_
              refine wi_lload_n (i := 1) (e := 609992267) (nx := 20) (r1 := 0) (r2 := 0) (r3 := 0) rfl rfl ?_
              refine wi_lcmp (a := h 236 12) (e := 609992267) (nx := 21) (r1 := 0) (r2 := 0) (r3 := 0) rfl (by omega) (by omega) (fun r62 (fr62 : (r62 = -1 ∧ (h 236 12) < 609992267) ∨ (r62 = 0 ∧ (h 236 12) = 609992267) ∨ (r62 = 1 ∧ 609992267 < (h 236 12))) => ?_)
              refine wi_if (cd := .ne) (nx := 24) (r1 := 28) (r2 := 0) (r3 := 0) rfl (by omega) (fun (q63 : r62 ≠ 0) => ?_) (fun (q63 : ¬ (r62 ≠ 0)) => ?_)
              ·
                try have wk64 : tk_wd (tk_lw tB tn tp) ≠ 10 := fun e => absurd ((tk_wk (B := tB) (n := tn) (p := tp) 9 (by decide) (by omega) (by omega) (by omega)).mpr e) (by show ¬ (tk_sw tB tn tp = 609992267); omega)
                refine wi_iconst (n := 0) (nx := 29) (r1 := 0) (r2 := 0) (r3 := 0) rfl ?_
                refine wi_zreturn (nx := 30) (r1 := 0) (r2 := 0) (r3 := 0) rfl rfl (by omega) ?_
                refine wk_i ?_
                refine wi_if (cd := .eq) (nx := 167) (r1 := 212) (r2 := 0) (r3 := 0) rfl (by omega) (fun (q65 : 0 = 0) => ?_) (fun (q65 : ¬ (0 = 0)) => by exfalso; omega)
                refine wi_aload_n (i := 0) (x := 236) (nx := 213) (r1 := 0) (r2 := 0) (r3 := 0) rfl rfl ?_
                refine wi_ldc2_w (e := 639022) (nx := 216) (r1 := 639022) (r2 := 0) (r3 := 0) rfl (by decide) ?_
                refine wr_V (k0 := 236) (rest := []) (as := [.ref 236, vl 639022]) (nx := 219) (r1 := 221) (r2 := 1) (r3 := 11) rfl rfl rfl (of_decide_eq_true rfl) rfl rfl (by decide) rfl rfl (of_decide_eq_true rfl) (of_decide_eq_true rfl) ?_
                refine wi_aload_n (i := 0) (x := 236) (nx := 1) (r1 := 0) (r2 := 0) (r3 := 0) rfl rfl ?_
                refine wr_gi0 (k0 := 236) (x := h 236 8) (nx := 4) (r1 := 11) (r2 := 8) (r3 := 0) rfl rfl (by decide) rfl ⟨rfl, rfl⟩ rfl rfl ?_
                refine wi_if (cd := .ne) (nx := 7) (r1 := 28) (r2 := 0) (r3 := 0) rfl (by omega) (fun (q66 : (h 236 8) ≠ 0) => by exfalso; omega) (fun (q66 : ¬ ((h 236 8) ≠ 0)) => ?_)
                refine wi_aload_n (i := 0) (x := 236) (nx := 8) (r1 := 0) (r2 := 0) (r3 := 0) rfl rfl ?_
                refine wr_gi0 (k0 := 236) (x := h 236 6) (nx := 11) (r1 := 11) (r2 := 6) (r3 := 0) rfl rfl (by decide) rfl ⟨rfl, rfl⟩ rfl rfl ?_
                refine wi_iconst (n := 1) (nx := 12) (r1 := 0) (r2 := 0) (r3 := 0) rfl ?_
                refine wi_icmp (cd := .ne) (nx := 15) (r1 := 28) (r2 := 0) (r3 := 0) rfl (by omega) (by omega) (fun (q68 : (h 236 6) ≠ 1) => by exfalso; omega) (fun (q68 : ¬ ((h 236 6) ≠ 1)) => ?_)
                try have kf69 := TKk.e1 (B := tB) (n := tn) (p := tp) (a6 := h 236 6) (by assumption) (by omega)
                refine wi_aload_n (i := 0) (x := 236) (nx := 16) (r1 := 0) (r2 := 0) (r3 := 0) rfl rfl ?_
                refine wr_gi1 (k0 := 236) (x := h 236 12) (nx := 19) (r1 := 11) (r2 := 12) (r3 := 0) rfl rfl (by decide) rfl ⟨rfl, rfl⟩ rfl rfl ?_
                refine wi_lload_n (i := 1) (e := 639022) (nx := 20) (r1 := 0) (r2 := 0) (r3 := 0) rfl rfl ?_
                refine wi_lcmp (a := h 236 12) (e := 639022) (nx := 21) (r1 := 0) (r2 := 0) (r3 := 0) rfl (by omega) (by omega) (fun r70 (fr70 : (r70 = -1 ∧ (h 236 12) < 639022) ∨ (r70 = 0 ∧ (h 236 12) = 639022) ∨ (r70 = 1 ∧ 639022 < (h 236 12))) => ?_)
                refine wi_if (cd := .ne) (nx := 24) (r1 := 28) (r2 := 0) (r3 := 0) rfl (by omega) (fun (q71 : r70 ≠ 0) => ?_) (fun (q71 : ¬ (r70 ≠ 0)) => ?_)
                ·
                  try have wk72 : tk_wd (tk_lw tB tn tp) ≠ 12 := fun e => absurd ((tk_wk (B := tB) (n := tn) (p := tp) 11 (by decide) (by omega) (by omega) (by omega)).mpr e) (by show ¬ (tk_sw tB tn tp = 639022); omega)
                  refine wi_iconst (n := 0) (nx := 29) (r1 := 0) (r2 := 0) (r3 := 0) rfl ?_
                  refine wi_zreturn (nx := 30) (r1 := 0) (r2 := 0) (r3 := 0) rfl rfl (by omega) ?_
                  refine wk_i ?_
                  refine wi_if (cd := .eq) (nx := 222) (r1 := 251) (r2 := 0) (r3 := 0) rfl (by omega) (fun (q73 : 0 = 0) => ?_) (fun (q73 : ¬ (0 = 0)) => by exfalso; omega)
                  refine wi_aload_n (i := 0) (x := 236) (nx := 252) (r1 := 0) (r2 := 0) (r3 := 0) rfl rfl ?_
                  refine wi_iconst (n := 1) (nx := 253) (r1 := 0) (r2 := 0) (r3 := 0) rfl ?_
                  refine wr_V (k0 := 236) (rest := []) (as := [.ref 236, vi 1]) (nx := 256) (r1 := 224) (r2 := 1) (r3 := 11) rfl rfl rfl (of_decide_eq_true rfl) rfl rfl (by decide) rfl rfl (of_decide_eq_true rfl) (of_decide_eq_true rfl) ?_
                  refine ct_224_236 hcr  g 1 (by omega)  (fun h74 g74 u74 (p74_0 : 1 ≤ (h74 236 8)) (p74_1 : (1 ≤ (h 236 8) ∧ (h74 236 8) = (h 236 8) ∧ (h74 236 9) = (h 236 9)) ∨ ((h 236 8) = 0 ∧ (h74 236 9) = (h 236 5) ∧ (((h 236 6) = 4 ∧ (h74 236 8) = 1) ∨ ((h 236 6) ≠ 4 ∧ (h74 236 8) = 1)))) => ?_)
                  have F75 := F0.then (by decide +kernel) u74
                  have b76 := gi_b (lo := 0) (hi := 5) g74 236 8 rfl
                  have b77 := gi_b (lo := -2147483648) (hi := 2147483647) g74 236 9 rfl
                  refine wk_n ?_
                  refine wi_return (nx := 257) (r1 := 0) (r2 := 0) (r3 := 0) rfl rfl ?_
                  have e78 : h74 236 4 = h 236 4 := (u74 236 4 rfl)
                  have e79 : h74 239 5 = h 239 5 := (u74 239 5 rfl)
                  have e80 : h74 239 7 = h 239 7 := (u74 239 7 rfl)
                  have e81 : h74 239 15 = h 239 15 := (u74 239 15 rfl)
                  have e82 : h74 239 16 = h 239 16 := (u74 239 16 rfl)
                  have e83 : h74 239 17 = h 239 17 := (u74 239 17 rfl)
                  have e84 : h74 239 18 = h 239 18 := (u74 239 18 rfl)
                  exact k h74 g74 F75 (show (h74 236 8) = 0 ∨ 1 ≤ (h74 236 8) by omega) (show (h 236 4) ≤ (h74 236 4) by omega) (show (h74 236 4) ≤ (h 236 3) by omega) (show 1 ≤ (h74 236 8) ∨ ((h74 239 5) ≤ 9 ∧ 1 ≤ (h74 239 5) ∧ (h74 239 7) ≤ 3 ∧ (h74 239 15) ≤ 6 ∧ (h74 239 16) ≤ 6 ∧ (h74 239 17) ≤ 6 ∧ (h74 239 18) ≤ 6) by omega) (show (h74 236 8) ≠ 0 ∨ (h74 236 9) = -1 by omega) (by unfold tk_stm; (repeat (first | rw [if_pos (by omega)] | rw [if_neg (by omega)])); first | exact tk_ORe (by omega) (by omega) (by omega) | ((repeat' split) <;> (first | exact tk_ORe (by omega) (by omega) (by omega) | (exfalso; omega))))
                ·
                  try have wk72 : tk_wd (tk_lw tB tn tp) = 12 := (tk_wk (B := tB) (n := tn) (p := tp) 11 (by decide) (by omega) (by omega) (by omega)).mp (by show tk_sw tB tn tp = 639022; omega)
                  refine wi_iconst (n := 1) (nx := 25) (r1 := 0) (r2 := 0) (r3 := 0) rfl ?_
                  refine wi_goto (nx := 28) (r1 := 29) (r2 := 0) (r3 := 0) rfl ?_
                  refine wi_zreturn (nx := 30) (r1 := 0) (r2 := 0) (r3 := 0) rfl rfl (by omega) ?_
                  refine wk_i ?_
                  refine wi_if (cd := .eq) (nx := 222) (r1 := 251) (r2 := 0) (r3 := 0) rfl (by omega) (fun (q73 : 1 = 0) => by exfalso; omega) (fun (q73 : ¬ (1 = 0)) => ?_)
                  refine wi_aload_n (i := 0) (x := 236) (nx := 223) (r1 := 0) (r2 := 0) (r3 := 0) rfl rfl ?_
                  refine wi_aload_n (i := 0) (x := 236) (nx := 224) (r1 := 0) (r2 := 0) (r3 := 0) rfl rfl ?_
                  refine wi_aload_n (i := 0) (x := 236) (nx := 225) (r1 := 0) (r2 := 0) (r3 := 0) rfl rfl ?_
                  have b74 := gi_b (lo := 0) (hi := 1) g 236 26 rfl
                  refine wr_gi2 (k0 := 236) (x := h 236 26) (nx := 228) (r1 := 11) (r2 := 26) (r3 := 0) rfl rfl (by decide) rfl ⟨rfl, rfl⟩ rfl rfl ?_
                  refine wr_V (k0 := 236) (rest := [.ref 236]) (as := [.ref 236, vi (h 236 26)]) (nx := 231) (r1 := 234) (r2 := 1) (r3 := 11) rfl rfl rfl (of_decide_eq_true rfl) rfl rfl (by decide) rfl rfl (of_decide_eq_true rfl) (of_decide_eq_true rfl) ?_
                  refine ct_234_236 hcr  g (h 236 26) (by omega) (show (h 236 4) ≤ (h 236 3) by omega) (show 0 ≤ tp by omega) (show tp ≤ tn by omega) (show tp ≤ tk_nx tB tn tp ∧ tk_nx tB tn tp ≤ tn by omega) (show 1 ≤ (h 236 8) ∨ ((h 236 4) = tk_nx tB tn tp ∧ (h 236 5) = tk_st tB tn tp ∧ TKk tB tn tp ((h 236 6)) ((h 236 7)) ((h 236 12))) from (Or.inr (show ((h 236 4) = tk_nx tB tn tp ∧ (h 236 5) = tk_st tB tn tp ∧ TKk tB tn tp ((h 236 6)) ((h 236 7)) ((h 236 12))) by first | assumption | exact ⟨by omega, by omega, TKk.mv (by assumption) (by omega) (by omega) (by omega)⟩))) (show tk_kd tB tn tp = 1 by omega) xq0 (fun h75 z76 g75 u75 (fz76 : 1 ≤ z76 ∧ z76 ≤ 1) (p75_0 : (1 ≤ (h 236 8) ∧ (h75 236 8) = (h 236 8) ∧ (h75 236 9) = (h 236 9)) ∨ ((h 236 8) = 0 ∧ (h 236 26) = 0 ∧ (h75 236 8) = (h 236 8) ∧ (h75 236 9) = (h 236 9) ∧ ((h75 236 4) = tk_nx tB tn (tk_nx tB tn tp) ∧ (h75 236 5) = tk_st tB tn (tk_nx tB tn tp) ∧ TKk tB tn (tk_nx tB tn tp) ((h75 236 6)) ((h75 236 7)) ((h75 236 12)))) ∨ ((h 236 8) = 0 ∧ (h 236 26) = 1 ∧ (h75 236 8) = 3 ∧ (h75 236 9) = tk_st tB tn tp)) (p75_1 : (h 236 4) ≤ (h75 236 4)) (p75_2 : (h75 236 4) ≤ (h 236 3)) (p75_3 : 1 ≤ (h75 236 8) ∨ (h 236 8) = 0) (p75_4 : z76 = 1) => ?_)
                  have F77 := F0.then (by decide +kernel) u75
                  have b78 := gi_b (lo := 0) (hi := 5) g75 236 8 rfl
                  have b79 := gi_b (lo := -2147483648) (hi := 2147483647) g75 236 9 rfl
                  have b80 := gi_b (lo := 0) (hi := 800) g75 236 4 rfl
                  have b81 := gi_b (lo := 0) (hi := 800) g75 236 5 rfl
                  have b82 := gi_b (lo := 0) (hi := 4) g75 236 6 rfl
                  have b83 := gi_b (lo := 0) (hi := 999) g75 236 7 rfl
                  have b84 := gi_b (lo := -9223372036854775808) (hi := 9223372036854775807) g75 236 12 rfl
                  refine wk_i ?_
                  rcases p75_0 with p75_0 | p75_0 | p75_0
                  ·
                    exfalso; omega
                  ·
                    have tkk85 := (p75_0.2.2.2.2).2.2
                    have tN86 := @tk_nx_b tB tn (tk_nx tB tn tp) (by omega) (by omega)
                    refine wr_pf2 (k0 := 236) (x := z76) (bl := 0) (bh := 1) (nx := 234) (r1 := 11) (r2 := 26) (r3 := 2) rfl (by decide) rfl ⟨rfl, rfl⟩ rfl (by omega) rfl g75 rfl (by omega) (fun h87 g87 w87 u87 => ?_)
                    have F88 := F77.then rfl u87
                    refine wi_aload_n (i := 0) (x := 236) (nx := 235) (r1 := 0) (r2 := 0) (r3 := 0) rfl rfl ?_
                    refine wr_gr (k0 := 236) (x := 239) (nx := 238) (r1 := 11) (r2 := 14) (r3 := 0) rfl rfl (by decide) rfl ⟨rfl, rfl⟩ rfl ?_
                    refine wi_bipush (n := 9) (nx := 240) (r1 := 0) (r2 := 0) (r3 := 0) rfl (by decide) ?_
                    refine wi_aload_n (i := 0) (x := 236) (nx := 241) (r1 := 0) (r2 := 0) (r3 := 0) rfl rfl ?_
                    refine wi_iconst (n := 0) (nx := 242) (r1 := 0) (r2 := 0) (r3 := 0) rfl ?_
                    refine wi_bipush (n := 11) (nx := 244) (r1 := 0) (r2 := 0) (r3 := 0) rfl (by decide) ?_
                    refine wr_V (k0 := 236) (rest := [vi 9, .ref 239]) (as := [.ref 236, vi 0, vi 11]) (nx := 247) (r1 := 231) (r2 := 2) (r3 := 11) rfl rfl rfl (of_decide_eq_true rfl) rfl rfl (by decide) rfl rfl (of_decide_eq_true rfl) (of_decide_eq_true rfl) ?_
                    have e90 : h87 236 4 = h75 236 4 := (u87 236 4 rfl)
                    have e91 : h87 236 3 = h 236 3 := ((u87 236 3 rfl).trans (u75 236 3 rfl))
                    have e92 : h87 236 8 = h75 236 8 := (u87 236 8 rfl)
                    have e93 : h87 236 5 = h75 236 5 := (u87 236 5 rfl)
                    have e94 : h87 236 6 = h75 236 6 := (u87 236 6 rfl)
                    have e95 : h87 236 7 = h75 236 7 := (u87 236 7 rfl)
                    have e96 : h87 236 12 = h75 236 12 := (u87 236 12 rfl)
                    have rb98 := RefB.fr u75 rfl xq0
                    have rb99 := RefB.fr u87 rfl rb98
                    refine ct_231_236 hcr  g87 0 11 (by omega) (by omega) (show (h87 236 4) ≤ (h87 236 3) by omega) (show 0 ≤ (tk_nx tB tn tp) by omega) (show (tk_nx tB tn tp) ≤ tn by omega) (show (tk_nx tB tn tp) ≤ tk_nx tB tn (tk_nx tB tn tp) ∧ tk_nx tB tn (tk_nx tB tn tp) ≤ tn by omega) (show 1 ≤ (h87 236 8) ∨ ((h87 236 4) = tk_nx tB tn (tk_nx tB tn tp) ∧ (h87 236 5) = tk_st tB tn (tk_nx tB tn tp) ∧ TKk tB tn (tk_nx tB tn tp) ((h87 236 6)) ((h87 236 7)) ((h87 236 12))) from (Or.inr (show ((h87 236 4) = tk_nx tB tn (tk_nx tB tn tp) ∧ (h87 236 5) = tk_st tB tn (tk_nx tB tn tp) ∧ TKk tB tn (tk_nx tB tn tp) ((h87 236 6)) ((h87 236 7)) ((h87 236 12))) by first | assumption | exact ⟨by omega, by omega, TKk.mv (by assumption) (by omega) (by omega) (by omega)⟩))) rb99 (fun h89 z97 g89 u89 (fz97 : 0 ≤ z97 ∧ z97 ≤ 999) (p89_0 : (1 ≤ (h87 236 8) ∧ (h89 236 8) = (h87 236 8) ∧ (h89 236 9) = (h87 236 9)) ∨ ((h87 236 8) = 0 ∧ tk_kd tB tn (tk_nx tB tn tp) = 2 ∧ 0 ≤ tk_nb tB tn (tk_nx tB tn tp) ∧ tk_nb tB tn (tk_nx tB tn tp) ≤ 11 ∧ z97 = tk_nb tB tn (tk_nx tB tn tp) ∧ (h89 236 8) = (h87 236 8) ∧ (h89 236 9) = (h87 236 9) ∧ ((h89 236 4) = tk_nx tB tn (tk_nx tB tn (tk_nx tB tn tp)) ∧ (h89 236 5) = tk_st tB tn (tk_nx tB tn (tk_nx tB tn tp)) ∧ TKk tB tn (tk_nx tB tn (tk_nx tB tn tp)) ((h89 236 6)) ((h89 236 7)) ((h89 236 12)))) ∨ ((h87 236 8) = 0 ∧ tk_kd tB tn (tk_nx tB tn tp) ≠ 2 ∧ (h89 236 8) = 1 ∧ (h89 236 9) = tk_st tB tn (tk_nx tB tn tp)) ∨ ((h87 236 8) = 0 ∧ tk_kd tB tn (tk_nx tB tn tp) = 2 ∧ (tk_nb tB tn (tk_nx tB tn tp) < 0 ∨ 11 < tk_nb tB tn (tk_nx tB tn tp)) ∧ (h89 236 8) = 2 ∧ (h89 236 9) = tk_st tB tn (tk_nx tB tn tp))) (p89_1 : (h87 236 4) ≤ (h89 236 4)) (p89_2 : (h89 236 4) ≤ (h87 236 3)) (p89_3 : 1 ≤ (h89 236 8) ∨ (h87 236 8) = 0) (p89_4 : 1 ≤ (h89 236 8) ∨ (0 ≤ z97 ∧ z97 ≤ 11)) (p89_5 : 1 ≤ (h89 236 8) ∨ (h87 236 6) = 2) => ?_)
                    have F100 := F88.then (by decide +kernel) u89
                    have e101 : h87 236 9 = h75 236 9 := (u87 236 9 rfl)
                    have b102 := gi_b (lo := 0) (hi := 5) g89 236 8 rfl
                    have b103 := gi_b (lo := -2147483648) (hi := 2147483647) g89 236 9 rfl
                    have b104 := gi_b (lo := 0) (hi := 800) g89 236 4 rfl
                    have b105 := gi_b (lo := 0) (hi := 800) g89 236 5 rfl
                    have b106 := gi_b (lo := 0) (hi := 4) g89 236 6 rfl
                    have b107 := gi_b (lo := 0) (hi := 999) g89 236 7 rfl
                    have b108 := gi_b (lo := -9223372036854775808) (hi := 9223372036854775807) g89 236 12 rfl
                    refine wk_i ?_
                    rcases p89_0 with p89_0 | p89_0 | p89_0 | p89_0
                    ·
                      exfalso; omega
                    ·
                      have tkk109 := (p89_0.2.2.2.2.2.2.2).2.2
                      have tN110 := @tk_nx_b tB tn (tk_nx tB tn (tk_nx tB tn tp)) (by omega) (by omega)
                      refine wr_is (k0 := 239) (a := 9) (f := 9) (x := z97) (bl := 0) (bh := 999) (nx := 248) (r1 := 0) (r2 := 0) (r3 := 0) rfl (by decide) rfl (by omega) (by omega) (by decide) g89 rfl (by omega) (fun h111 g111 w111 u111 => ?_)
                      have F112 := F100.then rfl u111
                      refine wi_goto (nx := 251) (r1 := 256) (r2 := 0) (r3 := 0) rfl ?_
                      refine wi_return (nx := 257) (r1 := 0) (r2 := 0) (r3 := 0) rfl rfl ?_
                      have e113 : h111 236 8 = h89 236 8 := (u111 236 8 rfl)
                      have e114 : h111 236 4 = h89 236 4 := (u111 236 4 rfl)
                      have e115 : h111 239 5 = h 239 5 := ((u111 239 5 rfl).trans ((u89 239 5 rfl).trans ((u87 239 5 rfl).trans (u75 239 5 rfl))))
                      have e116 : h111 239 7 = h 239 7 := ((u111 239 7 rfl).trans ((u89 239 7 rfl).trans ((u87 239 7 rfl).trans (u75 239 7 rfl))))
                      have e117 : h111 239 15 = h 239 15 := ((u111 239 15 rfl).trans ((u89 239 15 rfl).trans ((u87 239 15 rfl).trans (u75 239 15 rfl))))
                      have e118 : h111 239 16 = h 239 16 := ((u111 239 16 rfl).trans ((u89 239 16 rfl).trans ((u87 239 16 rfl).trans (u75 239 16 rfl))))
                      have e119 : h111 239 17 = h 239 17 := ((u111 239 17 rfl).trans ((u89 239 17 rfl).trans ((u87 239 17 rfl).trans (u75 239 17 rfl))))
                      have e120 : h111 239 18 = h 239 18 := ((u111 239 18 rfl).trans ((u89 239 18 rfl).trans ((u87 239 18 rfl).trans (u75 239 18 rfl))))
                      have e121 : h111 236 9 = h89 236 9 := (u111 236 9 rfl)
                      have e122 : h111 239 0 = h 239 0 := ((u111 239 0 rfl).trans ((u89 239 0 rfl).trans ((u87 239 0 rfl).trans (u75 239 0 rfl))))
                      have e123 : h111 239 1 = h 239 1 := ((u111 239 1 rfl).trans ((u89 239 1 rfl).trans ((u87 239 1 rfl).trans (u75 239 1 rfl))))
                      have e124 : h111 239 2 = h 239 2 := ((u111 239 2 rfl).trans ((u89 239 2 rfl).trans ((u87 239 2 rfl).trans (u75 239 2 rfl))))
                      have b125 := gi_b (lo := 0) (hi := 999) g 239 3 rfl
                      have e126 : h111 239 3 = h 239 3 := ((u111 239 3 rfl).trans ((u89 239 3 rfl).trans ((u87 239 3 rfl).trans (u75 239 3 rfl))))
                      have b127 := gi_b (lo := 0) (hi := 999) g 239 4 rfl
                      have e128 : h111 239 4 = h 239 4 := ((u111 239 4 rfl).trans ((u89 239 4 rfl).trans ((u87 239 4 rfl).trans (u75 239 4 rfl))))
                      have b129 := gi_b (lo := 0) (hi := 999) g 239 6 rfl
                      have e130 : h111 239 6 = h 239 6 := ((u111 239 6 rfl).trans ((u89 239 6 rfl).trans ((u87 239 6 rfl).trans (u75 239 6 rfl))))
                      have b131 := gi_b (lo := 0) (hi := 999) g 239 8 rfl
                      have e132 : h111 239 8 = h 239 8 := ((u111 239 8 rfl).trans ((u89 239 8 rfl).trans ((u87 239 8 rfl).trans (u75 239 8 rfl))))
                      have e133 : h111 239 9 = z97 := w111
                      have b134 := gi_b (lo := 0) (hi := 1) g 236 23 rfl
                      have e135 : h111 236 23 = h 236 23 := ((u111 236 23 rfl).trans ((u89 236 23 rfl).trans ((u87 236 23 rfl).trans (u75 236 23 rfl))))
                      have b136 := gi_b (lo := 0) (hi := 1) g 236 24 rfl
                      have e137 : h111 236 24 = h 236 24 := ((u111 236 24 rfl).trans ((u89 236 24 rfl).trans ((u87 236 24 rfl).trans (u75 236 24 rfl))))
                      have b138 := gi_b (lo := 0) (hi := 1) g 236 25 rfl
                      have e139 : h111 236 25 = h 236 25 := ((u111 236 25 rfl).trans ((u89 236 25 rfl).trans ((u87 236 25 rfl).trans (u75 236 25 rfl))))
                      have e140 : h111 236 26 = z76 := ((u111 236 26 rfl).trans ((u89 236 26 rfl).trans w87))
                      have e141 : h111 236 5 = h89 236 5 := (u111 236 5 rfl)
                      have e142 : h111 236 6 = h89 236 6 := (u111 236 6 rfl)
                      have e143 : h111 236 7 = h89 236 7 := (u111 236 7 rfl)
                      have e144 : h111 236 12 = h89 236 12 := (u111 236 12 rfl)
                      exact k h111 g111 F112 (show (h111 236 8) = 0 ∨ 1 ≤ (h111 236 8) by omega) (show (h 236 4) ≤ (h111 236 4) by omega) (show (h111 236 4) ≤ (h 236 3) by omega) (show 1 ≤ (h111 236 8) ∨ ((h111 239 5) ≤ 9 ∧ 1 ≤ (h111 239 5) ∧ (h111 239 7) ≤ 3 ∧ (h111 239 15) ≤ 6 ∧ (h111 239 16) ≤ 6 ∧ (h111 239 17) ≤ 6 ∧ (h111 239 18) ≤ 6) by omega) (show (h111 236 8) ≠ 0 ∨ (h111 236 9) = -1 by omega) (by unfold tk_stm; (repeat (first | rw [if_pos (by omega)] | rw [if_neg (by omega)])); exact (by (try clear p75_3 p89_3 p89_4 p89_5); unfold tk_span tk_once tk_num; (try dsimp only); (repeat (first | rw [if_pos (by omega)] | rw [if_neg (by omega)])); (repeat ((first | unfold tk_once | unfold tk_num); (try dsimp only); (repeat (first | rw [if_pos (by omega)] | rw [if_neg (by omega)])))); exact tk_ORs (by omega) (by first | assumption | exact ⟨by omega, by omega, TKk.mv (by assumption) (by omega) (by omega) (by omega)⟩) (CVr.flag xq1 (fun j _ _ _ _ _ _ _ _ _ _ _ => by unfold tk_u; (repeat (first | rw [if_pos (by omega)] | rw [if_neg (by omega)]))) (fun i e => by rcases e with e | e; · exact ((u111 239 i (fn_i (by omega) fn_0)).trans ((u89 239 i (fo_nk rfl)).trans ((u87 239 i (fn_a (by omega) fn_0)).trans (u75 239 i (fo_nk rfl))))); · exact ((u111 239 i (fn_i (by omega) fn_0)).trans ((u89 239 i (fo_nk rfl)).trans ((u87 239 i (fn_a (by omega) fn_0)).trans (u75 239 i (fo_nk rfl)))))) ⟨(by (repeat unfold tk_u); (repeat (first | rw [if_pos (by omega)] | rw [if_neg (by omega)])); all_goals omega), (by (repeat unfold tk_u); (repeat (first | rw [if_pos (by omega)] | rw [if_neg (by omega)])); all_goals omega), (by (repeat unfold tk_u); (repeat (first | rw [if_pos (by omega)] | rw [if_neg (by omega)])); all_goals omega), (by (repeat unfold tk_u); (repeat (first | rw [if_pos (by omega)] | rw [if_neg (by omega)])); all_goals omega), (by (repeat unfold tk_u); (repeat (first | rw [if_pos (by omega)] | rw [if_neg (by omega)])); all_goals omega), (by (repeat unfold tk_u); (repeat (first | rw [if_pos (by omega)] | rw [if_neg (by omega)])); all_goals omega), (by (repeat unfold tk_u); (repeat (first | rw [if_pos (by omega)] | rw [if_neg (by omega)])); all_goals omega)⟩ ⟨(by (repeat unfold tk_u); (repeat (first | rw [if_pos (by omega)] | rw [if_neg (by omega)])); all_goals omega), (by (repeat unfold tk_u); (repeat (first | rw [if_pos (by omega)] | rw [if_neg (by omega)])); all_goals omega), (by (repeat unfold tk_u); (repeat (first | rw [if_pos (by omega)] | rw [if_neg (by omega)])); all_goals omega), (by (repeat unfold tk_u); (repeat (first | rw [if_pos (by omega)] | rw [if_neg (by omega)])); all_goals omega)⟩ (fun i => ((u111 244 i (fn_a (by omega) fn_0)).trans ((u89 244 i (fo_nk rfl)).trans ((u87 244 i (fn_a (by omega) fn_0)).trans (u75 244 i (fo_nk rfl)))))) (by omega) (by omega) (by omega))))
                    ·
                      refine wr_is (k0 := 239) (a := 9) (f := 9) (x := z97) (bl := 0) (bh := 999) (nx := 248) (r1 := 0) (r2 := 0) (r3 := 0) rfl (by decide) rfl (by omega) (by omega) (by decide) g89 rfl (by omega) (fun h109 g109 w109 u109 => ?_)
                      have F110 := F100.then rfl u109
                      refine wi_goto (nx := 251) (r1 := 256) (r2 := 0) (r3 := 0) rfl ?_
                      refine wi_return (nx := 257) (r1 := 0) (r2 := 0) (r3 := 0) rfl rfl ?_
                      have e111 : h109 236 8 = h89 236 8 := (u109 236 8 rfl)
                      have e112 : h109 236 4 = h89 236 4 := (u109 236 4 rfl)
                      have e113 : h109 239 5 = h 239 5 := ((u109 239 5 rfl).trans ((u89 239 5 rfl).trans ((u87 239 5 rfl).trans (u75 239 5 rfl))))
                      have e114 : h109 239 7 = h 239 7 := ((u109 239 7 rfl).trans ((u89 239 7 rfl).trans ((u87 239 7 rfl).trans (u75 239 7 rfl))))
                      have e115 : h109 239 15 = h 239 15 := ((u109 239 15 rfl).trans ((u89 239 15 rfl).trans ((u87 239 15 rfl).trans (u75 239 15 rfl))))
                      have e116 : h109 239 16 = h 239 16 := ((u109 239 16 rfl).trans ((u89 239 16 rfl).trans ((u87 239 16 rfl).trans (u75 239 16 rfl))))
                      have e117 : h109 239 17 = h 239 17 := ((u109 239 17 rfl).trans ((u89 239 17 rfl).trans ((u87 239 17 rfl).trans (u75 239 17 rfl))))
                      have e118 : h109 239 18 = h 239 18 := ((u109 239 18 rfl).trans ((u89 239 18 rfl).trans ((u87 239 18 rfl).trans (u75 239 18 rfl))))
                      have e119 : h109 236 9 = h89 236 9 := (u109 236 9 rfl)
                      exact k h109 g109 F110 (show (h109 236 8) = 0 ∨ 1 ≤ (h109 236 8) by omega) (show (h 236 4) ≤ (h109 236 4) by omega) (show (h109 236 4) ≤ (h 236 3) by omega) (show 1 ≤ (h109 236 8) ∨ ((h109 239 5) ≤ 9 ∧ 1 ≤ (h109 239 5) ∧ (h109 239 7) ≤ 3 ∧ (h109 239 15) ≤ 6 ∧ (h109 239 16) ≤ 6 ∧ (h109 239 17) ≤ 6 ∧ (h109 239 18) ≤ 6) by omega) (show (h109 236 8) ≠ 0 ∨ (h109 236 9) = -1 by omega) (by unfold tk_stm; (repeat (first | rw [if_pos (by omega)] | rw [if_neg (by omega)])); exact (by (try clear p75_3 p89_3 p89_4 p89_5); unfold tk_span tk_once tk_num; (try dsimp only); (repeat (first | rw [if_pos (by omega)] | rw [if_neg (by omega)])); (repeat ((first | unfold tk_once | unfold tk_num); (try dsimp only); (repeat (first | rw [if_pos (by omega)] | rw [if_neg (by omega)])))); first | exact tk_ORe (by omega) (by omega) (by omega) | ((repeat' split) <;> (first | exact tk_ORe (by omega) (by omega) (by omega) | (exfalso; omega)))))
                    ·
                      refine wr_is (k0 := 239) (a := 9) (f := 9) (x := z97) (bl := 0) (bh := 999) (nx := 248) (r1 := 0) (r2 := 0) (r3 := 0) rfl (by decide) rfl (by omega) (by omega) (by decide) g89 rfl (by omega) (fun h109 g109 w109 u109 => ?_)
                      have F110 := F100.then rfl u109
                      refine wi_goto (nx := 251) (r1 := 256) (r2 := 0) (r3 := 0) rfl ?_
                      refine wi_return (nx := 257) (r1 := 0) (r2 := 0) (r3 := 0) rfl rfl ?_
                      have e111 : h109 236 8 = h89 236 8 := (u109 236 8 rfl)
                      have e112 : h109 236 4 = h89 236 4 := (u109 236 4 rfl)
                      have e113 : h109 239 5 = h 239 5 := ((u109 239 5 rfl).trans ((u89 239 5 rfl).trans ((u87 239 5 rfl).trans (u75 239 5 rfl))))
                      have e114 : h109 239 7 = h 239 7 := ((u109 239 7 rfl).trans ((u89 239 7 rfl).trans ((u87 239 7 rfl).trans (u75 239 7 rfl))))
                      have e115 : h109 239 15 = h 239 15 := ((u109 239 15 rfl).trans ((u89 239 15 rfl).trans ((u87 239 15 rfl).trans (u75 239 15 rfl))))
                      have e116 : h109 239 16 = h 239 16 := ((u109 239 16 rfl).trans ((u89 239 16 rfl).trans ((u87 239 16 rfl).trans (u75 239 16 rfl))))
                      have e117 : h109 239 17 = h 239 17 := ((u109 239 17 rfl).trans ((u89 239 17 rfl).trans ((u87 239 17 rfl).trans (u75 239 17 rfl))))
                      have e118 : h109 239 18 = h 239 18 := ((u109 239 18 rfl).trans ((u89 239 18 rfl).trans ((u87 239 18 rfl).trans (u75 239 18 rfl))))
                      have e119 : h109 236 9 = h89 236 9 := (u109 236 9 rfl)
                      exact k h109 g109 F110 (show (h109 236 8) = 0 ∨ 1 ≤ (h109 236 8) by omega) (show (h 236 4) ≤ (h109 236 4) by omega) (show (h109 236 4) ≤ (h 236 3) by omega) (show 1 ≤ (h109 236 8) ∨ ((h109 239 5) ≤ 9 ∧ 1 ≤ (h109 239 5) ∧ (h109 239 7) ≤ 3 ∧ (h109 239 15) ≤ 6 ∧ (h109 239 16) ≤ 6 ∧ (h109 239 17) ≤ 6 ∧ (h109 239 18) ≤ 6) by omega) (show (h109 236 8) ≠ 0 ∨ (h109 236 9) = -1 by omega) (by unfold tk_stm; (repeat (first | rw [if_pos (by omega)] | rw [if_neg (by omega)])); exact (by (try clear p75_3 p89_3 p89_4 p89_5); unfold tk_span tk_once tk_num; (try dsimp only); (repeat (first | rw [if_pos (by omega)] | rw [if_neg (by omega)])); (repeat ((first | unfold tk_once | unfold tk_num); (try dsimp only); (repeat (first | rw [if_pos (by omega)] | rw [if_neg (by omega)])))); first | exact tk_ORe (by omega) (by omega) (by omega) | ((repeat' split) <;> (first | exact tk_ORe (by omega) (by omega) (by omega) | (exfalso; omega)))))
                  ·
                    refine wr_pf2 (k0 := 236) (x := z76) (bl := 0) (bh := 1) (nx := 234) (r1 := 11) (r2 := 26) (r3 := 2) rfl (by decide) rfl ⟨rfl, rfl⟩ rfl (by omega) rfl g75 rfl (by omega) (fun h85 g85 w85 u85 => ?_)
                    have F86 := F77.then rfl u85
                    refine wi_aload_n (i := 0) (x := 236) (nx := 235) (r1 := 0) (r2 := 0) (r3 := 0) rfl rfl ?_
                    refine wr_gr (k0 := 236) (x := 239) (nx := 238) (r1 := 11) (r2 := 14) (r3 := 0) rfl rfl (by decide) rfl ⟨rfl, rfl⟩ rfl ?_
                    refine wi_bipush (n := 9) (nx := 240) (r1 := 0) (r2 := 0) (r3 := 0) rfl (by decide) ?_
                    refine wi_aload_n (i := 0) (x := 236) (nx := 241) (r1 := 0) (r2 := 0) (r3 := 0) rfl rfl ?_
                    refine wi_iconst (n := 0) (nx := 242) (r1 := 0) (r2 := 0) (r3 := 0) rfl ?_
                    refine wi_bipush (n := 11) (nx := 244) (r1 := 0) (r2 := 0) (r3 := 0) rfl (by decide) ?_
                    refine wr_V (k0 := 236) (rest := [vi 9, .ref 239]) (as := [.ref 236, vi 0, vi 11]) (nx := 247) (r1 := 231) (r2 := 2) (r3 := 11) rfl rfl rfl (of_decide_eq_true rfl) rfl rfl (by decide) rfl rfl (of_decide_eq_true rfl) (of_decide_eq_true rfl) ?_
                    have e88 : h85 236 4 = h75 236 4 := (u85 236 4 rfl)
                    have e89 : h85 236 3 = h 236 3 := ((u85 236 3 rfl).trans (u75 236 3 rfl))
                    have e90 : h85 236 8 = h75 236 8 := (u85 236 8 rfl)
                    have e91 : h85 236 5 = h75 236 5 := (u85 236 5 rfl)
                    have e92 : h85 236 6 = h75 236 6 := (u85 236 6 rfl)
                    have e93 : h85 236 7 = h75 236 7 := (u85 236 7 rfl)
                    have e94 : h85 236 12 = h75 236 12 := (u85 236 12 rfl)
                    have rb96 := RefB.fr u75 rfl xq0
                    have rb97 := RefB.fr u85 rfl rb96
                    refine ct_231_236 hcr  g85 0 11 (by omega) (by omega) (show (h85 236 4) ≤ (h85 236 3) by omega) (show 0 ≤ tp by omega) (show tp ≤ tn by omega) (show tp ≤ tk_nx tB tn tp ∧ tk_nx tB tn tp ≤ tn by omega) (show 1 ≤ (h85 236 8) ∨ ((h85 236 4) = tk_nx tB tn tp ∧ (h85 236 5) = tk_st tB tn tp ∧ TKk tB tn tp ((h85 236 6)) ((h85 236 7)) ((h85 236 12))) from (Or.inl (by omega))) rb97 (fun h87 z95 g87 u87 (fz95 : 0 ≤ z95 ∧ z95 ≤ 999) (p87_0 : (1 ≤ (h85 236 8) ∧ (h87 236 8) = (h85 236 8) ∧ (h87 236 9) = (h85 236 9)) ∨ ((h85 236 8) = 0 ∧ tk_kd tB tn tp = 2 ∧ 0 ≤ tk_nb tB tn tp ∧ tk_nb tB tn tp ≤ 11 ∧ z95 = tk_nb tB tn tp ∧ (h87 236 8) = (h85 236 8) ∧ (h87 236 9) = (h85 236 9) ∧ ((h87 236 4) = tk_nx tB tn (tk_nx tB tn tp) ∧ (h87 236 5) = tk_st tB tn (tk_nx tB tn tp) ∧ TKk tB tn (tk_nx tB tn tp) ((h87 236 6)) ((h87 236 7)) ((h87 236 12)))) ∨ ((h85 236 8) = 0 ∧ tk_kd tB tn tp ≠ 2 ∧ (h87 236 8) = 1 ∧ (h87 236 9) = tk_st tB tn tp) ∨ ((h85 236 8) = 0 ∧ tk_kd tB tn tp = 2 ∧ (tk_nb tB tn tp < 0 ∨ 11 < tk_nb tB tn tp) ∧ (h87 236 8) = 2 ∧ (h87 236 9) = tk_st tB tn tp)) (p87_1 : (h85 236 4) ≤ (h87 236 4)) (p87_2 : (h87 236 4) ≤ (h85 236 3)) (p87_3 : 1 ≤ (h87 236 8) ∨ (h85 236 8) = 0) (p87_4 : 1 ≤ (h87 236 8) ∨ (0 ≤ z95 ∧ z95 ≤ 11)) (p87_5 : 1 ≤ (h87 236 8) ∨ (h85 236 6) = 2) => ?_)
                    have F98 := F86.then (by decide +kernel) u87
                    have e99 : h85 236 9 = h75 236 9 := (u85 236 9 rfl)
                    have b100 := gi_b (lo := 0) (hi := 5) g87 236 8 rfl
                    have b101 := gi_b (lo := -2147483648) (hi := 2147483647) g87 236 9 rfl
                    have b102 := gi_b (lo := 0) (hi := 800) g87 236 4 rfl
                    have b103 := gi_b (lo := 0) (hi := 800) g87 236 5 rfl
                    have b104 := gi_b (lo := 0) (hi := 4) g87 236 6 rfl
                    have b105 := gi_b (lo := 0) (hi := 999) g87 236 7 rfl
                    have b106 := gi_b (lo := -9223372036854775808) (hi := 9223372036854775807) g87 236 12 rfl
                    refine wk_i ?_
                    rcases p87_0 with p87_0 | p87_0 | p87_0 | p87_0
                    ·
                      refine wr_is (k0 := 239) (a := 9) (f := 9) (x := z95) (bl := 0) (bh := 999) (nx := 248) (r1 := 0) (r2 := 0) (r3 := 0) rfl (by decide) rfl (by omega) (by omega) (by decide) g87 rfl (by omega) (fun h107 g107 w107 u107 => ?_)
                      have F108 := F98.then rfl u107
                      refine wi_goto (nx := 251) (r1 := 256) (r2 := 0) (r3 := 0) rfl ?_
                      refine wi_return (nx := 257) (r1 := 0) (r2 := 0) (r3 := 0) rfl rfl ?_
                      have e109 : h107 236 8 = h87 236 8 := (u107 236 8 rfl)
                      have e110 : h107 236 4 = h87 236 4 := (u107 236 4 rfl)
                      have e111 : h107 239 5 = h 239 5 := ((u107 239 5 rfl).trans ((u87 239 5 rfl).trans ((u85 239 5 rfl).trans (u75 239 5 rfl))))
                      have e112 : h107 239 7 = h 239 7 := ((u107 239 7 rfl).trans ((u87 239 7 rfl).trans ((u85 239 7 rfl).trans (u75 239 7 rfl))))
                      have e113 : h107 239 15 = h 239 15 := ((u107 239 15 rfl).trans ((u87 239 15 rfl).trans ((u85 239 15 rfl).trans (u75 239 15 rfl))))
                      have e114 : h107 239 16 = h 239 16 := ((u107 239 16 rfl).trans ((u87 239 16 rfl).trans ((u85 239 16 rfl).trans (u75 239 16 rfl))))
                      have e115 : h107 239 17 = h 239 17 := ((u107 239 17 rfl).trans ((u87 239 17 rfl).trans ((u85 239 17 rfl).trans (u75 239 17 rfl))))
                      have e116 : h107 239 18 = h 239 18 := ((u107 239 18 rfl).trans ((u87 239 18 rfl).trans ((u85 239 18 rfl).trans (u75 239 18 rfl))))
                      have e117 : h107 236 9 = h87 236 9 := (u107 236 9 rfl)
                      exact k h107 g107 F108 (show (h107 236 8) = 0 ∨ 1 ≤ (h107 236 8) by omega) (show (h 236 4) ≤ (h107 236 4) by omega) (show (h107 236 4) ≤ (h 236 3) by omega) (show 1 ≤ (h107 236 8) ∨ ((h107 239 5) ≤ 9 ∧ 1 ≤ (h107 239 5) ∧ (h107 239 7) ≤ 3 ∧ (h107 239 15) ≤ 6 ∧ (h107 239 16) ≤ 6 ∧ (h107 239 17) ≤ 6 ∧ (h107 239 18) ≤ 6) by omega) (show (h107 236 8) ≠ 0 ∨ (h107 236 9) = -1 by omega) (by unfold tk_stm; (repeat (first | rw [if_pos (by omega)] | rw [if_neg (by omega)])); exact (by (try clear p75_3 p87_3 p87_4 p87_5); unfold tk_span tk_once tk_num; (try dsimp only); (repeat (first | rw [if_pos (by omega)] | rw [if_neg (by omega)])); (repeat ((first | unfold tk_once | unfold tk_num); (try dsimp only); (repeat (first | rw [if_pos (by omega)] | rw [if_neg (by omega)])))); first | exact tk_ORe (by omega) (by omega) (by omega) | ((repeat' split) <;> (first | exact tk_ORe (by omega) (by omega) (by omega) | (exfalso; omega)))))
                    ·
                      have tkk107 := (p87_0.2.2.2.2.2.2.2).2.2
                      have tN108 := @tk_nx_b tB tn (tk_nx tB tn tp) (by omega) (by omega)
                      exfalso; omega
                    ·
                      exfalso; omega
                    ·
                      exfalso; omega
              ·
                try have wk64 : tk_wd (tk_lw tB tn tp) = 10 := (tk_wk (B := tB) (n := tn) (p := tp) 9 (by decide) (by omega) (by omega) (by omega)).mp (by show tk_sw tB tn tp = 609992267; omega)
                refine wi_iconst (n := 1) (nx := 25) (r1 := 0) (r2 := 0) (r3 := 0) rfl ?_
                refine wi_goto (nx := 28) (r1 := 29) (r2 := 0) (r3 := 0) rfl ?_
                refine wi_zreturn (nx := 30) (r1 := 0) (r2 := 0) (r3 := 0) rfl rfl (by omega) ?_
                refine wk_i ?_
                refine wi_if (cd := .eq) (nx := 167) (r1 := 212) (r2 := 0) (r3 := 0) rfl (by omega) (fun (q65 : 1 = 0) => by exfalso; omega) (fun (q65 : ¬ (1 = 0)) => ?_)
                refine wi_aload_n (i := 0) (x := 236) (nx := 168) (r1 := 0) (r2 := 0) (r3 := 0) rfl rfl ?_
                refine wi_aload_n (i := 0) (x := 236) (nx := 169) (r1 := 0) (r2 := 0) (r3 := 0) rfl rfl ?_
                refine wi_aload_n (i := 0) (x := 236) (nx := 170) (r1 := 0) (r2 := 0) (r3 := 0) rfl rfl ?_
                have b66 := gi_b (lo := 0) (hi := 1) g 236 25 rfl
                refine wr_gi2 (k0 := 236) (x := h 236 25) (nx := 173) (r1 := 11) (r2 := 25) (r3 := 0) rfl rfl (by decide) rfl ⟨rfl, rfl⟩ rfl rfl ?_
                refine wr_V (k0 := 236) (rest := [.ref 236]) (as := [.ref 236, vi (h 236 25)]) (nx := 176) (r1 := 234) (r2 := 1) (r3 := 11) rfl rfl rfl (of_decide_eq_true rfl) rfl rfl (by decide) rfl rfl (of_decide_eq_true rfl) (of_decide_eq_true rfl) ?_
                refine ct_234_236 hcr  g (h 236 25) (by omega) (show (h 236 4) ≤ (h 236 3) by omega) (show 0 ≤ tp by omega) (show tp ≤ tn by omega) (show tp ≤ tk_nx tB tn tp ∧ tk_nx tB tn tp ≤ tn by omega) (show 1 ≤ (h 236 8) ∨ ((h 236 4) = tk_nx tB tn tp ∧ (h 236 5) = tk_st tB tn tp ∧ TKk tB tn tp ((h 236 6)) ((h 236 7)) ((h 236 12))) from (Or.inr (show ((h 236 4) = tk_nx tB tn tp ∧ (h 236 5) = tk_st tB tn tp ∧ TKk tB tn tp ((h 236 6)) ((h 236 7)) ((h 236 12))) by first | assumption | exact ⟨by omega, by omega, TKk.mv (by assumption) (by omega) (by omega) (by omega)⟩))) (show tk_kd tB tn tp = 1 by omega) xq0 (fun h67 z68 g67 u67 (fz68 : 1 ≤ z68 ∧ z68 ≤ 1) (p67_0 : (1 ≤ (h 236 8) ∧ (h67 236 8) = (h 236 8) ∧ (h67 236 9) = (h 236 9)) ∨ ((h 236 8) = 0 ∧ (h 236 25) = 0 ∧ (h67 236 8) = (h 236 8) ∧ (h67 236 9) = (h 236 9) ∧ ((h67 236 4) = tk_nx tB tn (tk_nx tB tn tp) ∧ (h67 236 5) = tk_st tB tn (tk_nx tB tn tp) ∧ TKk tB tn (tk_nx tB tn tp) ((h67 236 6)) ((h67 236 7)) ((h67 236 12)))) ∨ ((h 236 8) = 0 ∧ (h 236 25) = 1 ∧ (h67 236 8) = 3 ∧ (h67 236 9) = tk_st tB tn tp)) (p67_1 : (h 236 4) ≤ (h67 236 4)) (p67_2 : (h67 236 4) ≤ (h 236 3)) (p67_3 : 1 ≤ (h67 236 8) ∨ (h 236 8) = 0) (p67_4 : z68 = 1) => ?_)
                have F69 := F0.then (by decide +kernel) u67
                have b70 := gi_b (lo := 0) (hi := 5) g67 236 8 rfl
                have b71 := gi_b (lo := -2147483648) (hi := 2147483647) g67 236 9 rfl
                have b72 := gi_b (lo := 0) (hi := 800) g67 236 4 rfl
                have b73 := gi_b (lo := 0) (hi := 800) g67 236 5 rfl
                have b74 := gi_b (lo := 0) (hi := 4) g67 236 6 rfl
                have b75 := gi_b (lo := 0) (hi := 999) g67 236 7 rfl
                have b76 := gi_b (lo := -9223372036854775808) (hi := 9223372036854775807) g67 236 12 rfl
                refine wk_i ?_
                rcases p67_0 with p67_0 | p67_0 | p67_0
                ·
                  exfalso; omega
                ·
                  have tkk77 := (p67_0.2.2.2.2).2.2
                  have tN78 := @tk_nx_b tB tn (tk_nx tB tn tp) (by omega) (by omega)
                  refine wr_pf2 (k0 := 236) (x := z68) (bl := 0) (bh := 1) (nx := 179) (r1 := 11) (r2 := 25) (r3 := 2) rfl (by decide) rfl ⟨rfl, rfl⟩ rfl (by omega) rfl g67 rfl (by omega) (fun h79 g79 w79 u79 => ?_)
                  have F80 := F69.then rfl u79
                  refine wi_aload_n (i := 0) (x := 236) (nx := 180) (r1 := 0) (r2 := 0) (r3 := 0) rfl rfl ?_
                  refine wr_gr (k0 := 236) (x := 239) (nx := 183) (r1 := 11) (r2 := 14) (r3 := 0) rfl rfl (by decide) rfl ⟨rfl, rfl⟩ rfl ?_
                  refine wi_bipush (n := 7) (nx := 185) (r1 := 0) (r2 := 0) (r3 := 0) rfl (by decide) ?_
                  refine wi_aload_n (i := 0) (x := 236) (nx := 186) (r1 := 0) (r2 := 0) (r3 := 0) rfl rfl ?_
                  refine wi_iconst (n := 0) (nx := 187) (r1 := 0) (r2 := 0) (r3 := 0) rfl ?_
                  refine wi_iconst (n := 3) (nx := 188) (r1 := 0) (r2 := 0) (r3 := 0) rfl ?_
                  refine wr_V (k0 := 236) (rest := [vi 7, .ref 239]) (as := [.ref 236, vi 0, vi 3]) (nx := 191) (r1 := 231) (r2 := 2) (r3 := 11) rfl rfl rfl (of_decide_eq_true rfl) rfl rfl (by decide) rfl rfl (of_decide_eq_true rfl) (of_decide_eq_true rfl) ?_
                  have e82 : h79 236 4 = h67 236 4 := (u79 236 4 rfl)
                  have e83 : h79 236 3 = h 236 3 := ((u79 236 3 rfl).trans (u67 236 3 rfl))
                  have e84 : h79 236 8 = h67 236 8 := (u79 236 8 rfl)
                  have e85 : h79 236 5 = h67 236 5 := (u79 236 5 rfl)
                  have e86 : h79 236 6 = h67 236 6 := (u79 236 6 rfl)
                  have e87 : h79 236 7 = h67 236 7 := (u79 236 7 rfl)
                  have e88 : h79 236 12 = h67 236 12 := (u79 236 12 rfl)
                  have rb90 := RefB.fr u67 rfl xq0
                  have rb91 := RefB.fr u79 rfl rb90
                  refine ct_231_236 hcr  g79 0 3 (by omega) (by omega) (show (h79 236 4) ≤ (h79 236 3) by omega) (show 0 ≤ (tk_nx tB tn tp) by omega) (show (tk_nx tB tn tp) ≤ tn by omega) (show (tk_nx tB tn tp) ≤ tk_nx tB tn (tk_nx tB tn tp) ∧ tk_nx tB tn (tk_nx tB tn tp) ≤ tn by omega) (show 1 ≤ (h79 236 8) ∨ ((h79 236 4) = tk_nx tB tn (tk_nx tB tn tp) ∧ (h79 236 5) = tk_st tB tn (tk_nx tB tn tp) ∧ TKk tB tn (tk_nx tB tn tp) ((h79 236 6)) ((h79 236 7)) ((h79 236 12))) from (Or.inr (show ((h79 236 4) = tk_nx tB tn (tk_nx tB tn tp) ∧ (h79 236 5) = tk_st tB tn (tk_nx tB tn tp) ∧ TKk tB tn (tk_nx tB tn tp) ((h79 236 6)) ((h79 236 7)) ((h79 236 12))) by first | assumption | exact ⟨by omega, by omega, TKk.mv (by assumption) (by omega) (by omega) (by omega)⟩))) rb91 (fun h81 z89 g81 u81 (fz89 : 0 ≤ z89 ∧ z89 ≤ 999) (p81_0 : (1 ≤ (h79 236 8) ∧ (h81 236 8) = (h79 236 8) ∧ (h81 236 9) = (h79 236 9)) ∨ ((h79 236 8) = 0 ∧ tk_kd tB tn (tk_nx tB tn tp) = 2 ∧ 0 ≤ tk_nb tB tn (tk_nx tB tn tp) ∧ tk_nb tB tn (tk_nx tB tn tp) ≤ 3 ∧ z89 = tk_nb tB tn (tk_nx tB tn tp) ∧ (h81 236 8) = (h79 236 8) ∧ (h81 236 9) = (h79 236 9) ∧ ((h81 236 4) = tk_nx tB tn (tk_nx tB tn (tk_nx tB tn tp)) ∧ (h81 236 5) = tk_st tB tn (tk_nx tB tn (tk_nx tB tn tp)) ∧ TKk tB tn (tk_nx tB tn (tk_nx tB tn tp)) ((h81 236 6)) ((h81 236 7)) ((h81 236 12)))) ∨ ((h79 236 8) = 0 ∧ tk_kd tB tn (tk_nx tB tn tp) ≠ 2 ∧ (h81 236 8) = 1 ∧ (h81 236 9) = tk_st tB tn (tk_nx tB tn tp)) ∨ ((h79 236 8) = 0 ∧ tk_kd tB tn (tk_nx tB tn tp) = 2 ∧ (tk_nb tB tn (tk_nx tB tn tp) < 0 ∨ 3 < tk_nb tB tn (tk_nx tB tn tp)) ∧ (h81 236 8) = 2 ∧ (h81 236 9) = tk_st tB tn (tk_nx tB tn tp))) (p81_1 : (h79 236 4) ≤ (h81 236 4)) (p81_2 : (h81 236 4) ≤ (h79 236 3)) (p81_3 : 1 ≤ (h81 236 8) ∨ (h79 236 8) = 0) (p81_4 : 1 ≤ (h81 236 8) ∨ (0 ≤ z89 ∧ z89 ≤ 3)) (p81_5 : 1 ≤ (h81 236 8) ∨ (h79 236 6) = 2) => ?_)
                  have F92 := F80.then (by decide +kernel) u81
                  have e93 : h79 236 9 = h67 236 9 := (u79 236 9 rfl)
                  have b94 := gi_b (lo := 0) (hi := 5) g81 236 8 rfl
                  have b95 := gi_b (lo := -2147483648) (hi := 2147483647) g81 236 9 rfl
                  have b96 := gi_b (lo := 0) (hi := 800) g81 236 4 rfl
                  have b97 := gi_b (lo := 0) (hi := 800) g81 236 5 rfl
                  have b98 := gi_b (lo := 0) (hi := 4) g81 236 6 rfl
                  have b99 := gi_b (lo := 0) (hi := 999) g81 236 7 rfl
                  have b100 := gi_b (lo := -9223372036854775808) (hi := 9223372036854775807) g81 236 12 rfl
                  refine wk_i ?_
                  rcases p81_0 with p81_0 | p81_0 | p81_0 | p81_0
                  ·
                    exfalso; omega
                  ·
                    have tkk101 := (p81_0.2.2.2.2.2.2.2).2.2
                    have tN102 := @tk_nx_b tB tn (tk_nx tB tn (tk_nx tB tn tp)) (by omega) (by omega)
                    refine wr_is (k0 := 239) (a := 7) (f := 7) (x := z89) (bl := 0) (bh := 999) (nx := 192) (r1 := 0) (r2 := 0) (r3 := 0) rfl (by decide) rfl (by omega) (by omega) (by decide) g81 rfl (by omega) (fun h103 g103 w103 u103 => ?_)
                    have F104 := F92.then rfl u103
                    refine wi_aload_n (i := 0) (x := 236) (nx := 193) (r1 := 0) (r2 := 0) (r3 := 0) rfl rfl ?_
                    refine wr_gr (k0 := 236) (x := 239) (nx := 196) (r1 := 11) (r2 := 14) (r3 := 0) rfl rfl (by decide) rfl ⟨rfl, rfl⟩ rfl ?_
                    refine wi_bipush (n := 8) (nx := 198) (r1 := 0) (r2 := 0) (r3 := 0) rfl (by decide) ?_
                    refine wi_aload_n (i := 0) (x := 236) (nx := 199) (r1 := 0) (r2 := 0) (r3 := 0) rfl rfl ?_
                    refine wi_ldc2_w (e := 4370489) (nx := 202) (r1 := 4370489) (r2 := 0) (r3 := 0) rfl (by decide) ?_
                    refine wi_iconst (n := 0) (nx := 203) (r1 := 0) (r2 := 0) (r3 := 0) rfl ?_
                    refine wi_bipush (n := 9) (nx := 205) (r1 := 0) (r2 := 0) (r3 := 0) rfl (by decide) ?_
                    have wk105 : tk_kd tB tn (tk_nx tB tn (tk_nx tB tn tp)) = 1 → (tk_sw tB tn (tk_nx tB tn (tk_nx tB tn tp)) = 4370489 ↔ tk_wd (tk_lw tB tn (tk_nx tB tn (tk_nx tB tn tp))) = 11) := fun e => tk_wk 10 (by decide) (by omega) (by omega) e
                    refine wr_V (k0 := 236) (rest := [vi 8, .ref 239]) (as := [.ref 236, vl 4370489, vi 0, vi 9]) (nx := 208) (r1 := 228) (r2 := 3) (r3 := 11) rfl rfl rfl (of_decide_eq_true rfl) rfl rfl (by decide) rfl rfl (of_decide_eq_true rfl) (of_decide_eq_true rfl) ?_
                    have e107 : h103 236 4 = h81 236 4 := (u103 236 4 rfl)
                    have e108 : h103 236 3 = h 236 3 := ((u103 236 3 rfl).trans ((u81 236 3 rfl).trans ((u79 236 3 rfl).trans (u67 236 3 rfl))))
                    have e109 : h103 236 8 = h81 236 8 := (u103 236 8 rfl)
                    have e110 : h103 236 5 = h81 236 5 := (u103 236 5 rfl)
                    have e111 : h103 236 6 = h81 236 6 := (u103 236 6 rfl)
                    have e112 : h103 236 7 = h81 236 7 := (u103 236 7 rfl)
                    have e113 : h103 236 12 = h81 236 12 := (u103 236 12 rfl)
                    have rb115 := RefB.fr u81 rfl rb91
                    have rb116 := RefB.fr u103 rfl rb115
                    refine ct_228_236 hcr  g103 4370489 0 9 (by omega) (by omega) (by omega) (show (h103 236 4) ≤ (h103 236 3) by omega) (show 0 ≤ (tk_nx tB tn (tk_nx tB tn tp)) by omega) (show (tk_nx tB tn (tk_nx tB tn tp)) ≤ tn by omega) (show (tk_nx tB tn (tk_nx tB tn tp)) ≤ tk_nx tB tn (tk_nx tB tn (tk_nx tB tn tp)) ∧ tk_nx tB tn (tk_nx tB tn (tk_nx tB tn tp)) ≤ tn by omega) (show 1 ≤ (h103 236 8) ∨ ((h103 236 4) = tk_nx tB tn (tk_nx tB tn (tk_nx tB tn tp)) ∧ (h103 236 5) = tk_st tB tn (tk_nx tB tn (tk_nx tB tn tp)) ∧ TKk tB tn (tk_nx tB tn (tk_nx tB tn tp)) ((h103 236 6)) ((h103 236 7)) ((h103 236 12))) from (Or.inr (show ((h103 236 4) = tk_nx tB tn (tk_nx tB tn (tk_nx tB tn tp)) ∧ (h103 236 5) = tk_st tB tn (tk_nx tB tn (tk_nx tB tn tp)) ∧ TKk tB tn (tk_nx tB tn (tk_nx tB tn tp)) ((h103 236 6)) ((h103 236 7)) ((h103 236 12))) by first | assumption | exact ⟨by omega, by omega, TKk.mv (by assumption) (by omega) (by omega) (by omega)⟩))) rb116 (fun h106 z114 g106 u106 (fz114 : 0 ≤ z114 ∧ z114 ≤ 999) (p106_0 : (1 ≤ (h103 236 8) ∧ (h106 236 8) = (h103 236 8) ∧ (h106 236 9) = (h103 236 9)) ∨ ((h103 236 8) = 0 ∧ tk_kd tB tn (tk_nx tB tn (tk_nx tB tn tp)) = 1 ∧ tk_sw tB tn (tk_nx tB tn (tk_nx tB tn tp)) = 4370489 ∧ tk_kd tB tn (tk_nx tB tn (tk_nx tB tn (tk_nx tB tn tp))) = 2 ∧ 0 ≤ tk_nb tB tn (tk_nx tB tn (tk_nx tB tn (tk_nx tB tn tp))) ∧ tk_nb tB tn (tk_nx tB tn (tk_nx tB tn (tk_nx tB tn tp))) ≤ 9 ∧ z114 = tk_nb tB tn (tk_nx tB tn (tk_nx tB tn (tk_nx tB tn tp))) ∧ (h106 236 8) = (h103 236 8) ∧ (h106 236 9) = (h103 236 9) ∧ ((h106 236 4) = tk_nx tB tn (tk_nx tB tn (tk_nx tB tn (tk_nx tB tn (tk_nx tB tn tp)))) ∧ (h106 236 5) = tk_st tB tn (tk_nx tB tn (tk_nx tB tn (tk_nx tB tn (tk_nx tB tn tp)))) ∧ TKk tB tn (tk_nx tB tn (tk_nx tB tn (tk_nx tB tn (tk_nx tB tn tp)))) ((h106 236 6)) ((h106 236 7)) ((h106 236 12)))) ∨ ((h103 236 8) = 0 ∧ (tk_kd tB tn (tk_nx tB tn (tk_nx tB tn tp)) ≠ 1 ∨ tk_sw tB tn (tk_nx tB tn (tk_nx tB tn tp)) ≠ 4370489) ∧ (h106 236 8) = 1 ∧ (h106 236 9) = tk_st tB tn (tk_nx tB tn (tk_nx tB tn tp))) ∨ ((h103 236 8) = 0 ∧ tk_kd tB tn (tk_nx tB tn (tk_nx tB tn tp)) = 1 ∧ tk_sw tB tn (tk_nx tB tn (tk_nx tB tn tp)) = 4370489 ∧ tk_kd tB tn (tk_nx tB tn (tk_nx tB tn (tk_nx tB tn tp))) ≠ 2 ∧ (h106 236 8) = 1 ∧ (h106 236 9) = tk_st tB tn (tk_nx tB tn (tk_nx tB tn (tk_nx tB tn tp)))) ∨ ((h103 236 8) = 0 ∧ tk_kd tB tn (tk_nx tB tn (tk_nx tB tn tp)) = 1 ∧ tk_sw tB tn (tk_nx tB tn (tk_nx tB tn tp)) = 4370489 ∧ tk_kd tB tn (tk_nx tB tn (tk_nx tB tn (tk_nx tB tn tp))) = 2 ∧ (tk_nb tB tn (tk_nx tB tn (tk_nx tB tn (tk_nx tB tn tp))) < 0 ∨ 9 < tk_nb tB tn (tk_nx tB tn (tk_nx tB tn (tk_nx tB tn tp)))) ∧ (h106 236 8) = 2 ∧ (h106 236 9) = tk_st tB tn (tk_nx tB tn (tk_nx tB tn (tk_nx tB tn tp))))) (p106_1 : (h103 236 4) ≤ (h106 236 4)) (p106_2 : (h106 236 4) ≤ (h103 236 3)) (p106_3 : 1 ≤ (h106 236 8) ∨ (h103 236 8) = 0) (p106_4 : 1 ≤ (h106 236 8) ∨ (0 ≤ z114 ∧ z114 ≤ 9)) => ?_)
                    have F117 := F104.then (by decide +kernel) u106
                    have e118 : h103 236 9 = h81 236 9 := (u103 236 9 rfl)
                    have b119 := gi_b (lo := 0) (hi := 5) g106 236 8 rfl
                    have b120 := gi_b (lo := -2147483648) (hi := 2147483647) g106 236 9 rfl
                    have b121 := gi_b (lo := 0) (hi := 800) g106 236 4 rfl
                    have b122 := gi_b (lo := 0) (hi := 800) g106 236 5 rfl
                    have b123 := gi_b (lo := 0) (hi := 4) g106 236 6 rfl
                    have b124 := gi_b (lo := 0) (hi := 999) g106 236 7 rfl
                    have b125 := gi_b (lo := -9223372036854775808) (hi := 9223372036854775807) g106 236 12 rfl
                    refine wk_i ?_
                    rcases p106_0 with p106_0 | p106_0 | p106_0 | p106_0 | p106_0
                    ·
                      exfalso; omega
                    ·
                      have tkk126 := (p106_0.2.2.2.2.2.2.2.2.2).2.2
                      have tN127 := @tk_nx_b tB tn (tk_nx tB tn (tk_nx tB tn (tk_nx tB tn tp))) (by omega) (by omega)
                      have tN128 := @tk_nx_b tB tn (tk_nx tB tn (tk_nx tB tn (tk_nx tB tn (tk_nx tB tn tp)))) (by omega) (by omega)
                      refine wr_is (k0 := 239) (a := 8) (f := 8) (x := z114) (bl := 0) (bh := 999) (nx := 209) (r1 := 0) (r2 := 0) (r3 := 0) rfl (by decide) rfl (by omega) (by omega) (by decide) g106 rfl (by omega) (fun h129 g129 w129 u129 => ?_)
                      have F130 := F117.then rfl u129
                      refine wi_goto (nx := 212) (r1 := 256) (r2 := 0) (r3 := 0) rfl ?_
                      refine wi_return (nx := 257) (r1 := 0) (r2 := 0) (r3 := 0) rfl rfl ?_
                      have e131 : h129 236 8 = h106 236 8 := (u129 236 8 rfl)
                      have e132 : h129 236 4 = h106 236 4 := (u129 236 4 rfl)
                      have e133 : h129 239 5 = h 239 5 := ((u129 239 5 rfl).trans ((u106 239 5 rfl).trans ((u103 239 5 rfl).trans ((u81 239 5 rfl).trans ((u79 239 5 rfl).trans (u67 239 5 rfl))))))
                      have e134 : h129 239 7 = z89 := ((u129 239 7 rfl).trans ((u106 239 7 rfl).trans w103))
                      have e135 : h129 239 15 = h 239 15 := ((u129 239 15 rfl).trans ((u106 239 15 rfl).trans ((u103 239 15 rfl).trans ((u81 239 15 rfl).trans ((u79 239 15 rfl).trans (u67 239 15 rfl))))))
                      have e136 : h129 239 16 = h 239 16 := ((u129 239 16 rfl).trans ((u106 239 16 rfl).trans ((u103 239 16 rfl).trans ((u81 239 16 rfl).trans ((u79 239 16 rfl).trans (u67 239 16 rfl))))))
                      have e137 : h129 239 17 = h 239 17 := ((u129 239 17 rfl).trans ((u106 239 17 rfl).trans ((u103 239 17 rfl).trans ((u81 239 17 rfl).trans ((u79 239 17 rfl).trans (u67 239 17 rfl))))))
                      have e138 : h129 239 18 = h 239 18 := ((u129 239 18 rfl).trans ((u106 239 18 rfl).trans ((u103 239 18 rfl).trans ((u81 239 18 rfl).trans ((u79 239 18 rfl).trans (u67 239 18 rfl))))))
                      have e139 : h129 236 9 = h106 236 9 := (u129 236 9 rfl)
                      have e140 : h129 239 0 = h 239 0 := ((u129 239 0 rfl).trans ((u106 239 0 rfl).trans ((u103 239 0 rfl).trans ((u81 239 0 rfl).trans ((u79 239 0 rfl).trans (u67 239 0 rfl))))))
                      have e141 : h129 239 1 = h 239 1 := ((u129 239 1 rfl).trans ((u106 239 1 rfl).trans ((u103 239 1 rfl).trans ((u81 239 1 rfl).trans ((u79 239 1 rfl).trans (u67 239 1 rfl))))))
                      have e142 : h129 239 2 = h 239 2 := ((u129 239 2 rfl).trans ((u106 239 2 rfl).trans ((u103 239 2 rfl).trans ((u81 239 2 rfl).trans ((u79 239 2 rfl).trans (u67 239 2 rfl))))))
                      have b143 := gi_b (lo := 0) (hi := 999) g 239 3 rfl
                      have e144 : h129 239 3 = h 239 3 := ((u129 239 3 rfl).trans ((u106 239 3 rfl).trans ((u103 239 3 rfl).trans ((u81 239 3 rfl).trans ((u79 239 3 rfl).trans (u67 239 3 rfl))))))
                      have b145 := gi_b (lo := 0) (hi := 999) g 239 4 rfl
                      have e146 : h129 239 4 = h 239 4 := ((u129 239 4 rfl).trans ((u106 239 4 rfl).trans ((u103 239 4 rfl).trans ((u81 239 4 rfl).trans ((u79 239 4 rfl).trans (u67 239 4 rfl))))))
                      have b147 := gi_b (lo := 0) (hi := 999) g 239 6 rfl
                      have e148 : h129 239 6 = h 239 6 := ((u129 239 6 rfl).trans ((u106 239 6 rfl).trans ((u103 239 6 rfl).trans ((u81 239 6 rfl).trans ((u79 239 6 rfl).trans (u67 239 6 rfl))))))
                      have e149 : h129 239 8 = z114 := w129
                      have b150 := gi_b (lo := 0) (hi := 999) g 239 9 rfl
                      have e151 : h129 239 9 = h 239 9 := ((u129 239 9 rfl).trans ((u106 239 9 rfl).trans ((u103 239 9 rfl).trans ((u81 239 9 rfl).trans ((u79 239 9 rfl).trans (u67 239 9 rfl))))))
                      have b152 := gi_b (lo := 0) (hi := 1) g 236 23 rfl
                      have e153 : h129 236 23 = h 236 23 := ((u129 236 23 rfl).trans ((u106 236 23 rfl).trans ((u103 236 23 rfl).trans ((u81 236 23 rfl).trans ((u79 236 23 rfl).trans (u67 236 23 rfl))))))
                      have b154 := gi_b (lo := 0) (hi := 1) g 236 24 rfl
                      have e155 : h129 236 24 = h 236 24 := ((u129 236 24 rfl).trans ((u106 236 24 rfl).trans ((u103 236 24 rfl).trans ((u81 236 24 rfl).trans ((u79 236 24 rfl).trans (u67 236 24 rfl))))))
                      have e156 : h129 236 25 = z68 := ((u129 236 25 rfl).trans ((u106 236 25 rfl).trans ((u103 236 25 rfl).trans ((u81 236 25 rfl).trans w79))))
                      have b157 := gi_b (lo := 0) (hi := 1) g 236 26 rfl
                      have e158 : h129 236 26 = h 236 26 := ((u129 236 26 rfl).trans ((u106 236 26 rfl).trans ((u103 236 26 rfl).trans ((u81 236 26 rfl).trans ((u79 236 26 rfl).trans (u67 236 26 rfl))))))
                      have e159 : h129 236 5 = h106 236 5 := (u129 236 5 rfl)
                      have e160 : h129 236 6 = h106 236 6 := (u129 236 6 rfl)
                      have e161 : h129 236 7 = h106 236 7 := (u129 236 7 rfl)
                      have e162 : h129 236 12 = h106 236 12 := (u129 236 12 rfl)
                      exact k h129 g129 F130 (show (h129 236 8) = 0 ∨ 1 ≤ (h129 236 8) by omega) (show (h 236 4) ≤ (h129 236 4) by omega) (show (h129 236 4) ≤ (h 236 3) by omega) (show 1 ≤ (h129 236 8) ∨ ((h129 239 5) ≤ 9 ∧ 1 ≤ (h129 239 5) ∧ (h129 239 7) ≤ 3 ∧ (h129 239 15) ≤ 6 ∧ (h129 239 16) ≤ 6 ∧ (h129 239 17) ≤ 6 ∧ (h129 239 18) ≤ 6) by omega) (show (h129 236 8) ≠ 0 ∨ (h129 236 9) = -1 by omega) (by unfold tk_stm; (repeat (first | rw [if_pos (by omega)] | rw [if_neg (by omega)])); exact (by (try clear p67_3 p81_3 p81_4 p81_5 p106_3 p106_4); unfold tk_rework tk_once tk_wrd tk_num; (try dsimp only); (repeat (first | rw [if_pos (by omega)] | rw [if_neg (by omega)])); (repeat ((first | unfold tk_once | unfold tk_wrd | unfold tk_num); (try dsimp only); (repeat (first | rw [if_pos (by omega)] | rw [if_neg (by omega)])))); exact tk_ORs (by omega) (by first | assumption | exact ⟨by omega, by omega, TKk.mv (by assumption) (by omega) (by omega) (by omega)⟩) (CVr.flag xq1 (fun j _ _ _ _ _ _ _ _ _ _ _ => by unfold tk_u; (repeat (first | rw [if_pos (by omega)] | rw [if_neg (by omega)]))) (fun i e => by rcases e with e | e; · exact ((u129 239 i (fn_i (by omega) fn_0)).trans ((u106 239 i (fo_nk rfl)).trans ((u103 239 i (fn_i (by omega) fn_0)).trans ((u81 239 i (fo_nk rfl)).trans ((u79 239 i (fn_a (by omega) fn_0)).trans (u67 239 i (fo_nk rfl))))))); · exact ((u129 239 i (fn_i (by omega) fn_0)).trans ((u106 239 i (fo_nk rfl)).trans ((u103 239 i (fn_i (by omega) fn_0)).trans ((u81 239 i (fo_nk rfl)).trans ((u79 239 i (fn_a (by omega) fn_0)).trans (u67 239 i (fo_nk rfl)))))))) ⟨(by (repeat unfold tk_u); (repeat (first | rw [if_pos (by omega)] | rw [if_neg (by omega)])); all_goals omega), (by (repeat unfold tk_u); (repeat (first | rw [if_pos (by omega)] | rw [if_neg (by omega)])); all_goals omega), (by (repeat unfold tk_u); (repeat (first | rw [if_pos (by omega)] | rw [if_neg (by omega)])); all_goals omega), (by (repeat unfold tk_u); (repeat (first | rw [if_pos (by omega)] | rw [if_neg (by omega)])); all_goals omega), (by (repeat unfold tk_u); (repeat (first | rw [if_pos (by omega)] | rw [if_neg (by omega)])); all_goals omega), (by (repeat unfold tk_u); (repeat (first | rw [if_pos (by omega)] | rw [if_neg (by omega)])); all_goals omega), (by (repeat unfold tk_u); (repeat (first | rw [if_pos (by omega)] | rw [if_neg (by omega)])); all_goals omega)⟩ ⟨(by (repeat unfold tk_u); (repeat (first | rw [if_pos (by omega)] | rw [if_neg (by omega)])); all_goals omega), (by (repeat unfold tk_u); (repeat (first | rw [if_pos (by omega)] | rw [if_neg (by omega)])); all_goals omega), (by (repeat unfold tk_u); (repeat (first | rw [if_pos (by omega)] | rw [if_neg (by omega)])); all_goals omega), (by (repeat unfold tk_u); (repeat (first | rw [if_pos (by omega)] | rw [if_neg (by omega)])); all_goals omega)⟩ (fun i => ((u129 244 i (fn_a (by omega) fn_0)).trans ((u106 244 i (fo_nk rfl)).trans ((u103 244 i (fn_a (by omega) fn_0)).trans ((u81 244 i (fo_nk rfl)).trans ((u79 244 i (fn_a (by omega) fn_0)).trans (u67 244 i (fo_nk rfl)))))))) (by omega) (by omega) (by omega))))
                    ·
                      refine wr_is (k0 := 239) (a := 8) (f := 8) (x := z114) (bl := 0) (bh := 999) (nx := 209) (r1 := 0) (r2 := 0) (r3 := 0) rfl (by decide) rfl (by omega) (by omega) (by decide) g106 rfl (by omega) (fun h126 g126 w126 u126 => ?_)
                      have F127 := F117.then rfl u126
                      refine wi_goto (nx := 212) (r1 := 256) (r2 := 0) (r3 := 0) rfl ?_
                      refine wi_return (nx := 257) (r1 := 0) (r2 := 0) (r3 := 0) rfl rfl ?_
                      have e128 : h126 236 8 = h106 236 8 := (u126 236 8 rfl)
                      have e129 : h126 236 4 = h106 236 4 := (u126 236 4 rfl)
                      have e130 : h126 239 5 = h 239 5 := ((u126 239 5 rfl).trans ((u106 239 5 rfl).trans ((u103 239 5 rfl).trans ((u81 239 5 rfl).trans ((u79 239 5 rfl).trans (u67 239 5 rfl))))))
                      have e131 : h126 239 7 = z89 := ((u126 239 7 rfl).trans ((u106 239 7 rfl).trans w103))
                      have e132 : h126 239 15 = h 239 15 := ((u126 239 15 rfl).trans ((u106 239 15 rfl).trans ((u103 239 15 rfl).trans ((u81 239 15 rfl).trans ((u79 239 15 rfl).trans (u67 239 15 rfl))))))
                      have e133 : h126 239 16 = h 239 16 := ((u126 239 16 rfl).trans ((u106 239 16 rfl).trans ((u103 239 16 rfl).trans ((u81 239 16 rfl).trans ((u79 239 16 rfl).trans (u67 239 16 rfl))))))
                      have e134 : h126 239 17 = h 239 17 := ((u126 239 17 rfl).trans ((u106 239 17 rfl).trans ((u103 239 17 rfl).trans ((u81 239 17 rfl).trans ((u79 239 17 rfl).trans (u67 239 17 rfl))))))
                      have e135 : h126 239 18 = h 239 18 := ((u126 239 18 rfl).trans ((u106 239 18 rfl).trans ((u103 239 18 rfl).trans ((u81 239 18 rfl).trans ((u79 239 18 rfl).trans (u67 239 18 rfl))))))
                      have e136 : h126 236 9 = h106 236 9 := (u126 236 9 rfl)
                      exact k h126 g126 F127 (show (h126 236 8) = 0 ∨ 1 ≤ (h126 236 8) by omega) (show (h 236 4) ≤ (h126 236 4) by omega) (show (h126 236 4) ≤ (h 236 3) by omega) (show 1 ≤ (h126 236 8) ∨ ((h126 239 5) ≤ 9 ∧ 1 ≤ (h126 239 5) ∧ (h126 239 7) ≤ 3 ∧ (h126 239 15) ≤ 6 ∧ (h126 239 16) ≤ 6 ∧ (h126 239 17) ≤ 6 ∧ (h126 239 18) ≤ 6) by omega) (show (h126 236 8) ≠ 0 ∨ (h126 236 9) = -1 by omega) (by unfold tk_stm; (repeat (first | rw [if_pos (by omega)] | rw [if_neg (by omega)])); exact (by (try clear p67_3 p81_3 p81_4 p81_5 p106_3 p106_4); unfold tk_rework tk_once tk_wrd tk_num; (try dsimp only); (repeat (first | rw [if_pos (by omega)] | rw [if_neg (by omega)])); (repeat ((first | unfold tk_once | unfold tk_wrd | unfold tk_num); (try dsimp only); (repeat (first | rw [if_pos (by omega)] | rw [if_neg (by omega)])))); first | exact tk_ORe (by omega) (by omega) (by omega) | ((repeat' split) <;> (first | exact tk_ORe (by omega) (by omega) (by omega) | (exfalso; omega)))))
                    ·
                      have tN126 := @tk_nx_b tB tn (tk_nx tB tn (tk_nx tB tn tp)) (by omega) (by omega)
                      refine wr_is (k0 := 239) (a := 8) (f := 8) (x := z114) (bl := 0) (bh := 999) (nx := 209) (r1 := 0) (r2 := 0) (r3 := 0) rfl (by decide) rfl (by omega) (by omega) (by decide) g106 rfl (by omega) (fun h127 g127 w127 u127 => ?_)
                      have F128 := F117.then rfl u127
                      refine wi_goto (nx := 212) (r1 := 256) (r2 := 0) (r3 := 0) rfl ?_
                      refine wi_return (nx := 257) (r1 := 0) (r2 := 0) (r3 := 0) rfl rfl ?_
                      have e129 : h127 236 8 = h106 236 8 := (u127 236 8 rfl)
                      have e130 : h127 236 4 = h106 236 4 := (u127 236 4 rfl)
                      have e131 : h127 239 5 = h 239 5 := ((u127 239 5 rfl).trans ((u106 239 5 rfl).trans ((u103 239 5 rfl).trans ((u81 239 5 rfl).trans ((u79 239 5 rfl).trans (u67 239 5 rfl))))))
                      have e132 : h127 239 7 = z89 := ((u127 239 7 rfl).trans ((u106 239 7 rfl).trans w103))
                      have e133 : h127 239 15 = h 239 15 := ((u127 239 15 rfl).trans ((u106 239 15 rfl).trans ((u103 239 15 rfl).trans ((u81 239 15 rfl).trans ((u79 239 15 rfl).trans (u67 239 15 rfl))))))
                      have e134 : h127 239 16 = h 239 16 := ((u127 239 16 rfl).trans ((u106 239 16 rfl).trans ((u103 239 16 rfl).trans ((u81 239 16 rfl).trans ((u79 239 16 rfl).trans (u67 239 16 rfl))))))
                      have e135 : h127 239 17 = h 239 17 := ((u127 239 17 rfl).trans ((u106 239 17 rfl).trans ((u103 239 17 rfl).trans ((u81 239 17 rfl).trans ((u79 239 17 rfl).trans (u67 239 17 rfl))))))
                      have e136 : h127 239 18 = h 239 18 := ((u127 239 18 rfl).trans ((u106 239 18 rfl).trans ((u103 239 18 rfl).trans ((u81 239 18 rfl).trans ((u79 239 18 rfl).trans (u67 239 18 rfl))))))
                      have e137 : h127 236 9 = h106 236 9 := (u127 236 9 rfl)
                      exact k h127 g127 F128 (show (h127 236 8) = 0 ∨ 1 ≤ (h127 236 8) by omega) (show (h 236 4) ≤ (h127 236 4) by omega) (show (h127 236 4) ≤ (h 236 3) by omega) (show 1 ≤ (h127 236 8) ∨ ((h127 239 5) ≤ 9 ∧ 1 ≤ (h127 239 5) ∧ (h127 239 7) ≤ 3 ∧ (h127 239 15) ≤ 6 ∧ (h127 239 16) ≤ 6 ∧ (h127 239 17) ≤ 6 ∧ (h127 239 18) ≤ 6) by omega) (show (h127 236 8) ≠ 0 ∨ (h127 236 9) = -1 by omega) (by unfold tk_stm; (repeat (first | rw [if_pos (by omega)] | rw [if_neg (by omega)])); exact (by (try clear p67_3 p81_3 p81_4 p81_5 p106_3 p106_4); unfold tk_rework tk_once tk_wrd tk_num; (try dsimp only); (repeat (first | rw [if_pos (by omega)] | rw [if_neg (by omega)])); (repeat ((first | unfold tk_once | unfold tk_wrd | unfold tk_num); (try dsimp only); (repeat (first | rw [if_pos (by omega)] | rw [if_neg (by omega)])))); first | exact tk_ORe (by omega) (by omega) (by omega) | ((repeat' split) <;> (first | exact tk_ORe (by omega) (by omega) (by omega) | (exfalso; omega)))))
                    ·
                      have tN126 := @tk_nx_b tB tn (tk_nx tB tn (tk_nx tB tn tp)) (by omega) (by omega)
                      refine wr_is (k0 := 239) (a := 8) (f := 8) (x := z114) (bl := 0) (bh := 999) (nx := 209) (r1 := 0) (r2 := 0) (r3 := 0) rfl (by decide) rfl (by omega) (by omega) (by decide) g106 rfl (by omega) (fun h127 g127 w127 u127 => ?_)
                      have F128 := F117.then rfl u127
                      refine wi_goto (nx := 212) (r1 := 256) (r2 := 0) (r3 := 0) rfl ?_
                      refine wi_return (nx := 257) (r1 := 0) (r2 := 0) (r3 := 0) rfl rfl ?_
                      have e129 : h127 236 8 = h106 236 8 := (u127 236 8 rfl)
                      have e130 : h127 236 4 = h106 236 4 := (u127 236 4 rfl)
                      have e131 : h127 239 5 = h 239 5 := ((u127 239 5 rfl).trans ((u106 239 5 rfl).trans ((u103 239 5 rfl).trans ((u81 239 5 rfl).trans ((u79 239 5 rfl).trans (u67 239 5 rfl))))))
                      have e132 : h127 239 7 = z89 := ((u127 239 7 rfl).trans ((u106 239 7 rfl).trans w103))
                      have e133 : h127 239 15 = h 239 15 := ((u127 239 15 rfl).trans ((u106 239 15 rfl).trans ((u103 239 15 rfl).trans ((u81 239 15 rfl).trans ((u79 239 15 rfl).trans (u67 239 15 rfl))))))
                      have e134 : h127 239 16 = h 239 16 := ((u127 239 16 rfl).trans ((u106 239 16 rfl).trans ((u103 239 16 rfl).trans ((u81 239 16 rfl).trans ((u79 239 16 rfl).trans (u67 239 16 rfl))))))
                      have e135 : h127 239 17 = h 239 17 := ((u127 239 17 rfl).trans ((u106 239 17 rfl).trans ((u103 239 17 rfl).trans ((u81 239 17 rfl).trans ((u79 239 17 rfl).trans (u67 239 17 rfl))))))
                      have e136 : h127 239 18 = h 239 18 := ((u127 239 18 rfl).trans ((u106 239 18 rfl).trans ((u103 239 18 rfl).trans ((u81 239 18 rfl).trans ((u79 239 18 rfl).trans (u67 239 18 rfl))))))
                      have e137 : h127 236 9 = h106 236 9 := (u127 236 9 rfl)
                      exact k h127 g127 F128 (show (h127 236 8) = 0 ∨ 1 ≤ (h127 236 8) by omega) (show (h 236 4) ≤ (h127 236 4) by omega) (show (h127 236 4) ≤ (h 236 3) by omega) (show 1 ≤ (h127 236 8) ∨ ((h127 239 5) ≤ 9 ∧ 1 ≤ (h127 239 5) ∧ (h127 239 7) ≤ 3 ∧ (h127 239 15) ≤ 6 ∧ (h127 239 16) ≤ 6 ∧ (h127 239 17) ≤ 6 ∧ (h127 239 18) ≤ 6) by omega) (show (h127 236 8) ≠ 0 ∨ (h127 236 9) = -1 by omega) (by unfold tk_stm; (repeat (first | rw [if_pos (by omega)] | rw [if_neg (by omega)])); exact (by (try clear p67_3 p81_3 p81_4 p81_5 p106_3 p106_4); unfold tk_rework tk_once tk_wrd tk_num; (try dsimp only); (repeat (first | rw [if_pos (by omega)] | rw [if_neg (by omega)])); (repeat ((first | unfold tk_once | unfold tk_wrd | unfold tk_num); (try dsimp only); (repeat (first | rw [if_pos (by omega)] | rw [if_neg (by omega)])))); first | exact tk_ORe (by omega) (by omega) (by omega) | ((repeat' split) <;> (first | exact tk_ORe (by omega) (by omega) (by omega) | (exfalso; omega)))))
                  ·
                    refine wr_is (k0 := 239) (a := 7) (f := 7) (x := z89) (bl := 0) (bh := 999) (nx := 192) (r1 := 0) (r2 := 0) (r3 := 0) rfl (by decide) rfl (by omega) (by omega) (by decide) g81 rfl (by omega) (fun h101 g101 w101 u101 => ?_)
                    have F102 := F92.then rfl u101
                    refine wi_aload_n (i := 0) (x := 236) (nx := 193) (r1 := 0) (r2 := 0) (r3 := 0) rfl rfl ?_
                    refine wr_gr (k0 := 236) (x := 239) (nx := 196) (r1 := 11) (r2 := 14) (r3 := 0) rfl rfl (by decide) rfl ⟨rfl, rfl⟩ rfl ?_
                    refine wi_bipush (n := 8) (nx := 198) (r1 := 0) (r2 := 0) (r3 := 0) rfl (by decide) ?_
                    refine wi_aload_n (i := 0) (x := 236) (nx := 199) (r1 := 0) (r2 := 0) (r3 := 0) rfl rfl ?_
                    refine wi_ldc2_w (e := 4370489) (nx := 202) (r1 := 4370489) (r2 := 0) (r3 := 0) rfl (by decide) ?_
                    refine wi_iconst (n := 0) (nx := 203) (r1 := 0) (r2 := 0) (r3 := 0) rfl ?_
                    refine wi_bipush (n := 9) (nx := 205) (r1 := 0) (r2 := 0) (r3 := 0) rfl (by decide) ?_
                    have wk103 : tk_kd tB tn (tk_nx tB tn tp) = 1 → (tk_sw tB tn (tk_nx tB tn tp) = 4370489 ↔ tk_wd (tk_lw tB tn (tk_nx tB tn tp)) = 11) := fun e => tk_wk 10 (by decide) (by omega) (by omega) e
                    refine wr_V (k0 := 236) (rest := [vi 8, .ref 239]) (as := [.ref 236, vl 4370489, vi 0, vi 9]) (nx := 208) (r1 := 228) (r2 := 3) (r3 := 11) rfl rfl rfl (of_decide_eq_true rfl) rfl rfl (by decide) rfl rfl (of_decide_eq_true rfl) (of_decide_eq_true rfl) ?_
                    have e105 : h101 236 4 = h81 236 4 := (u101 236 4 rfl)
                    have e106 : h101 236 3 = h 236 3 := ((u101 236 3 rfl).trans ((u81 236 3 rfl).trans ((u79 236 3 rfl).trans (u67 236 3 rfl))))
                    have e107 : h101 236 8 = h81 236 8 := (u101 236 8 rfl)
                    have e108 : h101 236 5 = h81 236 5 := (u101 236 5 rfl)
                    have e109 : h101 236 6 = h81 236 6 := (u101 236 6 rfl)
                    have e110 : h101 236 7 = h81 236 7 := (u101 236 7 rfl)
                    have e111 : h101 236 12 = h81 236 12 := (u101 236 12 rfl)
                    have rb113 := RefB.fr u81 rfl rb91
                    have rb114 := RefB.fr u101 rfl rb113
                    refine ct_228_236 hcr  g101 4370489 0 9 (by omega) (by omega) (by omega) (show (h101 236 4) ≤ (h101 236 3) by omega) (show 0 ≤ (tk_nx tB tn tp) by omega) (show (tk_nx tB tn tp) ≤ tn by omega) (show (tk_nx tB tn tp) ≤ tk_nx tB tn (tk_nx tB tn tp) ∧ tk_nx tB tn (tk_nx tB tn tp) ≤ tn by omega) (show 1 ≤ (h101 236 8) ∨ ((h101 236 4) = tk_nx tB tn (tk_nx tB tn tp) ∧ (h101 236 5) = tk_st tB tn (tk_nx tB tn tp) ∧ TKk tB tn (tk_nx tB tn tp) ((h101 236 6)) ((h101 236 7)) ((h101 236 12))) from (Or.inl (by omega))) rb114 (fun h104 z112 g104 u104 (fz112 : 0 ≤ z112 ∧ z112 ≤ 999) (p104_0 : (1 ≤ (h101 236 8) ∧ (h104 236 8) = (h101 236 8) ∧ (h104 236 9) = (h101 236 9)) ∨ ((h101 236 8) = 0 ∧ tk_kd tB tn (tk_nx tB tn tp) = 1 ∧ tk_sw tB tn (tk_nx tB tn tp) = 4370489 ∧ tk_kd tB tn (tk_nx tB tn (tk_nx tB tn tp)) = 2 ∧ 0 ≤ tk_nb tB tn (tk_nx tB tn (tk_nx tB tn tp)) ∧ tk_nb tB tn (tk_nx tB tn (tk_nx tB tn tp)) ≤ 9 ∧ z112 = tk_nb tB tn (tk_nx tB tn (tk_nx tB tn tp)) ∧ (h104 236 8) = (h101 236 8) ∧ (h104 236 9) = (h101 236 9) ∧ ((h104 236 4) = tk_nx tB tn (tk_nx tB tn (tk_nx tB tn (tk_nx tB tn tp))) ∧ (h104 236 5) = tk_st tB tn (tk_nx tB tn (tk_nx tB tn (tk_nx tB tn tp))) ∧ TKk tB tn (tk_nx tB tn (tk_nx tB tn (tk_nx tB tn tp))) ((h104 236 6)) ((h104 236 7)) ((h104 236 12)))) ∨ ((h101 236 8) = 0 ∧ (tk_kd tB tn (tk_nx tB tn tp) ≠ 1 ∨ tk_sw tB tn (tk_nx tB tn tp) ≠ 4370489) ∧ (h104 236 8) = 1 ∧ (h104 236 9) = tk_st tB tn (tk_nx tB tn tp)) ∨ ((h101 236 8) = 0 ∧ tk_kd tB tn (tk_nx tB tn tp) = 1 ∧ tk_sw tB tn (tk_nx tB tn tp) = 4370489 ∧ tk_kd tB tn (tk_nx tB tn (tk_nx tB tn tp)) ≠ 2 ∧ (h104 236 8) = 1 ∧ (h104 236 9) = tk_st tB tn (tk_nx tB tn (tk_nx tB tn tp))) ∨ ((h101 236 8) = 0 ∧ tk_kd tB tn (tk_nx tB tn tp) = 1 ∧ tk_sw tB tn (tk_nx tB tn tp) = 4370489 ∧ tk_kd tB tn (tk_nx tB tn (tk_nx tB tn tp)) = 2 ∧ (tk_nb tB tn (tk_nx tB tn (tk_nx tB tn tp)) < 0 ∨ 9 < tk_nb tB tn (tk_nx tB tn (tk_nx tB tn tp))) ∧ (h104 236 8) = 2 ∧ (h104 236 9) = tk_st tB tn (tk_nx tB tn (tk_nx tB tn tp)))) (p104_1 : (h101 236 4) ≤ (h104 236 4)) (p104_2 : (h104 236 4) ≤ (h101 236 3)) (p104_3 : 1 ≤ (h104 236 8) ∨ (h101 236 8) = 0) (p104_4 : 1 ≤ (h104 236 8) ∨ (0 ≤ z112 ∧ z112 ≤ 9)) => ?_)
                    have F115 := F102.then (by decide +kernel) u104
                    have e116 : h101 236 9 = h81 236 9 := (u101 236 9 rfl)
                    have b117 := gi_b (lo := 0) (hi := 5) g104 236 8 rfl
                    have b118 := gi_b (lo := -2147483648) (hi := 2147483647) g104 236 9 rfl
                    have b119 := gi_b (lo := 0) (hi := 800) g104 236 4 rfl
                    have b120 := gi_b (lo := 0) (hi := 800) g104 236 5 rfl
                    have b121 := gi_b (lo := 0) (hi := 4) g104 236 6 rfl
                    have b122 := gi_b (lo := 0) (hi := 999) g104 236 7 rfl
                    have b123 := gi_b (lo := -9223372036854775808) (hi := 9223372036854775807) g104 236 12 rfl
                    refine wk_i ?_
                    rcases p104_0 with p104_0 | p104_0 | p104_0 | p104_0 | p104_0
                    ·
                      refine wr_is (k0 := 239) (a := 8) (f := 8) (x := z112) (bl := 0) (bh := 999) (nx := 209) (r1 := 0) (r2 := 0) (r3 := 0) rfl (by decide) rfl (by omega) (by omega) (by decide) g104 rfl (by omega) (fun h124 g124 w124 u124 => ?_)
                      have F125 := F115.then rfl u124
                      refine wi_goto (nx := 212) (r1 := 256) (r2 := 0) (r3 := 0) rfl ?_
                      refine wi_return (nx := 257) (r1 := 0) (r2 := 0) (r3 := 0) rfl rfl ?_
                      have e126 : h124 236 8 = h104 236 8 := (u124 236 8 rfl)
                      have e127 : h124 236 4 = h104 236 4 := (u124 236 4 rfl)
                      have e128 : h124 239 5 = h 239 5 := ((u124 239 5 rfl).trans ((u104 239 5 rfl).trans ((u101 239 5 rfl).trans ((u81 239 5 rfl).trans ((u79 239 5 rfl).trans (u67 239 5 rfl))))))
                      have e129 : h124 239 7 = z89 := ((u124 239 7 rfl).trans ((u104 239 7 rfl).trans w101))
                      have e130 : h124 239 15 = h 239 15 := ((u124 239 15 rfl).trans ((u104 239 15 rfl).trans ((u101 239 15 rfl).trans ((u81 239 15 rfl).trans ((u79 239 15 rfl).trans (u67 239 15 rfl))))))
                      have e131 : h124 239 16 = h 239 16 := ((u124 239 16 rfl).trans ((u104 239 16 rfl).trans ((u101 239 16 rfl).trans ((u81 239 16 rfl).trans ((u79 239 16 rfl).trans (u67 239 16 rfl))))))
                      have e132 : h124 239 17 = h 239 17 := ((u124 239 17 rfl).trans ((u104 239 17 rfl).trans ((u101 239 17 rfl).trans ((u81 239 17 rfl).trans ((u79 239 17 rfl).trans (u67 239 17 rfl))))))
                      have e133 : h124 239 18 = h 239 18 := ((u124 239 18 rfl).trans ((u104 239 18 rfl).trans ((u101 239 18 rfl).trans ((u81 239 18 rfl).trans ((u79 239 18 rfl).trans (u67 239 18 rfl))))))
                      have e134 : h124 236 9 = h104 236 9 := (u124 236 9 rfl)
                      exact k h124 g124 F125 (show (h124 236 8) = 0 ∨ 1 ≤ (h124 236 8) by omega) (show (h 236 4) ≤ (h124 236 4) by omega) (show (h124 236 4) ≤ (h 236 3) by omega) (show 1 ≤ (h124 236 8) ∨ ((h124 239 5) ≤ 9 ∧ 1 ≤ (h124 239 5) ∧ (h124 239 7) ≤ 3 ∧ (h124 239 15) ≤ 6 ∧ (h124 239 16) ≤ 6 ∧ (h124 239 17) ≤ 6 ∧ (h124 239 18) ≤ 6) by omega) (show (h124 236 8) ≠ 0 ∨ (h124 236 9) = -1 by omega) (by unfold tk_stm; (repeat (first | rw [if_pos (by omega)] | rw [if_neg (by omega)])); exact (by (try clear p67_3 p81_3 p81_4 p81_5 p104_3 p104_4); unfold tk_rework tk_once tk_wrd tk_num; (try dsimp only); (repeat (first | rw [if_pos (by omega)] | rw [if_neg (by omega)])); (repeat ((first | unfold tk_once | unfold tk_wrd | unfold tk_num); (try dsimp only); (repeat (first | rw [if_pos (by omega)] | rw [if_neg (by omega)])))); first | exact tk_ORe (by omega) (by omega) (by omega) | ((repeat' split) <;> (first | exact tk_ORe (by omega) (by omega) (by omega) | (exfalso; omega)))))
                    ·
                      have tkk124 := (p104_0.2.2.2.2.2.2.2.2.2).2.2
                      have tN125 := @tk_nx_b tB tn (tk_nx tB tn (tk_nx tB tn tp)) (by omega) (by omega)
                      have tN126 := @tk_nx_b tB tn (tk_nx tB tn (tk_nx tB tn (tk_nx tB tn tp))) (by omega) (by omega)
                      exfalso; omega
                    ·
                      exfalso; omega
                    ·
                      have tN124 := @tk_nx_b tB tn (tk_nx tB tn tp) (by omega) (by omega)
                      exfalso; omega
                    ·
                      have tN124 := @tk_nx_b tB tn (tk_nx tB tn tp) (by omega) (by omega)
                      exfalso; omega
                  ·
                    refine wr_is (k0 := 239) (a := 7) (f := 7) (x := z89) (bl := 0) (bh := 999) (nx := 192) (r1 := 0) (r2 := 0) (r3 := 0) rfl (by decide) rfl (by omega) (by omega) (by decide) g81 rfl (by omega) (fun h101 g101 w101 u101 => ?_)
                    have F102 := F92.then rfl u101
                    refine wi_aload_n (i := 0) (x := 236) (nx := 193) (r1 := 0) (r2 := 0) (r3 := 0) rfl rfl ?_
                    refine wr_gr (k0 := 236) (x := 239) (nx := 196) (r1 := 11) (r2 := 14) (r3 := 0) rfl rfl (by decide) rfl ⟨rfl, rfl⟩ rfl ?_
                    refine wi_bipush (n := 8) (nx := 198) (r1 := 0) (r2 := 0) (r3 := 0) rfl (by decide) ?_
                    refine wi_aload_n (i := 0) (x := 236) (nx := 199) (r1 := 0) (r2 := 0) (r3 := 0) rfl rfl ?_
                    refine wi_ldc2_w (e := 4370489) (nx := 202) (r1 := 4370489) (r2 := 0) (r3 := 0) rfl (by decide) ?_
                    refine wi_iconst (n := 0) (nx := 203) (r1 := 0) (r2 := 0) (r3 := 0) rfl ?_
                    refine wi_bipush (n := 9) (nx := 205) (r1 := 0) (r2 := 0) (r3 := 0) rfl (by decide) ?_
                    have wk103 : tk_kd tB tn (tk_nx tB tn tp) = 1 → (tk_sw tB tn (tk_nx tB tn tp) = 4370489 ↔ tk_wd (tk_lw tB tn (tk_nx tB tn tp)) = 11) := fun e => tk_wk 10 (by decide) (by omega) (by omega) e
                    refine wr_V (k0 := 236) (rest := [vi 8, .ref 239]) (as := [.ref 236, vl 4370489, vi 0, vi 9]) (nx := 208) (r1 := 228) (r2 := 3) (r3 := 11) rfl rfl rfl (of_decide_eq_true rfl) rfl rfl (by decide) rfl rfl (of_decide_eq_true rfl) (of_decide_eq_true rfl) ?_
                    have e105 : h101 236 4 = h81 236 4 := (u101 236 4 rfl)
                    have e106 : h101 236 3 = h 236 3 := ((u101 236 3 rfl).trans ((u81 236 3 rfl).trans ((u79 236 3 rfl).trans (u67 236 3 rfl))))
                    have e107 : h101 236 8 = h81 236 8 := (u101 236 8 rfl)
                    have e108 : h101 236 5 = h81 236 5 := (u101 236 5 rfl)
                    have e109 : h101 236 6 = h81 236 6 := (u101 236 6 rfl)
                    have e110 : h101 236 7 = h81 236 7 := (u101 236 7 rfl)
                    have e111 : h101 236 12 = h81 236 12 := (u101 236 12 rfl)
                    have rb113 := RefB.fr u81 rfl rb91
                    have rb114 := RefB.fr u101 rfl rb113
                    refine ct_228_236 hcr  g101 4370489 0 9 (by omega) (by omega) (by omega) (show (h101 236 4) ≤ (h101 236 3) by omega) (show 0 ≤ (tk_nx tB tn tp) by omega) (show (tk_nx tB tn tp) ≤ tn by omega) (show (tk_nx tB tn tp) ≤ tk_nx tB tn (tk_nx tB tn tp) ∧ tk_nx tB tn (tk_nx tB tn tp) ≤ tn by omega) (show 1 ≤ (h101 236 8) ∨ ((h101 236 4) = tk_nx tB tn (tk_nx tB tn tp) ∧ (h101 236 5) = tk_st tB tn (tk_nx tB tn tp) ∧ TKk tB tn (tk_nx tB tn tp) ((h101 236 6)) ((h101 236 7)) ((h101 236 12))) from (Or.inl (by omega))) rb114 (fun h104 z112 g104 u104 (fz112 : 0 ≤ z112 ∧ z112 ≤ 999) (p104_0 : (1 ≤ (h101 236 8) ∧ (h104 236 8) = (h101 236 8) ∧ (h104 236 9) = (h101 236 9)) ∨ ((h101 236 8) = 0 ∧ tk_kd tB tn (tk_nx tB tn tp) = 1 ∧ tk_sw tB tn (tk_nx tB tn tp) = 4370489 ∧ tk_kd tB tn (tk_nx tB tn (tk_nx tB tn tp)) = 2 ∧ 0 ≤ tk_nb tB tn (tk_nx tB tn (tk_nx tB tn tp)) ∧ tk_nb tB tn (tk_nx tB tn (tk_nx tB tn tp)) ≤ 9 ∧ z112 = tk_nb tB tn (tk_nx tB tn (tk_nx tB tn tp)) ∧ (h104 236 8) = (h101 236 8) ∧ (h104 236 9) = (h101 236 9) ∧ ((h104 236 4) = tk_nx tB tn (tk_nx tB tn (tk_nx tB tn (tk_nx tB tn tp))) ∧ (h104 236 5) = tk_st tB tn (tk_nx tB tn (tk_nx tB tn (tk_nx tB tn tp))) ∧ TKk tB tn (tk_nx tB tn (tk_nx tB tn (tk_nx tB tn tp))) ((h104 236 6)) ((h104 236 7)) ((h104 236 12)))) ∨ ((h101 236 8) = 0 ∧ (tk_kd tB tn (tk_nx tB tn tp) ≠ 1 ∨ tk_sw tB tn (tk_nx tB tn tp) ≠ 4370489) ∧ (h104 236 8) = 1 ∧ (h104 236 9) = tk_st tB tn (tk_nx tB tn tp)) ∨ ((h101 236 8) = 0 ∧ tk_kd tB tn (tk_nx tB tn tp) = 1 ∧ tk_sw tB tn (tk_nx tB tn tp) = 4370489 ∧ tk_kd tB tn (tk_nx tB tn (tk_nx tB tn tp)) ≠ 2 ∧ (h104 236 8) = 1 ∧ (h104 236 9) = tk_st tB tn (tk_nx tB tn (tk_nx tB tn tp))) ∨ ((h101 236 8) = 0 ∧ tk_kd tB tn (tk_nx tB tn tp) = 1 ∧ tk_sw tB tn (tk_nx tB tn tp) = 4370489 ∧ tk_kd tB tn (tk_nx tB tn (tk_nx tB tn tp)) = 2 ∧ (tk_nb tB tn (tk_nx tB tn (tk_nx tB tn tp)) < 0 ∨ 9 < tk_nb tB tn (tk_nx tB tn (tk_nx tB tn tp))) ∧ (h104 236 8) = 2 ∧ (h104 236 9) = tk_st tB tn (tk_nx tB tn (tk_nx tB tn tp)))) (p104_1 : (h101 236 4) ≤ (h104 236 4)) (p104_2 : (h104 236 4) ≤ (h101 236 3)) (p104_3 : 1 ≤ (h104 236 8) ∨ (h101 236 8) = 0) (p104_4 : 1 ≤ (h104 236 8) ∨ (0 ≤ z112 ∧ z112 ≤ 9)) => ?_)
                    have F115 := F102.then (by decide +kernel) u104
                    have e116 : h101 236 9 = h81 236 9 := (u101 236 9 rfl)
                    have b117 := gi_b (lo := 0) (hi := 5) g104 236 8 rfl
                    have b118 := gi_b (lo := -2147483648) (hi := 2147483647) g104 236 9 rfl
                    have b119 := gi_b (lo := 0) (hi := 800) g104 236 4 rfl
                    have b120 := gi_b (lo := 0) (hi := 800) g104 236 5 rfl
                    have b121 := gi_b (lo := 0) (hi := 4) g104 236 6 rfl
                    have b122 := gi_b (lo := 0) (hi := 999) g104 236 7 rfl
                    have b123 := gi_b (lo := -9223372036854775808) (hi := 9223372036854775807) g104 236 12 rfl
                    refine wk_i ?_
                    rcases p104_0 with p104_0 | p104_0 | p104_0 | p104_0 | p104_0
                    ·
                      refine wr_is (k0 := 239) (a := 8) (f := 8) (x := z112) (bl := 0) (bh := 999) (nx := 209) (r1 := 0) (r2 := 0) (r3 := 0) rfl (by decide) rfl (by omega) (by omega) (by decide) g104 rfl (by omega) (fun h124 g124 w124 u124 => ?_)
                      have F125 := F115.then rfl u124
                      refine wi_goto (nx := 212) (r1 := 256) (r2 := 0) (r3 := 0) rfl ?_
                      refine wi_return (nx := 257) (r1 := 0) (r2 := 0) (r3 := 0) rfl rfl ?_
                      have e126 : h124 236 8 = h104 236 8 := (u124 236 8 rfl)
                      have e127 : h124 236 4 = h104 236 4 := (u124 236 4 rfl)
                      have e128 : h124 239 5 = h 239 5 := ((u124 239 5 rfl).trans ((u104 239 5 rfl).trans ((u101 239 5 rfl).trans ((u81 239 5 rfl).trans ((u79 239 5 rfl).trans (u67 239 5 rfl))))))
                      have e129 : h124 239 7 = z89 := ((u124 239 7 rfl).trans ((u104 239 7 rfl).trans w101))
                      have e130 : h124 239 15 = h 239 15 := ((u124 239 15 rfl).trans ((u104 239 15 rfl).trans ((u101 239 15 rfl).trans ((u81 239 15 rfl).trans ((u79 239 15 rfl).trans (u67 239 15 rfl))))))
                      have e131 : h124 239 16 = h 239 16 := ((u124 239 16 rfl).trans ((u104 239 16 rfl).trans ((u101 239 16 rfl).trans ((u81 239 16 rfl).trans ((u79 239 16 rfl).trans (u67 239 16 rfl))))))
                      have e132 : h124 239 17 = h 239 17 := ((u124 239 17 rfl).trans ((u104 239 17 rfl).trans ((u101 239 17 rfl).trans ((u81 239 17 rfl).trans ((u79 239 17 rfl).trans (u67 239 17 rfl))))))
                      have e133 : h124 239 18 = h 239 18 := ((u124 239 18 rfl).trans ((u104 239 18 rfl).trans ((u101 239 18 rfl).trans ((u81 239 18 rfl).trans ((u79 239 18 rfl).trans (u67 239 18 rfl))))))
                      have e134 : h124 236 9 = h104 236 9 := (u124 236 9 rfl)
                      exact k h124 g124 F125 (show (h124 236 8) = 0 ∨ 1 ≤ (h124 236 8) by omega) (show (h 236 4) ≤ (h124 236 4) by omega) (show (h124 236 4) ≤ (h 236 3) by omega) (show 1 ≤ (h124 236 8) ∨ ((h124 239 5) ≤ 9 ∧ 1 ≤ (h124 239 5) ∧ (h124 239 7) ≤ 3 ∧ (h124 239 15) ≤ 6 ∧ (h124 239 16) ≤ 6 ∧ (h124 239 17) ≤ 6 ∧ (h124 239 18) ≤ 6) by omega) (show (h124 236 8) ≠ 0 ∨ (h124 236 9) = -1 by omega) (by unfold tk_stm; (repeat (first | rw [if_pos (by omega)] | rw [if_neg (by omega)])); exact (by (try clear p67_3 p81_3 p81_4 p81_5 p104_3 p104_4); unfold tk_rework tk_once tk_wrd tk_num; (try dsimp only); (repeat (first | rw [if_pos (by omega)] | rw [if_neg (by omega)])); (repeat ((first | unfold tk_once | unfold tk_wrd | unfold tk_num); (try dsimp only); (repeat (first | rw [if_pos (by omega)] | rw [if_neg (by omega)])))); first | exact tk_ORe (by omega) (by omega) (by omega) | ((repeat' split) <;> (first | exact tk_ORe (by omega) (by omega) (by omega) | (exfalso; omega)))))
                    ·
                      have tkk124 := (p104_0.2.2.2.2.2.2.2.2.2).2.2
                      have tN125 := @tk_nx_b tB tn (tk_nx tB tn (tk_nx tB tn tp)) (by omega) (by omega)
                      have tN126 := @tk_nx_b tB tn (tk_nx tB tn (tk_nx tB tn (tk_nx tB tn tp))) (by omega) (by omega)
                      exfalso; omega
                    ·
                      exfalso; omega
                    ·
                      have tN124 := @tk_nx_b tB tn (tk_nx tB tn tp) (by omega) (by omega)
                      exfalso; omega
                    ·
                      have tN124 := @tk_nx_b tB tn (tk_nx tB tn tp) (by omega) (by omega)
                      exfalso; omega
                ·
                  refine wr_pf2 (k0 := 236) (x := z68) (bl := 0) (bh := 1) (nx := 179) (r1 := 11) (r2 := 25) (r3 := 2) rfl (by decide) rfl ⟨rfl, rfl⟩ rfl (by omega) rfl g67 rfl (by omega) (fun h77 g77 w77 u77 => ?_)
                  have F78 := F69.then rfl u77
                  refine wi_aload_n (i := 0) (x := 236) (nx := 180) (r1 := 0) (r2 := 0) (r3 := 0) rfl rfl ?_
                  refine wr_gr (k0 := 236) (x := 239) (nx := 183) (r1 := 11) (r2 := 14) (r3 := 0) rfl rfl (by decide) rfl ⟨rfl, rfl⟩ rfl ?_
                  refine wi_bipush (n := 7) (nx := 185) (r1 := 0) (r2 := 0) (r3 := 0) rfl (by decide) ?_
                  refine wi_aload_n (i := 0) (x := 236) (nx := 186) (r1 := 0) (r2 := 0) (r3 := 0) rfl rfl ?_
                  refine wi_iconst (n := 0) (nx := 187) (r1 := 0) (r2 := 0) (r3 := 0) rfl ?_
                  refine wi_iconst (n := 3) (nx := 188) (r1 := 0) (r2 := 0) (r3 := 0) rfl ?_
                  refine wr_V (k0 := 236) (rest := [vi 7, .ref 239]) (as := [.ref 236, vi 0, vi 3]) (nx := 191) (r1 := 231) (r2 := 2) (r3 := 11) rfl rfl rfl (of_decide_eq_true rfl) rfl rfl (by decide) rfl rfl (of_decide_eq_true rfl) (of_decide_eq_true rfl) ?_
                  have e80 : h77 236 4 = h67 236 4 := (u77 236 4 rfl)
                  have e81 : h77 236 3 = h 236 3 := ((u77 236 3 rfl).trans (u67 236 3 rfl))
                  have e82 : h77 236 8 = h67 236 8 := (u77 236 8 rfl)
                  have e83 : h77 236 5 = h67 236 5 := (u77 236 5 rfl)
                  have e84 : h77 236 6 = h67 236 6 := (u77 236 6 rfl)
                  have e85 : h77 236 7 = h67 236 7 := (u77 236 7 rfl)
                  have e86 : h77 236 12 = h67 236 12 := (u77 236 12 rfl)
                  have rb88 := RefB.fr u67 rfl xq0
                  have rb89 := RefB.fr u77 rfl rb88
                  refine ct_231_236 hcr  g77 0 3 (by omega) (by omega) (show (h77 236 4) ≤ (h77 236 3) by omega) (show 0 ≤ tp by omega) (show tp ≤ tn by omega) (show tp ≤ tk_nx tB tn tp ∧ tk_nx tB tn tp ≤ tn by omega) (show 1 ≤ (h77 236 8) ∨ ((h77 236 4) = tk_nx tB tn tp ∧ (h77 236 5) = tk_st tB tn tp ∧ TKk tB tn tp ((h77 236 6)) ((h77 236 7)) ((h77 236 12))) from (Or.inl (by omega))) rb89 (fun h79 z87 g79 u79 (fz87 : 0 ≤ z87 ∧ z87 ≤ 999) (p79_0 : (1 ≤ (h77 236 8) ∧ (h79 236 8) = (h77 236 8) ∧ (h79 236 9) = (h77 236 9)) ∨ ((h77 236 8) = 0 ∧ tk_kd tB tn tp = 2 ∧ 0 ≤ tk_nb tB tn tp ∧ tk_nb tB tn tp ≤ 3 ∧ z87 = tk_nb tB tn tp ∧ (h79 236 8) = (h77 236 8) ∧ (h79 236 9) = (h77 236 9) ∧ ((h79 236 4) = tk_nx tB tn (tk_nx tB tn tp) ∧ (h79 236 5) = tk_st tB tn (tk_nx tB tn tp) ∧ TKk tB tn (tk_nx tB tn tp) ((h79 236 6)) ((h79 236 7)) ((h79 236 12)))) ∨ ((h77 236 8) = 0 ∧ tk_kd tB tn tp ≠ 2 ∧ (h79 236 8) = 1 ∧ (h79 236 9) = tk_st tB tn tp) ∨ ((h77 236 8) = 0 ∧ tk_kd tB tn tp = 2 ∧ (tk_nb tB tn tp < 0 ∨ 3 < tk_nb tB tn tp) ∧ (h79 236 8) = 2 ∧ (h79 236 9) = tk_st tB tn tp)) (p79_1 : (h77 236 4) ≤ (h79 236 4)) (p79_2 : (h79 236 4) ≤ (h77 236 3)) (p79_3 : 1 ≤ (h79 236 8) ∨ (h77 236 8) = 0) (p79_4 : 1 ≤ (h79 236 8) ∨ (0 ≤ z87 ∧ z87 ≤ 3)) (p79_5 : 1 ≤ (h79 236 8) ∨ (h77 236 6) = 2) => ?_)
                  have F90 := F78.then (by decide +kernel) u79
                  have e91 : h77 236 9 = h67 236 9 := (u77 236 9 rfl)
                  have b92 := gi_b (lo := 0) (hi := 5) g79 236 8 rfl
                  have b93 := gi_b (lo := -2147483648) (hi := 2147483647) g79 236 9 rfl
                  have b94 := gi_b (lo := 0) (hi := 800) g79 236 4 rfl
                  have b95 := gi_b (lo := 0) (hi := 800) g79 236 5 rfl
                  have b96 := gi_b (lo := 0) (hi := 4) g79 236 6 rfl
                  have b97 := gi_b (lo := 0) (hi := 999) g79 236 7 rfl
                  have b98 := gi_b (lo := -9223372036854775808) (hi := 9223372036854775807) g79 236 12 rfl
                  refine wk_i ?_
                  rcases p79_0 with p79_0 | p79_0 | p79_0 | p79_0
                  ·
                    refine wr_is (k0 := 239) (a := 7) (f := 7) (x := z87) (bl := 0) (bh := 999) (nx := 192) (r1 := 0) (r2 := 0) (r3 := 0) rfl (by decide) rfl (by omega) (by omega) (by decide) g79 rfl (by omega) (fun h99 g99 w99 u99 => ?_)
                    have F100 := F90.then rfl u99
                    refine wi_aload_n (i := 0) (x := 236) (nx := 193) (r1 := 0) (r2 := 0) (r3 := 0) rfl rfl ?_
                    refine wr_gr (k0 := 236) (x := 239) (nx := 196) (r1 := 11) (r2 := 14) (r3 := 0) rfl rfl (by decide) rfl ⟨rfl, rfl⟩ rfl ?_
                    refine wi_bipush (n := 8) (nx := 198) (r1 := 0) (r2 := 0) (r3 := 0) rfl (by decide) ?_
                    refine wi_aload_n (i := 0) (x := 236) (nx := 199) (r1 := 0) (r2 := 0) (r3 := 0) rfl rfl ?_
                    refine wi_ldc2_w (e := 4370489) (nx := 202) (r1 := 4370489) (r2 := 0) (r3 := 0) rfl (by decide) ?_
                    refine wi_iconst (n := 0) (nx := 203) (r1 := 0) (r2 := 0) (r3 := 0) rfl ?_
                    refine wi_bipush (n := 9) (nx := 205) (r1 := 0) (r2 := 0) (r3 := 0) rfl (by decide) ?_
                    have wk101 : tk_kd tB tn tp = 1 → (tk_sw tB tn tp = 4370489 ↔ tk_wd (tk_lw tB tn tp) = 11) := fun e => tk_wk 10 (by decide) (by omega) (by omega) e
                    refine wr_V (k0 := 236) (rest := [vi 8, .ref 239]) (as := [.ref 236, vl 4370489, vi 0, vi 9]) (nx := 208) (r1 := 228) (r2 := 3) (r3 := 11) rfl rfl rfl (of_decide_eq_true rfl) rfl rfl (by decide) rfl rfl (of_decide_eq_true rfl) (of_decide_eq_true rfl) ?_
                    have e103 : h99 236 4 = h79 236 4 := (u99 236 4 rfl)
                    have e104 : h99 236 3 = h 236 3 := ((u99 236 3 rfl).trans ((u79 236 3 rfl).trans ((u77 236 3 rfl).trans (u67 236 3 rfl))))
                    have e105 : h99 236 8 = h79 236 8 := (u99 236 8 rfl)
                    have e106 : h99 236 5 = h79 236 5 := (u99 236 5 rfl)
                    have e107 : h99 236 6 = h79 236 6 := (u99 236 6 rfl)
                    have e108 : h99 236 7 = h79 236 7 := (u99 236 7 rfl)
                    have e109 : h99 236 12 = h79 236 12 := (u99 236 12 rfl)
                    have rb111 := RefB.fr u79 rfl rb89
                    have rb112 := RefB.fr u99 rfl rb111
                    refine ct_228_236 hcr  g99 4370489 0 9 (by omega) (by omega) (by omega) (show (h99 236 4) ≤ (h99 236 3) by omega) (show 0 ≤ tp by omega) (show tp ≤ tn by omega) (show tp ≤ tk_nx tB tn tp ∧ tk_nx tB tn tp ≤ tn by omega) (show 1 ≤ (h99 236 8) ∨ ((h99 236 4) = tk_nx tB tn tp ∧ (h99 236 5) = tk_st tB tn tp ∧ TKk tB tn tp ((h99 236 6)) ((h99 236 7)) ((h99 236 12))) from (Or.inl (by omega))) rb112 (fun h102 z110 g102 u102 (fz110 : 0 ≤ z110 ∧ z110 ≤ 999) (p102_0 : (1 ≤ (h99 236 8) ∧ (h102 236 8) = (h99 236 8) ∧ (h102 236 9) = (h99 236 9)) ∨ ((h99 236 8) = 0 ∧ tk_kd tB tn tp = 1 ∧ tk_sw tB tn tp = 4370489 ∧ tk_kd tB tn (tk_nx tB tn tp) = 2 ∧ 0 ≤ tk_nb tB tn (tk_nx tB tn tp) ∧ tk_nb tB tn (tk_nx tB tn tp) ≤ 9 ∧ z110 = tk_nb tB tn (tk_nx tB tn tp) ∧ (h102 236 8) = (h99 236 8) ∧ (h102 236 9) = (h99 236 9) ∧ ((h102 236 4) = tk_nx tB tn (tk_nx tB tn (tk_nx tB tn tp)) ∧ (h102 236 5) = tk_st tB tn (tk_nx tB tn (tk_nx tB tn tp)) ∧ TKk tB tn (tk_nx tB tn (tk_nx tB tn tp)) ((h102 236 6)) ((h102 236 7)) ((h102 236 12)))) ∨ ((h99 236 8) = 0 ∧ (tk_kd tB tn tp ≠ 1 ∨ tk_sw tB tn tp ≠ 4370489) ∧ (h102 236 8) = 1 ∧ (h102 236 9) = tk_st tB tn tp) ∨ ((h99 236 8) = 0 ∧ tk_kd tB tn tp = 1 ∧ tk_sw tB tn tp = 4370489 ∧ tk_kd tB tn (tk_nx tB tn tp) ≠ 2 ∧ (h102 236 8) = 1 ∧ (h102 236 9) = tk_st tB tn (tk_nx tB tn tp)) ∨ ((h99 236 8) = 0 ∧ tk_kd tB tn tp = 1 ∧ tk_sw tB tn tp = 4370489 ∧ tk_kd tB tn (tk_nx tB tn tp) = 2 ∧ (tk_nb tB tn (tk_nx tB tn tp) < 0 ∨ 9 < tk_nb tB tn (tk_nx tB tn tp)) ∧ (h102 236 8) = 2 ∧ (h102 236 9) = tk_st tB tn (tk_nx tB tn tp))) (p102_1 : (h99 236 4) ≤ (h102 236 4)) (p102_2 : (h102 236 4) ≤ (h99 236 3)) (p102_3 : 1 ≤ (h102 236 8) ∨ (h99 236 8) = 0) (p102_4 : 1 ≤ (h102 236 8) ∨ (0 ≤ z110 ∧ z110 ≤ 9)) => ?_)
                    have F113 := F100.then (by decide +kernel) u102
                    have e114 : h99 236 9 = h79 236 9 := (u99 236 9 rfl)
                    have b115 := gi_b (lo := 0) (hi := 5) g102 236 8 rfl
                    have b116 := gi_b (lo := -2147483648) (hi := 2147483647) g102 236 9 rfl
                    have b117 := gi_b (lo := 0) (hi := 800) g102 236 4 rfl
                    have b118 := gi_b (lo := 0) (hi := 800) g102 236 5 rfl
                    have b119 := gi_b (lo := 0) (hi := 4) g102 236 6 rfl
                    have b120 := gi_b (lo := 0) (hi := 999) g102 236 7 rfl
                    have b121 := gi_b (lo := -9223372036854775808) (hi := 9223372036854775807) g102 236 12 rfl
                    refine wk_i ?_
                    rcases p102_0 with p102_0 | p102_0 | p102_0 | p102_0 | p102_0
                    ·
                      refine wr_is (k0 := 239) (a := 8) (f := 8) (x := z110) (bl := 0) (bh := 999) (nx := 209) (r1 := 0) (r2 := 0) (r3 := 0) rfl (by decide) rfl (by omega) (by omega) (by decide) g102 rfl (by omega) (fun h122 g122 w122 u122 => ?_)
                      have F123 := F113.then rfl u122
                      refine wi_goto (nx := 212) (r1 := 256) (r2 := 0) (r3 := 0) rfl ?_
                      refine wi_return (nx := 257) (r1 := 0) (r2 := 0) (r3 := 0) rfl rfl ?_
                      have e124 : h122 236 8 = h102 236 8 := (u122 236 8 rfl)
                      have e125 : h122 236 4 = h102 236 4 := (u122 236 4 rfl)
                      have e126 : h122 239 5 = h 239 5 := ((u122 239 5 rfl).trans ((u102 239 5 rfl).trans ((u99 239 5 rfl).trans ((u79 239 5 rfl).trans ((u77 239 5 rfl).trans (u67 239 5 rfl))))))
                      have e127 : h122 239 7 = z87 := ((u122 239 7 rfl).trans ((u102 239 7 rfl).trans w99))
                      have e128 : h122 239 15 = h 239 15 := ((u122 239 15 rfl).trans ((u102 239 15 rfl).trans ((u99 239 15 rfl).trans ((u79 239 15 rfl).trans ((u77 239 15 rfl).trans (u67 239 15 rfl))))))
                      have e129 : h122 239 16 = h 239 16 := ((u122 239 16 rfl).trans ((u102 239 16 rfl).trans ((u99 239 16 rfl).trans ((u79 239 16 rfl).trans ((u77 239 16 rfl).trans (u67 239 16 rfl))))))
                      have e130 : h122 239 17 = h 239 17 := ((u122 239 17 rfl).trans ((u102 239 17 rfl).trans ((u99 239 17 rfl).trans ((u79 239 17 rfl).trans ((u77 239 17 rfl).trans (u67 239 17 rfl))))))
                      have e131 : h122 239 18 = h 239 18 := ((u122 239 18 rfl).trans ((u102 239 18 rfl).trans ((u99 239 18 rfl).trans ((u79 239 18 rfl).trans ((u77 239 18 rfl).trans (u67 239 18 rfl))))))
                      have e132 : h122 236 9 = h102 236 9 := (u122 236 9 rfl)
                      exact k h122 g122 F123 (show (h122 236 8) = 0 ∨ 1 ≤ (h122 236 8) by omega) (show (h 236 4) ≤ (h122 236 4) by omega) (show (h122 236 4) ≤ (h 236 3) by omega) (show 1 ≤ (h122 236 8) ∨ ((h122 239 5) ≤ 9 ∧ 1 ≤ (h122 239 5) ∧ (h122 239 7) ≤ 3 ∧ (h122 239 15) ≤ 6 ∧ (h122 239 16) ≤ 6 ∧ (h122 239 17) ≤ 6 ∧ (h122 239 18) ≤ 6) by omega) (show (h122 236 8) ≠ 0 ∨ (h122 236 9) = -1 by omega) (by unfold tk_stm; (repeat (first | rw [if_pos (by omega)] | rw [if_neg (by omega)])); exact (by (try clear p67_3 p79_3 p79_4 p79_5 p102_3 p102_4); unfold tk_rework tk_once tk_wrd tk_num; (try dsimp only); (repeat (first | rw [if_pos (by omega)] | rw [if_neg (by omega)])); (repeat ((first | unfold tk_once | unfold tk_wrd | unfold tk_num); (try dsimp only); (repeat (first | rw [if_pos (by omega)] | rw [if_neg (by omega)])))); first | exact tk_ORe (by omega) (by omega) (by omega) | ((repeat' split) <;> (first | exact tk_ORe (by omega) (by omega) (by omega) | (exfalso; omega)))))
                    ·
                      have tkk122 := (p102_0.2.2.2.2.2.2.2.2.2).2.2
                      have tN123 := @tk_nx_b tB tn (tk_nx tB tn tp) (by omega) (by omega)
                      have tN124 := @tk_nx_b tB tn (tk_nx tB tn (tk_nx tB tn tp)) (by omega) (by omega)
                      exfalso; omega
                    ·
                      exfalso; omega
                    ·
                      have tN122 := @tk_nx_b tB tn tp (by omega) (by omega)
                      exfalso; omega
                    ·
                      have tN122 := @tk_nx_b tB tn tp (by omega) (by omega)
                      exfalso; omega
                  ·
                    have tkk99 := (p79_0.2.2.2.2.2.2.2).2.2
                    have tN100 := @tk_nx_b tB tn (tk_nx tB tn tp) (by omega) (by omega)
                    exfalso; omega
                  ·
                    exfalso; omega
                  ·
                    exfalso; omega
            ·
              try have wk56 : tk_wd (tk_lw tB tn tp) = 8 := (tk_wk (B := tB) (n := tn) (p := tp) 7 (by decide) (by omega) (by omega) (by omega)).mp (by show tk_sw tB tn tp = 2150504; omega)
              refine wi_iconst (n := 1) (nx := 25) (r1 := 0) (r2 := 0) (r3 := 0) rfl ?_
              refine wi_goto (nx := 28) (r1 := 29) (r2 := 0) (r3 := 0) rfl ?_
              refine wi_zreturn (nx := 30) (r1 := 0) (r2 := 0) (r3 := 0) rfl rfl (by omega) ?_
              refine wk_i ?_
              refine wi_if (cd := .eq) (nx := 112) (r1 := 157) (r2 := 0) (r3 := 0) rfl (by omega) (fun (q57 : 1 = 0) => by exfalso; omega) (fun (q57 : ¬ (1 = 0)) => ?_)
              refine wi_aload_n (i := 0) (x := 236) (nx := 113) (r1 := 0) (r2 := 0) (r3 := 0) rfl rfl ?_
              refine wi_aload_n (i := 0) (x := 236) (nx := 114) (r1 := 0) (r2 := 0) (r3 := 0) rfl rfl ?_
              refine wi_aload_n (i := 0) (x := 236) (nx := 115) (r1 := 0) (r2 := 0) (r3 := 0) rfl rfl ?_
              have b58 := gi_b (lo := 0) (hi := 1) g 236 24 rfl
              refine wr_gi2 (k0 := 236) (x := h 236 24) (nx := 118) (r1 := 11) (r2 := 24) (r3 := 0) rfl rfl (by decide) rfl ⟨rfl, rfl⟩ rfl rfl ?_
              refine wr_V (k0 := 236) (rest := [.ref 236]) (as := [.ref 236, vi (h 236 24)]) (nx := 121) (r1 := 234) (r2 := 1) (r3 := 11) rfl rfl rfl (of_decide_eq_true rfl) rfl rfl (by decide) rfl rfl (of_decide_eq_true rfl) (of_decide_eq_true rfl) ?_
              refine ct_234_236 hcr  g (h 236 24) (by omega) (show (h 236 4) ≤ (h 236 3) by omega) (show 0 ≤ tp by omega) (show tp ≤ tn by omega) (show tp ≤ tk_nx tB tn tp ∧ tk_nx tB tn tp ≤ tn by omega) (show 1 ≤ (h 236 8) ∨ ((h 236 4) = tk_nx tB tn tp ∧ (h 236 5) = tk_st tB tn tp ∧ TKk tB tn tp ((h 236 6)) ((h 236 7)) ((h 236 12))) from (Or.inr (show ((h 236 4) = tk_nx tB tn tp ∧ (h 236 5) = tk_st tB tn tp ∧ TKk tB tn tp ((h 236 6)) ((h 236 7)) ((h 236 12))) by first | assumption | exact ⟨by omega, by omega, TKk.mv (by assumption) (by omega) (by omega) (by omega)⟩))) (show tk_kd tB tn tp = 1 by omega) xq0 (fun h59 z60 g59 u59 (fz60 : 1 ≤ z60 ∧ z60 ≤ 1) (p59_0 : (1 ≤ (h 236 8) ∧ (h59 236 8) = (h 236 8) ∧ (h59 236 9) = (h 236 9)) ∨ ((h 236 8) = 0 ∧ (h 236 24) = 0 ∧ (h59 236 8) = (h 236 8) ∧ (h59 236 9) = (h 236 9) ∧ ((h59 236 4) = tk_nx tB tn (tk_nx tB tn tp) ∧ (h59 236 5) = tk_st tB tn (tk_nx tB tn tp) ∧ TKk tB tn (tk_nx tB tn tp) ((h59 236 6)) ((h59 236 7)) ((h59 236 12)))) ∨ ((h 236 8) = 0 ∧ (h 236 24) = 1 ∧ (h59 236 8) = 3 ∧ (h59 236 9) = tk_st tB tn tp)) (p59_1 : (h 236 4) ≤ (h59 236 4)) (p59_2 : (h59 236 4) ≤ (h 236 3)) (p59_3 : 1 ≤ (h59 236 8) ∨ (h 236 8) = 0) (p59_4 : z60 = 1) => ?_)
              have F61 := F0.then (by decide +kernel) u59
              have b62 := gi_b (lo := 0) (hi := 5) g59 236 8 rfl
              have b63 := gi_b (lo := -2147483648) (hi := 2147483647) g59 236 9 rfl
              have b64 := gi_b (lo := 0) (hi := 800) g59 236 4 rfl
              have b65 := gi_b (lo := 0) (hi := 800) g59 236 5 rfl
              have b66 := gi_b (lo := 0) (hi := 4) g59 236 6 rfl
              have b67 := gi_b (lo := 0) (hi := 999) g59 236 7 rfl
              have b68 := gi_b (lo := -9223372036854775808) (hi := 9223372036854775807) g59 236 12 rfl
              refine wk_i ?_
              rcases p59_0 with p59_0 | p59_0 | p59_0
              ·
                exfalso; omega
              ·
                have tkk69 := (p59_0.2.2.2.2).2.2
                have tN70 := @tk_nx_b tB tn (tk_nx tB tn tp) (by omega) (by omega)
                refine wr_pf2 (k0 := 236) (x := z60) (bl := 0) (bh := 1) (nx := 124) (r1 := 11) (r2 := 24) (r3 := 2) rfl (by decide) rfl ⟨rfl, rfl⟩ rfl (by omega) rfl g59 rfl (by omega) (fun h71 g71 w71 u71 => ?_)
                have F72 := F61.then rfl u71
                refine wi_aload_n (i := 0) (x := 236) (nx := 125) (r1 := 0) (r2 := 0) (r3 := 0) rfl rfl ?_
                refine wr_gr (k0 := 236) (x := 239) (nx := 128) (r1 := 11) (r2 := 14) (r3 := 0) rfl rfl (by decide) rfl ⟨rfl, rfl⟩ rfl ?_
                refine wi_iconst (n := 5) (nx := 129) (r1 := 0) (r2 := 0) (r3 := 0) rfl ?_
                refine wi_aload_n (i := 0) (x := 236) (nx := 130) (r1 := 0) (r2 := 0) (r3 := 0) rfl rfl ?_
                refine wi_iconst (n := 1) (nx := 131) (r1 := 0) (r2 := 0) (r3 := 0) rfl ?_
                refine wi_bipush (n := 9) (nx := 133) (r1 := 0) (r2 := 0) (r3 := 0) rfl (by decide) ?_
                refine wr_V (k0 := 236) (rest := [vi 5, .ref 239]) (as := [.ref 236, vi 1, vi 9]) (nx := 136) (r1 := 231) (r2 := 2) (r3 := 11) rfl rfl rfl (of_decide_eq_true rfl) rfl rfl (by decide) rfl rfl (of_decide_eq_true rfl) (of_decide_eq_true rfl) ?_
                have e74 : h71 236 4 = h59 236 4 := (u71 236 4 rfl)
                have e75 : h71 236 3 = h 236 3 := ((u71 236 3 rfl).trans (u59 236 3 rfl))
                have e76 : h71 236 8 = h59 236 8 := (u71 236 8 rfl)
                have e77 : h71 236 5 = h59 236 5 := (u71 236 5 rfl)
                have e78 : h71 236 6 = h59 236 6 := (u71 236 6 rfl)
                have e79 : h71 236 7 = h59 236 7 := (u71 236 7 rfl)
                have e80 : h71 236 12 = h59 236 12 := (u71 236 12 rfl)
                have rb82 := RefB.fr u59 rfl xq0
                have rb83 := RefB.fr u71 rfl rb82
                refine ct_231_236 hcr  g71 1 9 (by omega) (by omega) (show (h71 236 4) ≤ (h71 236 3) by omega) (show 0 ≤ (tk_nx tB tn tp) by omega) (show (tk_nx tB tn tp) ≤ tn by omega) (show (tk_nx tB tn tp) ≤ tk_nx tB tn (tk_nx tB tn tp) ∧ tk_nx tB tn (tk_nx tB tn tp) ≤ tn by omega) (show 1 ≤ (h71 236 8) ∨ ((h71 236 4) = tk_nx tB tn (tk_nx tB tn tp) ∧ (h71 236 5) = tk_st tB tn (tk_nx tB tn tp) ∧ TKk tB tn (tk_nx tB tn tp) ((h71 236 6)) ((h71 236 7)) ((h71 236 12))) from (Or.inr (show ((h71 236 4) = tk_nx tB tn (tk_nx tB tn tp) ∧ (h71 236 5) = tk_st tB tn (tk_nx tB tn tp) ∧ TKk tB tn (tk_nx tB tn tp) ((h71 236 6)) ((h71 236 7)) ((h71 236 12))) by first | assumption | exact ⟨by omega, by omega, TKk.mv (by assumption) (by omega) (by omega) (by omega)⟩))) rb83 (fun h73 z81 g73 u73 (fz81 : 0 ≤ z81 ∧ z81 ≤ 999) (p73_0 : (1 ≤ (h71 236 8) ∧ (h73 236 8) = (h71 236 8) ∧ (h73 236 9) = (h71 236 9)) ∨ ((h71 236 8) = 0 ∧ tk_kd tB tn (tk_nx tB tn tp) = 2 ∧ 1 ≤ tk_nb tB tn (tk_nx tB tn tp) ∧ tk_nb tB tn (tk_nx tB tn tp) ≤ 9 ∧ z81 = tk_nb tB tn (tk_nx tB tn tp) ∧ (h73 236 8) = (h71 236 8) ∧ (h73 236 9) = (h71 236 9) ∧ ((h73 236 4) = tk_nx tB tn (tk_nx tB tn (tk_nx tB tn tp)) ∧ (h73 236 5) = tk_st tB tn (tk_nx tB tn (tk_nx tB tn tp)) ∧ TKk tB tn (tk_nx tB tn (tk_nx tB tn tp)) ((h73 236 6)) ((h73 236 7)) ((h73 236 12)))) ∨ ((h71 236 8) = 0 ∧ tk_kd tB tn (tk_nx tB tn tp) ≠ 2 ∧ (h73 236 8) = 1 ∧ (h73 236 9) = tk_st tB tn (tk_nx tB tn tp)) ∨ ((h71 236 8) = 0 ∧ tk_kd tB tn (tk_nx tB tn tp) = 2 ∧ (tk_nb tB tn (tk_nx tB tn tp) < 1 ∨ 9 < tk_nb tB tn (tk_nx tB tn tp)) ∧ (h73 236 8) = 2 ∧ (h73 236 9) = tk_st tB tn (tk_nx tB tn tp))) (p73_1 : (h71 236 4) ≤ (h73 236 4)) (p73_2 : (h73 236 4) ≤ (h71 236 3)) (p73_3 : 1 ≤ (h73 236 8) ∨ (h71 236 8) = 0) (p73_4 : 1 ≤ (h73 236 8) ∨ (1 ≤ z81 ∧ z81 ≤ 9)) (p73_5 : 1 ≤ (h73 236 8) ∨ (h71 236 6) = 2) => ?_)
                have F84 := F72.then (by decide +kernel) u73
                have e85 : h71 236 9 = h59 236 9 := (u71 236 9 rfl)
                have b86 := gi_b (lo := 0) (hi := 5) g73 236 8 rfl
                have b87 := gi_b (lo := -2147483648) (hi := 2147483647) g73 236 9 rfl
                have b88 := gi_b (lo := 0) (hi := 800) g73 236 4 rfl
                have b89 := gi_b (lo := 0) (hi := 800) g73 236 5 rfl
                have b90 := gi_b (lo := 0) (hi := 4) g73 236 6 rfl
                have b91 := gi_b (lo := 0) (hi := 999) g73 236 7 rfl
                have b92 := gi_b (lo := -9223372036854775808) (hi := 9223372036854775807) g73 236 12 rfl
                refine wk_i ?_
                rcases p73_0 with p73_0 | p73_0 | p73_0 | p73_0
                ·
                  exfalso; omega
                ·
                  have tkk93 := (p73_0.2.2.2.2.2.2.2).2.2
                  have tN94 := @tk_nx_b tB tn (tk_nx tB tn (tk_nx tB tn tp)) (by omega) (by omega)
                  refine wr_is (k0 := 239) (a := 5) (f := 5) (x := z81) (bl := 0) (bh := 999) (nx := 137) (r1 := 0) (r2 := 0) (r3 := 0) rfl (by decide) rfl (by omega) (by omega) (by decide) g73 rfl (by omega) (fun h95 g95 w95 u95 => ?_)
                  have F96 := F84.then rfl u95
                  refine wi_aload_n (i := 0) (x := 236) (nx := 138) (r1 := 0) (r2 := 0) (r3 := 0) rfl rfl ?_
                  refine wr_gr (k0 := 236) (x := 239) (nx := 141) (r1 := 11) (r2 := 14) (r3 := 0) rfl rfl (by decide) rfl ⟨rfl, rfl⟩ rfl ?_
                  refine wi_bipush (n := 6) (nx := 143) (r1 := 0) (r2 := 0) (r3 := 0) rfl (by decide) ?_
                  refine wi_aload_n (i := 0) (x := 236) (nx := 144) (r1 := 0) (r2 := 0) (r3 := 0) rfl rfl ?_
                  refine wi_ldc2_w (e := 17484005) (nx := 147) (r1 := 17484005) (r2 := 0) (r3 := 0) rfl (by decide) ?_
                  refine wi_iconst (n := 0) (nx := 148) (r1 := 0) (r2 := 0) (r3 := 0) rfl ?_
                  refine wi_bipush (n := 99) (nx := 150) (r1 := 0) (r2 := 0) (r3 := 0) rfl (by decide) ?_
                  have wk97 : tk_kd tB tn (tk_nx tB tn (tk_nx tB tn tp)) = 1 → (tk_sw tB tn (tk_nx tB tn (tk_nx tB tn tp)) = 17484005 ↔ tk_wd (tk_lw tB tn (tk_nx tB tn (tk_nx tB tn tp))) = 9) := fun e => tk_wk 8 (by decide) (by omega) (by omega) e
                  refine wr_V (k0 := 236) (rest := [vi 6, .ref 239]) (as := [.ref 236, vl 17484005, vi 0, vi 99]) (nx := 153) (r1 := 228) (r2 := 3) (r3 := 11) rfl rfl rfl (of_decide_eq_true rfl) rfl rfl (by decide) rfl rfl (of_decide_eq_true rfl) (of_decide_eq_true rfl) ?_
                  have e99 : h95 236 4 = h73 236 4 := (u95 236 4 rfl)
                  have e100 : h95 236 3 = h 236 3 := ((u95 236 3 rfl).trans ((u73 236 3 rfl).trans ((u71 236 3 rfl).trans (u59 236 3 rfl))))
                  have e101 : h95 236 8 = h73 236 8 := (u95 236 8 rfl)
                  have e102 : h95 236 5 = h73 236 5 := (u95 236 5 rfl)
                  have e103 : h95 236 6 = h73 236 6 := (u95 236 6 rfl)
                  have e104 : h95 236 7 = h73 236 7 := (u95 236 7 rfl)
                  have e105 : h95 236 12 = h73 236 12 := (u95 236 12 rfl)
                  have rb107 := RefB.fr u73 rfl rb83
                  have rb108 := RefB.fr u95 rfl rb107
                  refine ct_228_236 hcr  g95 17484005 0 99 (by omega) (by omega) (by omega) (show (h95 236 4) ≤ (h95 236 3) by omega) (show 0 ≤ (tk_nx tB tn (tk_nx tB tn tp)) by omega) (show (tk_nx tB tn (tk_nx tB tn tp)) ≤ tn by omega) (show (tk_nx tB tn (tk_nx tB tn tp)) ≤ tk_nx tB tn (tk_nx tB tn (tk_nx tB tn tp)) ∧ tk_nx tB tn (tk_nx tB tn (tk_nx tB tn tp)) ≤ tn by omega) (show 1 ≤ (h95 236 8) ∨ ((h95 236 4) = tk_nx tB tn (tk_nx tB tn (tk_nx tB tn tp)) ∧ (h95 236 5) = tk_st tB tn (tk_nx tB tn (tk_nx tB tn tp)) ∧ TKk tB tn (tk_nx tB tn (tk_nx tB tn tp)) ((h95 236 6)) ((h95 236 7)) ((h95 236 12))) from (Or.inr (show ((h95 236 4) = tk_nx tB tn (tk_nx tB tn (tk_nx tB tn tp)) ∧ (h95 236 5) = tk_st tB tn (tk_nx tB tn (tk_nx tB tn tp)) ∧ TKk tB tn (tk_nx tB tn (tk_nx tB tn tp)) ((h95 236 6)) ((h95 236 7)) ((h95 236 12))) by first | assumption | exact ⟨by omega, by omega, TKk.mv (by assumption) (by omega) (by omega) (by omega)⟩))) rb108 (fun h98 z106 g98 u98 (fz106 : 0 ≤ z106 ∧ z106 ≤ 999) (p98_0 : (1 ≤ (h95 236 8) ∧ (h98 236 8) = (h95 236 8) ∧ (h98 236 9) = (h95 236 9)) ∨ ((h95 236 8) = 0 ∧ tk_kd tB tn (tk_nx tB tn (tk_nx tB tn tp)) = 1 ∧ tk_sw tB tn (tk_nx tB tn (tk_nx tB tn tp)) = 17484005 ∧ tk_kd tB tn (tk_nx tB tn (tk_nx tB tn (tk_nx tB tn tp))) = 2 ∧ 0 ≤ tk_nb tB tn (tk_nx tB tn (tk_nx tB tn (tk_nx tB tn tp))) ∧ tk_nb tB tn (tk_nx tB tn (tk_nx tB tn (tk_nx tB tn tp))) ≤ 99 ∧ z106 = tk_nb tB tn (tk_nx tB tn (tk_nx tB tn (tk_nx tB tn tp))) ∧ (h98 236 8) = (h95 236 8) ∧ (h98 236 9) = (h95 236 9) ∧ ((h98 236 4) = tk_nx tB tn (tk_nx tB tn (tk_nx tB tn (tk_nx tB tn (tk_nx tB tn tp)))) ∧ (h98 236 5) = tk_st tB tn (tk_nx tB tn (tk_nx tB tn (tk_nx tB tn (tk_nx tB tn tp)))) ∧ TKk tB tn (tk_nx tB tn (tk_nx tB tn (tk_nx tB tn (tk_nx tB tn tp)))) ((h98 236 6)) ((h98 236 7)) ((h98 236 12)))) ∨ ((h95 236 8) = 0 ∧ (tk_kd tB tn (tk_nx tB tn (tk_nx tB tn tp)) ≠ 1 ∨ tk_sw tB tn (tk_nx tB tn (tk_nx tB tn tp)) ≠ 17484005) ∧ (h98 236 8) = 1 ∧ (h98 236 9) = tk_st tB tn (tk_nx tB tn (tk_nx tB tn tp))) ∨ ((h95 236 8) = 0 ∧ tk_kd tB tn (tk_nx tB tn (tk_nx tB tn tp)) = 1 ∧ tk_sw tB tn (tk_nx tB tn (tk_nx tB tn tp)) = 17484005 ∧ tk_kd tB tn (tk_nx tB tn (tk_nx tB tn (tk_nx tB tn tp))) ≠ 2 ∧ (h98 236 8) = 1 ∧ (h98 236 9) = tk_st tB tn (tk_nx tB tn (tk_nx tB tn (tk_nx tB tn tp)))) ∨ ((h95 236 8) = 0 ∧ tk_kd tB tn (tk_nx tB tn (tk_nx tB tn tp)) = 1 ∧ tk_sw tB tn (tk_nx tB tn (tk_nx tB tn tp)) = 17484005 ∧ tk_kd tB tn (tk_nx tB tn (tk_nx tB tn (tk_nx tB tn tp))) = 2 ∧ (tk_nb tB tn (tk_nx tB tn (tk_nx tB tn (tk_nx tB tn tp))) < 0 ∨ 99 < tk_nb tB tn (tk_nx tB tn (tk_nx tB tn (tk_nx tB tn tp)))) ∧ (h98 236 8) = 2 ∧ (h98 236 9) = tk_st tB tn (tk_nx tB tn (tk_nx tB tn (tk_nx tB tn tp))))) (p98_1 : (h95 236 4) ≤ (h98 236 4)) (p98_2 : (h98 236 4) ≤ (h95 236 3)) (p98_3 : 1 ≤ (h98 236 8) ∨ (h95 236 8) = 0) (p98_4 : 1 ≤ (h98 236 8) ∨ (0 ≤ z106 ∧ z106 ≤ 99)) => ?_)
                  have F109 := F96.then (by decide +kernel) u98
                  have e110 : h95 236 9 = h73 236 9 := (u95 236 9 rfl)
                  have b111 := gi_b (lo := 0) (hi := 5) g98 236 8 rfl
                  have b112 := gi_b (lo := -2147483648) (hi := 2147483647) g98 236 9 rfl
                  have b113 := gi_b (lo := 0) (hi := 800) g98 236 4 rfl
                  have b114 := gi_b (lo := 0) (hi := 800) g98 236 5 rfl
                  have b115 := gi_b (lo := 0) (hi := 4) g98 236 6 rfl
                  have b116 := gi_b (lo := 0) (hi := 999) g98 236 7 rfl
                  have b117 := gi_b (lo := -9223372036854775808) (hi := 9223372036854775807) g98 236 12 rfl
                  refine wk_i ?_
                  rcases p98_0 with p98_0 | p98_0 | p98_0 | p98_0 | p98_0
                  ·
                    exfalso; omega
                  ·
                    have tkk118 := (p98_0.2.2.2.2.2.2.2.2.2).2.2
                    have tN119 := @tk_nx_b tB tn (tk_nx tB tn (tk_nx tB tn (tk_nx tB tn tp))) (by omega) (by omega)
                    have tN120 := @tk_nx_b tB tn (tk_nx tB tn (tk_nx tB tn (tk_nx tB tn (tk_nx tB tn tp)))) (by omega) (by omega)
                    refine wr_is (k0 := 239) (a := 6) (f := 6) (x := z106) (bl := 0) (bh := 999) (nx := 154) (r1 := 0) (r2 := 0) (r3 := 0) rfl (by decide) rfl (by omega) (by omega) (by decide) g98 rfl (by omega) (fun h121 g121 w121 u121 => ?_)
                    have F122 := F109.then rfl u121
                    refine wi_goto (nx := 157) (r1 := 256) (r2 := 0) (r3 := 0) rfl ?_
                    refine wi_return (nx := 257) (r1 := 0) (r2 := 0) (r3 := 0) rfl rfl ?_
                    have e123 : h121 236 8 = h98 236 8 := (u121 236 8 rfl)
                    have e124 : h121 236 4 = h98 236 4 := (u121 236 4 rfl)
                    have e125 : h121 239 5 = z81 := ((u121 239 5 rfl).trans ((u98 239 5 rfl).trans w95))
                    have e126 : h121 239 7 = h 239 7 := ((u121 239 7 rfl).trans ((u98 239 7 rfl).trans ((u95 239 7 rfl).trans ((u73 239 7 rfl).trans ((u71 239 7 rfl).trans (u59 239 7 rfl))))))
                    have e127 : h121 239 15 = h 239 15 := ((u121 239 15 rfl).trans ((u98 239 15 rfl).trans ((u95 239 15 rfl).trans ((u73 239 15 rfl).trans ((u71 239 15 rfl).trans (u59 239 15 rfl))))))
                    have e128 : h121 239 16 = h 239 16 := ((u121 239 16 rfl).trans ((u98 239 16 rfl).trans ((u95 239 16 rfl).trans ((u73 239 16 rfl).trans ((u71 239 16 rfl).trans (u59 239 16 rfl))))))
                    have e129 : h121 239 17 = h 239 17 := ((u121 239 17 rfl).trans ((u98 239 17 rfl).trans ((u95 239 17 rfl).trans ((u73 239 17 rfl).trans ((u71 239 17 rfl).trans (u59 239 17 rfl))))))
                    have e130 : h121 239 18 = h 239 18 := ((u121 239 18 rfl).trans ((u98 239 18 rfl).trans ((u95 239 18 rfl).trans ((u73 239 18 rfl).trans ((u71 239 18 rfl).trans (u59 239 18 rfl))))))
                    have e131 : h121 236 9 = h98 236 9 := (u121 236 9 rfl)
                    have e132 : h121 239 0 = h 239 0 := ((u121 239 0 rfl).trans ((u98 239 0 rfl).trans ((u95 239 0 rfl).trans ((u73 239 0 rfl).trans ((u71 239 0 rfl).trans (u59 239 0 rfl))))))
                    have e133 : h121 239 1 = h 239 1 := ((u121 239 1 rfl).trans ((u98 239 1 rfl).trans ((u95 239 1 rfl).trans ((u73 239 1 rfl).trans ((u71 239 1 rfl).trans (u59 239 1 rfl))))))
                    have e134 : h121 239 2 = h 239 2 := ((u121 239 2 rfl).trans ((u98 239 2 rfl).trans ((u95 239 2 rfl).trans ((u73 239 2 rfl).trans ((u71 239 2 rfl).trans (u59 239 2 rfl))))))
                    have b135 := gi_b (lo := 0) (hi := 999) g 239 3 rfl
                    have e136 : h121 239 3 = h 239 3 := ((u121 239 3 rfl).trans ((u98 239 3 rfl).trans ((u95 239 3 rfl).trans ((u73 239 3 rfl).trans ((u71 239 3 rfl).trans (u59 239 3 rfl))))))
                    have b137 := gi_b (lo := 0) (hi := 999) g 239 4 rfl
                    have e138 : h121 239 4 = h 239 4 := ((u121 239 4 rfl).trans ((u98 239 4 rfl).trans ((u95 239 4 rfl).trans ((u73 239 4 rfl).trans ((u71 239 4 rfl).trans (u59 239 4 rfl))))))
                    have e139 : h121 239 6 = z106 := w121
                    have b140 := gi_b (lo := 0) (hi := 999) g 239 8 rfl
                    have e141 : h121 239 8 = h 239 8 := ((u121 239 8 rfl).trans ((u98 239 8 rfl).trans ((u95 239 8 rfl).trans ((u73 239 8 rfl).trans ((u71 239 8 rfl).trans (u59 239 8 rfl))))))
                    have b142 := gi_b (lo := 0) (hi := 999) g 239 9 rfl
                    have e143 : h121 239 9 = h 239 9 := ((u121 239 9 rfl).trans ((u98 239 9 rfl).trans ((u95 239 9 rfl).trans ((u73 239 9 rfl).trans ((u71 239 9 rfl).trans (u59 239 9 rfl))))))
                    have b144 := gi_b (lo := 0) (hi := 1) g 236 23 rfl
                    have e145 : h121 236 23 = h 236 23 := ((u121 236 23 rfl).trans ((u98 236 23 rfl).trans ((u95 236 23 rfl).trans ((u73 236 23 rfl).trans ((u71 236 23 rfl).trans (u59 236 23 rfl))))))
                    have e146 : h121 236 24 = z60 := ((u121 236 24 rfl).trans ((u98 236 24 rfl).trans ((u95 236 24 rfl).trans ((u73 236 24 rfl).trans w71))))
                    have b147 := gi_b (lo := 0) (hi := 1) g 236 25 rfl
                    have e148 : h121 236 25 = h 236 25 := ((u121 236 25 rfl).trans ((u98 236 25 rfl).trans ((u95 236 25 rfl).trans ((u73 236 25 rfl).trans ((u71 236 25 rfl).trans (u59 236 25 rfl))))))
                    have b149 := gi_b (lo := 0) (hi := 1) g 236 26 rfl
                    have e150 : h121 236 26 = h 236 26 := ((u121 236 26 rfl).trans ((u98 236 26 rfl).trans ((u95 236 26 rfl).trans ((u73 236 26 rfl).trans ((u71 236 26 rfl).trans (u59 236 26 rfl))))))
                    have e151 : h121 236 5 = h98 236 5 := (u121 236 5 rfl)
                    have e152 : h121 236 6 = h98 236 6 := (u121 236 6 rfl)
                    have e153 : h121 236 7 = h98 236 7 := (u121 236 7 rfl)
                    have e154 : h121 236 12 = h98 236 12 := (u121 236 12 rfl)
                    exact k h121 g121 F122 (show (h121 236 8) = 0 ∨ 1 ≤ (h121 236 8) by omega) (show (h 236 4) ≤ (h121 236 4) by omega) (show (h121 236 4) ≤ (h 236 3) by omega) (show 1 ≤ (h121 236 8) ∨ ((h121 239 5) ≤ 9 ∧ 1 ≤ (h121 239 5) ∧ (h121 239 7) ≤ 3 ∧ (h121 239 15) ≤ 6 ∧ (h121 239 16) ≤ 6 ∧ (h121 239 17) ≤ 6 ∧ (h121 239 18) ≤ 6) by omega) (show (h121 236 8) ≠ 0 ∨ (h121 236 9) = -1 by omega) (by unfold tk_stm; (repeat (first | rw [if_pos (by omega)] | rw [if_neg (by omega)])); exact (by (try clear p59_3 p73_3 p73_4 p73_5 p98_3 p98_4); unfold tk_batch tk_once tk_wrd tk_num; (try dsimp only); (repeat (first | rw [if_pos (by omega)] | rw [if_neg (by omega)])); (repeat ((first | unfold tk_once | unfold tk_wrd | unfold tk_num); (try dsimp only); (repeat (first | rw [if_pos (by omega)] | rw [if_neg (by omega)])))); exact tk_ORs (by omega) (by first | assumption | exact ⟨by omega, by omega, TKk.mv (by assumption) (by omega) (by omega) (by omega)⟩) (CVr.flag xq1 (fun j _ _ _ _ _ _ _ _ _ _ _ => by unfold tk_u; (repeat (first | rw [if_pos (by omega)] | rw [if_neg (by omega)]))) (fun i e => by rcases e with e | e; · exact ((u121 239 i (fn_i (by omega) fn_0)).trans ((u98 239 i (fo_nk rfl)).trans ((u95 239 i (fn_i (by omega) fn_0)).trans ((u73 239 i (fo_nk rfl)).trans ((u71 239 i (fn_a (by omega) fn_0)).trans (u59 239 i (fo_nk rfl))))))); · exact ((u121 239 i (fn_i (by omega) fn_0)).trans ((u98 239 i (fo_nk rfl)).trans ((u95 239 i (fn_i (by omega) fn_0)).trans ((u73 239 i (fo_nk rfl)).trans ((u71 239 i (fn_a (by omega) fn_0)).trans (u59 239 i (fo_nk rfl)))))))) ⟨(by (repeat unfold tk_u); (repeat (first | rw [if_pos (by omega)] | rw [if_neg (by omega)])); all_goals omega), (by (repeat unfold tk_u); (repeat (first | rw [if_pos (by omega)] | rw [if_neg (by omega)])); all_goals omega), (by (repeat unfold tk_u); (repeat (first | rw [if_pos (by omega)] | rw [if_neg (by omega)])); all_goals omega), (by (repeat unfold tk_u); (repeat (first | rw [if_pos (by omega)] | rw [if_neg (by omega)])); all_goals omega), (by (repeat unfold tk_u); (repeat (first | rw [if_pos (by omega)] | rw [if_neg (by omega)])); all_goals omega), (by (repeat unfold tk_u); (repeat (first | rw [if_pos (by omega)] | rw [if_neg (by omega)])); all_goals omega), (by (repeat unfold tk_u); (repeat (first | rw [if_pos (by omega)] | rw [if_neg (by omega)])); all_goals omega)⟩ ⟨(by (repeat unfold tk_u); (repeat (first | rw [if_pos (by omega)] | rw [if_neg (by omega)])); all_goals omega), (by (repeat unfold tk_u); (repeat (first | rw [if_pos (by omega)] | rw [if_neg (by omega)])); all_goals omega), (by (repeat unfold tk_u); (repeat (first | rw [if_pos (by omega)] | rw [if_neg (by omega)])); all_goals omega), (by (repeat unfold tk_u); (repeat (first | rw [if_pos (by omega)] | rw [if_neg (by omega)])); all_goals omega)⟩ (fun i => ((u121 244 i (fn_a (by omega) fn_0)).trans ((u98 244 i (fo_nk rfl)).trans ((u95 244 i (fn_a (by omega) fn_0)).trans ((u73 244 i (fo_nk rfl)).trans ((u71 244 i (fn_a (by omega) fn_0)).trans (u59 244 i (fo_nk rfl)))))))) (by omega) (by omega) (by omega))))
                  ·
                    refine wr_is (k0 := 239) (a := 6) (f := 6) (x := z106) (bl := 0) (bh := 999) (nx := 154) (r1 := 0) (r2 := 0) (r3 := 0) rfl (by decide) rfl (by omega) (by omega) (by decide) g98 rfl (by omega) (fun h118 g118 w118 u118 => ?_)
                    have F119 := F109.then rfl u118
                    refine wi_goto (nx := 157) (r1 := 256) (r2 := 0) (r3 := 0) rfl ?_
                    refine wi_return (nx := 257) (r1 := 0) (r2 := 0) (r3 := 0) rfl rfl ?_
                    have e120 : h118 236 8 = h98 236 8 := (u118 236 8 rfl)
                    have e121 : h118 236 4 = h98 236 4 := (u118 236 4 rfl)
                    have e122 : h118 239 5 = z81 := ((u118 239 5 rfl).trans ((u98 239 5 rfl).trans w95))
                    have e123 : h118 239 7 = h 239 7 := ((u118 239 7 rfl).trans ((u98 239 7 rfl).trans ((u95 239 7 rfl).trans ((u73 239 7 rfl).trans ((u71 239 7 rfl).trans (u59 239 7 rfl))))))
                    have e124 : h118 239 15 = h 239 15 := ((u118 239 15 rfl).trans ((u98 239 15 rfl).trans ((u95 239 15 rfl).trans ((u73 239 15 rfl).trans ((u71 239 15 rfl).trans (u59 239 15 rfl))))))
                    have e125 : h118 239 16 = h 239 16 := ((u118 239 16 rfl).trans ((u98 239 16 rfl).trans ((u95 239 16 rfl).trans ((u73 239 16 rfl).trans ((u71 239 16 rfl).trans (u59 239 16 rfl))))))
                    have e126 : h118 239 17 = h 239 17 := ((u118 239 17 rfl).trans ((u98 239 17 rfl).trans ((u95 239 17 rfl).trans ((u73 239 17 rfl).trans ((u71 239 17 rfl).trans (u59 239 17 rfl))))))
                    have e127 : h118 239 18 = h 239 18 := ((u118 239 18 rfl).trans ((u98 239 18 rfl).trans ((u95 239 18 rfl).trans ((u73 239 18 rfl).trans ((u71 239 18 rfl).trans (u59 239 18 rfl))))))
                    have e128 : h118 236 9 = h98 236 9 := (u118 236 9 rfl)
                    exact k h118 g118 F119 (show (h118 236 8) = 0 ∨ 1 ≤ (h118 236 8) by omega) (show (h 236 4) ≤ (h118 236 4) by omega) (show (h118 236 4) ≤ (h 236 3) by omega) (show 1 ≤ (h118 236 8) ∨ ((h118 239 5) ≤ 9 ∧ 1 ≤ (h118 239 5) ∧ (h118 239 7) ≤ 3 ∧ (h118 239 15) ≤ 6 ∧ (h118 239 16) ≤ 6 ∧ (h118 239 17) ≤ 6 ∧ (h118 239 18) ≤ 6) by omega) (show (h118 236 8) ≠ 0 ∨ (h118 236 9) = -1 by omega) (by unfold tk_stm; (repeat (first | rw [if_pos (by omega)] | rw [if_neg (by omega)])); exact (by (try clear p59_3 p73_3 p73_4 p73_5 p98_3 p98_4); unfold tk_batch tk_once tk_wrd tk_num; (try dsimp only); (repeat (first | rw [if_pos (by omega)] | rw [if_neg (by omega)])); (repeat ((first | unfold tk_once | unfold tk_wrd | unfold tk_num); (try dsimp only); (repeat (first | rw [if_pos (by omega)] | rw [if_neg (by omega)])))); first | exact tk_ORe (by omega) (by omega) (by omega) | ((repeat' split) <;> (first | exact tk_ORe (by omega) (by omega) (by omega) | (exfalso; omega)))))
                  ·
                    have tN118 := @tk_nx_b tB tn (tk_nx tB tn (tk_nx tB tn tp)) (by omega) (by omega)
                    refine wr_is (k0 := 239) (a := 6) (f := 6) (x := z106) (bl := 0) (bh := 999) (nx := 154) (r1 := 0) (r2 := 0) (r3 := 0) rfl (by decide) rfl (by omega) (by omega) (by decide) g98 rfl (by omega) (fun h119 g119 w119 u119 => ?_)
                    have F120 := F109.then rfl u119
                    refine wi_goto (nx := 157) (r1 := 256) (r2 := 0) (r3 := 0) rfl ?_
                    refine wi_return (nx := 257) (r1 := 0) (r2 := 0) (r3 := 0) rfl rfl ?_
                    have e121 : h119 236 8 = h98 236 8 := (u119 236 8 rfl)
                    have e122 : h119 236 4 = h98 236 4 := (u119 236 4 rfl)
                    have e123 : h119 239 5 = z81 := ((u119 239 5 rfl).trans ((u98 239 5 rfl).trans w95))
                    have e124 : h119 239 7 = h 239 7 := ((u119 239 7 rfl).trans ((u98 239 7 rfl).trans ((u95 239 7 rfl).trans ((u73 239 7 rfl).trans ((u71 239 7 rfl).trans (u59 239 7 rfl))))))
                    have e125 : h119 239 15 = h 239 15 := ((u119 239 15 rfl).trans ((u98 239 15 rfl).trans ((u95 239 15 rfl).trans ((u73 239 15 rfl).trans ((u71 239 15 rfl).trans (u59 239 15 rfl))))))
                    have e126 : h119 239 16 = h 239 16 := ((u119 239 16 rfl).trans ((u98 239 16 rfl).trans ((u95 239 16 rfl).trans ((u73 239 16 rfl).trans ((u71 239 16 rfl).trans (u59 239 16 rfl))))))
                    have e127 : h119 239 17 = h 239 17 := ((u119 239 17 rfl).trans ((u98 239 17 rfl).trans ((u95 239 17 rfl).trans ((u73 239 17 rfl).trans ((u71 239 17 rfl).trans (u59 239 17 rfl))))))
                    have e128 : h119 239 18 = h 239 18 := ((u119 239 18 rfl).trans ((u98 239 18 rfl).trans ((u95 239 18 rfl).trans ((u73 239 18 rfl).trans ((u71 239 18 rfl).trans (u59 239 18 rfl))))))
                    have e129 : h119 236 9 = h98 236 9 := (u119 236 9 rfl)
                    exact k h119 g119 F120 (show (h119 236 8) = 0 ∨ 1 ≤ (h119 236 8) by omega) (show (h 236 4) ≤ (h119 236 4) by omega) (show (h119 236 4) ≤ (h 236 3) by omega) (show 1 ≤ (h119 236 8) ∨ ((h119 239 5) ≤ 9 ∧ 1 ≤ (h119 239 5) ∧ (h119 239 7) ≤ 3 ∧ (h119 239 15) ≤ 6 ∧ (h119 239 16) ≤ 6 ∧ (h119 239 17) ≤ 6 ∧ (h119 239 18) ≤ 6) by omega) (show (h119 236 8) ≠ 0 ∨ (h119 236 9) = -1 by omega) (by unfold tk_stm; (repeat (first | rw [if_pos (by omega)] | rw [if_neg (by omega)])); exact (by (try clear p59_3 p73_3 p73_4 p73_5 p98_3 p98_4); unfold tk_batch tk_once tk_wrd tk_num; (try dsimp only); (repeat (first | rw [if_pos (by omega)] | rw [if_neg (by omega)])); (repeat ((first | unfold tk_once | unfold tk_wrd | unfold tk_num); (try dsimp only); (repeat (first | rw [if_pos (by omega)] | rw [if_neg (by omega)])))); first | exact tk_ORe (by omega) (by omega) (by omega) | ((repeat' split) <;> (first | exact tk_ORe (by omega) (by omega) (by omega) | (exfalso; omega)))))
                  ·
                    have tN118 := @tk_nx_b tB tn (tk_nx tB tn (tk_nx tB tn tp)) (by omega) (by omega)
                    refine wr_is (k0 := 239) (a := 6) (f := 6) (x := z106) (bl := 0) (bh := 999) (nx := 154) (r1 := 0) (r2 := 0) (r3 := 0) rfl (by decide) rfl (by omega) (by omega) (by decide) g98 rfl (by omega) (fun h119 g119 w119 u119 => ?_)
                    have F120 := F109.then rfl u119
                    refine wi_goto (nx := 157) (r1 := 256) (r2 := 0) (r3 := 0) rfl ?_
                    refine wi_return (nx := 257) (r1 := 0) (r2 := 0) (r3 := 0) rfl rfl ?_
                    have e121 : h119 236 8 = h98 236 8 := (u119 236 8 rfl)
                    have e122 : h119 236 4 = h98 236 4 := (u119 236 4 rfl)
                    have e123 : h119 239 5 = z81 := ((u119 239 5 rfl).trans ((u98 239 5 rfl).trans w95))
                    have e124 : h119 239 7 = h 239 7 := ((u119 239 7 rfl).trans ((u98 239 7 rfl).trans ((u95 239 7 rfl).trans ((u73 239 7 rfl).trans ((u71 239 7 rfl).trans (u59 239 7 rfl))))))
                    have e125 : h119 239 15 = h 239 15 := ((u119 239 15 rfl).trans ((u98 239 15 rfl).trans ((u95 239 15 rfl).trans ((u73 239 15 rfl).trans ((u71 239 15 rfl).trans (u59 239 15 rfl))))))
                    have e126 : h119 239 16 = h 239 16 := ((u119 239 16 rfl).trans ((u98 239 16 rfl).trans ((u95 239 16 rfl).trans ((u73 239 16 rfl).trans ((u71 239 16 rfl).trans (u59 239 16 rfl))))))
                    have e127 : h119 239 17 = h 239 17 := ((u119 239 17 rfl).trans ((u98 239 17 rfl).trans ((u95 239 17 rfl).trans ((u73 239 17 rfl).trans ((u71 239 17 rfl).trans (u59 239 17 rfl))))))
                    have e128 : h119 239 18 = h 239 18 := ((u119 239 18 rfl).trans ((u98 239 18 rfl).trans ((u95 239 18 rfl).trans ((u73 239 18 rfl).trans ((u71 239 18 rfl).trans (u59 239 18 rfl))))))
                    have e129 : h119 236 9 = h98 236 9 := (u119 236 9 rfl)
                    exact k h119 g119 F120 (show (h119 236 8) = 0 ∨ 1 ≤ (h119 236 8) by omega) (show (h 236 4) ≤ (h119 236 4) by omega) (show (h119 236 4) ≤ (h 236 3) by omega) (show 1 ≤ (h119 236 8) ∨ ((h119 239 5) ≤ 9 ∧ 1 ≤ (h119 239 5) ∧ (h119 239 7) ≤ 3 ∧ (h119 239 15) ≤ 6 ∧ (h119 239 16) ≤ 6 ∧ (h119 239 17) ≤ 6 ∧ (h119 239 18) ≤ 6) by omega) (show (h119 236 8) ≠ 0 ∨ (h119 236 9) = -1 by omega) (by unfold tk_stm; (repeat (first | rw [if_pos (by omega)] | rw [if_neg (by omega)])); exact (by (try clear p59_3 p73_3 p73_4 p73_5 p98_3 p98_4); unfold tk_batch tk_once tk_wrd tk_num; (try dsimp only); (repeat (first | rw [if_pos (by omega)] | rw [if_neg (by omega)])); (repeat ((first | unfold tk_once | unfold tk_wrd | unfold tk_num); (try dsimp only); (repeat (first | rw [if_pos (by omega)] | rw [if_neg (by omega)])))); first | exact tk_ORe (by omega) (by omega) (by omega) | ((repeat' split) <;> (first | exact tk_ORe (by omega) (by omega) (by omega) | (exfalso; omega)))))
                ·
                  refine wr_is (k0 := 239) (a := 5) (f := 5) (x := z81) (bl := 0) (bh := 999) (nx := 137) (r1 := 0) (r2 := 0) (r3 := 0) rfl (by decide) rfl (by omega) (by omega) (by decide) g73 rfl (by omega) (fun h93 g93 w93 u93 => ?_)
                  have F94 := F84.then rfl u93
                  refine wi_aload_n (i := 0) (x := 236) (nx := 138) (r1 := 0) (r2 := 0) (r3 := 0) rfl rfl ?_
                  refine wr_gr (k0 := 236) (x := 239) (nx := 141) (r1 := 11) (r2 := 14) (r3 := 0) rfl rfl (by decide) rfl ⟨rfl, rfl⟩ rfl ?_
                  refine wi_bipush (n := 6) (nx := 143) (r1 := 0) (r2 := 0) (r3 := 0) rfl (by decide) ?_
                  refine wi_aload_n (i := 0) (x := 236) (nx := 144) (r1 := 0) (r2 := 0) (r3 := 0) rfl rfl ?_
                  refine wi_ldc2_w (e := 17484005) (nx := 147) (r1 := 17484005) (r2 := 0) (r3 := 0) rfl (by decide) ?_
                  refine wi_iconst (n := 0) (nx := 148) (r1 := 0) (r2 := 0) (r3 := 0) rfl ?_
                  refine wi_bipush (n := 99) (nx := 150) (r1 := 0) (r2 := 0) (r3 := 0) rfl (by decide) ?_
                  have wk95 : tk_kd tB tn (tk_nx tB tn tp) = 1 → (tk_sw tB tn (tk_nx tB tn tp) = 17484005 ↔ tk_wd (tk_lw tB tn (tk_nx tB tn tp)) = 9) := fun e => tk_wk 8 (by decide) (by omega) (by omega) e
                  refine wr_V (k0 := 236) (rest := [vi 6, .ref 239]) (as := [.ref 236, vl 17484005, vi 0, vi 99]) (nx := 153) (r1 := 228) (r2 := 3) (r3 := 11) rfl rfl rfl (of_decide_eq_true rfl) rfl rfl (by decide) rfl rfl (of_decide_eq_true rfl) (of_decide_eq_true rfl) ?_
                  have e97 : h93 236 4 = h73 236 4 := (u93 236 4 rfl)
                  have e98 : h93 236 3 = h 236 3 := ((u93 236 3 rfl).trans ((u73 236 3 rfl).trans ((u71 236 3 rfl).trans (u59 236 3 rfl))))
                  have e99 : h93 236 8 = h73 236 8 := (u93 236 8 rfl)
                  have e100 : h93 236 5 = h73 236 5 := (u93 236 5 rfl)
                  have e101 : h93 236 6 = h73 236 6 := (u93 236 6 rfl)
                  have e102 : h93 236 7 = h73 236 7 := (u93 236 7 rfl)
                  have e103 : h93 236 12 = h73 236 12 := (u93 236 12 rfl)
                  have rb105 := RefB.fr u73 rfl rb83
                  have rb106 := RefB.fr u93 rfl rb105
                  refine ct_228_236 hcr  g93 17484005 0 99 (by omega) (by omega) (by omega) (show (h93 236 4) ≤ (h93 236 3) by omega) (show 0 ≤ (tk_nx tB tn tp) by omega) (show (tk_nx tB tn tp) ≤ tn by omega) (show (tk_nx tB tn tp) ≤ tk_nx tB tn (tk_nx tB tn tp) ∧ tk_nx tB tn (tk_nx tB tn tp) ≤ tn by omega) (show 1 ≤ (h93 236 8) ∨ ((h93 236 4) = tk_nx tB tn (tk_nx tB tn tp) ∧ (h93 236 5) = tk_st tB tn (tk_nx tB tn tp) ∧ TKk tB tn (tk_nx tB tn tp) ((h93 236 6)) ((h93 236 7)) ((h93 236 12))) from (Or.inl (by omega))) rb106 (fun h96 z104 g96 u96 (fz104 : 0 ≤ z104 ∧ z104 ≤ 999) (p96_0 : (1 ≤ (h93 236 8) ∧ (h96 236 8) = (h93 236 8) ∧ (h96 236 9) = (h93 236 9)) ∨ ((h93 236 8) = 0 ∧ tk_kd tB tn (tk_nx tB tn tp) = 1 ∧ tk_sw tB tn (tk_nx tB tn tp) = 17484005 ∧ tk_kd tB tn (tk_nx tB tn (tk_nx tB tn tp)) = 2 ∧ 0 ≤ tk_nb tB tn (tk_nx tB tn (tk_nx tB tn tp)) ∧ tk_nb tB tn (tk_nx tB tn (tk_nx tB tn tp)) ≤ 99 ∧ z104 = tk_nb tB tn (tk_nx tB tn (tk_nx tB tn tp)) ∧ (h96 236 8) = (h93 236 8) ∧ (h96 236 9) = (h93 236 9) ∧ ((h96 236 4) = tk_nx tB tn (tk_nx tB tn (tk_nx tB tn (tk_nx tB tn tp))) ∧ (h96 236 5) = tk_st tB tn (tk_nx tB tn (tk_nx tB tn (tk_nx tB tn tp))) ∧ TKk tB tn (tk_nx tB tn (tk_nx tB tn (tk_nx tB tn tp))) ((h96 236 6)) ((h96 236 7)) ((h96 236 12)))) ∨ ((h93 236 8) = 0 ∧ (tk_kd tB tn (tk_nx tB tn tp) ≠ 1 ∨ tk_sw tB tn (tk_nx tB tn tp) ≠ 17484005) ∧ (h96 236 8) = 1 ∧ (h96 236 9) = tk_st tB tn (tk_nx tB tn tp)) ∨ ((h93 236 8) = 0 ∧ tk_kd tB tn (tk_nx tB tn tp) = 1 ∧ tk_sw tB tn (tk_nx tB tn tp) = 17484005 ∧ tk_kd tB tn (tk_nx tB tn (tk_nx tB tn tp)) ≠ 2 ∧ (h96 236 8) = 1 ∧ (h96 236 9) = tk_st tB tn (tk_nx tB tn (tk_nx tB tn tp))) ∨ ((h93 236 8) = 0 ∧ tk_kd tB tn (tk_nx tB tn tp) = 1 ∧ tk_sw tB tn (tk_nx tB tn tp) = 17484005 ∧ tk_kd tB tn (tk_nx tB tn (tk_nx tB tn tp)) = 2 ∧ (tk_nb tB tn (tk_nx tB tn (tk_nx tB tn tp)) < 0 ∨ 99 < tk_nb tB tn (tk_nx tB tn (tk_nx tB tn tp))) ∧ (h96 236 8) = 2 ∧ (h96 236 9) = tk_st tB tn (tk_nx tB tn (tk_nx tB tn tp)))) (p96_1 : (h93 236 4) ≤ (h96 236 4)) (p96_2 : (h96 236 4) ≤ (h93 236 3)) (p96_3 : 1 ≤ (h96 236 8) ∨ (h93 236 8) = 0) (p96_4 : 1 ≤ (h96 236 8) ∨ (0 ≤ z104 ∧ z104 ≤ 99)) => ?_)
                  have F107 := F94.then (by decide +kernel) u96
                  have e108 : h93 236 9 = h73 236 9 := (u93 236 9 rfl)
                  have b109 := gi_b (lo := 0) (hi := 5) g96 236 8 rfl
                  have b110 := gi_b (lo := -2147483648) (hi := 2147483647) g96 236 9 rfl
                  have b111 := gi_b (lo := 0) (hi := 800) g96 236 4 rfl
                  have b112 := gi_b (lo := 0) (hi := 800) g96 236 5 rfl
                  have b113 := gi_b (lo := 0) (hi := 4) g96 236 6 rfl
                  have b114 := gi_b (lo := 0) (hi := 999) g96 236 7 rfl
                  have b115 := gi_b (lo := -9223372036854775808) (hi := 9223372036854775807) g96 236 12 rfl
                  refine wk_i ?_
                  rcases p96_0 with p96_0 | p96_0 | p96_0 | p96_0 | p96_0
                  ·
                    refine wr_is (k0 := 239) (a := 6) (f := 6) (x := z104) (bl := 0) (bh := 999) (nx := 154) (r1 := 0) (r2 := 0) (r3 := 0) rfl (by decide) rfl (by omega) (by omega) (by decide) g96 rfl (by omega) (fun h116 g116 w116 u116 => ?_)
                    have F117 := F107.then rfl u116
                    refine wi_goto (nx := 157) (r1 := 256) (r2 := 0) (r3 := 0) rfl ?_
                    refine wi_return (nx := 257) (r1 := 0) (r2 := 0) (r3 := 0) rfl rfl ?_
                    have e118 : h116 236 8 = h96 236 8 := (u116 236 8 rfl)
                    have e119 : h116 236 4 = h96 236 4 := (u116 236 4 rfl)
                    have e120 : h116 239 5 = z81 := ((u116 239 5 rfl).trans ((u96 239 5 rfl).trans w93))
                    have e121 : h116 239 7 = h 239 7 := ((u116 239 7 rfl).trans ((u96 239 7 rfl).trans ((u93 239 7 rfl).trans ((u73 239 7 rfl).trans ((u71 239 7 rfl).trans (u59 239 7 rfl))))))
                    have e122 : h116 239 15 = h 239 15 := ((u116 239 15 rfl).trans ((u96 239 15 rfl).trans ((u93 239 15 rfl).trans ((u73 239 15 rfl).trans ((u71 239 15 rfl).trans (u59 239 15 rfl))))))
                    have e123 : h116 239 16 = h 239 16 := ((u116 239 16 rfl).trans ((u96 239 16 rfl).trans ((u93 239 16 rfl).trans ((u73 239 16 rfl).trans ((u71 239 16 rfl).trans (u59 239 16 rfl))))))
                    have e124 : h116 239 17 = h 239 17 := ((u116 239 17 rfl).trans ((u96 239 17 rfl).trans ((u93 239 17 rfl).trans ((u73 239 17 rfl).trans ((u71 239 17 rfl).trans (u59 239 17 rfl))))))
                    have e125 : h116 239 18 = h 239 18 := ((u116 239 18 rfl).trans ((u96 239 18 rfl).trans ((u93 239 18 rfl).trans ((u73 239 18 rfl).trans ((u71 239 18 rfl).trans (u59 239 18 rfl))))))
                    have e126 : h116 236 9 = h96 236 9 := (u116 236 9 rfl)
                    exact k h116 g116 F117 (show (h116 236 8) = 0 ∨ 1 ≤ (h116 236 8) by omega) (show (h 236 4) ≤ (h116 236 4) by omega) (show (h116 236 4) ≤ (h 236 3) by omega) (show 1 ≤ (h116 236 8) ∨ ((h116 239 5) ≤ 9 ∧ 1 ≤ (h116 239 5) ∧ (h116 239 7) ≤ 3 ∧ (h116 239 15) ≤ 6 ∧ (h116 239 16) ≤ 6 ∧ (h116 239 17) ≤ 6 ∧ (h116 239 18) ≤ 6) by omega) (show (h116 236 8) ≠ 0 ∨ (h116 236 9) = -1 by omega) (by unfold tk_stm; (repeat (first | rw [if_pos (by omega)] | rw [if_neg (by omega)])); exact (by (try clear p59_3 p73_3 p73_4 p73_5 p96_3 p96_4); unfold tk_batch tk_once tk_wrd tk_num; (try dsimp only); (repeat (first | rw [if_pos (by omega)] | rw [if_neg (by omega)])); (repeat ((first | unfold tk_once | unfold tk_wrd | unfold tk_num); (try dsimp only); (repeat (first | rw [if_pos (by omega)] | rw [if_neg (by omega)])))); first | exact tk_ORe (by omega) (by omega) (by omega) | ((repeat' split) <;> (first | exact tk_ORe (by omega) (by omega) (by omega) | (exfalso; omega)))))
                  ·
                    have tkk116 := (p96_0.2.2.2.2.2.2.2.2.2).2.2
                    have tN117 := @tk_nx_b tB tn (tk_nx tB tn (tk_nx tB tn tp)) (by omega) (by omega)
                    have tN118 := @tk_nx_b tB tn (tk_nx tB tn (tk_nx tB tn (tk_nx tB tn tp))) (by omega) (by omega)
                    exfalso; omega
                  ·
                    exfalso; omega
                  ·
                    have tN116 := @tk_nx_b tB tn (tk_nx tB tn tp) (by omega) (by omega)
                    exfalso; omega
                  ·
                    have tN116 := @tk_nx_b tB tn (tk_nx tB tn tp) (by omega) (by omega)
                    exfalso; omega
                ·
                  refine wr_is (k0 := 239) (a := 5) (f := 5) (x := z81) (bl := 0) (bh := 999) (nx := 137) (r1 := 0) (r2 := 0) (r3 := 0) rfl (by decide) rfl (by omega) (by omega) (by decide) g73 rfl (by omega) (fun h93 g93 w93 u93 => ?_)
                  have F94 := F84.then rfl u93
                  refine wi_aload_n (i := 0) (x := 236) (nx := 138) (r1 := 0) (r2 := 0) (r3 := 0) rfl rfl ?_
                  refine wr_gr (k0 := 236) (x := 239) (nx := 141) (r1 := 11) (r2 := 14) (r3 := 0) rfl rfl (by decide) rfl ⟨rfl, rfl⟩ rfl ?_
                  refine wi_bipush (n := 6) (nx := 143) (r1 := 0) (r2 := 0) (r3 := 0) rfl (by decide) ?_
                  refine wi_aload_n (i := 0) (x := 236) (nx := 144) (r1 := 0) (r2 := 0) (r3 := 0) rfl rfl ?_
                  refine wi_ldc2_w (e := 17484005) (nx := 147) (r1 := 17484005) (r2 := 0) (r3 := 0) rfl (by decide) ?_
                  refine wi_iconst (n := 0) (nx := 148) (r1 := 0) (r2 := 0) (r3 := 0) rfl ?_
                  refine wi_bipush (n := 99) (nx := 150) (r1 := 0) (r2 := 0) (r3 := 0) rfl (by decide) ?_
                  have wk95 : tk_kd tB tn (tk_nx tB tn tp) = 1 → (tk_sw tB tn (tk_nx tB tn tp) = 17484005 ↔ tk_wd (tk_lw tB tn (tk_nx tB tn tp)) = 9) := fun e => tk_wk 8 (by decide) (by omega) (by omega) e
                  refine wr_V (k0 := 236) (rest := [vi 6, .ref 239]) (as := [.ref 236, vl 17484005, vi 0, vi 99]) (nx := 153) (r1 := 228) (r2 := 3) (r3 := 11) rfl rfl rfl (of_decide_eq_true rfl) rfl rfl (by decide) rfl rfl (of_decide_eq_true rfl) (of_decide_eq_true rfl) ?_
                  have e97 : h93 236 4 = h73 236 4 := (u93 236 4 rfl)
                  have e98 : h93 236 3 = h 236 3 := ((u93 236 3 rfl).trans ((u73 236 3 rfl).trans ((u71 236 3 rfl).trans (u59 236 3 rfl))))
                  have e99 : h93 236 8 = h73 236 8 := (u93 236 8 rfl)
                  have e100 : h93 236 5 = h73 236 5 := (u93 236 5 rfl)
                  have e101 : h93 236 6 = h73 236 6 := (u93 236 6 rfl)
                  have e102 : h93 236 7 = h73 236 7 := (u93 236 7 rfl)
                  have e103 : h93 236 12 = h73 236 12 := (u93 236 12 rfl)
                  have rb105 := RefB.fr u73 rfl rb83
                  have rb106 := RefB.fr u93 rfl rb105
                  refine ct_228_236 hcr  g93 17484005 0 99 (by omega) (by omega) (by omega) (show (h93 236 4) ≤ (h93 236 3) by omega) (show 0 ≤ (tk_nx tB tn tp) by omega) (show (tk_nx tB tn tp) ≤ tn by omega) (show (tk_nx tB tn tp) ≤ tk_nx tB tn (tk_nx tB tn tp) ∧ tk_nx tB tn (tk_nx tB tn tp) ≤ tn by omega) (show 1 ≤ (h93 236 8) ∨ ((h93 236 4) = tk_nx tB tn (tk_nx tB tn tp) ∧ (h93 236 5) = tk_st tB tn (tk_nx tB tn tp) ∧ TKk tB tn (tk_nx tB tn tp) ((h93 236 6)) ((h93 236 7)) ((h93 236 12))) from (Or.inl (by omega))) rb106 (fun h96 z104 g96 u96 (fz104 : 0 ≤ z104 ∧ z104 ≤ 999) (p96_0 : (1 ≤ (h93 236 8) ∧ (h96 236 8) = (h93 236 8) ∧ (h96 236 9) = (h93 236 9)) ∨ ((h93 236 8) = 0 ∧ tk_kd tB tn (tk_nx tB tn tp) = 1 ∧ tk_sw tB tn (tk_nx tB tn tp) = 17484005 ∧ tk_kd tB tn (tk_nx tB tn (tk_nx tB tn tp)) = 2 ∧ 0 ≤ tk_nb tB tn (tk_nx tB tn (tk_nx tB tn tp)) ∧ tk_nb tB tn (tk_nx tB tn (tk_nx tB tn tp)) ≤ 99 ∧ z104 = tk_nb tB tn (tk_nx tB tn (tk_nx tB tn tp)) ∧ (h96 236 8) = (h93 236 8) ∧ (h96 236 9) = (h93 236 9) ∧ ((h96 236 4) = tk_nx tB tn (tk_nx tB tn (tk_nx tB tn (tk_nx tB tn tp))) ∧ (h96 236 5) = tk_st tB tn (tk_nx tB tn (tk_nx tB tn (tk_nx tB tn tp))) ∧ TKk tB tn (tk_nx tB tn (tk_nx tB tn (tk_nx tB tn tp))) ((h96 236 6)) ((h96 236 7)) ((h96 236 12)))) ∨ ((h93 236 8) = 0 ∧ (tk_kd tB tn (tk_nx tB tn tp) ≠ 1 ∨ tk_sw tB tn (tk_nx tB tn tp) ≠ 17484005) ∧ (h96 236 8) = 1 ∧ (h96 236 9) = tk_st tB tn (tk_nx tB tn tp)) ∨ ((h93 236 8) = 0 ∧ tk_kd tB tn (tk_nx tB tn tp) = 1 ∧ tk_sw tB tn (tk_nx tB tn tp) = 17484005 ∧ tk_kd tB tn (tk_nx tB tn (tk_nx tB tn tp)) ≠ 2 ∧ (h96 236 8) = 1 ∧ (h96 236 9) = tk_st tB tn (tk_nx tB tn (tk_nx tB tn tp))) ∨ ((h93 236 8) = 0 ∧ tk_kd tB tn (tk_nx tB tn tp) = 1 ∧ tk_sw tB tn (tk_nx tB tn tp) = 17484005 ∧ tk_kd tB tn (tk_nx tB tn (tk_nx tB tn tp)) = 2 ∧ (tk_nb tB tn (tk_nx tB tn (tk_nx tB tn tp)) < 0 ∨ 99 < tk_nb tB tn (tk_nx tB tn (tk_nx tB tn tp))) ∧ (h96 236 8) = 2 ∧ (h96 236 9) = tk_st tB tn (tk_nx tB tn (tk_nx tB tn tp)))) (p96_1 : (h93 236 4) ≤ (h96 236 4)) (p96_2 : (h96 236 4) ≤ (h93 236 3)) (p96_3 : 1 ≤ (h96 236 8) ∨ (h93 236 8) = 0) (p96_4 : 1 ≤ (h96 236 8) ∨ (0 ≤ z104 ∧ z104 ≤ 99)) => ?_)
                  have F107 := F94.then (by decide +kernel) u96
                  have e108 : h93 236 9 = h73 236 9 := (u93 236 9 rfl)
                  have b109 := gi_b (lo := 0) (hi := 5) g96 236 8 rfl
                  have b110 := gi_b (lo := -2147483648) (hi := 2147483647) g96 236 9 rfl
                  have b111 := gi_b (lo := 0) (hi := 800) g96 236 4 rfl
                  have b112 := gi_b (lo := 0) (hi := 800) g96 236 5 rfl
                  have b113 := gi_b (lo := 0) (hi := 4) g96 236 6 rfl
                  have b114 := gi_b (lo := 0) (hi := 999) g96 236 7 rfl
                  have b115 := gi_b (lo := -9223372036854775808) (hi := 9223372036854775807) g96 236 12 rfl
                  refine wk_i ?_
                  rcases p96_0 with p96_0 | p96_0 | p96_0 | p96_0 | p96_0
                  ·
                    refine wr_is (k0 := 239) (a := 6) (f := 6) (x := z104) (bl := 0) (bh := 999) (nx := 154) (r1 := 0) (r2 := 0) (r3 := 0) rfl (by decide) rfl (by omega) (by omega) (by decide) g96 rfl (by omega) (fun h116 g116 w116 u116 => ?_)
                    have F117 := F107.then rfl u116
                    refine wi_goto (nx := 157) (r1 := 256) (r2 := 0) (r3 := 0) rfl ?_
                    refine wi_return (nx := 257) (r1 := 0) (r2 := 0) (r3 := 0) rfl rfl ?_
                    have e118 : h116 236 8 = h96 236 8 := (u116 236 8 rfl)
                    have e119 : h116 236 4 = h96 236 4 := (u116 236 4 rfl)
                    have e120 : h116 239 5 = z81 := ((u116 239 5 rfl).trans ((u96 239 5 rfl).trans w93))
                    have e121 : h116 239 7 = h 239 7 := ((u116 239 7 rfl).trans ((u96 239 7 rfl).trans ((u93 239 7 rfl).trans ((u73 239 7 rfl).trans ((u71 239 7 rfl).trans (u59 239 7 rfl))))))
                    have e122 : h116 239 15 = h 239 15 := ((u116 239 15 rfl).trans ((u96 239 15 rfl).trans ((u93 239 15 rfl).trans ((u73 239 15 rfl).trans ((u71 239 15 rfl).trans (u59 239 15 rfl))))))
                    have e123 : h116 239 16 = h 239 16 := ((u116 239 16 rfl).trans ((u96 239 16 rfl).trans ((u93 239 16 rfl).trans ((u73 239 16 rfl).trans ((u71 239 16 rfl).trans (u59 239 16 rfl))))))
                    have e124 : h116 239 17 = h 239 17 := ((u116 239 17 rfl).trans ((u96 239 17 rfl).trans ((u93 239 17 rfl).trans ((u73 239 17 rfl).trans ((u71 239 17 rfl).trans (u59 239 17 rfl))))))
                    have e125 : h116 239 18 = h 239 18 := ((u116 239 18 rfl).trans ((u96 239 18 rfl).trans ((u93 239 18 rfl).trans ((u73 239 18 rfl).trans ((u71 239 18 rfl).trans (u59 239 18 rfl))))))
                    have e126 : h116 236 9 = h96 236 9 := (u116 236 9 rfl)
                    exact k h116 g116 F117 (show (h116 236 8) = 0 ∨ 1 ≤ (h116 236 8) by omega) (show (h 236 4) ≤ (h116 236 4) by omega) (show (h116 236 4) ≤ (h 236 3) by omega) (show 1 ≤ (h116 236 8) ∨ ((h116 239 5) ≤ 9 ∧ 1 ≤ (h116 239 5) ∧ (h116 239 7) ≤ 3 ∧ (h116 239 15) ≤ 6 ∧ (h116 239 16) ≤ 6 ∧ (h116 239 17) ≤ 6 ∧ (h116 239 18) ≤ 6) by omega) (show (h116 236 8) ≠ 0 ∨ (h116 236 9) = -1 by omega) (by unfold tk_stm; (repeat (first | rw [if_pos (by omega)] | rw [if_neg (by omega)])); exact (by (try clear p59_3 p73_3 p73_4 p73_5 p96_3 p96_4); unfold tk_batch tk_once tk_wrd tk_num; (try dsimp only); (repeat (first | rw [if_pos (by omega)] | rw [if_neg (by omega)])); (repeat ((first | unfold tk_once | unfold tk_wrd | unfold tk_num); (try dsimp only); (repeat (first | rw [if_pos (by omega)] | rw [if_neg (by omega)])))); first | exact tk_ORe (by omega) (by omega) (by omega) | ((repeat' split) <;> (first | exact tk_ORe (by omega) (by omega) (by omega) | (exfalso; omega)))))
                  ·
                    have tkk116 := (p96_0.2.2.2.2.2.2.2.2.2).2.2
                    have tN117 := @tk_nx_b tB tn (tk_nx tB tn (tk_nx tB tn tp)) (by omega) (by omega)
                    have tN118 := @tk_nx_b tB tn (tk_nx tB tn (tk_nx tB tn (tk_nx tB tn tp))) (by omega) (by omega)
                    exfalso; omega
                  ·
                    exfalso; omega
                  ·
                    have tN116 := @tk_nx_b tB tn (tk_nx tB tn tp) (by omega) (by omega)
                    exfalso; omega
                  ·
                    have tN116 := @tk_nx_b tB tn (tk_nx tB tn tp) (by omega) (by omega)
                    exfalso; omega
              ·
                refine wr_pf2 (k0 := 236) (x := z60) (bl := 0) (bh := 1) (nx := 124) (r1 := 11) (r2 := 24) (r3 := 2) rfl (by decide) rfl ⟨rfl, rfl⟩ rfl (by omega) rfl g59 rfl (by omega) (fun h69 g69 w69 u69 => ?_)
                have F70 := F61.then rfl u69
                refine wi_aload_n (i := 0) (x := 236) (nx := 125) (r1 := 0) (r2 := 0) (r3 := 0) rfl rfl ?_
                refine wr_gr (k0 := 236) (x := 239) (nx := 128) (r1 := 11) (r2 := 14) (r3 := 0) rfl rfl (by decide) rfl ⟨rfl, rfl⟩ rfl ?_
                refine wi_iconst (n := 5) (nx := 129) (r1 := 0) (r2 := 0) (r3 := 0) rfl ?_
                refine wi_aload_n (i := 0) (x := 236) (nx := 130) (r1 := 0) (r2 := 0) (r3 := 0) rfl rfl ?_
                refine wi_iconst (n := 1) (nx := 131) (r1 := 0) (r2 := 0) (r3 := 0) rfl ?_
                refine wi_bipush (n := 9) (nx := 133) (r1 := 0) (r2 := 0) (r3 := 0) rfl (by decide) ?_
                refine wr_V (k0 := 236) (rest := [vi 5, .ref 239]) (as := [.ref 236, vi 1, vi 9]) (nx := 136) (r1 := 231) (r2 := 2) (r3 := 11) rfl rfl rfl (of_decide_eq_true rfl) rfl rfl (by decide) rfl rfl (of_decide_eq_true rfl) (of_decide_eq_true rfl) ?_
                have e72 : h69 236 4 = h59 236 4 := (u69 236 4 rfl)
                have e73 : h69 236 3 = h 236 3 := ((u69 236 3 rfl).trans (u59 236 3 rfl))
                have e74 : h69 236 8 = h59 236 8 := (u69 236 8 rfl)
                have e75 : h69 236 5 = h59 236 5 := (u69 236 5 rfl)
                have e76 : h69 236 6 = h59 236 6 := (u69 236 6 rfl)
                have e77 : h69 236 7 = h59 236 7 := (u69 236 7 rfl)
                have e78 : h69 236 12 = h59 236 12 := (u69 236 12 rfl)
                have rb80 := RefB.fr u59 rfl xq0
                have rb81 := RefB.fr u69 rfl rb80
                refine ct_231_236 hcr  g69 1 9 (by omega) (by omega) (show (h69 236 4) ≤ (h69 236 3) by omega) (show 0 ≤ tp by omega) (show tp ≤ tn by omega) (show tp ≤ tk_nx tB tn tp ∧ tk_nx tB tn tp ≤ tn by omega) (show 1 ≤ (h69 236 8) ∨ ((h69 236 4) = tk_nx tB tn tp ∧ (h69 236 5) = tk_st tB tn tp ∧ TKk tB tn tp ((h69 236 6)) ((h69 236 7)) ((h69 236 12))) from (Or.inl (by omega))) rb81 (fun h71 z79 g71 u71 (fz79 : 0 ≤ z79 ∧ z79 ≤ 999) (p71_0 : (1 ≤ (h69 236 8) ∧ (h71 236 8) = (h69 236 8) ∧ (h71 236 9) = (h69 236 9)) ∨ ((h69 236 8) = 0 ∧ tk_kd tB tn tp = 2 ∧ 1 ≤ tk_nb tB tn tp ∧ tk_nb tB tn tp ≤ 9 ∧ z79 = tk_nb tB tn tp ∧ (h71 236 8) = (h69 236 8) ∧ (h71 236 9) = (h69 236 9) ∧ ((h71 236 4) = tk_nx tB tn (tk_nx tB tn tp) ∧ (h71 236 5) = tk_st tB tn (tk_nx tB tn tp) ∧ TKk tB tn (tk_nx tB tn tp) ((h71 236 6)) ((h71 236 7)) ((h71 236 12)))) ∨ ((h69 236 8) = 0 ∧ tk_kd tB tn tp ≠ 2 ∧ (h71 236 8) = 1 ∧ (h71 236 9) = tk_st tB tn tp) ∨ ((h69 236 8) = 0 ∧ tk_kd tB tn tp = 2 ∧ (tk_nb tB tn tp < 1 ∨ 9 < tk_nb tB tn tp) ∧ (h71 236 8) = 2 ∧ (h71 236 9) = tk_st tB tn tp)) (p71_1 : (h69 236 4) ≤ (h71 236 4)) (p71_2 : (h71 236 4) ≤ (h69 236 3)) (p71_3 : 1 ≤ (h71 236 8) ∨ (h69 236 8) = 0) (p71_4 : 1 ≤ (h71 236 8) ∨ (1 ≤ z79 ∧ z79 ≤ 9)) (p71_5 : 1 ≤ (h71 236 8) ∨ (h69 236 6) = 2) => ?_)
                have F82 := F70.then (by decide +kernel) u71
                have e83 : h69 236 9 = h59 236 9 := (u69 236 9 rfl)
                have b84 := gi_b (lo := 0) (hi := 5) g71 236 8 rfl
                have b85 := gi_b (lo := -2147483648) (hi := 2147483647) g71 236 9 rfl
                have b86 := gi_b (lo := 0) (hi := 800) g71 236 4 rfl
                have b87 := gi_b (lo := 0) (hi := 800) g71 236 5 rfl
                have b88 := gi_b (lo := 0) (hi := 4) g71 236 6 rfl
                have b89 := gi_b (lo := 0) (hi := 999) g71 236 7 rfl
                have b90 := gi_b (lo := -9223372036854775808) (hi := 9223372036854775807) g71 236 12 rfl
                refine wk_i ?_
                rcases p71_0 with p71_0 | p71_0 | p71_0 | p71_0
                ·
                  refine wr_is (k0 := 239) (a := 5) (f := 5) (x := z79) (bl := 0) (bh := 999) (nx := 137) (r1 := 0) (r2 := 0) (r3 := 0) rfl (by decide) rfl (by omega) (by omega) (by decide) g71 rfl (by omega) (fun h91 g91 w91 u91 => ?_)
                  have F92 := F82.then rfl u91
                  refine wi_aload_n (i := 0) (x := 236) (nx := 138) (r1 := 0) (r2 := 0) (r3 := 0) rfl rfl ?_
                  refine wr_gr (k0 := 236) (x := 239) (nx := 141) (r1 := 11) (r2 := 14) (r3 := 0) rfl rfl (by decide) rfl ⟨rfl, rfl⟩ rfl ?_
                  refine wi_bipush (n := 6) (nx := 143) (r1 := 0) (r2 := 0) (r3 := 0) rfl (by decide) ?_
                  refine wi_aload_n (i := 0) (x := 236) (nx := 144) (r1 := 0) (r2 := 0) (r3 := 0) rfl rfl ?_
                  refine wi_ldc2_w (e := 17484005) (nx := 147) (r1 := 17484005) (r2 := 0) (r3 := 0) rfl (by decide) ?_
                  refine wi_iconst (n := 0) (nx := 148) (r1 := 0) (r2 := 0) (r3 := 0) rfl ?_
                  refine wi_bipush (n := 99) (nx := 150) (r1 := 0) (r2 := 0) (r3 := 0) rfl (by decide) ?_
                  have wk93 : tk_kd tB tn tp = 1 → (tk_sw tB tn tp = 17484005 ↔ tk_wd (tk_lw tB tn tp) = 9) := fun e => tk_wk 8 (by decide) (by omega) (by omega) e
                  refine wr_V (k0 := 236) (rest := [vi 6, .ref 239]) (as := [.ref 236, vl 17484005, vi 0, vi 99]) (nx := 153) (r1 := 228) (r2 := 3) (r3 := 11) rfl rfl rfl (of_decide_eq_true rfl) rfl rfl (by decide) rfl rfl (of_decide_eq_true rfl) (of_decide_eq_true rfl) ?_
                  have e95 : h91 236 4 = h71 236 4 := (u91 236 4 rfl)
                  have e96 : h91 236 3 = h 236 3 := ((u91 236 3 rfl).trans ((u71 236 3 rfl).trans ((u69 236 3 rfl).trans (u59 236 3 rfl))))
                  have e97 : h91 236 8 = h71 236 8 := (u91 236 8 rfl)
                  have e98 : h91 236 5 = h71 236 5 := (u91 236 5 rfl)
                  have e99 : h91 236 6 = h71 236 6 := (u91 236 6 rfl)
                  have e100 : h91 236 7 = h71 236 7 := (u91 236 7 rfl)
                  have e101 : h91 236 12 = h71 236 12 := (u91 236 12 rfl)
                  have rb103 := RefB.fr u71 rfl rb81
                  have rb104 := RefB.fr u91 rfl rb103
                  refine ct_228_236 hcr  g91 17484005 0 99 (by omega) (by omega) (by omega) (show (h91 236 4) ≤ (h91 236 3) by omega) (show 0 ≤ tp by omega) (show tp ≤ tn by omega) (show tp ≤ tk_nx tB tn tp ∧ tk_nx tB tn tp ≤ tn by omega) (show 1 ≤ (h91 236 8) ∨ ((h91 236 4) = tk_nx tB tn tp ∧ (h91 236 5) = tk_st tB tn tp ∧ TKk tB tn tp ((h91 236 6)) ((h91 236 7)) ((h91 236 12))) from (Or.inl (by omega))) rb104 (fun h94 z102 g94 u94 (fz102 : 0 ≤ z102 ∧ z102 ≤ 999) (p94_0 : (1 ≤ (h91 236 8) ∧ (h94 236 8) = (h91 236 8) ∧ (h94 236 9) = (h91 236 9)) ∨ ((h91 236 8) = 0 ∧ tk_kd tB tn tp = 1 ∧ tk_sw tB tn tp = 17484005 ∧ tk_kd tB tn (tk_nx tB tn tp) = 2 ∧ 0 ≤ tk_nb tB tn (tk_nx tB tn tp) ∧ tk_nb tB tn (tk_nx tB tn tp) ≤ 99 ∧ z102 = tk_nb tB tn (tk_nx tB tn tp) ∧ (h94 236 8) = (h91 236 8) ∧ (h94 236 9) = (h91 236 9) ∧ ((h94 236 4) = tk_nx tB tn (tk_nx tB tn (tk_nx tB tn tp)) ∧ (h94 236 5) = tk_st tB tn (tk_nx tB tn (tk_nx tB tn tp)) ∧ TKk tB tn (tk_nx tB tn (tk_nx tB tn tp)) ((h94 236 6)) ((h94 236 7)) ((h94 236 12)))) ∨ ((h91 236 8) = 0 ∧ (tk_kd tB tn tp ≠ 1 ∨ tk_sw tB tn tp ≠ 17484005) ∧ (h94 236 8) = 1 ∧ (h94 236 9) = tk_st tB tn tp) ∨ ((h91 236 8) = 0 ∧ tk_kd tB tn tp = 1 ∧ tk_sw tB tn tp = 17484005 ∧ tk_kd tB tn (tk_nx tB tn tp) ≠ 2 ∧ (h94 236 8) = 1 ∧ (h94 236 9) = tk_st tB tn (tk_nx tB tn tp)) ∨ ((h91 236 8) = 0 ∧ tk_kd tB tn tp = 1 ∧ tk_sw tB tn tp = 17484005 ∧ tk_kd tB tn (tk_nx tB tn tp) = 2 ∧ (tk_nb tB tn (tk_nx tB tn tp) < 0 ∨ 99 < tk_nb tB tn (tk_nx tB tn tp)) ∧ (h94 236 8) = 2 ∧ (h94 236 9) = tk_st tB tn (tk_nx tB tn tp))) (p94_1 : (h91 236 4) ≤ (h94 236 4)) (p94_2 : (h94 236 4) ≤ (h91 236 3)) (p94_3 : 1 ≤ (h94 236 8) ∨ (h91 236 8) = 0) (p94_4 : 1 ≤ (h94 236 8) ∨ (0 ≤ z102 ∧ z102 ≤ 99)) => ?_)
                  have F105 := F92.then (by decide +kernel) u94
                  have e106 : h91 236 9 = h71 236 9 := (u91 236 9 rfl)
                  have b107 := gi_b (lo := 0) (hi := 5) g94 236 8 rfl
                  have b108 := gi_b (lo := -2147483648) (hi := 2147483647) g94 236 9 rfl
                  have b109 := gi_b (lo := 0) (hi := 800) g94 236 4 rfl
                  have b110 := gi_b (lo := 0) (hi := 800) g94 236 5 rfl
                  have b111 := gi_b (lo := 0) (hi := 4) g94 236 6 rfl
                  have b112 := gi_b (lo := 0) (hi := 999) g94 236 7 rfl
                  have b113 := gi_b (lo := -9223372036854775808) (hi := 9223372036854775807) g94 236 12 rfl
                  refine wk_i ?_
                  rcases p94_0 with p94_0 | p94_0 | p94_0 | p94_0 | p94_0
                  ·
                    refine wr_is (k0 := 239) (a := 6) (f := 6) (x := z102) (bl := 0) (bh := 999) (nx := 154) (r1 := 0) (r2 := 0) (r3 := 0) rfl (by decide) rfl (by omega) (by omega) (by decide) g94 rfl (by omega) (fun h114 g114 w114 u114 => ?_)
                    have F115 := F105.then rfl u114
                    refine wi_goto (nx := 157) (r1 := 256) (r2 := 0) (r3 := 0) rfl ?_
                    refine wi_return (nx := 257) (r1 := 0) (r2 := 0) (r3 := 0) rfl rfl ?_
                    have e116 : h114 236 8 = h94 236 8 := (u114 236 8 rfl)
                    have e117 : h114 236 4 = h94 236 4 := (u114 236 4 rfl)
                    have e118 : h114 239 5 = z79 := ((u114 239 5 rfl).trans ((u94 239 5 rfl).trans w91))
                    have e119 : h114 239 7 = h 239 7 := ((u114 239 7 rfl).trans ((u94 239 7 rfl).trans ((u91 239 7 rfl).trans ((u71 239 7 rfl).trans ((u69 239 7 rfl).trans (u59 239 7 rfl))))))
                    have e120 : h114 239 15 = h 239 15 := ((u114 239 15 rfl).trans ((u94 239 15 rfl).trans ((u91 239 15 rfl).trans ((u71 239 15 rfl).trans ((u69 239 15 rfl).trans (u59 239 15 rfl))))))
                    have e121 : h114 239 16 = h 239 16 := ((u114 239 16 rfl).trans ((u94 239 16 rfl).trans ((u91 239 16 rfl).trans ((u71 239 16 rfl).trans ((u69 239 16 rfl).trans (u59 239 16 rfl))))))
                    have e122 : h114 239 17 = h 239 17 := ((u114 239 17 rfl).trans ((u94 239 17 rfl).trans ((u91 239 17 rfl).trans ((u71 239 17 rfl).trans ((u69 239 17 rfl).trans (u59 239 17 rfl))))))
                    have e123 : h114 239 18 = h 239 18 := ((u114 239 18 rfl).trans ((u94 239 18 rfl).trans ((u91 239 18 rfl).trans ((u71 239 18 rfl).trans ((u69 239 18 rfl).trans (u59 239 18 rfl))))))
                    have e124 : h114 236 9 = h94 236 9 := (u114 236 9 rfl)
                    exact k h114 g114 F115 (show (h114 236 8) = 0 ∨ 1 ≤ (h114 236 8) by omega) (show (h 236 4) ≤ (h114 236 4) by omega) (show (h114 236 4) ≤ (h 236 3) by omega) (show 1 ≤ (h114 236 8) ∨ ((h114 239 5) ≤ 9 ∧ 1 ≤ (h114 239 5) ∧ (h114 239 7) ≤ 3 ∧ (h114 239 15) ≤ 6 ∧ (h114 239 16) ≤ 6 ∧ (h114 239 17) ≤ 6 ∧ (h114 239 18) ≤ 6) by omega) (show (h114 236 8) ≠ 0 ∨ (h114 236 9) = -1 by omega) (by unfold tk_stm; (repeat (first | rw [if_pos (by omega)] | rw [if_neg (by omega)])); exact (by (try clear p59_3 p71_3 p71_4 p71_5 p94_3 p94_4); unfold tk_batch tk_once tk_wrd tk_num; (try dsimp only); (repeat (first | rw [if_pos (by omega)] | rw [if_neg (by omega)])); (repeat ((first | unfold tk_once | unfold tk_wrd | unfold tk_num); (try dsimp only); (repeat (first | rw [if_pos (by omega)] | rw [if_neg (by omega)])))); first | exact tk_ORe (by omega) (by omega) (by omega) | ((repeat' split) <;> (first | exact tk_ORe (by omega) (by omega) (by omega) | (exfalso; omega)))))
                  ·
                    have tkk114 := (p94_0.2.2.2.2.2.2.2.2.2).2.2
                    have tN115 := @tk_nx_b tB tn (tk_nx tB tn tp) (by omega) (by omega)
                    have tN116 := @tk_nx_b tB tn (tk_nx tB tn (tk_nx tB tn tp)) (by omega) (by omega)
                    exfalso; omega
                  ·
                    exfalso; omega
                  ·
                    have tN114 := @tk_nx_b tB tn tp (by omega) (by omega)
                    exfalso; omega
                  ·
                    have tN114 := @tk_nx_b tB tn tp (by omega) (by omega)
                    exfalso; omega
                ·
                  have tkk91 := (p71_0.2.2.2.2.2.2.2).2.2
                  have tN92 := @tk_nx_b tB tn (tk_nx tB tn tp) (by omega) (by omega)
                  exfalso; omega
                ·
                  exfalso; omega
                ·
                  exfalso; omega
          ·
            try have wk48 : tk_wd (tk_lw tB tn tp) = 7 := (tk_wk (B := tB) (n := tn) (p := tp) 6 (by decide) (by omega) (by omega) (by omega)).mp (by show tk_sw tB tn tp = 781652471; omega)
            refine wi_iconst (n := 1) (nx := 25) (r1 := 0) (r2 := 0) (r3 := 0) rfl ?_
            refine wi_goto (nx := 28) (r1 := 29) (r2 := 0) (r3 := 0) rfl ?_
            refine wi_zreturn (nx := 30) (r1 := 0) (r2 := 0) (r3 := 0) rfl rfl (by omega) ?_
            refine wk_i ?_
            refine wi_if (cd := .eq) (nx := 61) (r1 := 102) (r2 := 0) (r3 := 0) rfl (by omega) (fun (q49 : 1 = 0) => by exfalso; omega) (fun (q49 : ¬ (1 = 0)) => ?_)
            refine wi_aload_n (i := 0) (x := 236) (nx := 62) (r1 := 0) (r2 := 0) (r3 := 0) rfl rfl ?_
            refine wi_aload_n (i := 0) (x := 236) (nx := 63) (r1 := 0) (r2 := 0) (r3 := 0) rfl rfl ?_
            refine wi_aload_n (i := 0) (x := 236) (nx := 64) (r1 := 0) (r2 := 0) (r3 := 0) rfl rfl ?_
            have b50 := gi_b (lo := 0) (hi := 1) g 236 23 rfl
            refine wr_gi2 (k0 := 236) (x := h 236 23) (nx := 67) (r1 := 11) (r2 := 23) (r3 := 0) rfl rfl (by decide) rfl ⟨rfl, rfl⟩ rfl rfl ?_
            refine wr_V (k0 := 236) (rest := [.ref 236]) (as := [.ref 236, vi (h 236 23)]) (nx := 70) (r1 := 234) (r2 := 1) (r3 := 11) rfl rfl rfl (of_decide_eq_true rfl) rfl rfl (by decide) rfl rfl (of_decide_eq_true rfl) (of_decide_eq_true rfl) ?_
            refine ct_234_236 hcr  g (h 236 23) (by omega) (show (h 236 4) ≤ (h 236 3) by omega) (show 0 ≤ tp by omega) (show tp ≤ tn by omega) (show tp ≤ tk_nx tB tn tp ∧ tk_nx tB tn tp ≤ tn by omega) (show 1 ≤ (h 236 8) ∨ ((h 236 4) = tk_nx tB tn tp ∧ (h 236 5) = tk_st tB tn tp ∧ TKk tB tn tp ((h 236 6)) ((h 236 7)) ((h 236 12))) from (Or.inr (show ((h 236 4) = tk_nx tB tn tp ∧ (h 236 5) = tk_st tB tn tp ∧ TKk tB tn tp ((h 236 6)) ((h 236 7)) ((h 236 12))) by first | assumption | exact ⟨by omega, by omega, TKk.mv (by assumption) (by omega) (by omega) (by omega)⟩))) (show tk_kd tB tn tp = 1 by omega) xq0 (fun h51 z52 g51 u51 (fz52 : 1 ≤ z52 ∧ z52 ≤ 1) (p51_0 : (1 ≤ (h 236 8) ∧ (h51 236 8) = (h 236 8) ∧ (h51 236 9) = (h 236 9)) ∨ ((h 236 8) = 0 ∧ (h 236 23) = 0 ∧ (h51 236 8) = (h 236 8) ∧ (h51 236 9) = (h 236 9) ∧ ((h51 236 4) = tk_nx tB tn (tk_nx tB tn tp) ∧ (h51 236 5) = tk_st tB tn (tk_nx tB tn tp) ∧ TKk tB tn (tk_nx tB tn tp) ((h51 236 6)) ((h51 236 7)) ((h51 236 12)))) ∨ ((h 236 8) = 0 ∧ (h 236 23) = 1 ∧ (h51 236 8) = 3 ∧ (h51 236 9) = tk_st tB tn tp)) (p51_1 : (h 236 4) ≤ (h51 236 4)) (p51_2 : (h51 236 4) ≤ (h 236 3)) (p51_3 : 1 ≤ (h51 236 8) ∨ (h 236 8) = 0) (p51_4 : z52 = 1) => ?_)
            have F53 := F0.then (by decide +kernel) u51
            have b54 := gi_b (lo := 0) (hi := 5) g51 236 8 rfl
            have b55 := gi_b (lo := -2147483648) (hi := 2147483647) g51 236 9 rfl
            have b56 := gi_b (lo := 0) (hi := 800) g51 236 4 rfl
            have b57 := gi_b (lo := 0) (hi := 800) g51 236 5 rfl
            have b58 := gi_b (lo := 0) (hi := 4) g51 236 6 rfl
            have b59 := gi_b (lo := 0) (hi := 999) g51 236 7 rfl
            have b60 := gi_b (lo := -9223372036854775808) (hi := 9223372036854775807) g51 236 12 rfl
            refine wk_i ?_
            rcases p51_0 with p51_0 | p51_0 | p51_0
            ·
              exfalso; omega
            ·
              have tkk61 := (p51_0.2.2.2.2).2.2
              have tN62 := @tk_nx_b tB tn (tk_nx tB tn tp) (by omega) (by omega)
              refine wr_pf2 (k0 := 236) (x := z52) (bl := 0) (bh := 1) (nx := 73) (r1 := 11) (r2 := 23) (r3 := 2) rfl (by decide) rfl ⟨rfl, rfl⟩ rfl (by omega) rfl g51 rfl (by omega) (fun h63 g63 w63 u63 => ?_)
              have F64 := F53.then rfl u63
              refine wi_aload_n (i := 0) (x := 236) (nx := 74) (r1 := 0) (r2 := 0) (r3 := 0) rfl rfl ?_
              refine wr_gr (k0 := 236) (x := 239) (nx := 77) (r1 := 11) (r2 := 14) (r3 := 0) rfl rfl (by decide) rfl ⟨rfl, rfl⟩ rfl ?_
              refine wi_iconst (n := 3) (nx := 78) (r1 := 0) (r2 := 0) (r3 := 0) rfl ?_
              refine wi_aload_n (i := 0) (x := 236) (nx := 79) (r1 := 0) (r2 := 0) (r3 := 0) rfl rfl ?_
              refine wi_iconst (n := 0) (nx := 80) (r1 := 0) (r2 := 0) (r3 := 0) rfl ?_
              refine wi_bipush (n := 11) (nx := 82) (r1 := 0) (r2 := 0) (r3 := 0) rfl (by decide) ?_
              refine wr_V (k0 := 236) (rest := [vi 3, .ref 239]) (as := [.ref 236, vi 0, vi 11]) (nx := 85) (r1 := 231) (r2 := 2) (r3 := 11) rfl rfl rfl (of_decide_eq_true rfl) rfl rfl (by decide) rfl rfl (of_decide_eq_true rfl) (of_decide_eq_true rfl) ?_
              have e66 : h63 236 4 = h51 236 4 := (u63 236 4 rfl)
              have e67 : h63 236 3 = h 236 3 := ((u63 236 3 rfl).trans (u51 236 3 rfl))
              have e68 : h63 236 8 = h51 236 8 := (u63 236 8 rfl)
              have e69 : h63 236 5 = h51 236 5 := (u63 236 5 rfl)
              have e70 : h63 236 6 = h51 236 6 := (u63 236 6 rfl)
              have e71 : h63 236 7 = h51 236 7 := (u63 236 7 rfl)
              have e72 : h63 236 12 = h51 236 12 := (u63 236 12 rfl)
              have rb74 := RefB.fr u51 rfl xq0
              have rb75 := RefB.fr u63 rfl rb74
              refine ct_231_236 hcr  g63 0 11 (by omega) (by omega) (show (h63 236 4) ≤ (h63 236 3) by omega) (show 0 ≤ (tk_nx tB tn tp) by omega) (show (tk_nx tB tn tp) ≤ tn by omega) (show (tk_nx tB tn tp) ≤ tk_nx tB tn (tk_nx tB tn tp) ∧ tk_nx tB tn (tk_nx tB tn tp) ≤ tn by omega) (show 1 ≤ (h63 236 8) ∨ ((h63 236 4) = tk_nx tB tn (tk_nx tB tn tp) ∧ (h63 236 5) = tk_st tB tn (tk_nx tB tn tp) ∧ TKk tB tn (tk_nx tB tn tp) ((h63 236 6)) ((h63 236 7)) ((h63 236 12))) from (Or.inr (show ((h63 236 4) = tk_nx tB tn (tk_nx tB tn tp) ∧ (h63 236 5) = tk_st tB tn (tk_nx tB tn tp) ∧ TKk tB tn (tk_nx tB tn tp) ((h63 236 6)) ((h63 236 7)) ((h63 236 12))) by first | assumption | exact ⟨by omega, by omega, TKk.mv (by assumption) (by omega) (by omega) (by omega)⟩))) rb75 (fun h65 z73 g65 u65 (fz73 : 0 ≤ z73 ∧ z73 ≤ 999) (p65_0 : (1 ≤ (h63 236 8) ∧ (h65 236 8) = (h63 236 8) ∧ (h65 236 9) = (h63 236 9)) ∨ ((h63 236 8) = 0 ∧ tk_kd tB tn (tk_nx tB tn tp) = 2 ∧ 0 ≤ tk_nb tB tn (tk_nx tB tn tp) ∧ tk_nb tB tn (tk_nx tB tn tp) ≤ 11 ∧ z73 = tk_nb tB tn (tk_nx tB tn tp) ∧ (h65 236 8) = (h63 236 8) ∧ (h65 236 9) = (h63 236 9) ∧ ((h65 236 4) = tk_nx tB tn (tk_nx tB tn (tk_nx tB tn tp)) ∧ (h65 236 5) = tk_st tB tn (tk_nx tB tn (tk_nx tB tn tp)) ∧ TKk tB tn (tk_nx tB tn (tk_nx tB tn tp)) ((h65 236 6)) ((h65 236 7)) ((h65 236 12)))) ∨ ((h63 236 8) = 0 ∧ tk_kd tB tn (tk_nx tB tn tp) ≠ 2 ∧ (h65 236 8) = 1 ∧ (h65 236 9) = tk_st tB tn (tk_nx tB tn tp)) ∨ ((h63 236 8) = 0 ∧ tk_kd tB tn (tk_nx tB tn tp) = 2 ∧ (tk_nb tB tn (tk_nx tB tn tp) < 0 ∨ 11 < tk_nb tB tn (tk_nx tB tn tp)) ∧ (h65 236 8) = 2 ∧ (h65 236 9) = tk_st tB tn (tk_nx tB tn tp))) (p65_1 : (h63 236 4) ≤ (h65 236 4)) (p65_2 : (h65 236 4) ≤ (h63 236 3)) (p65_3 : 1 ≤ (h65 236 8) ∨ (h63 236 8) = 0) (p65_4 : 1 ≤ (h65 236 8) ∨ (0 ≤ z73 ∧ z73 ≤ 11)) (p65_5 : 1 ≤ (h65 236 8) ∨ (h63 236 6) = 2) => ?_)
              have F76 := F64.then (by decide +kernel) u65
              have e77 : h63 236 9 = h51 236 9 := (u63 236 9 rfl)
              have b78 := gi_b (lo := 0) (hi := 5) g65 236 8 rfl
              have b79 := gi_b (lo := -2147483648) (hi := 2147483647) g65 236 9 rfl
              have b80 := gi_b (lo := 0) (hi := 800) g65 236 4 rfl
              have b81 := gi_b (lo := 0) (hi := 800) g65 236 5 rfl
              have b82 := gi_b (lo := 0) (hi := 4) g65 236 6 rfl
              have b83 := gi_b (lo := 0) (hi := 999) g65 236 7 rfl
              have b84 := gi_b (lo := -9223372036854775808) (hi := 9223372036854775807) g65 236 12 rfl
              refine wk_i ?_
              rcases p65_0 with p65_0 | p65_0 | p65_0 | p65_0
              ·
                exfalso; omega
              ·
                have tkk85 := (p65_0.2.2.2.2.2.2.2).2.2
                have tN86 := @tk_nx_b tB tn (tk_nx tB tn (tk_nx tB tn tp)) (by omega) (by omega)
                refine wr_is (k0 := 239) (a := 3) (f := 3) (x := z73) (bl := 0) (bh := 999) (nx := 86) (r1 := 0) (r2 := 0) (r3 := 0) rfl (by decide) rfl (by omega) (by omega) (by decide) g65 rfl (by omega) (fun h87 g87 w87 u87 => ?_)
                have F88 := F76.then rfl u87
                refine wi_aload_n (i := 0) (x := 236) (nx := 87) (r1 := 0) (r2 := 0) (r3 := 0) rfl rfl ?_
                refine wr_gr (k0 := 236) (x := 239) (nx := 90) (r1 := 11) (r2 := 14) (r3 := 0) rfl rfl (by decide) rfl ⟨rfl, rfl⟩ rfl ?_
                refine wi_iconst (n := 4) (nx := 91) (r1 := 0) (r2 := 0) (r3 := 0) rfl ?_
                refine wi_aload_n (i := 0) (x := 236) (nx := 92) (r1 := 0) (r2 := 0) (r3 := 0) rfl rfl ?_
                refine wi_iconst (n := 0) (nx := 93) (r1 := 0) (r2 := 0) (r3 := 0) rfl ?_
                refine wi_bipush (n := 11) (nx := 95) (r1 := 0) (r2 := 0) (r3 := 0) rfl (by decide) ?_
                refine wr_V (k0 := 236) (rest := [vi 4, .ref 239]) (as := [.ref 236, vi 0, vi 11]) (nx := 98) (r1 := 231) (r2 := 2) (r3 := 11) rfl rfl rfl (of_decide_eq_true rfl) rfl rfl (by decide) rfl rfl (of_decide_eq_true rfl) (of_decide_eq_true rfl) ?_
                have e90 : h87 236 4 = h65 236 4 := (u87 236 4 rfl)
                have e91 : h87 236 3 = h 236 3 := ((u87 236 3 rfl).trans ((u65 236 3 rfl).trans ((u63 236 3 rfl).trans (u51 236 3 rfl))))
                have e92 : h87 236 8 = h65 236 8 := (u87 236 8 rfl)
                have e93 : h87 236 5 = h65 236 5 := (u87 236 5 rfl)
                have e94 : h87 236 6 = h65 236 6 := (u87 236 6 rfl)
                have e95 : h87 236 7 = h65 236 7 := (u87 236 7 rfl)
                have e96 : h87 236 12 = h65 236 12 := (u87 236 12 rfl)
                have rb98 := RefB.fr u65 rfl rb75
                have rb99 := RefB.fr u87 rfl rb98
                refine ct_231_236 hcr  g87 0 11 (by omega) (by omega) (show (h87 236 4) ≤ (h87 236 3) by omega) (show 0 ≤ (tk_nx tB tn (tk_nx tB tn tp)) by omega) (show (tk_nx tB tn (tk_nx tB tn tp)) ≤ tn by omega) (show (tk_nx tB tn (tk_nx tB tn tp)) ≤ tk_nx tB tn (tk_nx tB tn (tk_nx tB tn tp)) ∧ tk_nx tB tn (tk_nx tB tn (tk_nx tB tn tp)) ≤ tn by omega) (show 1 ≤ (h87 236 8) ∨ ((h87 236 4) = tk_nx tB tn (tk_nx tB tn (tk_nx tB tn tp)) ∧ (h87 236 5) = tk_st tB tn (tk_nx tB tn (tk_nx tB tn tp)) ∧ TKk tB tn (tk_nx tB tn (tk_nx tB tn tp)) ((h87 236 6)) ((h87 236 7)) ((h87 236 12))) from (Or.inr (show ((h87 236 4) = tk_nx tB tn (tk_nx tB tn (tk_nx tB tn tp)) ∧ (h87 236 5) = tk_st tB tn (tk_nx tB tn (tk_nx tB tn tp)) ∧ TKk tB tn (tk_nx tB tn (tk_nx tB tn tp)) ((h87 236 6)) ((h87 236 7)) ((h87 236 12))) by first | assumption | exact ⟨by omega, by omega, TKk.mv (by assumption) (by omega) (by omega) (by omega)⟩))) rb99 (fun h89 z97 g89 u89 (fz97 : 0 ≤ z97 ∧ z97 ≤ 999) (p89_0 : (1 ≤ (h87 236 8) ∧ (h89 236 8) = (h87 236 8) ∧ (h89 236 9) = (h87 236 9)) ∨ ((h87 236 8) = 0 ∧ tk_kd tB tn (tk_nx tB tn (tk_nx tB tn tp)) = 2 ∧ 0 ≤ tk_nb tB tn (tk_nx tB tn (tk_nx tB tn tp)) ∧ tk_nb tB tn (tk_nx tB tn (tk_nx tB tn tp)) ≤ 11 ∧ z97 = tk_nb tB tn (tk_nx tB tn (tk_nx tB tn tp)) ∧ (h89 236 8) = (h87 236 8) ∧ (h89 236 9) = (h87 236 9) ∧ ((h89 236 4) = tk_nx tB tn (tk_nx tB tn (tk_nx tB tn (tk_nx tB tn tp))) ∧ (h89 236 5) = tk_st tB tn (tk_nx tB tn (tk_nx tB tn (tk_nx tB tn tp))) ∧ TKk tB tn (tk_nx tB tn (tk_nx tB tn (tk_nx tB tn tp))) ((h89 236 6)) ((h89 236 7)) ((h89 236 12)))) ∨ ((h87 236 8) = 0 ∧ tk_kd tB tn (tk_nx tB tn (tk_nx tB tn tp)) ≠ 2 ∧ (h89 236 8) = 1 ∧ (h89 236 9) = tk_st tB tn (tk_nx tB tn (tk_nx tB tn tp))) ∨ ((h87 236 8) = 0 ∧ tk_kd tB tn (tk_nx tB tn (tk_nx tB tn tp)) = 2 ∧ (tk_nb tB tn (tk_nx tB tn (tk_nx tB tn tp)) < 0 ∨ 11 < tk_nb tB tn (tk_nx tB tn (tk_nx tB tn tp))) ∧ (h89 236 8) = 2 ∧ (h89 236 9) = tk_st tB tn (tk_nx tB tn (tk_nx tB tn tp)))) (p89_1 : (h87 236 4) ≤ (h89 236 4)) (p89_2 : (h89 236 4) ≤ (h87 236 3)) (p89_3 : 1 ≤ (h89 236 8) ∨ (h87 236 8) = 0) (p89_4 : 1 ≤ (h89 236 8) ∨ (0 ≤ z97 ∧ z97 ≤ 11)) (p89_5 : 1 ≤ (h89 236 8) ∨ (h87 236 6) = 2) => ?_)
                have F100 := F88.then (by decide +kernel) u89
                have e101 : h87 236 9 = h65 236 9 := (u87 236 9 rfl)
                have b102 := gi_b (lo := 0) (hi := 5) g89 236 8 rfl
                have b103 := gi_b (lo := -2147483648) (hi := 2147483647) g89 236 9 rfl
                have b104 := gi_b (lo := 0) (hi := 800) g89 236 4 rfl
                have b105 := gi_b (lo := 0) (hi := 800) g89 236 5 rfl
                have b106 := gi_b (lo := 0) (hi := 4) g89 236 6 rfl
                have b107 := gi_b (lo := 0) (hi := 999) g89 236 7 rfl
                have b108 := gi_b (lo := -9223372036854775808) (hi := 9223372036854775807) g89 236 12 rfl
                refine wk_i ?_
                rcases p89_0 with p89_0 | p89_0 | p89_0 | p89_0
                ·
                  exfalso; omega
                ·
                  have tkk109 := (p89_0.2.2.2.2.2.2.2).2.2
                  have tN110 := @tk_nx_b tB tn (tk_nx tB tn (tk_nx tB tn (tk_nx tB tn tp))) (by omega) (by omega)
                  refine wr_is (k0 := 239) (a := 4) (f := 4) (x := z97) (bl := 0) (bh := 999) (nx := 99) (r1 := 0) (r2 := 0) (r3 := 0) rfl (by decide) rfl (by omega) (by omega) (by decide) g89 rfl (by omega) (fun h111 g111 w111 u111 => ?_)
                  have F112 := F100.then rfl u111
                  refine wi_goto (nx := 102) (r1 := 256) (r2 := 0) (r3 := 0) rfl ?_
                  refine wi_return (nx := 257) (r1 := 0) (r2 := 0) (r3 := 0) rfl rfl ?_
                  have e113 : h111 236 8 = h89 236 8 := (u111 236 8 rfl)
                  have e114 : h111 236 4 = h89 236 4 := (u111 236 4 rfl)
                  have e115 : h111 239 5 = h 239 5 := ((u111 239 5 rfl).trans ((u89 239 5 rfl).trans ((u87 239 5 rfl).trans ((u65 239 5 rfl).trans ((u63 239 5 rfl).trans (u51 239 5 rfl))))))
                  have e116 : h111 239 7 = h 239 7 := ((u111 239 7 rfl).trans ((u89 239 7 rfl).trans ((u87 239 7 rfl).trans ((u65 239 7 rfl).trans ((u63 239 7 rfl).trans (u51 239 7 rfl))))))
                  have e117 : h111 239 15 = h 239 15 := ((u111 239 15 rfl).trans ((u89 239 15 rfl).trans ((u87 239 15 rfl).trans ((u65 239 15 rfl).trans ((u63 239 15 rfl).trans (u51 239 15 rfl))))))
                  have e118 : h111 239 16 = h 239 16 := ((u111 239 16 rfl).trans ((u89 239 16 rfl).trans ((u87 239 16 rfl).trans ((u65 239 16 rfl).trans ((u63 239 16 rfl).trans (u51 239 16 rfl))))))
                  have e119 : h111 239 17 = h 239 17 := ((u111 239 17 rfl).trans ((u89 239 17 rfl).trans ((u87 239 17 rfl).trans ((u65 239 17 rfl).trans ((u63 239 17 rfl).trans (u51 239 17 rfl))))))
                  have e120 : h111 239 18 = h 239 18 := ((u111 239 18 rfl).trans ((u89 239 18 rfl).trans ((u87 239 18 rfl).trans ((u65 239 18 rfl).trans ((u63 239 18 rfl).trans (u51 239 18 rfl))))))
                  have e121 : h111 236 9 = h89 236 9 := (u111 236 9 rfl)
                  have e122 : h111 239 0 = h 239 0 := ((u111 239 0 rfl).trans ((u89 239 0 rfl).trans ((u87 239 0 rfl).trans ((u65 239 0 rfl).trans ((u63 239 0 rfl).trans (u51 239 0 rfl))))))
                  have e123 : h111 239 1 = h 239 1 := ((u111 239 1 rfl).trans ((u89 239 1 rfl).trans ((u87 239 1 rfl).trans ((u65 239 1 rfl).trans ((u63 239 1 rfl).trans (u51 239 1 rfl))))))
                  have e124 : h111 239 2 = h 239 2 := ((u111 239 2 rfl).trans ((u89 239 2 rfl).trans ((u87 239 2 rfl).trans ((u65 239 2 rfl).trans ((u63 239 2 rfl).trans (u51 239 2 rfl))))))
                  have e125 : h111 239 3 = z73 := ((u111 239 3 rfl).trans ((u89 239 3 rfl).trans w87))
                  have e126 : h111 239 4 = z97 := w111
                  have b127 := gi_b (lo := 0) (hi := 999) g 239 6 rfl
                  have e128 : h111 239 6 = h 239 6 := ((u111 239 6 rfl).trans ((u89 239 6 rfl).trans ((u87 239 6 rfl).trans ((u65 239 6 rfl).trans ((u63 239 6 rfl).trans (u51 239 6 rfl))))))
                  have b129 := gi_b (lo := 0) (hi := 999) g 239 8 rfl
                  have e130 : h111 239 8 = h 239 8 := ((u111 239 8 rfl).trans ((u89 239 8 rfl).trans ((u87 239 8 rfl).trans ((u65 239 8 rfl).trans ((u63 239 8 rfl).trans (u51 239 8 rfl))))))
                  have b131 := gi_b (lo := 0) (hi := 999) g 239 9 rfl
                  have e132 : h111 239 9 = h 239 9 := ((u111 239 9 rfl).trans ((u89 239 9 rfl).trans ((u87 239 9 rfl).trans ((u65 239 9 rfl).trans ((u63 239 9 rfl).trans (u51 239 9 rfl))))))
                  have e133 : h111 236 23 = z52 := ((u111 236 23 rfl).trans ((u89 236 23 rfl).trans ((u87 236 23 rfl).trans ((u65 236 23 rfl).trans w63))))
                  have b134 := gi_b (lo := 0) (hi := 1) g 236 24 rfl
                  have e135 : h111 236 24 = h 236 24 := ((u111 236 24 rfl).trans ((u89 236 24 rfl).trans ((u87 236 24 rfl).trans ((u65 236 24 rfl).trans ((u63 236 24 rfl).trans (u51 236 24 rfl))))))
                  have b136 := gi_b (lo := 0) (hi := 1) g 236 25 rfl
                  have e137 : h111 236 25 = h 236 25 := ((u111 236 25 rfl).trans ((u89 236 25 rfl).trans ((u87 236 25 rfl).trans ((u65 236 25 rfl).trans ((u63 236 25 rfl).trans (u51 236 25 rfl))))))
                  have b138 := gi_b (lo := 0) (hi := 1) g 236 26 rfl
                  have e139 : h111 236 26 = h 236 26 := ((u111 236 26 rfl).trans ((u89 236 26 rfl).trans ((u87 236 26 rfl).trans ((u65 236 26 rfl).trans ((u63 236 26 rfl).trans (u51 236 26 rfl))))))
                  have e140 : h111 236 5 = h89 236 5 := (u111 236 5 rfl)
                  have e141 : h111 236 6 = h89 236 6 := (u111 236 6 rfl)
                  have e142 : h111 236 7 = h89 236 7 := (u111 236 7 rfl)
                  have e143 : h111 236 12 = h89 236 12 := (u111 236 12 rfl)
                  exact k h111 g111 F112 (show (h111 236 8) = 0 ∨ 1 ≤ (h111 236 8) by omega) (show (h 236 4) ≤ (h111 236 4) by omega) (show (h111 236 4) ≤ (h 236 3) by omega) (show 1 ≤ (h111 236 8) ∨ ((h111 239 5) ≤ 9 ∧ 1 ≤ (h111 239 5) ∧ (h111 239 7) ≤ 3 ∧ (h111 239 15) ≤ 6 ∧ (h111 239 16) ≤ 6 ∧ (h111 239 17) ≤ 6 ∧ (h111 239 18) ≤ 6) by omega) (show (h111 236 8) ≠ 0 ∨ (h111 236 9) = -1 by omega) (by unfold tk_stm; (repeat (first | rw [if_pos (by omega)] | rw [if_neg (by omega)])); exact (by (try clear p51_3 p65_3 p65_4 p65_5 p89_3 p89_4 p89_5); unfold tk_window tk_once tk_num; (try dsimp only); (repeat (first | rw [if_pos (by omega)] | rw [if_neg (by omega)])); (repeat ((first | unfold tk_once | unfold tk_num); (try dsimp only); (repeat (first | rw [if_pos (by omega)] | rw [if_neg (by omega)])))); exact tk_ORs (by omega) (by first | assumption | exact ⟨by omega, by omega, TKk.mv (by assumption) (by omega) (by omega) (by omega)⟩) (CVr.flag xq1 (fun j _ _ _ _ _ _ _ _ _ _ _ => by unfold tk_u; (repeat (first | rw [if_pos (by omega)] | rw [if_neg (by omega)]))) (fun i e => by rcases e with e | e; · exact ((u111 239 i (fn_i (by omega) fn_0)).trans ((u89 239 i (fo_nk rfl)).trans ((u87 239 i (fn_i (by omega) fn_0)).trans ((u65 239 i (fo_nk rfl)).trans ((u63 239 i (fn_a (by omega) fn_0)).trans (u51 239 i (fo_nk rfl))))))); · exact ((u111 239 i (fn_i (by omega) fn_0)).trans ((u89 239 i (fo_nk rfl)).trans ((u87 239 i (fn_i (by omega) fn_0)).trans ((u65 239 i (fo_nk rfl)).trans ((u63 239 i (fn_a (by omega) fn_0)).trans (u51 239 i (fo_nk rfl)))))))) ⟨(by (repeat unfold tk_u); (repeat (first | rw [if_pos (by omega)] | rw [if_neg (by omega)])); all_goals omega), (by (repeat unfold tk_u); (repeat (first | rw [if_pos (by omega)] | rw [if_neg (by omega)])); all_goals omega), (by (repeat unfold tk_u); (repeat (first | rw [if_pos (by omega)] | rw [if_neg (by omega)])); all_goals omega), (by (repeat unfold tk_u); (repeat (first | rw [if_pos (by omega)] | rw [if_neg (by omega)])); all_goals omega), (by (repeat unfold tk_u); (repeat (first | rw [if_pos (by omega)] | rw [if_neg (by omega)])); all_goals omega), (by (repeat unfold tk_u); (repeat (first | rw [if_pos (by omega)] | rw [if_neg (by omega)])); all_goals omega), (by (repeat unfold tk_u); (repeat (first | rw [if_pos (by omega)] | rw [if_neg (by omega)])); all_goals omega)⟩ ⟨(by (repeat unfold tk_u); (repeat (first | rw [if_pos (by omega)] | rw [if_neg (by omega)])); all_goals omega), (by (repeat unfold tk_u); (repeat (first | rw [if_pos (by omega)] | rw [if_neg (by omega)])); all_goals omega), (by (repeat unfold tk_u); (repeat (first | rw [if_pos (by omega)] | rw [if_neg (by omega)])); all_goals omega), (by (repeat unfold tk_u); (repeat (first | rw [if_pos (by omega)] | rw [if_neg (by omega)])); all_goals omega)⟩ (fun i => ((u111 244 i (fn_a (by omega) fn_0)).trans ((u89 244 i (fo_nk rfl)).trans ((u87 244 i (fn_a (by omega) fn_0)).trans ((u65 244 i (fo_nk rfl)).trans ((u63 244 i (fn_a (by omega) fn_0)).trans (u51 244 i (fo_nk rfl)))))))) (by omega) (by omega) (by omega))))
                ·
                  refine wr_is (k0 := 239) (a := 4) (f := 4) (x := z97) (bl := 0) (bh := 999) (nx := 99) (r1 := 0) (r2 := 0) (r3 := 0) rfl (by decide) rfl (by omega) (by omega) (by decide) g89 rfl (by omega) (fun h109 g109 w109 u109 => ?_)
                  have F110 := F100.then rfl u109
                  refine wi_goto (nx := 102) (r1 := 256) (r2 := 0) (r3 := 0) rfl ?_
                  refine wi_return (nx := 257) (r1 := 0) (r2 := 0) (r3 := 0) rfl rfl ?_
                  have e111 : h109 236 8 = h89 236 8 := (u109 236 8 rfl)
                  have e112 : h109 236 4 = h89 236 4 := (u109 236 4 rfl)
                  have e113 : h109 239 5 = h 239 5 := ((u109 239 5 rfl).trans ((u89 239 5 rfl).trans ((u87 239 5 rfl).trans ((u65 239 5 rfl).trans ((u63 239 5 rfl).trans (u51 239 5 rfl))))))
                  have e114 : h109 239 7 = h 239 7 := ((u109 239 7 rfl).trans ((u89 239 7 rfl).trans ((u87 239 7 rfl).trans ((u65 239 7 rfl).trans ((u63 239 7 rfl).trans (u51 239 7 rfl))))))
                  have e115 : h109 239 15 = h 239 15 := ((u109 239 15 rfl).trans ((u89 239 15 rfl).trans ((u87 239 15 rfl).trans ((u65 239 15 rfl).trans ((u63 239 15 rfl).trans (u51 239 15 rfl))))))
                  have e116 : h109 239 16 = h 239 16 := ((u109 239 16 rfl).trans ((u89 239 16 rfl).trans ((u87 239 16 rfl).trans ((u65 239 16 rfl).trans ((u63 239 16 rfl).trans (u51 239 16 rfl))))))
                  have e117 : h109 239 17 = h 239 17 := ((u109 239 17 rfl).trans ((u89 239 17 rfl).trans ((u87 239 17 rfl).trans ((u65 239 17 rfl).trans ((u63 239 17 rfl).trans (u51 239 17 rfl))))))
                  have e118 : h109 239 18 = h 239 18 := ((u109 239 18 rfl).trans ((u89 239 18 rfl).trans ((u87 239 18 rfl).trans ((u65 239 18 rfl).trans ((u63 239 18 rfl).trans (u51 239 18 rfl))))))
                  have e119 : h109 236 9 = h89 236 9 := (u109 236 9 rfl)
                  exact k h109 g109 F110 (show (h109 236 8) = 0 ∨ 1 ≤ (h109 236 8) by omega) (show (h 236 4) ≤ (h109 236 4) by omega) (show (h109 236 4) ≤ (h 236 3) by omega) (show 1 ≤ (h109 236 8) ∨ ((h109 239 5) ≤ 9 ∧ 1 ≤ (h109 239 5) ∧ (h109 239 7) ≤ 3 ∧ (h109 239 15) ≤ 6 ∧ (h109 239 16) ≤ 6 ∧ (h109 239 17) ≤ 6 ∧ (h109 239 18) ≤ 6) by omega) (show (h109 236 8) ≠ 0 ∨ (h109 236 9) = -1 by omega) (by unfold tk_stm; (repeat (first | rw [if_pos (by omega)] | rw [if_neg (by omega)])); exact (by (try clear p51_3 p65_3 p65_4 p65_5 p89_3 p89_4 p89_5); unfold tk_window tk_once tk_num; (try dsimp only); (repeat (first | rw [if_pos (by omega)] | rw [if_neg (by omega)])); (repeat ((first | unfold tk_once | unfold tk_num); (try dsimp only); (repeat (first | rw [if_pos (by omega)] | rw [if_neg (by omega)])))); first | exact tk_ORe (by omega) (by omega) (by omega) | ((repeat' split) <;> (first | exact tk_ORe (by omega) (by omega) (by omega) | (exfalso; omega)))))
                ·
                  refine wr_is (k0 := 239) (a := 4) (f := 4) (x := z97) (bl := 0) (bh := 999) (nx := 99) (r1 := 0) (r2 := 0) (r3 := 0) rfl (by decide) rfl (by omega) (by omega) (by decide) g89 rfl (by omega) (fun h109 g109 w109 u109 => ?_)
                  have F110 := F100.then rfl u109
                  refine wi_goto (nx := 102) (r1 := 256) (r2 := 0) (r3 := 0) rfl ?_
                  refine wi_return (nx := 257) (r1 := 0) (r2 := 0) (r3 := 0) rfl rfl ?_
                  have e111 : h109 236 8 = h89 236 8 := (u109 236 8 rfl)
                  have e112 : h109 236 4 = h89 236 4 := (u109 236 4 rfl)
                  have e113 : h109 239 5 = h 239 5 := ((u109 239 5 rfl).trans ((u89 239 5 rfl).trans ((u87 239 5 rfl).trans ((u65 239 5 rfl).trans ((u63 239 5 rfl).trans (u51 239 5 rfl))))))
                  have e114 : h109 239 7 = h 239 7 := ((u109 239 7 rfl).trans ((u89 239 7 rfl).trans ((u87 239 7 rfl).trans ((u65 239 7 rfl).trans ((u63 239 7 rfl).trans (u51 239 7 rfl))))))
                  have e115 : h109 239 15 = h 239 15 := ((u109 239 15 rfl).trans ((u89 239 15 rfl).trans ((u87 239 15 rfl).trans ((u65 239 15 rfl).trans ((u63 239 15 rfl).trans (u51 239 15 rfl))))))
                  have e116 : h109 239 16 = h 239 16 := ((u109 239 16 rfl).trans ((u89 239 16 rfl).trans ((u87 239 16 rfl).trans ((u65 239 16 rfl).trans ((u63 239 16 rfl).trans (u51 239 16 rfl))))))
                  have e117 : h109 239 17 = h 239 17 := ((u109 239 17 rfl).trans ((u89 239 17 rfl).trans ((u87 239 17 rfl).trans ((u65 239 17 rfl).trans ((u63 239 17 rfl).trans (u51 239 17 rfl))))))
                  have e118 : h109 239 18 = h 239 18 := ((u109 239 18 rfl).trans ((u89 239 18 rfl).trans ((u87 239 18 rfl).trans ((u65 239 18 rfl).trans ((u63 239 18 rfl).trans (u51 239 18 rfl))))))
                  have e119 : h109 236 9 = h89 236 9 := (u109 236 9 rfl)
                  exact k h109 g109 F110 (show (h109 236 8) = 0 ∨ 1 ≤ (h109 236 8) by omega) (show (h 236 4) ≤ (h109 236 4) by omega) (show (h109 236 4) ≤ (h 236 3) by omega) (show 1 ≤ (h109 236 8) ∨ ((h109 239 5) ≤ 9 ∧ 1 ≤ (h109 239 5) ∧ (h109 239 7) ≤ 3 ∧ (h109 239 15) ≤ 6 ∧ (h109 239 16) ≤ 6 ∧ (h109 239 17) ≤ 6 ∧ (h109 239 18) ≤ 6) by omega) (show (h109 236 8) ≠ 0 ∨ (h109 236 9) = -1 by omega) (by unfold tk_stm; (repeat (first | rw [if_pos (by omega)] | rw [if_neg (by omega)])); exact (by (try clear p51_3 p65_3 p65_4 p65_5 p89_3 p89_4 p89_5); unfold tk_window tk_once tk_num; (try dsimp only); (repeat (first | rw [if_pos (by omega)] | rw [if_neg (by omega)])); (repeat ((first | unfold tk_once | unfold tk_num); (try dsimp only); (repeat (first | rw [if_pos (by omega)] | rw [if_neg (by omega)])))); first | exact tk_ORe (by omega) (by omega) (by omega) | ((repeat' split) <;> (first | exact tk_ORe (by omega) (by omega) (by omega) | (exfalso; omega)))))
              ·
                refine wr_is (k0 := 239) (a := 3) (f := 3) (x := z73) (bl := 0) (bh := 999) (nx := 86) (r1 := 0) (r2 := 0) (r3 := 0) rfl (by decide) rfl (by omega) (by omega) (by decide) g65 rfl (by omega) (fun h85 g85 w85 u85 => ?_)
                have F86 := F76.then rfl u85
                refine wi_aload_n (i := 0) (x := 236) (nx := 87) (r1 := 0) (r2 := 0) (r3 := 0) rfl rfl ?_
                refine wr_gr (k0 := 236) (x := 239) (nx := 90) (r1 := 11) (r2 := 14) (r3 := 0) rfl rfl (by decide) rfl ⟨rfl, rfl⟩ rfl ?_
                refine wi_iconst (n := 4) (nx := 91) (r1 := 0) (r2 := 0) (r3 := 0) rfl ?_
                refine wi_aload_n (i := 0) (x := 236) (nx := 92) (r1 := 0) (r2 := 0) (r3 := 0) rfl rfl ?_
                refine wi_iconst (n := 0) (nx := 93) (r1 := 0) (r2 := 0) (r3 := 0) rfl ?_
                refine wi_bipush (n := 11) (nx := 95) (r1 := 0) (r2 := 0) (r3 := 0) rfl (by decide) ?_
                refine wr_V (k0 := 236) (rest := [vi 4, .ref 239]) (as := [.ref 236, vi 0, vi 11]) (nx := 98) (r1 := 231) (r2 := 2) (r3 := 11) rfl rfl rfl (of_decide_eq_true rfl) rfl rfl (by decide) rfl rfl (of_decide_eq_true rfl) (of_decide_eq_true rfl) ?_
                have e88 : h85 236 4 = h65 236 4 := (u85 236 4 rfl)
                have e89 : h85 236 3 = h 236 3 := ((u85 236 3 rfl).trans ((u65 236 3 rfl).trans ((u63 236 3 rfl).trans (u51 236 3 rfl))))
                have e90 : h85 236 8 = h65 236 8 := (u85 236 8 rfl)
                have e91 : h85 236 5 = h65 236 5 := (u85 236 5 rfl)
                have e92 : h85 236 6 = h65 236 6 := (u85 236 6 rfl)
                have e93 : h85 236 7 = h65 236 7 := (u85 236 7 rfl)
                have e94 : h85 236 12 = h65 236 12 := (u85 236 12 rfl)
                have rb96 := RefB.fr u65 rfl rb75
                have rb97 := RefB.fr u85 rfl rb96
                refine ct_231_236 hcr  g85 0 11 (by omega) (by omega) (show (h85 236 4) ≤ (h85 236 3) by omega) (show 0 ≤ (tk_nx tB tn tp) by omega) (show (tk_nx tB tn tp) ≤ tn by omega) (show (tk_nx tB tn tp) ≤ tk_nx tB tn (tk_nx tB tn tp) ∧ tk_nx tB tn (tk_nx tB tn tp) ≤ tn by omega) (show 1 ≤ (h85 236 8) ∨ ((h85 236 4) = tk_nx tB tn (tk_nx tB tn tp) ∧ (h85 236 5) = tk_st tB tn (tk_nx tB tn tp) ∧ TKk tB tn (tk_nx tB tn tp) ((h85 236 6)) ((h85 236 7)) ((h85 236 12))) from (Or.inl (by omega))) rb97 (fun h87 z95 g87 u87 (fz95 : 0 ≤ z95 ∧ z95 ≤ 999) (p87_0 : (1 ≤ (h85 236 8) ∧ (h87 236 8) = (h85 236 8) ∧ (h87 236 9) = (h85 236 9)) ∨ ((h85 236 8) = 0 ∧ tk_kd tB tn (tk_nx tB tn tp) = 2 ∧ 0 ≤ tk_nb tB tn (tk_nx tB tn tp) ∧ tk_nb tB tn (tk_nx tB tn tp) ≤ 11 ∧ z95 = tk_nb tB tn (tk_nx tB tn tp) ∧ (h87 236 8) = (h85 236 8) ∧ (h87 236 9) = (h85 236 9) ∧ ((h87 236 4) = tk_nx tB tn (tk_nx tB tn (tk_nx tB tn tp)) ∧ (h87 236 5) = tk_st tB tn (tk_nx tB tn (tk_nx tB tn tp)) ∧ TKk tB tn (tk_nx tB tn (tk_nx tB tn tp)) ((h87 236 6)) ((h87 236 7)) ((h87 236 12)))) ∨ ((h85 236 8) = 0 ∧ tk_kd tB tn (tk_nx tB tn tp) ≠ 2 ∧ (h87 236 8) = 1 ∧ (h87 236 9) = tk_st tB tn (tk_nx tB tn tp)) ∨ ((h85 236 8) = 0 ∧ tk_kd tB tn (tk_nx tB tn tp) = 2 ∧ (tk_nb tB tn (tk_nx tB tn tp) < 0 ∨ 11 < tk_nb tB tn (tk_nx tB tn tp)) ∧ (h87 236 8) = 2 ∧ (h87 236 9) = tk_st tB tn (tk_nx tB tn tp))) (p87_1 : (h85 236 4) ≤ (h87 236 4)) (p87_2 : (h87 236 4) ≤ (h85 236 3)) (p87_3 : 1 ≤ (h87 236 8) ∨ (h85 236 8) = 0) (p87_4 : 1 ≤ (h87 236 8) ∨ (0 ≤ z95 ∧ z95 ≤ 11)) (p87_5 : 1 ≤ (h87 236 8) ∨ (h85 236 6) = 2) => ?_)
                have F98 := F86.then (by decide +kernel) u87
                have e99 : h85 236 9 = h65 236 9 := (u85 236 9 rfl)
                have b100 := gi_b (lo := 0) (hi := 5) g87 236 8 rfl
                have b101 := gi_b (lo := -2147483648) (hi := 2147483647) g87 236 9 rfl
                have b102 := gi_b (lo := 0) (hi := 800) g87 236 4 rfl
                have b103 := gi_b (lo := 0) (hi := 800) g87 236 5 rfl
                have b104 := gi_b (lo := 0) (hi := 4) g87 236 6 rfl
                have b105 := gi_b (lo := 0) (hi := 999) g87 236 7 rfl
                have b106 := gi_b (lo := -9223372036854775808) (hi := 9223372036854775807) g87 236 12 rfl
                refine wk_i ?_
                rcases p87_0 with p87_0 | p87_0 | p87_0 | p87_0
                ·
                  refine wr_is (k0 := 239) (a := 4) (f := 4) (x := z95) (bl := 0) (bh := 999) (nx := 99) (r1 := 0) (r2 := 0) (r3 := 0) rfl (by decide) rfl (by omega) (by omega) (by decide) g87 rfl (by omega) (fun h107 g107 w107 u107 => ?_)
                  have F108 := F98.then rfl u107
                  refine wi_goto (nx := 102) (r1 := 256) (r2 := 0) (r3 := 0) rfl ?_
                  refine wi_return (nx := 257) (r1 := 0) (r2 := 0) (r3 := 0) rfl rfl ?_
                  have e109 : h107 236 8 = h87 236 8 := (u107 236 8 rfl)
                  have e110 : h107 236 4 = h87 236 4 := (u107 236 4 rfl)
                  have e111 : h107 239 5 = h 239 5 := ((u107 239 5 rfl).trans ((u87 239 5 rfl).trans ((u85 239 5 rfl).trans ((u65 239 5 rfl).trans ((u63 239 5 rfl).trans (u51 239 5 rfl))))))
                  have e112 : h107 239 7 = h 239 7 := ((u107 239 7 rfl).trans ((u87 239 7 rfl).trans ((u85 239 7 rfl).trans ((u65 239 7 rfl).trans ((u63 239 7 rfl).trans (u51 239 7 rfl))))))
                  have e113 : h107 239 15 = h 239 15 := ((u107 239 15 rfl).trans ((u87 239 15 rfl).trans ((u85 239 15 rfl).trans ((u65 239 15 rfl).trans ((u63 239 15 rfl).trans (u51 239 15 rfl))))))
                  have e114 : h107 239 16 = h 239 16 := ((u107 239 16 rfl).trans ((u87 239 16 rfl).trans ((u85 239 16 rfl).trans ((u65 239 16 rfl).trans ((u63 239 16 rfl).trans (u51 239 16 rfl))))))
                  have e115 : h107 239 17 = h 239 17 := ((u107 239 17 rfl).trans ((u87 239 17 rfl).trans ((u85 239 17 rfl).trans ((u65 239 17 rfl).trans ((u63 239 17 rfl).trans (u51 239 17 rfl))))))
                  have e116 : h107 239 18 = h 239 18 := ((u107 239 18 rfl).trans ((u87 239 18 rfl).trans ((u85 239 18 rfl).trans ((u65 239 18 rfl).trans ((u63 239 18 rfl).trans (u51 239 18 rfl))))))
                  have e117 : h107 236 9 = h87 236 9 := (u107 236 9 rfl)
                  exact k h107 g107 F108 (show (h107 236 8) = 0 ∨ 1 ≤ (h107 236 8) by omega) (show (h 236 4) ≤ (h107 236 4) by omega) (show (h107 236 4) ≤ (h 236 3) by omega) (show 1 ≤ (h107 236 8) ∨ ((h107 239 5) ≤ 9 ∧ 1 ≤ (h107 239 5) ∧ (h107 239 7) ≤ 3 ∧ (h107 239 15) ≤ 6 ∧ (h107 239 16) ≤ 6 ∧ (h107 239 17) ≤ 6 ∧ (h107 239 18) ≤ 6) by omega) (show (h107 236 8) ≠ 0 ∨ (h107 236 9) = -1 by omega) (by unfold tk_stm; (repeat (first | rw [if_pos (by omega)] | rw [if_neg (by omega)])); exact (by (try clear p51_3 p65_3 p65_4 p65_5 p87_3 p87_4 p87_5); unfold tk_window tk_once tk_num; (try dsimp only); (repeat (first | rw [if_pos (by omega)] | rw [if_neg (by omega)])); (repeat ((first | unfold tk_once | unfold tk_num); (try dsimp only); (repeat (first | rw [if_pos (by omega)] | rw [if_neg (by omega)])))); first | exact tk_ORe (by omega) (by omega) (by omega) | ((repeat' split) <;> (first | exact tk_ORe (by omega) (by omega) (by omega) | (exfalso; omega)))))
                ·
                  have tkk107 := (p87_0.2.2.2.2.2.2.2).2.2
                  have tN108 := @tk_nx_b tB tn (tk_nx tB tn (tk_nx tB tn tp)) (by omega) (by omega)
                  exfalso; omega
                ·
                  exfalso; omega
                ·
                  exfalso; omega
              ·
                refine wr_is (k0 := 239) (a := 3) (f := 3) (x := z73) (bl := 0) (bh := 999) (nx := 86) (r1 := 0) (r2 := 0) (r3 := 0) rfl (by decide) rfl (by omega) (by omega) (by decide) g65 rfl (by omega) (fun h85 g85 w85 u85 => ?_)
                have F86 := F76.then rfl u85
                refine wi_aload_n (i := 0) (x := 236) (nx := 87) (r1 := 0) (r2 := 0) (r3 := 0) rfl rfl ?_
                refine wr_gr (k0 := 236) (x := 239) (nx := 90) (r1 := 11) (r2 := 14) (r3 := 0) rfl rfl (by decide) rfl ⟨rfl, rfl⟩ rfl ?_
                refine wi_iconst (n := 4) (nx := 91) (r1 := 0) (r2 := 0) (r3 := 0) rfl ?_
                refine wi_aload_n (i := 0) (x := 236) (nx := 92) (r1 := 0) (r2 := 0) (r3 := 0) rfl rfl ?_
                refine wi_iconst (n := 0) (nx := 93) (r1 := 0) (r2 := 0) (r3 := 0) rfl ?_
                refine wi_bipush (n := 11) (nx := 95) (r1 := 0) (r2 := 0) (r3 := 0) rfl (by decide) ?_
                refine wr_V (k0 := 236) (rest := [vi 4, .ref 239]) (as := [.ref 236, vi 0, vi 11]) (nx := 98) (r1 := 231) (r2 := 2) (r3 := 11) rfl rfl rfl (of_decide_eq_true rfl) rfl rfl (by decide) rfl rfl (of_decide_eq_true rfl) (of_decide_eq_true rfl) ?_
                have e88 : h85 236 4 = h65 236 4 := (u85 236 4 rfl)
                have e89 : h85 236 3 = h 236 3 := ((u85 236 3 rfl).trans ((u65 236 3 rfl).trans ((u63 236 3 rfl).trans (u51 236 3 rfl))))
                have e90 : h85 236 8 = h65 236 8 := (u85 236 8 rfl)
                have e91 : h85 236 5 = h65 236 5 := (u85 236 5 rfl)
                have e92 : h85 236 6 = h65 236 6 := (u85 236 6 rfl)
                have e93 : h85 236 7 = h65 236 7 := (u85 236 7 rfl)
                have e94 : h85 236 12 = h65 236 12 := (u85 236 12 rfl)
                have rb96 := RefB.fr u65 rfl rb75
                have rb97 := RefB.fr u85 rfl rb96
                refine ct_231_236 hcr  g85 0 11 (by omega) (by omega) (show (h85 236 4) ≤ (h85 236 3) by omega) (show 0 ≤ (tk_nx tB tn tp) by omega) (show (tk_nx tB tn tp) ≤ tn by omega) (show (tk_nx tB tn tp) ≤ tk_nx tB tn (tk_nx tB tn tp) ∧ tk_nx tB tn (tk_nx tB tn tp) ≤ tn by omega) (show 1 ≤ (h85 236 8) ∨ ((h85 236 4) = tk_nx tB tn (tk_nx tB tn tp) ∧ (h85 236 5) = tk_st tB tn (tk_nx tB tn tp) ∧ TKk tB tn (tk_nx tB tn tp) ((h85 236 6)) ((h85 236 7)) ((h85 236 12))) from (Or.inl (by omega))) rb97 (fun h87 z95 g87 u87 (fz95 : 0 ≤ z95 ∧ z95 ≤ 999) (p87_0 : (1 ≤ (h85 236 8) ∧ (h87 236 8) = (h85 236 8) ∧ (h87 236 9) = (h85 236 9)) ∨ ((h85 236 8) = 0 ∧ tk_kd tB tn (tk_nx tB tn tp) = 2 ∧ 0 ≤ tk_nb tB tn (tk_nx tB tn tp) ∧ tk_nb tB tn (tk_nx tB tn tp) ≤ 11 ∧ z95 = tk_nb tB tn (tk_nx tB tn tp) ∧ (h87 236 8) = (h85 236 8) ∧ (h87 236 9) = (h85 236 9) ∧ ((h87 236 4) = tk_nx tB tn (tk_nx tB tn (tk_nx tB tn tp)) ∧ (h87 236 5) = tk_st tB tn (tk_nx tB tn (tk_nx tB tn tp)) ∧ TKk tB tn (tk_nx tB tn (tk_nx tB tn tp)) ((h87 236 6)) ((h87 236 7)) ((h87 236 12)))) ∨ ((h85 236 8) = 0 ∧ tk_kd tB tn (tk_nx tB tn tp) ≠ 2 ∧ (h87 236 8) = 1 ∧ (h87 236 9) = tk_st tB tn (tk_nx tB tn tp)) ∨ ((h85 236 8) = 0 ∧ tk_kd tB tn (tk_nx tB tn tp) = 2 ∧ (tk_nb tB tn (tk_nx tB tn tp) < 0 ∨ 11 < tk_nb tB tn (tk_nx tB tn tp)) ∧ (h87 236 8) = 2 ∧ (h87 236 9) = tk_st tB tn (tk_nx tB tn tp))) (p87_1 : (h85 236 4) ≤ (h87 236 4)) (p87_2 : (h87 236 4) ≤ (h85 236 3)) (p87_3 : 1 ≤ (h87 236 8) ∨ (h85 236 8) = 0) (p87_4 : 1 ≤ (h87 236 8) ∨ (0 ≤ z95 ∧ z95 ≤ 11)) (p87_5 : 1 ≤ (h87 236 8) ∨ (h85 236 6) = 2) => ?_)
                have F98 := F86.then (by decide +kernel) u87
                have e99 : h85 236 9 = h65 236 9 := (u85 236 9 rfl)
                have b100 := gi_b (lo := 0) (hi := 5) g87 236 8 rfl
                have b101 := gi_b (lo := -2147483648) (hi := 2147483647) g87 236 9 rfl
                have b102 := gi_b (lo := 0) (hi := 800) g87 236 4 rfl
                have b103 := gi_b (lo := 0) (hi := 800) g87 236 5 rfl
                have b104 := gi_b (lo := 0) (hi := 4) g87 236 6 rfl
                have b105 := gi_b (lo := 0) (hi := 999) g87 236 7 rfl
                have b106 := gi_b (lo := -9223372036854775808) (hi := 9223372036854775807) g87 236 12 rfl
                refine wk_i ?_
                rcases p87_0 with p87_0 | p87_0 | p87_0 | p87_0
                ·
                  refine wr_is (k0 := 239) (a := 4) (f := 4) (x := z95) (bl := 0) (bh := 999) (nx := 99) (r1 := 0) (r2 := 0) (r3 := 0) rfl (by decide) rfl (by omega) (by omega) (by decide) g87 rfl (by omega) (fun h107 g107 w107 u107 => ?_)
                  have F108 := F98.then rfl u107
                  refine wi_goto (nx := 102) (r1 := 256) (r2 := 0) (r3 := 0) rfl ?_
                  refine wi_return (nx := 257) (r1 := 0) (r2 := 0) (r3 := 0) rfl rfl ?_
                  have e109 : h107 236 8 = h87 236 8 := (u107 236 8 rfl)
                  have e110 : h107 236 4 = h87 236 4 := (u107 236 4 rfl)
                  have e111 : h107 239 5 = h 239 5 := ((u107 239 5 rfl).trans ((u87 239 5 rfl).trans ((u85 239 5 rfl).trans ((u65 239 5 rfl).trans ((u63 239 5 rfl).trans (u51 239 5 rfl))))))
                  have e112 : h107 239 7 = h 239 7 := ((u107 239 7 rfl).trans ((u87 239 7 rfl).trans ((u85 239 7 rfl).trans ((u65 239 7 rfl).trans ((u63 239 7 rfl).trans (u51 239 7 rfl))))))
                  have e113 : h107 239 15 = h 239 15 := ((u107 239 15 rfl).trans ((u87 239 15 rfl).trans ((u85 239 15 rfl).trans ((u65 239 15 rfl).trans ((u63 239 15 rfl).trans (u51 239 15 rfl))))))
                  have e114 : h107 239 16 = h 239 16 := ((u107 239 16 rfl).trans ((u87 239 16 rfl).trans ((u85 239 16 rfl).trans ((u65 239 16 rfl).trans ((u63 239 16 rfl).trans (u51 239 16 rfl))))))
                  have e115 : h107 239 17 = h 239 17 := ((u107 239 17 rfl).trans ((u87 239 17 rfl).trans ((u85 239 17 rfl).trans ((u65 239 17 rfl).trans ((u63 239 17 rfl).trans (u51 239 17 rfl))))))
                  have e116 : h107 239 18 = h 239 18 := ((u107 239 18 rfl).trans ((u87 239 18 rfl).trans ((u85 239 18 rfl).trans ((u65 239 18 rfl).trans ((u63 239 18 rfl).trans (u51 239 18 rfl))))))
                  have e117 : h107 236 9 = h87 236 9 := (u107 236 9 rfl)
                  exact k h107 g107 F108 (show (h107 236 8) = 0 ∨ 1 ≤ (h107 236 8) by omega) (show (h 236 4) ≤ (h107 236 4) by omega) (show (h107 236 4) ≤ (h 236 3) by omega) (show 1 ≤ (h107 236 8) ∨ ((h107 239 5) ≤ 9 ∧ 1 ≤ (h107 239 5) ∧ (h107 239 7) ≤ 3 ∧ (h107 239 15) ≤ 6 ∧ (h107 239 16) ≤ 6 ∧ (h107 239 17) ≤ 6 ∧ (h107 239 18) ≤ 6) by omega) (show (h107 236 8) ≠ 0 ∨ (h107 236 9) = -1 by omega) (by unfold tk_stm; (repeat (first | rw [if_pos (by omega)] | rw [if_neg (by omega)])); exact (by (try clear p51_3 p65_3 p65_4 p65_5 p87_3 p87_4 p87_5); unfold tk_window tk_once tk_num; (try dsimp only); (repeat (first | rw [if_pos (by omega)] | rw [if_neg (by omega)])); (repeat ((first | unfold tk_once | unfold tk_num); (try dsimp only); (repeat (first | rw [if_pos (by omega)] | rw [if_neg (by omega)])))); first | exact tk_ORe (by omega) (by omega) (by omega) | ((repeat' split) <;> (first | exact tk_ORe (by omega) (by omega) (by omega) | (exfalso; omega)))))
                ·
                  have tkk107 := (p87_0.2.2.2.2.2.2.2).2.2
                  have tN108 := @tk_nx_b tB tn (tk_nx tB tn (tk_nx tB tn tp)) (by omega) (by omega)
                  exfalso; omega
                ·
                  exfalso; omega
                ·
                  exfalso; omega
            ·
              refine wr_pf2 (k0 := 236) (x := z52) (bl := 0) (bh := 1) (nx := 73) (r1 := 11) (r2 := 23) (r3 := 2) rfl (by decide) rfl ⟨rfl, rfl⟩ rfl (by omega) rfl g51 rfl (by omega) (fun h61 g61 w61 u61 => ?_)
              have F62 := F53.then rfl u61
              refine wi_aload_n (i := 0) (x := 236) (nx := 74) (r1 := 0) (r2 := 0) (r3 := 0) rfl rfl ?_
              refine wr_gr (k0 := 236) (x := 239) (nx := 77) (r1 := 11) (r2 := 14) (r3 := 0) rfl rfl (by decide) rfl ⟨rfl, rfl⟩ rfl ?_
              refine wi_iconst (n := 3) (nx := 78) (r1 := 0) (r2 := 0) (r3 := 0) rfl ?_
              refine wi_aload_n (i := 0) (x := 236) (nx := 79) (r1 := 0) (r2 := 0) (r3 := 0) rfl rfl ?_
              refine wi_iconst (n := 0) (nx := 80) (r1 := 0) (r2 := 0) (r3 := 0) rfl ?_
              refine wi_bipush (n := 11) (nx := 82) (r1 := 0) (r2 := 0) (r3 := 0) rfl (by decide) ?_
              refine wr_V (k0 := 236) (rest := [vi 3, .ref 239]) (as := [.ref 236, vi 0, vi 11]) (nx := 85) (r1 := 231) (r2 := 2) (r3 := 11) rfl rfl rfl (of_decide_eq_true rfl) rfl rfl (by decide) rfl rfl (of_decide_eq_true rfl) (of_decide_eq_true rfl) ?_
              have e64 : h61 236 4 = h51 236 4 := (u61 236 4 rfl)
              have e65 : h61 236 3 = h 236 3 := ((u61 236 3 rfl).trans (u51 236 3 rfl))
              have e66 : h61 236 8 = h51 236 8 := (u61 236 8 rfl)
              have e67 : h61 236 5 = h51 236 5 := (u61 236 5 rfl)
              have e68 : h61 236 6 = h51 236 6 := (u61 236 6 rfl)
              have e69 : h61 236 7 = h51 236 7 := (u61 236 7 rfl)
              have e70 : h61 236 12 = h51 236 12 := (u61 236 12 rfl)
              have rb72 := RefB.fr u51 rfl xq0
              have rb73 := RefB.fr u61 rfl rb72
              refine ct_231_236 hcr  g61 0 11 (by omega) (by omega) (show (h61 236 4) ≤ (h61 236 3) by omega) (show 0 ≤ tp by omega) (show tp ≤ tn by omega) (show tp ≤ tk_nx tB tn tp ∧ tk_nx tB tn tp ≤ tn by omega) (show 1 ≤ (h61 236 8) ∨ ((h61 236 4) = tk_nx tB tn tp ∧ (h61 236 5) = tk_st tB tn tp ∧ TKk tB tn tp ((h61 236 6)) ((h61 236 7)) ((h61 236 12))) from (Or.inl (by omega))) rb73 (fun h63 z71 g63 u63 (fz71 : 0 ≤ z71 ∧ z71 ≤ 999) (p63_0 : (1 ≤ (h61 236 8) ∧ (h63 236 8) = (h61 236 8) ∧ (h63 236 9) = (h61 236 9)) ∨ ((h61 236 8) = 0 ∧ tk_kd tB tn tp = 2 ∧ 0 ≤ tk_nb tB tn tp ∧ tk_nb tB tn tp ≤ 11 ∧ z71 = tk_nb tB tn tp ∧ (h63 236 8) = (h61 236 8) ∧ (h63 236 9) = (h61 236 9) ∧ ((h63 236 4) = tk_nx tB tn (tk_nx tB tn tp) ∧ (h63 236 5) = tk_st tB tn (tk_nx tB tn tp) ∧ TKk tB tn (tk_nx tB tn tp) ((h63 236 6)) ((h63 236 7)) ((h63 236 12)))) ∨ ((h61 236 8) = 0 ∧ tk_kd tB tn tp ≠ 2 ∧ (h63 236 8) = 1 ∧ (h63 236 9) = tk_st tB tn tp) ∨ ((h61 236 8) = 0 ∧ tk_kd tB tn tp = 2 ∧ (tk_nb tB tn tp < 0 ∨ 11 < tk_nb tB tn tp) ∧ (h63 236 8) = 2 ∧ (h63 236 9) = tk_st tB tn tp)) (p63_1 : (h61 236 4) ≤ (h63 236 4)) (p63_2 : (h63 236 4) ≤ (h61 236 3)) (p63_3 : 1 ≤ (h63 236 8) ∨ (h61 236 8) = 0) (p63_4 : 1 ≤ (h63 236 8) ∨ (0 ≤ z71 ∧ z71 ≤ 11)) (p63_5 : 1 ≤ (h63 236 8) ∨ (h61 236 6) = 2) => ?_)
              have F74 := F62.then (by decide +kernel) u63
              have e75 : h61 236 9 = h51 236 9 := (u61 236 9 rfl)
              have b76 := gi_b (lo := 0) (hi := 5) g63 236 8 rfl
              have b77 := gi_b (lo := -2147483648) (hi := 2147483647) g63 236 9 rfl
              have b78 := gi_b (lo := 0) (hi := 800) g63 236 4 rfl
              have b79 := gi_b (lo := 0) (hi := 800) g63 236 5 rfl
              have b80 := gi_b (lo := 0) (hi := 4) g63 236 6 rfl
              have b81 := gi_b (lo := 0) (hi := 999) g63 236 7 rfl
              have b82 := gi_b (lo := -9223372036854775808) (hi := 9223372036854775807) g63 236 12 rfl
              refine wk_i ?_
              rcases p63_0 with p63_0 | p63_0 | p63_0 | p63_0
              ·
                refine wr_is (k0 := 239) (a := 3) (f := 3) (x := z71) (bl := 0) (bh := 999) (nx := 86) (r1 := 0) (r2 := 0) (r3 := 0) rfl (by decide) rfl (by omega) (by omega) (by decide) g63 rfl (by omega) (fun h83 g83 w83 u83 => ?_)
                have F84 := F74.then rfl u83
                refine wi_aload_n (i := 0) (x := 236) (nx := 87) (r1 := 0) (r2 := 0) (r3 := 0) rfl rfl ?_
                refine wr_gr (k0 := 236) (x := 239) (nx := 90) (r1 := 11) (r2 := 14) (r3 := 0) rfl rfl (by decide) rfl ⟨rfl, rfl⟩ rfl ?_
                refine wi_iconst (n := 4) (nx := 91) (r1 := 0) (r2 := 0) (r3 := 0) rfl ?_
                refine wi_aload_n (i := 0) (x := 236) (nx := 92) (r1 := 0) (r2 := 0) (r3 := 0) rfl rfl ?_
                refine wi_iconst (n := 0) (nx := 93) (r1 := 0) (r2 := 0) (r3 := 0) rfl ?_
                refine wi_bipush (n := 11) (nx := 95) (r1 := 0) (r2 := 0) (r3 := 0) rfl (by decide) ?_
                refine wr_V (k0 := 236) (rest := [vi 4, .ref 239]) (as := [.ref 236, vi 0, vi 11]) (nx := 98) (r1 := 231) (r2 := 2) (r3 := 11) rfl rfl rfl (of_decide_eq_true rfl) rfl rfl (by decide) rfl rfl (of_decide_eq_true rfl) (of_decide_eq_true rfl) ?_
                have e86 : h83 236 4 = h63 236 4 := (u83 236 4 rfl)
                have e87 : h83 236 3 = h 236 3 := ((u83 236 3 rfl).trans ((u63 236 3 rfl).trans ((u61 236 3 rfl).trans (u51 236 3 rfl))))
                have e88 : h83 236 8 = h63 236 8 := (u83 236 8 rfl)
                have e89 : h83 236 5 = h63 236 5 := (u83 236 5 rfl)
                have e90 : h83 236 6 = h63 236 6 := (u83 236 6 rfl)
                have e91 : h83 236 7 = h63 236 7 := (u83 236 7 rfl)
                have e92 : h83 236 12 = h63 236 12 := (u83 236 12 rfl)
                have rb94 := RefB.fr u63 rfl rb73
                have rb95 := RefB.fr u83 rfl rb94
                refine ct_231_236 hcr  g83 0 11 (by omega) (by omega) (show (h83 236 4) ≤ (h83 236 3) by omega) (show 0 ≤ tp by omega) (show tp ≤ tn by omega) (show tp ≤ tk_nx tB tn tp ∧ tk_nx tB tn tp ≤ tn by omega) (show 1 ≤ (h83 236 8) ∨ ((h83 236 4) = tk_nx tB tn tp ∧ (h83 236 5) = tk_st tB tn tp ∧ TKk tB tn tp ((h83 236 6)) ((h83 236 7)) ((h83 236 12))) from (Or.inl (by omega))) rb95 (fun h85 z93 g85 u85 (fz93 : 0 ≤ z93 ∧ z93 ≤ 999) (p85_0 : (1 ≤ (h83 236 8) ∧ (h85 236 8) = (h83 236 8) ∧ (h85 236 9) = (h83 236 9)) ∨ ((h83 236 8) = 0 ∧ tk_kd tB tn tp = 2 ∧ 0 ≤ tk_nb tB tn tp ∧ tk_nb tB tn tp ≤ 11 ∧ z93 = tk_nb tB tn tp ∧ (h85 236 8) = (h83 236 8) ∧ (h85 236 9) = (h83 236 9) ∧ ((h85 236 4) = tk_nx tB tn (tk_nx tB tn tp) ∧ (h85 236 5) = tk_st tB tn (tk_nx tB tn tp) ∧ TKk tB tn (tk_nx tB tn tp) ((h85 236 6)) ((h85 236 7)) ((h85 236 12)))) ∨ ((h83 236 8) = 0 ∧ tk_kd tB tn tp ≠ 2 ∧ (h85 236 8) = 1 ∧ (h85 236 9) = tk_st tB tn tp) ∨ ((h83 236 8) = 0 ∧ tk_kd tB tn tp = 2 ∧ (tk_nb tB tn tp < 0 ∨ 11 < tk_nb tB tn tp) ∧ (h85 236 8) = 2 ∧ (h85 236 9) = tk_st tB tn tp)) (p85_1 : (h83 236 4) ≤ (h85 236 4)) (p85_2 : (h85 236 4) ≤ (h83 236 3)) (p85_3 : 1 ≤ (h85 236 8) ∨ (h83 236 8) = 0) (p85_4 : 1 ≤ (h85 236 8) ∨ (0 ≤ z93 ∧ z93 ≤ 11)) (p85_5 : 1 ≤ (h85 236 8) ∨ (h83 236 6) = 2) => ?_)
                have F96 := F84.then (by decide +kernel) u85
                have e97 : h83 236 9 = h63 236 9 := (u83 236 9 rfl)
                have b98 := gi_b (lo := 0) (hi := 5) g85 236 8 rfl
                have b99 := gi_b (lo := -2147483648) (hi := 2147483647) g85 236 9 rfl
                have b100 := gi_b (lo := 0) (hi := 800) g85 236 4 rfl
                have b101 := gi_b (lo := 0) (hi := 800) g85 236 5 rfl
                have b102 := gi_b (lo := 0) (hi := 4) g85 236 6 rfl
                have b103 := gi_b (lo := 0) (hi := 999) g85 236 7 rfl
                have b104 := gi_b (lo := -9223372036854775808) (hi := 9223372036854775807) g85 236 12 rfl
                refine wk_i ?_
                rcases p85_0 with p85_0 | p85_0 | p85_0 | p85_0
                ·
                  refine wr_is (k0 := 239) (a := 4) (f := 4) (x := z93) (bl := 0) (bh := 999) (nx := 99) (r1 := 0) (r2 := 0) (r3 := 0) rfl (by decide) rfl (by omega) (by omega) (by decide) g85 rfl (by omega) (fun h105 g105 w105 u105 => ?_)
                  have F106 := F96.then rfl u105
                  refine wi_goto (nx := 102) (r1 := 256) (r2 := 0) (r3 := 0) rfl ?_
                  refine wi_return (nx := 257) (r1 := 0) (r2 := 0) (r3 := 0) rfl rfl ?_
                  have e107 : h105 236 8 = h85 236 8 := (u105 236 8 rfl)
                  have e108 : h105 236 4 = h85 236 4 := (u105 236 4 rfl)
                  have e109 : h105 239 5 = h 239 5 := ((u105 239 5 rfl).trans ((u85 239 5 rfl).trans ((u83 239 5 rfl).trans ((u63 239 5 rfl).trans ((u61 239 5 rfl).trans (u51 239 5 rfl))))))
                  have e110 : h105 239 7 = h 239 7 := ((u105 239 7 rfl).trans ((u85 239 7 rfl).trans ((u83 239 7 rfl).trans ((u63 239 7 rfl).trans ((u61 239 7 rfl).trans (u51 239 7 rfl))))))
                  have e111 : h105 239 15 = h 239 15 := ((u105 239 15 rfl).trans ((u85 239 15 rfl).trans ((u83 239 15 rfl).trans ((u63 239 15 rfl).trans ((u61 239 15 rfl).trans (u51 239 15 rfl))))))
                  have e112 : h105 239 16 = h 239 16 := ((u105 239 16 rfl).trans ((u85 239 16 rfl).trans ((u83 239 16 rfl).trans ((u63 239 16 rfl).trans ((u61 239 16 rfl).trans (u51 239 16 rfl))))))
                  have e113 : h105 239 17 = h 239 17 := ((u105 239 17 rfl).trans ((u85 239 17 rfl).trans ((u83 239 17 rfl).trans ((u63 239 17 rfl).trans ((u61 239 17 rfl).trans (u51 239 17 rfl))))))
                  have e114 : h105 239 18 = h 239 18 := ((u105 239 18 rfl).trans ((u85 239 18 rfl).trans ((u83 239 18 rfl).trans ((u63 239 18 rfl).trans ((u61 239 18 rfl).trans (u51 239 18 rfl))))))
                  have e115 : h105 236 9 = h85 236 9 := (u105 236 9 rfl)
                  exact k h105 g105 F106 (show (h105 236 8) = 0 ∨ 1 ≤ (h105 236 8) by omega) (show (h 236 4) ≤ (h105 236 4) by omega) (show (h105 236 4) ≤ (h 236 3) by omega) (show 1 ≤ (h105 236 8) ∨ ((h105 239 5) ≤ 9 ∧ 1 ≤ (h105 239 5) ∧ (h105 239 7) ≤ 3 ∧ (h105 239 15) ≤ 6 ∧ (h105 239 16) ≤ 6 ∧ (h105 239 17) ≤ 6 ∧ (h105 239 18) ≤ 6) by omega) (show (h105 236 8) ≠ 0 ∨ (h105 236 9) = -1 by omega) (by unfold tk_stm; (repeat (first | rw [if_pos (by omega)] | rw [if_neg (by omega)])); exact (by (try clear p51_3 p63_3 p63_4 p63_5 p85_3 p85_4 p85_5); unfold tk_window tk_once tk_num; (try dsimp only); (repeat (first | rw [if_pos (by omega)] | rw [if_neg (by omega)])); (repeat ((first | unfold tk_once | unfold tk_num); (try dsimp only); (repeat (first | rw [if_pos (by omega)] | rw [if_neg (by omega)])))); first | exact tk_ORe (by omega) (by omega) (by omega) | ((repeat' split) <;> (first | exact tk_ORe (by omega) (by omega) (by omega) | (exfalso; omega)))))
                ·
                  have tkk105 := (p85_0.2.2.2.2.2.2.2).2.2
                  have tN106 := @tk_nx_b tB tn (tk_nx tB tn tp) (by omega) (by omega)
                  exfalso; omega
                ·
                  exfalso; omega
                ·
                  exfalso; omega
              ·
                have tkk83 := (p63_0.2.2.2.2.2.2.2).2.2
                have tN84 := @tk_nx_b tB tn (tk_nx tB tn tp) (by omega) (by omega)
                exfalso; omega
              ·
                exfalso; omega
              ·
                exfalso; omega
        ·
          try have wk40 : tk_wd (tk_lw tB tn tp) = 4 := (tk_wk (B := tB) (n := tn) (p := tp) 3 (by decide) (by omega) (by omega) (by omega)).mp (by show tk_sw tB tn tp = 3122; omega)
          refine wi_iconst (n := 1) (nx := 25) (r1 := 0) (r2 := 0) (r3 := 0) rfl ?_
          refine wi_goto (nx := 28) (r1 := 29) (r2 := 0) (r3 := 0) rfl ?_
          refine wi_zreturn (nx := 30) (r1 := 0) (r2 := 0) (r3 := 0) rfl rfl (by omega) ?_
          refine wk_i ?_
          refine wi_if (cd := .eq) (nx := 44) (r1 := 51) (r2 := 0) (r3 := 0) rfl (by omega) (fun (q41 : 1 = 0) => by exfalso; omega) (fun (q41 : ¬ (1 = 0)) => ?_)
          refine wi_aload_n (i := 0) (x := 236) (nx := 45) (r1 := 0) (r2 := 0) (r3 := 0) rfl rfl ?_
          refine wr_V (k0 := 236) (rest := []) (as := [.ref 236]) (nx := 48) (r1 := 233) (r2 := 0) (r3 := 11) rfl rfl rfl (of_decide_eq_true rfl) rfl rfl (by decide) rfl rfl (of_decide_eq_true rfl) (of_decide_eq_true rfl) ?_
          refine ct_233_236 hcr  g   (show (h 236 4) ≤ (h 236 3) by omega) (show 0 ≤ tp by omega) (show tp ≤ tn by omega) (show tp ≤ tk_nx tB tn tp ∧ tk_nx tB tn tp ≤ tn by omega) (show (h 236 8) = 0 by omega) (show (h 239 5) ≤ 9 by omega) (show 1 ≤ (h 239 5) by omega) (show (h 239 7) ≤ 3 by omega) (show (h 239 15) ≤ 6 by omega) (show (h 239 16) ≤ 6 by omega) (show (h 239 17) ≤ 6 by omega) (show (h 239 18) ≤ 6 by omega) (show ((h 236 4) = tk_nx tB tn tp ∧ (h 236 5) = tk_st tB tn tp ∧ TKk tB tn tp ((h 236 6)) ((h 236 7)) ((h 236 12))) by first | assumption | exact ⟨by omega, by omega, TKk.mv (by assumption) (by omega) (by omega) (by omega)⟩) (show tS 0 ≤ 5 ∧ tS 1 ≤ 4 ∧ tS 2 ≤ 12 by omega) (show (h 236 9) = -1 by omega) (show tk_kd tB tn tp = 1 by omega) xq0 xq1 (fun h42 g42 u42 (p42_0 : (h 236 4) ≤ (h42 236 4)) (p42_1 : (h42 236 4) ≤ (h 236 3)) (p42_2 : 1 ≤ (h42 236 8) ∨ ((h42 239 5) ≤ 9 ∧ 1 ≤ (h42 239 5) ∧ (h42 239 7) ≤ 3 ∧ (h42 239 15) ≤ 6 ∧ (h42 239 16) ≤ 6 ∧ (h42 239 17) ≤ 6 ∧ (h42 239 18) ≤ 6)) (p42_3 : (h42 236 8) ≠ 0 ∨ (h42 236 9) = -1) y42_0 => ?_)
          have F43 := F0.then (by decide +kernel) u42
          have b44 := gi_b (lo := 0) (hi := 800) g42 236 4 rfl
          have b45 := gi_b (lo := 0) (hi := 5) g42 236 8 rfl
          have e46 : h42 239 5 = h 239 5 := (u42 239 5 rfl)
          have e47 : h42 239 7 = h 239 7 := (u42 239 7 rfl)
          have e48 : h42 239 15 = h 239 15 := (u42 239 15 rfl)
          have e49 : h42 239 16 = h 239 16 := (u42 239 16 rfl)
          have e50 : h42 239 17 = h 239 17 := (u42 239 17 rfl)
          have e51 : h42 239 18 = h 239 18 := (u42 239 18 rfl)
          have b52 := gi_b (lo := -2147483648) (hi := 2147483647) g42 236 9 rfl
          refine wk_n ?_
          refine wi_goto (nx := 51) (r1 := 256) (r2 := 0) (r3 := 0) rfl ?_
          refine wi_return (nx := 257) (r1 := 0) (r2 := 0) (r3 := 0) rfl rfl ?_
          exact k h42 g42 F43 (show (h42 236 8) = 0 ∨ 1 ≤ (h42 236 8) by omega) (show (h 236 4) ≤ (h42 236 4) by omega) (show (h42 236 4) ≤ (h 236 3) by omega) (show 1 ≤ (h42 236 8) ∨ ((h42 239 5) ≤ 9 ∧ 1 ≤ (h42 239 5) ∧ (h42 239 7) ≤ 3 ∧ (h42 239 15) ≤ 6 ∧ (h42 239 16) ≤ 6 ∧ (h42 239 17) ≤ 6 ∧ (h42 239 18) ≤ 6) by omega) (show (h42 236 8) ≠ 0 ∨ (h42 236 9) = -1 by omega) (by unfold tk_stm; (repeat (first | rw [if_pos (by omega)] | rw [if_neg (by omega)])); exact y42_0)
      ·
        try have wk32 : tk_wd (tk_lw tB tn tp) = 3 := (tk_wk (B := tB) (n := tn) (p := tp) 2 (by decide) (by omega) (by omega) (by omega)).mp (by show tk_sw tB tn tp = 394693; omega)
        refine wi_iconst (n := 1) (nx := 25) (r1 := 0) (r2 := 0) (r3 := 0) rfl ?_
        refine wi_goto (nx := 28) (r1 := 29) (r2 := 0) (r3 := 0) rfl ?_
        refine wi_zreturn (nx := 30) (r1 := 0) (r2 := 0) (r3 := 0) rfl rfl (by omega) ?_
        refine wk_i ?_
        refine wi_if (cd := .eq) (nx := 27) (r1 := 34) (r2 := 0) (r3 := 0) rfl (by omega) (fun (q33 : 1 = 0) => by exfalso; omega) (fun (q33 : ¬ (1 = 0)) => ?_)
        refine wi_aload_n (i := 0) (x := 236) (nx := 28) (r1 := 0) (r2 := 0) (r3 := 0) rfl rfl ?_
        refine wr_V (k0 := 236) (rest := []) (as := [.ref 236]) (nx := 31) (r1 := 232) (r2 := 0) (r3 := 11) rfl rfl rfl (of_decide_eq_true rfl) rfl rfl (by decide) rfl rfl (of_decide_eq_true rfl) (of_decide_eq_true rfl) ?_
        refine ct_232_236 hcr  g   (show (h 236 4) ≤ (h 236 3) by omega) (show 0 ≤ tp by omega) (show tp ≤ tn by omega) (show tp ≤ tk_nx tB tn tp ∧ tk_nx tB tn tp ≤ tn by omega) (show (h 236 8) = 0 by omega) (show (h 239 5) ≤ 9 by omega) (show 1 ≤ (h 239 5) by omega) (show (h 239 7) ≤ 3 by omega) (show (h 239 15) ≤ 6 by omega) (show (h 239 16) ≤ 6 by omega) (show (h 239 17) ≤ 6 by omega) (show (h 239 18) ≤ 6 by omega) (show ((h 236 4) = tk_nx tB tn tp ∧ (h 236 5) = tk_st tB tn tp ∧ TKk tB tn tp ((h 236 6)) ((h 236 7)) ((h 236 12))) by first | assumption | exact ⟨by omega, by omega, TKk.mv (by assumption) (by omega) (by omega) (by omega)⟩) (show tS 0 ≤ 5 ∧ tS 1 ≤ 4 ∧ tS 2 ≤ 12 by omega) (show (h 236 9) = -1 by omega) (show tk_kd tB tn tp = 1 by omega) xq0 xq1 (fun h34 g34 u34 (p34_0 : (h 236 4) ≤ (h34 236 4)) (p34_1 : (h34 236 4) ≤ (h 236 3)) (p34_2 : 1 ≤ (h34 236 8) ∨ ((h34 239 5) ≤ 9 ∧ 1 ≤ (h34 239 5) ∧ (h34 239 7) ≤ 3 ∧ (h34 239 15) ≤ 6 ∧ (h34 239 16) ≤ 6 ∧ (h34 239 17) ≤ 6 ∧ (h34 239 18) ≤ 6)) (p34_3 : (h34 236 8) ≠ 0 ∨ (h34 236 9) = -1) y34_0 => ?_)
        have F35 := F0.then (by decide +kernel) u34
        have b36 := gi_b (lo := 0) (hi := 800) g34 236 4 rfl
        have b37 := gi_b (lo := 0) (hi := 5) g34 236 8 rfl
        have e38 : h34 239 5 = h 239 5 := (u34 239 5 rfl)
        have e39 : h34 239 7 = h 239 7 := (u34 239 7 rfl)
        have b40 := gi_b (lo := 0) (hi := 999) g34 239 15 rfl
        have b41 := gi_b (lo := 0) (hi := 999) g34 239 16 rfl
        have b42 := gi_b (lo := 0) (hi := 999) g34 239 17 rfl
        have b43 := gi_b (lo := 0) (hi := 999) g34 239 18 rfl
        have b44 := gi_b (lo := -2147483648) (hi := 2147483647) g34 236 9 rfl
        refine wk_n ?_
        refine wi_goto (nx := 34) (r1 := 256) (r2 := 0) (r3 := 0) rfl ?_
        refine wi_return (nx := 257) (r1 := 0) (r2 := 0) (r3 := 0) rfl rfl ?_
        exact k h34 g34 F35 (show (h34 236 8) = 0 ∨ 1 ≤ (h34 236 8) by omega) (show (h 236 4) ≤ (h34 236 4) by omega) (show (h34 236 4) ≤ (h 236 3) by omega) (show 1 ≤ (h34 236 8) ∨ ((h34 239 5) ≤ 9 ∧ 1 ≤ (h34 239 5) ∧ (h34 239 7) ≤ 3 ∧ (h34 239 15) ≤ 6 ∧ (h34 239 16) ≤ 6 ∧ (h34 239 17) ≤ 6 ∧ (h34 239 18) ≤ 6) by omega) (show (h34 236 8) ≠ 0 ∨ (h34 236 9) = -1 by omega) (by unfold tk_stm; (repeat (first | rw [if_pos (by omega)] | rw [if_neg (by omega)])); exact y34_0)
    ·
      try have wk24 : tk_wd (tk_lw tB tn tp) = 1 := (tk_wk (B := tB) (n := tn) (p := tp) 0 (by decide) (by omega) (by omega) (by omega)).mp (by show tk_sw tB tn tp = 3650034; omega)
      refine wi_iconst (n := 1) (nx := 25) (r1 := 0) (r2 := 0) (r3 := 0) rfl ?_
      refine wi_goto (nx := 28) (r1 := 29) (r2 := 0) (r3 := 0) rfl ?_
      refine wi_zreturn (nx := 30) (r1 := 0) (r2 := 0) (r3 := 0) rfl rfl (by omega) ?_
      refine wk_i ?_
      refine wi_if (cd := .eq) (nx := 10) (r1 := 17) (r2 := 0) (r3 := 0) rfl (by omega) (fun (q25 : 1 = 0) => by exfalso; omega) (fun (q25 : ¬ (1 = 0)) => ?_)
      refine wi_aload_n (i := 0) (x := 236) (nx := 11) (r1 := 0) (r2 := 0) (r3 := 0) rfl rfl ?_
      refine wr_V (k0 := 236) (rest := []) (as := [.ref 236]) (nx := 14) (r1 := 222) (r2 := 0) (r3 := 11) rfl rfl rfl (of_decide_eq_true rfl) rfl rfl (by decide) rfl rfl (of_decide_eq_true rfl) (of_decide_eq_true rfl) ?_
      refine ct_222_236 hcr  g   (show (h 236 4) ≤ (h 236 3) by omega) (show 0 ≤ tp by omega) (show tp ≤ tn by omega) (show tp ≤ tk_nx tB tn tp ∧ tk_nx tB tn tp ≤ tn by omega) (show (h 236 8) = 0 by omega) (show (h 239 5) ≤ 9 by omega) (show 1 ≤ (h 239 5) by omega) (show (h 239 7) ≤ 3 by omega) (show (h 239 15) ≤ 6 by omega) (show (h 239 16) ≤ 6 by omega) (show (h 239 17) ≤ 6 by omega) (show (h 239 18) ≤ 6 by omega) (show ((h 236 4) = tk_nx tB tn tp ∧ (h 236 5) = tk_st tB tn tp ∧ TKk tB tn tp ((h 236 6)) ((h 236 7)) ((h 236 12))) by first | assumption | exact ⟨by omega, by omega, TKk.mv (by assumption) (by omega) (by omega) (by omega)⟩) (show tS 0 ≤ 5 ∧ tS 1 ≤ 4 ∧ tS 2 ≤ 12 by omega) (show (h 236 9) = -1 by omega) (show tk_kd tB tn tp = 1 by omega) xq0 xq1 (fun h26 g26 u26 (p26_0 : (h 236 4) ≤ (h26 236 4)) (p26_1 : (h26 236 4) ≤ (h 236 3)) (p26_2 : 1 ≤ (h26 236 8) ∨ ((h26 239 5) ≤ 9 ∧ 1 ≤ (h26 239 5) ∧ (h26 239 7) ≤ 3 ∧ (h26 239 15) ≤ 6 ∧ (h26 239 16) ≤ 6 ∧ (h26 239 17) ≤ 6 ∧ (h26 239 18) ≤ 6)) (p26_3 : (h26 236 8) ≠ 0 ∨ (h26 236 9) = -1) y26_0 => ?_)
      have F27 := F0.then (by decide +kernel) u26
      have b28 := gi_b (lo := 0) (hi := 800) g26 236 4 rfl
      have b29 := gi_b (lo := 0) (hi := 5) g26 236 8 rfl
      have e30 : h26 239 5 = h 239 5 := (u26 239 5 rfl)
      have e31 : h26 239 7 = h 239 7 := (u26 239 7 rfl)
      have e32 : h26 239 15 = h 239 15 := (u26 239 15 rfl)
      have e33 : h26 239 16 = h 239 16 := (u26 239 16 rfl)
      have e34 : h26 239 17 = h 239 17 := (u26 239 17 rfl)
      have e35 : h26 239 18 = h 239 18 := (u26 239 18 rfl)
      have b36 := gi_b (lo := -2147483648) (hi := 2147483647) g26 236 9 rfl
      refine wk_n ?_
      refine wi_goto (nx := 17) (r1 := 256) (r2 := 0) (r3 := 0) rfl ?_
      refine wi_return (nx := 257) (r1 := 0) (r2 := 0) (r3 := 0) rfl rfl ?_
      exact k h26 g26 F27 (show (h26 236 8) = 0 ∨ 1 ≤ (h26 236 8) by omega) (show (h 236 4) ≤ (h26 236 4) by omega) (show (h26 236 4) ≤ (h 236 3) by omega) (show 1 ≤ (h26 236 8) ∨ ((h26 239 5) ≤ 9 ∧ 1 ≤ (h26 239 5) ∧ (h26 239 7) ≤ 3 ∧ (h26 239 15) ≤ 6 ∧ (h26 239 16) ≤ 6 ∧ (h26 239 17) ≤ 6 ∧ (h26 239 18) ≤ 6) by omega) (show (h26 236 8) ≠ 0 ∨ (h26 236 9) = -1 by omega) (by unfold tk_stm; (repeat (first | rw [if_pos (by omega)] | rw [if_neg (by omega)])); exact y26_0)
-- method 235: Model.mustSign(I)V
set_option maxRecDepth 100000 in
set_option maxHeartbeats 100000000 in
theorem ct_235_236_L59 {L : Nat} {xs : Nat → Int32} {d b c : Nat} {h : hp} {cr : Nat → Nat → Option Nat} {Q : hp_Q} (hcr : CR cr)  {tB : Nat → Int} {tn tp : Int} (g : GI h)   (pp0 : h 236 4 ≤ h 236 3) (pp1 : 0 ≤ tp) (pp2 : tp ≤ tn) (pp3 : tp ≤ tk_nx tB tn tp ∧ tk_nx tB tn tp ≤ tn) (pp4 : 1 ≤ h 236 8 ∨ (h 236 4 = tk_nx tB tn tp ∧ h 236 5 = tk_st tB tn tp ∧ TKk tB tn tp (h 236 6) (h 236 7) (h 236 12))) (xq0 : RefB tB tn h) (k : ∀ (h2 : hp) , GI h2 → FR [(236, 236, some (4, 4)), (236, 236, some (5, 5)), (236, 236, some (6, 6)), (236, 236, some (7, 7)), (236, 236, some (8, 8)), (236, 236, some (9, 9)), (236, 236, some (12, 12))] h h2 → ((1 ≤ h 236 8 ∧ h2 236 8 = h 236 8 ∧ h2 236 9 = h 236 9) ∨ (h 236 8 = 0 ∧ tk_kd tB tn tp = 3 ∧ h2 236 8 = h 236 8 ∧ h2 236 9 = h 236 9 ∧ (h2 236 4 = tk_nx tB tn (tk_nx tB tn tp) ∧ h2 236 5 = tk_st tB tn (tk_nx tB tn tp) ∧ TKk tB tn (tk_nx tB tn tp) (h2 236 6) (h2 236 7) (h2 236 12))) ∨ (h 236 8 = 0 ∧ tk_kd tB tn tp ≠ 3 ∧ h2 236 8 = 1 ∧ h2 236 9 = tk_st tB tn tp)) → (h 236 4 ≤ h2 236 4) → (h2 236 4 ≤ h 236 3) → (1 ≤ h2 236 8 ∨ h 236 8 = 0) → (1 ≤ h2 236 8 ∨ h2 236 6 = 0 ∨ h 236 4 + 1 ≤ h2 236 4) → Q (.inl none) (hp_w h2 cr) b c) : wp (md_xa (L, xs)) (d + 2) 235 (0, [(0, .ref 236), (1, vi 59)], [], hp_w h cr, b, c) Q := by
  have F0 : FR [(236, 236, some (4, 4)), (236, 236, some (5, 5)), (236, 236, some (6, 6)), (236, 236, some (7, 7)), (236, 236, some (8, 8)), (236, 236, some (9, 9)), (236, 236, some (12, 12))] h h := FR.refl
  have tb_1 : h 236 3 = tn := xq0.2.1
  have tb_2 : 0 ≤ tn ∧ tn ≤ 800 := xq0.2.2
  have b1 := gi_b (lo := 0) (hi := 800) g 236 4 rfl
  have b2 := gi_b (lo := 0) (hi := 800) g 236 3 rfl
  have b3 := gi_b (lo := 0) (hi := 5) g 236 8 rfl
  have b4 := gi_b (lo := 0) (hi := 800) g 236 5 rfl
  have b5 := gi_b (lo := 0) (hi := 4) g 236 6 rfl
  have b6 := gi_b (lo := 0) (hi := 999) g 236 7 rfl
  have b7 := gi_b (lo := -9223372036854775808) (hi := 9223372036854775807) g 236 12 rfl
  refine wi_aload_n (i := 0) (x := 236) (nx := 1) (r1 := 0) (r2 := 0) (r3 := 0) rfl rfl ?_
  refine wr_V (k0 := 236) (rest := []) (as := [.ref 236]) (nx := 4) (r1 := 219) (r2 := 0) (r3 := 11) rfl rfl rfl (of_decide_eq_true rfl) rfl rfl (by decide) rfl rfl (of_decide_eq_true rfl) (of_decide_eq_true rfl) ?_
  refine wi_aload_n (i := 0) (x := 236) (nx := 1) (r1 := 0) (r2 := 0) (r3 := 0) rfl rfl ?_
  refine wr_gi0 (k0 := 236) (x := h 236 8) (nx := 4) (r1 := 11) (r2 := 8) (r3 := 0) rfl rfl (by decide) rfl ⟨rfl, rfl⟩ rfl rfl ?_
  refine wi_if (cd := .ne) (nx := 7) (r1 := 11) (r2 := 0) (r3 := 0) rfl (by omega) (fun (q8 : (h 236 8) ≠ 0) => ?_) (fun (q8 : ¬ ((h 236 8) ≠ 0)) => ?_)
  ·
    refine wi_iconst (n := 0) (nx := 12) (r1 := 0) (r2 := 0) (r3 := 0) rfl ?_
    refine wi_zreturn (nx := 13) (r1 := 0) (r2 := 0) (r3 := 0) rfl rfl (by omega) ?_
    refine wk_i ?_
    refine wi_if (cd := .eq) (nx := 7) (r1 := 20) (r2 := 0) (r3 := 0) rfl (by omega) (fun (q10 : 0 = 0) => ?_) (fun (q10 : ¬ (0 = 0)) => by exfalso; omega)
    refine wi_aload_n (i := 0) (x := 236) (nx := 21) (r1 := 0) (r2 := 0) (r3 := 0) rfl rfl ?_
    refine wr_V (k0 := 236) (rest := []) (as := [.ref 236]) (nx := 24) (r1 := 219) (r2 := 0) (r3 := 11) rfl rfl rfl (of_decide_eq_true rfl) rfl rfl (by decide) rfl rfl (of_decide_eq_true rfl) (of_decide_eq_true rfl) ?_
    refine wi_aload_n (i := 0) (x := 236) (nx := 1) (r1 := 0) (r2 := 0) (r3 := 0) rfl rfl ?_
    refine wr_gi0 (k0 := 236) (x := h 236 8) (nx := 4) (r1 := 11) (r2 := 8) (r3 := 0) rfl rfl (by decide) rfl ⟨rfl, rfl⟩ rfl rfl ?_
    refine wi_if (cd := .ne) (nx := 7) (r1 := 11) (r2 := 0) (r3 := 0) rfl (by omega) (fun (q11 : (h 236 8) ≠ 0) => ?_) (fun (q11 : ¬ ((h 236 8) ≠ 0)) => by exfalso; omega)
    refine wi_iconst (n := 0) (nx := 12) (r1 := 0) (r2 := 0) (r3 := 0) rfl ?_
    refine wi_zreturn (nx := 13) (r1 := 0) (r2 := 0) (r3 := 0) rfl rfl (by omega) ?_
    refine wk_i ?_
    refine wi_if (cd := .eq) (nx := 27) (r1 := 31) (r2 := 0) (r3 := 0) rfl (by omega) (fun (q13 : 0 = 0) => ?_) (fun (q13 : ¬ (0 = 0)) => by exfalso; omega)
    refine wi_return (nx := 32) (r1 := 0) (r2 := 0) (r3 := 0) rfl rfl ?_
    have b14 := gi_b (lo := -2147483648) (hi := 2147483647) g 236 9 rfl
    exact k h g F0 (show (1 ≤ (h 236 8) ∧ (h 236 8) = (h 236 8) ∧ (h 236 9) = (h 236 9)) ∨ ((h 236 8) = 0 ∧ tk_kd tB tn tp = 3 ∧ (h 236 8) = (h 236 8) ∧ (h 236 9) = (h 236 9) ∧ ((h 236 4) = tk_nx tB tn (tk_nx tB tn tp) ∧ (h 236 5) = tk_st tB tn (tk_nx tB tn tp) ∧ TKk tB tn (tk_nx tB tn tp) ((h 236 6)) ((h 236 7)) ((h 236 12)))) ∨ ((h 236 8) = 0 ∧ tk_kd tB tn tp ≠ 3 ∧ (h 236 8) = 1 ∧ (h 236 9) = tk_st tB tn tp) from (Or.inl (by omega))) (show (h 236 4) ≤ (h 236 4) by omega) (show (h 236 4) ≤ (h 236 3) by omega) (show 1 ≤ (h 236 8) ∨ (h 236 8) = 0 by omega) (show 1 ≤ (h 236 8) ∨ (h 236 6) = 0 ∨ (h 236 4) + 1 ≤ (h 236 4) by omega)
  ·
    have kf9 := (pp4.resolve_left (by omega)).2.2
    refine wi_iconst (n := 1) (nx := 8) (r1 := 0) (r2 := 0) (r3 := 0) rfl ?_
    refine wi_goto (nx := 11) (r1 := 12) (r2 := 0) (r3 := 0) rfl ?_
    refine wi_zreturn (nx := 13) (r1 := 0) (r2 := 0) (r3 := 0) rfl rfl (by omega) ?_
    refine wk_i ?_
    refine wi_if (cd := .eq) (nx := 7) (r1 := 20) (r2 := 0) (r3 := 0) rfl (by omega) (fun (q10 : 1 = 0) => by exfalso; omega) (fun (q10 : ¬ (1 = 0)) => ?_)
    refine wi_aload_n (i := 0) (x := 236) (nx := 8) (r1 := 0) (r2 := 0) (r3 := 0) rfl rfl ?_
    refine wi_iload_n (i := 1) (e := 59) (nx := 9) (r1 := 0) (r2 := 0) (r3 := 0) rfl rfl ?_
    refine wr_V (k0 := 236) (rest := []) (as := [.ref 236, vi 59]) (nx := 12) (r1 := 236) (r2 := 1) (r3 := 11) rfl rfl rfl (of_decide_eq_true rfl) rfl rfl (by decide) rfl rfl (of_decide_eq_true rfl) (of_decide_eq_true rfl) ?_
    refine wi_aload_n (i := 0) (x := 236) (nx := 1) (r1 := 0) (r2 := 0) (r3 := 0) rfl rfl ?_
    refine wr_gi0 (k0 := 236) (x := h 236 8) (nx := 4) (r1 := 11) (r2 := 8) (r3 := 0) rfl rfl (by decide) rfl ⟨rfl, rfl⟩ rfl rfl ?_
    refine wi_if (cd := .ne) (nx := 7) (r1 := 27) (r2 := 0) (r3 := 0) rfl (by omega) (fun (q11 : (h 236 8) ≠ 0) => by exfalso; omega) (fun (q11 : ¬ ((h 236 8) ≠ 0)) => ?_)
    have kf12 := (pp4.resolve_left (by omega)).2.2
    refine wi_aload_n (i := 0) (x := 236) (nx := 8) (r1 := 0) (r2 := 0) (r3 := 0) rfl rfl ?_
    refine wr_gi0 (k0 := 236) (x := h 236 6) (nx := 11) (r1 := 11) (r2 := 6) (r3 := 0) rfl rfl (by decide) rfl ⟨rfl, rfl⟩ rfl rfl ?_
    refine wi_iconst (n := 3) (nx := 12) (r1 := 0) (r2 := 0) (r3 := 0) rfl ?_
    refine wi_icmp (cd := .ne) (nx := 15) (r1 := 27) (r2 := 0) (r3 := 0) rfl (by omega) (by omega) (fun (q13 : (h 236 6) ≠ 3) => ?_) (fun (q13 : ¬ ((h 236 6) ≠ 3)) => ?_)
    ·
      try have kf14 := TKk.n3 (B := tB) (n := tn) (p := tp) (a6 := h 236 6) (by assumption) (by omega)
      refine wi_iconst (n := 0) (nx := 28) (r1 := 0) (r2 := 0) (r3 := 0) rfl ?_
      refine wi_zreturn (nx := 29) (r1 := 0) (r2 := 0) (r3 := 0) rfl rfl (by omega) ?_
      refine wk_i ?_
      refine wi_if (cd := .ne) (nx := 15) (r1 := 20) (r2 := 0) (r3 := 0) rfl (by omega) (fun (q15 : 0 ≠ 0) => by exfalso; omega) (fun (q15 : ¬ (0 ≠ 0)) => ?_)
      refine wi_aload_n (i := 0) (x := 236) (nx := 16) (r1 := 0) (r2 := 0) (r3 := 0) rfl rfl ?_
      refine wi_iconst (n := 1) (nx := 17) (r1 := 0) (r2 := 0) (r3 := 0) rfl ?_
      refine wr_V (k0 := 236) (rest := []) (as := [.ref 236, vi 1]) (nx := 20) (r1 := 224) (r2 := 1) (r3 := 11) rfl rfl rfl (of_decide_eq_true rfl) rfl rfl (by decide) rfl rfl (of_decide_eq_true rfl) (of_decide_eq_true rfl) ?_
      refine ct_224_236 hcr  g 1 (by omega)  (fun h16 g16 u16 (p16_0 : 1 ≤ (h16 236 8)) (p16_1 : (1 ≤ (h 236 8) ∧ (h16 236 8) = (h 236 8) ∧ (h16 236 9) = (h 236 9)) ∨ ((h 236 8) = 0 ∧ (h16 236 9) = (h 236 5) ∧ (((h 236 6) = 4 ∧ (h16 236 8) = 1) ∨ ((h 236 6) ≠ 4 ∧ (h16 236 8) = 1)))) => ?_)
      have F17 := F0.then (by decide +kernel) u16
      have b18 := gi_b (lo := 0) (hi := 5) g16 236 8 rfl
      have b19 := gi_b (lo := -2147483648) (hi := 2147483647) g 236 9 rfl
      have b20 := gi_b (lo := -2147483648) (hi := 2147483647) g16 236 9 rfl
      refine wk_n ?_
      refine wi_aload_n (i := 0) (x := 236) (nx := 21) (r1 := 0) (r2 := 0) (r3 := 0) rfl rfl ?_
      refine wr_V (k0 := 236) (rest := []) (as := [.ref 236]) (nx := 24) (r1 := 219) (r2 := 0) (r3 := 11) rfl rfl rfl (of_decide_eq_true rfl) rfl rfl (by decide) rfl rfl (of_decide_eq_true rfl) (of_decide_eq_true rfl) ?_
      refine wi_aload_n (i := 0) (x := 236) (nx := 1) (r1 := 0) (r2 := 0) (r3 := 0) rfl rfl ?_
      refine wr_gi0 (k0 := 236) (x := h16 236 8) (nx := 4) (r1 := 11) (r2 := 8) (r3 := 0) rfl rfl (by decide) rfl ⟨rfl, rfl⟩ rfl rfl ?_
      refine wi_if (cd := .ne) (nx := 7) (r1 := 11) (r2 := 0) (r3 := 0) rfl (by omega) (fun (q21 : (h16 236 8) ≠ 0) => ?_) (fun (q21 : ¬ ((h16 236 8) ≠ 0)) => by exfalso; omega)
      refine wi_iconst (n := 0) (nx := 12) (r1 := 0) (r2 := 0) (r3 := 0) rfl ?_
      refine wi_zreturn (nx := 13) (r1 := 0) (r2 := 0) (r3 := 0) rfl rfl (by omega) ?_
      refine wk_i ?_
      refine wi_if (cd := .eq) (nx := 27) (r1 := 31) (r2 := 0) (r3 := 0) rfl (by omega) (fun (q23 : 0 = 0) => ?_) (fun (q23 : ¬ (0 = 0)) => by exfalso; omega)
      refine wi_return (nx := 32) (r1 := 0) (r2 := 0) (r3 := 0) rfl rfl ?_
      have e24 : h16 236 4 = h 236 4 := (u16 236 4 rfl)
      have e25 : h16 236 5 = h 236 5 := (u16 236 5 rfl)
      have e26 : h16 236 6 = h 236 6 := (u16 236 6 rfl)
      have e27 : h16 236 7 = h 236 7 := (u16 236 7 rfl)
      have e28 : h16 236 12 = h 236 12 := (u16 236 12 rfl)
      exact k h16 g16 F17 (show (1 ≤ (h 236 8) ∧ (h16 236 8) = (h 236 8) ∧ (h16 236 9) = (h 236 9)) ∨ ((h 236 8) = 0 ∧ tk_kd tB tn tp = 3 ∧ (h16 236 8) = (h 236 8) ∧ (h16 236 9) = (h 236 9) ∧ ((h16 236 4) = tk_nx tB tn (tk_nx tB tn tp) ∧ (h16 236 5) = tk_st tB tn (tk_nx tB tn tp) ∧ TKk tB tn (tk_nx tB tn tp) ((h16 236 6)) ((h16 236 7)) ((h16 236 12)))) ∨ ((h 236 8) = 0 ∧ tk_kd tB tn tp ≠ 3 ∧ (h16 236 8) = 1 ∧ (h16 236 9) = tk_st tB tn tp) from (Or.inr (Or.inr (by omega)))) (show (h 236 4) ≤ (h16 236 4) by omega) (show (h16 236 4) ≤ (h 236 3) by omega) (show 1 ≤ (h16 236 8) ∨ (h 236 8) = 0 by omega) (show 1 ≤ (h16 236 8) ∨ (h16 236 6) = 0 ∨ (h 236 4) + 1 ≤ (h16 236 4) by omega)
    ·
      refine wi_aload_n (i := 0) (x := 236) (nx := 16) (r1 := 0) (r2 := 0) (r3 := 0) rfl rfl ?_
      refine wr_gi0 (k0 := 236) (x := h 236 7) (nx := 19) (r1 := 11) (r2 := 7) (r3 := 0) rfl rfl (by decide) rfl ⟨rfl, rfl⟩ rfl rfl ?_
      refine wi_iload_n (i := 1) (e := 59) (nx := 20) (r1 := 0) (r2 := 0) (r3 := 0) rfl rfl ?_
      refine wi_icmp (cd := .ne) (nx := 23) (r1 := 27) (r2 := 0) (r3 := 0) rfl (by omega) (by omega) (fun (q15 : (h 236 7) ≠ 59) => ?_) (fun (q15 : ¬ ((h 236 7) ≠ 59)) => ?_)
      ·
        try have kf16 := TKk.t3 (B := tB) (n := tn) (p := tp) (a7 := h 236 7) (by assumption) (by omega)
        refine wi_iconst (n := 0) (nx := 28) (r1 := 0) (r2 := 0) (r3 := 0) rfl ?_
        refine wi_zreturn (nx := 29) (r1 := 0) (r2 := 0) (r3 := 0) rfl rfl (by omega) ?_
        refine wk_i ?_
        refine wi_if (cd := .ne) (nx := 15) (r1 := 20) (r2 := 0) (r3 := 0) rfl (by omega) (fun (q17 : 0 ≠ 0) => by exfalso; omega) (fun (q17 : ¬ (0 ≠ 0)) => ?_)
        refine wi_aload_n (i := 0) (x := 236) (nx := 16) (r1 := 0) (r2 := 0) (r3 := 0) rfl rfl ?_
        refine wi_iconst (n := 1) (nx := 17) (r1 := 0) (r2 := 0) (r3 := 0) rfl ?_
        refine wr_V (k0 := 236) (rest := []) (as := [.ref 236, vi 1]) (nx := 20) (r1 := 224) (r2 := 1) (r3 := 11) rfl rfl rfl (of_decide_eq_true rfl) rfl rfl (by decide) rfl rfl (of_decide_eq_true rfl) (of_decide_eq_true rfl) ?_
        refine ct_224_236 hcr  g 1 (by omega)  (fun h18 g18 u18 (p18_0 : 1 ≤ (h18 236 8)) (p18_1 : (1 ≤ (h 236 8) ∧ (h18 236 8) = (h 236 8) ∧ (h18 236 9) = (h 236 9)) ∨ ((h 236 8) = 0 ∧ (h18 236 9) = (h 236 5) ∧ (((h 236 6) = 4 ∧ (h18 236 8) = 1) ∨ ((h 236 6) ≠ 4 ∧ (h18 236 8) = 1)))) => ?_)
        have F19 := F0.then (by decide +kernel) u18
        have b20 := gi_b (lo := 0) (hi := 5) g18 236 8 rfl
        have b21 := gi_b (lo := -2147483648) (hi := 2147483647) g 236 9 rfl
        have b22 := gi_b (lo := -2147483648) (hi := 2147483647) g18 236 9 rfl
        refine wk_n ?_
        refine wi_aload_n (i := 0) (x := 236) (nx := 21) (r1 := 0) (r2 := 0) (r3 := 0) rfl rfl ?_
        refine wr_V (k0 := 236) (rest := []) (as := [.ref 236]) (nx := 24) (r1 := 219) (r2 := 0) (r3 := 11) rfl rfl rfl (of_decide_eq_true rfl) rfl rfl (by decide) rfl rfl (of_decide_eq_true rfl) (of_decide_eq_true rfl) ?_
        refine wi_aload_n (i := 0) (x := 236) (nx := 1) (r1 := 0) (r2 := 0) (r3 := 0) rfl rfl ?_
        refine wr_gi0 (k0 := 236) (x := h18 236 8) (nx := 4) (r1 := 11) (r2 := 8) (r3 := 0) rfl rfl (by decide) rfl ⟨rfl, rfl⟩ rfl rfl ?_
        refine wi_if (cd := .ne) (nx := 7) (r1 := 11) (r2 := 0) (r3 := 0) rfl (by omega) (fun (q23 : (h18 236 8) ≠ 0) => ?_) (fun (q23 : ¬ ((h18 236 8) ≠ 0)) => by exfalso; omega)
        refine wi_iconst (n := 0) (nx := 12) (r1 := 0) (r2 := 0) (r3 := 0) rfl ?_
        refine wi_zreturn (nx := 13) (r1 := 0) (r2 := 0) (r3 := 0) rfl rfl (by omega) ?_
        refine wk_i ?_
        refine wi_if (cd := .eq) (nx := 27) (r1 := 31) (r2 := 0) (r3 := 0) rfl (by omega) (fun (q25 : 0 = 0) => ?_) (fun (q25 : ¬ (0 = 0)) => by exfalso; omega)
        refine wi_return (nx := 32) (r1 := 0) (r2 := 0) (r3 := 0) rfl rfl ?_
        have e26 : h18 236 4 = h 236 4 := (u18 236 4 rfl)
        have e27 : h18 236 5 = h 236 5 := (u18 236 5 rfl)
        have e28 : h18 236 6 = h 236 6 := (u18 236 6 rfl)
        have e29 : h18 236 7 = h 236 7 := (u18 236 7 rfl)
        have e30 : h18 236 12 = h 236 12 := (u18 236 12 rfl)
        exact k h18 g18 F19 (show (1 ≤ (h 236 8) ∧ (h18 236 8) = (h 236 8) ∧ (h18 236 9) = (h 236 9)) ∨ ((h 236 8) = 0 ∧ tk_kd tB tn tp = 3 ∧ (h18 236 8) = (h 236 8) ∧ (h18 236 9) = (h 236 9) ∧ ((h18 236 4) = tk_nx tB tn (tk_nx tB tn tp) ∧ (h18 236 5) = tk_st tB tn (tk_nx tB tn tp) ∧ TKk tB tn (tk_nx tB tn tp) ((h18 236 6)) ((h18 236 7)) ((h18 236 12)))) ∨ ((h 236 8) = 0 ∧ tk_kd tB tn tp ≠ 3 ∧ (h18 236 8) = 1 ∧ (h18 236 9) = tk_st tB tn tp) from (Or.inr (Or.inr (by omega)))) (show (h 236 4) ≤ (h18 236 4) by omega) (show (h18 236 4) ≤ (h 236 3) by omega) (show 1 ≤ (h18 236 8) ∨ (h 236 8) = 0 by omega) (show 1 ≤ (h18 236 8) ∨ (h18 236 6) = 0 ∨ (h 236 4) + 1 ≤ (h18 236 4) by omega)
      ·
        try have kf16 := TKk.s3 (B := tB) (n := tn) (p := tp) (a7 := h 236 7) (by assumption) (by omega) (by omega)
        refine wi_iconst (n := 1) (nx := 24) (r1 := 0) (r2 := 0) (r3 := 0) rfl ?_
        refine wi_goto (nx := 27) (r1 := 28) (r2 := 0) (r3 := 0) rfl ?_
        refine wi_zreturn (nx := 29) (r1 := 0) (r2 := 0) (r3 := 0) rfl rfl (by omega) ?_
        refine wk_i ?_
        refine wi_if (cd := .ne) (nx := 15) (r1 := 20) (r2 := 0) (r3 := 0) rfl (by omega) (fun (q17 : 1 ≠ 0) => ?_) (fun (q17 : ¬ (1 ≠ 0)) => by exfalso; omega)
        refine wi_aload_n (i := 0) (x := 236) (nx := 21) (r1 := 0) (r2 := 0) (r3 := 0) rfl rfl ?_
        refine wr_V (k0 := 236) (rest := []) (as := [.ref 236]) (nx := 24) (r1 := 219) (r2 := 0) (r3 := 11) rfl rfl rfl (of_decide_eq_true rfl) rfl rfl (by decide) rfl rfl (of_decide_eq_true rfl) (of_decide_eq_true rfl) ?_
        refine wi_aload_n (i := 0) (x := 236) (nx := 1) (r1 := 0) (r2 := 0) (r3 := 0) rfl rfl ?_
        refine wr_gi0 (k0 := 236) (x := h 236 8) (nx := 4) (r1 := 11) (r2 := 8) (r3 := 0) rfl rfl (by decide) rfl ⟨rfl, rfl⟩ rfl rfl ?_
        refine wi_if (cd := .ne) (nx := 7) (r1 := 11) (r2 := 0) (r3 := 0) rfl (by omega) (fun (q18 : (h 236 8) ≠ 0) => by exfalso; omega) (fun (q18 : ¬ ((h 236 8) ≠ 0)) => ?_)
        have kf19 := (pp4.resolve_left (by omega)).2.2
        refine wi_iconst (n := 1) (nx := 8) (r1 := 0) (r2 := 0) (r3 := 0) rfl ?_
        refine wi_goto (nx := 11) (r1 := 12) (r2 := 0) (r3 := 0) rfl ?_
        refine wi_zreturn (nx := 13) (r1 := 0) (r2 := 0) (r3 := 0) rfl rfl (by omega) ?_
        refine wk_i ?_
        refine wi_if (cd := .eq) (nx := 27) (r1 := 31) (r2 := 0) (r3 := 0) rfl (by omega) (fun (q20 : 1 = 0) => by exfalso; omega) (fun (q20 : ¬ (1 = 0)) => ?_)
        refine wi_aload_n (i := 0) (x := 236) (nx := 28) (r1 := 0) (r2 := 0) (r3 := 0) rfl rfl ?_
        refine wr_V (k0 := 236) (rest := []) (as := [.ref 236]) (nx := 31) (r1 := 215) (r2 := 0) (r3 := 11) rfl rfl rfl (of_decide_eq_true rfl) rfl rfl (by decide) rfl rfl (of_decide_eq_true rfl) (of_decide_eq_true rfl) ?_
        refine ct_215_236 hcr  g   (show (h 236 4) ≤ (h 236 3) by omega) (show (h 236 4) = (tk_nx tB tn tp) by omega) (show 0 ≤ (tk_nx tB tn tp) by omega) (show (tk_nx tB tn tp) ≤ tn by omega) xq0 (fun h21 g21 u21 (p21_0 : (h 236 4) ≤ (h21 236 4)) (p21_1 : (h21 236 4) ≤ (h 236 3)) (p21_2 : ((h21 236 4) = tk_nx tB tn (tk_nx tB tn tp) ∧ (h21 236 5) = tk_st tB tn (tk_nx tB tn tp) ∧ TKk tB tn (tk_nx tB tn tp) ((h21 236 6)) ((h21 236 7)) ((h21 236 12)))) (p21_3 : (tk_nx tB tn tp) ≤ tk_nx tB tn (tk_nx tB tn tp) ∧ tk_nx tB tn (tk_nx tB tn tp) ≤ tn) => ?_)
        have F22 := F0.then (by decide +kernel) u21
        have b23 := gi_b (lo := 0) (hi := 800) g21 236 4 rfl
        have b24 := gi_b (lo := 0) (hi := 800) g21 236 5 rfl
        have b25 := gi_b (lo := 0) (hi := 4) g21 236 6 rfl
        have b26 := gi_b (lo := 0) (hi := 999) g21 236 7 rfl
        have b27 := gi_b (lo := -9223372036854775808) (hi := 9223372036854775807) g21 236 12 rfl
        have tkk28 := p21_2.2.2
        have tN29 := @tk_nx_b tB tn (tk_nx tB tn tp) (by omega) (by omega)
        refine wk_n ?_
        refine wi_return (nx := 32) (r1 := 0) (r2 := 0) (r3 := 0) rfl rfl ?_
        have e30 : h21 236 8 = h 236 8 := (u21 236 8 rfl)
        have b31 := gi_b (lo := -2147483648) (hi := 2147483647) g 236 9 rfl
        have e32 : h21 236 9 = h 236 9 := (u21 236 9 rfl)
        exact k h21 g21 F22 (show (1 ≤ (h 236 8) ∧ (h21 236 8) = (h 236 8) ∧ (h21 236 9) = (h 236 9)) ∨ ((h 236 8) = 0 ∧ tk_kd tB tn tp = 3 ∧ (h21 236 8) = (h 236 8) ∧ (h21 236 9) = (h 236 9) ∧ ((h21 236 4) = tk_nx tB tn (tk_nx tB tn tp) ∧ (h21 236 5) = tk_st tB tn (tk_nx tB tn tp) ∧ TKk tB tn (tk_nx tB tn tp) ((h21 236 6)) ((h21 236 7)) ((h21 236 12)))) ∨ ((h 236 8) = 0 ∧ tk_kd tB tn tp ≠ 3 ∧ (h21 236 8) = 1 ∧ (h21 236 9) = tk_st tB tn tp) from (Or.inr (Or.inl ⟨(by omega), (by omega), (by omega), (by omega), (show ((h21 236 4) = tk_nx tB tn (tk_nx tB tn tp) ∧ (h21 236 5) = tk_st tB tn (tk_nx tB tn tp) ∧ TKk tB tn (tk_nx tB tn tp) ((h21 236 6)) ((h21 236 7)) ((h21 236 12))) by first | assumption | exact ⟨by omega, by omega, TKk.mv (by assumption) (by omega) (by omega) (by omega)⟩)⟩))) (show (h 236 4) ≤ (h21 236 4) by omega) (show (h21 236 4) ≤ (h 236 3) by omega) (show 1 ≤ (h21 236 8) ∨ (h 236 8) = 0 by omega) (show 1 ≤ (h21 236 8) ∨ (h21 236 6) = 0 ∨ (h 236 4) + 1 ≤ (h21 236 4) by omega)
