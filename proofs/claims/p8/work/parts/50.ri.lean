-- method 233: Model.readsCar()V
set_option maxRecDepth 100000 in
set_option maxHeartbeats 100000000 in
theorem ct_233_236 {L : Nat} {xs : Nat → Int32} {d b c : Nat} {h : hp} {cr : Nat → Nat → Option Nat} {Q : hp_Q} (hcr : CR cr)  {tB : Nat → Int} {tn tp : Int} {tS : tk_S} (g : GI h)   (pp0 : h 236 4 ≤ h 236 3) (pp1 : 0 ≤ tp) (pp2 : tp ≤ tn) (pp3 : tp ≤ tk_nx tB tn tp ∧ tk_nx tB tn tp ≤ tn) (pp4 : h 236 8 = 0) (pp5 : h 239 5 ≤ 9) (pp6 : 1 ≤ h 239 5) (pp7 : h 239 7 ≤ 3) (pp8 : h 239 15 ≤ 6) (pp9 : h 239 16 ≤ 6) (pp10 : h 239 17 ≤ 6) (pp11 : h 239 18 ≤ 6) (pp12 : (h 236 4 = tk_nx tB tn tp ∧ h 236 5 = tk_st tB tn tp ∧ TKk tB tn tp (h 236 6) (h 236 7) (h 236 12))) (pp13 : tS 0 ≤ 5 ∧ tS 1 ≤ 4 ∧ tS 2 ≤ 12) (pp14 : h 236 9 = -1) (pp15 : tk_kd tB tn tp = 1) (xq0 : RefB tB tn h) (xq1 : CVr tS h) (k : ∀ (h2 : hp) , GI h2 → FR [(236, 236, some (4, 4)), (236, 236, some (5, 5)), (236, 236, some (6, 6)), (236, 236, some (7, 7)), (236, 236, some (8, 8)), (236, 236, some (9, 9)), (236, 236, some (12, 12)), (239, 239, some (2, 2)), (239, 239, some (19, 30)), (239, 239, some (31, 42)), (239, 239, some (43, 54))] h h2 → (h 236 4 ≤ h2 236 4) → (h2 236 4 ≤ h 236 3) → (1 ≤ h2 236 8 ∨ (h2 239 5 ≤ 9 ∧ 1 ≤ h2 239 5 ∧ h2 239 7 ≤ 3 ∧ h2 239 15 ≤ 6 ∧ h2 239 16 ≤ 6 ∧ h2 239 17 ≤ 6 ∧ h2 239 18 ≤ 6)) → (h2 236 8 ≠ 0 ∨ h2 236 9 = -1) → (tk_OR tB tn (tk_car tB tn tp tS) h2) → Q (.inl none) (hp_w h2 cr) b c) : wp (md_xa (L, xs)) (d + 5) 233 (0, [(0, .ref 236)], [], hp_w h cr, b, c) Q := by
  have F0 : FR [(236, 236, some (4, 4)), (236, 236, some (5, 5)), (236, 236, some (6, 6)), (236, 236, some (7, 7)), (236, 236, some (8, 8)), (236, 236, some (9, 9)), (236, 236, some (12, 12)), (239, 239, some (2, 2)), (239, 239, some (19, 30)), (239, 239, some (31, 42)), (239, 239, some (43, 54))] h h := FR.refl
  have tb_1 : h 236 3 = tn := xq0.2.1
  have tb_2 : 0 ≤ tn ∧ tn ≤ 800 := xq0.2.2
  obtain ⟨⟨rv_0, rv_1, rv_2, rv_3, rv_4, rv_5, rv_6, rv_7, rv_8, rv_9⟩, ⟨rf_0, rf_1, rf_2, rf_3⟩, -⟩ := id xq1
  have b1 := gi_b (lo := 0) (hi := 5) g 239 0 rfl
  have b2 := gi_b (lo := 0) (hi := 4) g 239 1 rfl
  have b3 := gi_b (lo := 0) (hi := 12) g 239 2 rfl
  have tkk0_ := pp12.2.2
  have b4 := gi_b (lo := 0) (hi := 800) g 236 4 rfl
  have b5 := gi_b (lo := 0) (hi := 800) g 236 3 rfl
  have b6 := gi_b (lo := 0) (hi := 5) g 236 8 rfl
  have b7 := gi_b (lo := 0) (hi := 999) g 239 5 rfl
  have b8 := gi_b (lo := 0) (hi := 999) g 239 7 rfl
  have b9 := gi_b (lo := 0) (hi := 999) g 239 15 rfl
  have b10 := gi_b (lo := 0) (hi := 999) g 239 16 rfl
  have b11 := gi_b (lo := 0) (hi := 999) g 239 17 rfl
  have b12 := gi_b (lo := 0) (hi := 999) g 239 18 rfl
  have b13 := gi_b (lo := 0) (hi := 800) g 236 5 rfl
  have b14 := gi_b (lo := 0) (hi := 4) g 236 6 rfl
  have b15 := gi_b (lo := 0) (hi := 999) g 236 7 rfl
  have b16 := gi_b (lo := -9223372036854775808) (hi := 9223372036854775807) g 236 12 rfl
  have b17 := gi_b (lo := -2147483648) (hi := 2147483647) g 236 9 rfl
  refine wi_aload_n (i := 0) (x := 236) (nx := 1) (r1 := 0) (r2 := 0) (r3 := 0) rfl rfl ?_
  refine wr_gr (k0 := 236) (x := 239) (nx := 4) (r1 := 11) (r2 := 14) (r3 := 0) rfl rfl (by decide) rfl ⟨rfl, rfl⟩ rfl ?_
  refine wi_iconst (n := 2) (nx := 5) (r1 := 0) (r2 := 0) (r3 := 0) rfl ?_
  refine wr_ia (k0 := 239) (a := 2) (f := 2) (x := h 239 2) (nx := 6) (r1 := 0) (r2 := 0) (r3 := 0) rfl (by decide) rfl (by omega) (by omega) (by decide) rfl ?_
  refine wi_istore_n (i := 1) (e := h 239 2) (lo2 := [(1, vi (h 239 2)), (0, .ref 236)]) (nx := 7) (r1 := 0) (r2 := 0) (r3 := 0) rfl rfl ?_
  refine wi_aload_n (i := 0) (x := 236) (nx := 8) (r1 := 0) (r2 := 0) (r3 := 0) rfl rfl ?_
  refine wi_iconst (n := 2) (nx := 9) (r1 := 0) (r2 := 0) (r3 := 0) rfl ?_
  refine wi_bipush (n := 12) (nx := 11) (r1 := 0) (r2 := 0) (r3 := 0) rfl (by decide) ?_
  refine wr_V (k0 := 236) (rest := []) (as := [.ref 236, vi 2, vi 12]) (nx := 14) (r1 := 223) (r2 := 2) (r3 := 11) rfl rfl rfl (of_decide_eq_true rfl) rfl rfl (by decide) rfl rfl (of_decide_eq_true rfl) (of_decide_eq_true rfl) ?_
  refine wi_aload_n (i := 0) (x := 236) (nx := 1) (r1 := 0) (r2 := 0) (r3 := 0) rfl rfl ?_
  refine wr_gr (k0 := 236) (x := 239) (nx := 4) (r1 := 11) (r2 := 14) (r3 := 0) rfl rfl (by decide) rfl ⟨rfl, rfl⟩ rfl ?_
  refine wi_iload_n (i := 1) (e := 2) (nx := 5) (r1 := 0) (r2 := 0) (r3 := 0) rfl rfl ?_
  refine wr_ia (k0 := 239) (a := 2) (f := 2) (x := h 239 2) (nx := 6) (r1 := 0) (r2 := 0) (r3 := 0) rfl (by decide) rfl (by omega) (by omega) (by decide) rfl ?_
  refine wi_iload_n (i := 2) (e := 12) (nx := 7) (r1 := 0) (r2 := 0) (r3 := 0) rfl rfl ?_
  refine wi_icmp (cd := .ne) (nx := 10) (r1 := 15) (r2 := 0) (r3 := 0) rfl (by omega) (by omega) (fun (q18 : (h 239 2) ≠ 12) => ?_) (fun (q18 : ¬ ((h 239 2) ≠ 12)) => ?_)
  ·
    refine wi_aload_n (i := 0) (x := 236) (nx := 16) (r1 := 0) (r2 := 0) (r3 := 0) rfl rfl ?_
    refine wr_V (k0 := 236) (rest := []) (as := [.ref 236]) (nx := 19) (r1 := 219) (r2 := 0) (r3 := 11) rfl rfl rfl (of_decide_eq_true rfl) rfl rfl (by decide) rfl rfl (of_decide_eq_true rfl) (of_decide_eq_true rfl) ?_
    refine wi_aload_n (i := 0) (x := 236) (nx := 1) (r1 := 0) (r2 := 0) (r3 := 0) rfl rfl ?_
    refine wr_gi0 (k0 := 236) (x := h 236 8) (nx := 4) (r1 := 11) (r2 := 8) (r3 := 0) rfl rfl (by decide) rfl ⟨rfl, rfl⟩ rfl rfl ?_
    refine wi_if (cd := .ne) (nx := 7) (r1 := 11) (r2 := 0) (r3 := 0) rfl (by omega) (fun (q19 : (h 236 8) ≠ 0) => by exfalso; omega) (fun (q19 : ¬ ((h 236 8) ≠ 0)) => ?_)
    refine wi_iconst (n := 1) (nx := 8) (r1 := 0) (r2 := 0) (r3 := 0) rfl ?_
    refine wi_goto (nx := 11) (r1 := 12) (r2 := 0) (r3 := 0) rfl ?_
    refine wi_zreturn (nx := 13) (r1 := 0) (r2 := 0) (r3 := 0) rfl rfl (by omega) ?_
    refine wk_i ?_
    refine wi_if (cd := .eq) (nx := 22) (r1 := 26) (r2 := 0) (r3 := 0) rfl (by omega) (fun (q21 : 1 = 0) => by exfalso; omega) (fun (q21 : ¬ (1 = 0)) => ?_)
    refine wi_aload_n (i := 0) (x := 236) (nx := 23) (r1 := 0) (r2 := 0) (r3 := 0) rfl rfl ?_
    refine wr_V (k0 := 236) (rest := []) (as := [.ref 236]) (nx := 26) (r1 := 215) (r2 := 0) (r3 := 11) rfl rfl rfl (of_decide_eq_true rfl) rfl rfl (by decide) rfl rfl (of_decide_eq_true rfl) (of_decide_eq_true rfl) ?_
    refine ct_215_236 hcr  g   (show (h 236 4) ≤ (h 236 3) by omega) (show (h 236 4) = (tk_nx tB tn tp) by omega) (show 0 ≤ (tk_nx tB tn tp) by omega) (show (tk_nx tB tn tp) ≤ tn by omega) xq0 (fun h22 g22 u22 (p22_0 : (h 236 4) ≤ (h22 236 4)) (p22_1 : (h22 236 4) ≤ (h 236 3)) (p22_2 : ((h22 236 4) = tk_nx tB tn (tk_nx tB tn tp) ∧ (h22 236 5) = tk_st tB tn (tk_nx tB tn tp) ∧ TKk tB tn (tk_nx tB tn tp) ((h22 236 6)) ((h22 236 7)) ((h22 236 12)))) (p22_3 : (tk_nx tB tn tp) ≤ tk_nx tB tn (tk_nx tB tn tp) ∧ tk_nx tB tn (tk_nx tB tn tp) ≤ tn) => ?_)
    have F23 := F0.then (by decide +kernel) u22
    have b24 := gi_b (lo := 0) (hi := 800) g22 236 4 rfl
    have b25 := gi_b (lo := 0) (hi := 800) g22 236 5 rfl
    have b26 := gi_b (lo := 0) (hi := 4) g22 236 6 rfl
    have b27 := gi_b (lo := 0) (hi := 999) g22 236 7 rfl
    have b28 := gi_b (lo := -9223372036854775808) (hi := 9223372036854775807) g22 236 12 rfl
    have tkk29 := p22_2.2.2
    have tN30 := @tk_nx_b tB tn (tk_nx tB tn tp) (by omega) (by omega)
    refine wk_n ?_
    refine wi_aload_n (i := 0) (x := 236) (nx := 27) (r1 := 0) (r2 := 0) (r3 := 0) rfl rfl ?_
    refine wr_V (k0 := 236) (rest := []) (as := [.ref 236]) (nx := 30) (r1 := 219) (r2 := 0) (r3 := 11) rfl rfl rfl (of_decide_eq_true rfl) rfl rfl (by decide) rfl rfl (of_decide_eq_true rfl) (of_decide_eq_true rfl) ?_
    refine wi_aload_n (i := 0) (x := 236) (nx := 1) (r1 := 0) (r2 := 0) (r3 := 0) rfl rfl ?_
    refine wr_gi0 (k0 := 236) (x := h 236 8) (nx := 4) (r1 := 11) (r2 := 8) (r3 := 0) rfl rfl (by decide) rfl ⟨rfl, rfl⟩ rfl (u22 236 8 rfl) ?_
    refine wi_if (cd := .ne) (nx := 7) (r1 := 11) (r2 := 0) (r3 := 0) rfl (by omega) (fun (q31 : (h 236 8) ≠ 0) => by exfalso; omega) (fun (q31 : ¬ ((h 236 8) ≠ 0)) => ?_)
    refine wi_iconst (n := 1) (nx := 8) (r1 := 0) (r2 := 0) (r3 := 0) rfl ?_
    refine wi_goto (nx := 11) (r1 := 12) (r2 := 0) (r3 := 0) rfl ?_
    refine wi_zreturn (nx := 13) (r1 := 0) (r2 := 0) (r3 := 0) rfl rfl (by omega) ?_
    refine wk_i ?_
    refine wi_zreturn (nx := 31) (r1 := 0) (r2 := 0) (r3 := 0) rfl rfl (by omega) ?_
    refine wk_i ?_
    refine wi_if (cd := .ne) (nx := 17) (r1 := 18) (r2 := 0) (r3 := 0) rfl (by omega) (fun (q33 : 1 ≠ 0) => ?_) (fun (q33 : ¬ (1 ≠ 0)) => by exfalso; omega)
    refine wi_aload_n (i := 0) (x := 236) (nx := 19) (r1 := 0) (r2 := 0) (r3 := 0) rfl rfl ?_
    refine wr_V (k0 := 236) (rest := []) (as := [.ref 236]) (nx := 22) (r1 := 225) (r2 := 0) (r3 := 11) rfl rfl rfl (of_decide_eq_true rfl) rfl rfl (by decide) rfl rfl (of_decide_eq_true rfl) (of_decide_eq_true rfl) ?_
    have e35 : h22 236 8 = h 236 8 := (u22 236 8 rfl)
    have rb36 := RefB.fr u22 rfl xq0
    refine ct_225_236 hcr  g22   (show 0 ≤ (tk_nx tB tn tp) by omega) (show (tk_nx tB tn tp) ≤ tn by omega) (show (tk_nx tB tn tp) ≤ tk_nx tB tn (tk_nx tB tn tp) ∧ tk_nx tB tn (tk_nx tB tn tp) ≤ tn by omega) (show 1 ≤ (h22 236 8) ∨ ((h22 236 4) = tk_nx tB tn (tk_nx tB tn tp) ∧ (h22 236 5) = tk_st tB tn (tk_nx tB tn tp) ∧ TKk tB tn (tk_nx tB tn tp) ((h22 236 6)) ((h22 236 7)) ((h22 236 12))) from (Or.inr (show ((h22 236 4) = tk_nx tB tn (tk_nx tB tn tp) ∧ (h22 236 5) = tk_st tB tn (tk_nx tB tn tp) ∧ TKk tB tn (tk_nx tB tn tp) ((h22 236 6)) ((h22 236 7)) ((h22 236 12))) by first | assumption | exact ⟨by omega, by omega, TKk.mv (by assumption) (by omega) (by omega) (by omega)⟩))) rb36 (fun h34 g34 u34 (p34_0 : (1 ≤ (h22 236 8) ∧ (h34 236 8) = (h22 236 8) ∧ (h34 236 9) = (h22 236 9)) ∨ ((h22 236 8) = 0 ∧ tk_kd tB tn (tk_nx tB tn tp) = 1 ∧ tk_wd (tk_lw tB tn (tk_nx tB tn tp)) = 21 ∧ (h34 236 8) = (h22 236 8) ∧ (h34 236 9) = (h22 236 9)) ∨ ((h22 236 8) = 0 ∧ (tk_kd tB tn (tk_nx tB tn tp) ≠ 1 ∨ tk_wd (tk_lw tB tn (tk_nx tB tn tp)) ≠ 21) ∧ (h34 236 8) = 1 ∧ (h34 236 9) = tk_st tB tn (tk_nx tB tn tp))) (p34_1 : 1 ≤ (h34 236 8) ∨ (h22 236 8) = 0) => ?_)
    have F37 := F23.then (by decide +kernel) u34
    have e38 : h22 236 9 = h 236 9 := (u22 236 9 rfl)
    have b39 := gi_b (lo := 0) (hi := 5) g34 236 8 rfl
    have b40 := gi_b (lo := -2147483648) (hi := 2147483647) g34 236 9 rfl
    refine wk_n ?_
    rcases p34_0 with p34_0 | p34_0 | p34_0
    ·
      exfalso; omega
    ·
      refine wi_aload_n (i := 0) (x := 236) (nx := 23) (r1 := 0) (r2 := 0) (r3 := 0) rfl rfl ?_
      refine wr_V (k0 := 236) (rest := []) (as := [.ref 236]) (nx := 26) (r1 := 227) (r2 := 0) (r3 := 11) rfl rfl rfl (of_decide_eq_true rfl) rfl rfl (by decide) rfl rfl (of_decide_eq_true rfl) (of_decide_eq_true rfl) ?_
      have e42 : h34 236 12 = h22 236 12 := (u34 236 12 rfl)
      have rb44 := RefB.fr u34 rfl rb36
      have cr45 := CVr.fr u22 rfl xq1
      have cr46 := CVr.fr u34 rfl cr45
      refine ct_227_236 hcr  g34   (show 0 ≤ (tk_nx tB tn tp) by omega) (show (tk_nx tB tn tp) ≤ tn by omega) (show (tk_nx tB tn tp) ≤ tk_nx tB tn (tk_nx tB tn tp) ∧ tk_nx tB tn (tk_nx tB tn tp) ≤ tn by omega) (show tk_kd tB tn (tk_nx tB tn tp) = 1 → (h34 236 12) = tk_sw tB tn (tk_nx tB tn tp) by intro e; have kq := TKk.w (B := tB) (n := tn) (p := (tk_nx tB tn tp)) (by assumption) e; omega) rb44 cr46 (fun z43  (fz43 : 0 ≤ z43 ∧ z43 ≤ 5) (p41_0 : z43 ≤ (h34 239 0)) y41_0 => ?_)
      have e47 : h34 239 0 = h 239 0 := ((u34 239 0 rfl).trans (u22 239 0 rfl))
      refine wk_i ?_
      have nd48 : tk_kd tB tn (tk_nx tB tn tp) = 1 → z43 = tk_fi tS (tk_lw tB tn (tk_nx tB tn tp)) := y41_0
      refine wi_istore_n (i := 2) (e := z43) (lo2 := [(2, vi z43), (1, vi (h 239 2)), (0, .ref 236)]) (nx := 27) (r1 := 0) (r2 := 0) (r3 := 0) rfl rfl ?_
      refine wi_aload_n (i := 0) (x := 236) (nx := 28) (r1 := 0) (r2 := 0) (r3 := 0) rfl rfl ?_
      refine wr_V (k0 := 236) (rest := []) (as := [.ref 236]) (nx := 31) (r1 := 219) (r2 := 0) (r3 := 11) rfl rfl rfl (of_decide_eq_true rfl) rfl rfl (by decide) rfl rfl (of_decide_eq_true rfl) (of_decide_eq_true rfl) ?_
      refine wi_aload_n (i := 0) (x := 236) (nx := 1) (r1 := 0) (r2 := 0) (r3 := 0) rfl rfl ?_
      refine wr_gi0 (k0 := 236) (x := h34 236 8) (nx := 4) (r1 := 11) (r2 := 8) (r3 := 0) rfl rfl (by decide) rfl ⟨rfl, rfl⟩ rfl rfl ?_
      refine wi_if (cd := .ne) (nx := 7) (r1 := 11) (r2 := 0) (r3 := 0) rfl (by omega) (fun (q49 : (h34 236 8) ≠ 0) => by exfalso; omega) (fun (q49 : ¬ ((h34 236 8) ≠ 0)) => ?_)
      refine wi_iconst (n := 1) (nx := 8) (r1 := 0) (r2 := 0) (r3 := 0) rfl ?_
      refine wi_goto (nx := 11) (r1 := 12) (r2 := 0) (r3 := 0) rfl ?_
      refine wi_zreturn (nx := 13) (r1 := 0) (r2 := 0) (r3 := 0) rfl rfl (by omega) ?_
      refine wk_i ?_
      refine wi_if (cd := .eq) (nx := 34) (r1 := 49) (r2 := 0) (r3 := 0) rfl (by omega) (fun (q51 : 1 = 0) => by exfalso; omega) (fun (q51 : ¬ (1 = 0)) => ?_)
      refine wi_iload_n (i := 2) (e := z43) (nx := 35) (r1 := 0) (r2 := 0) (r3 := 0) rfl rfl ?_
      refine wi_aload_n (i := 0) (x := 236) (nx := 36) (r1 := 0) (r2 := 0) (r3 := 0) rfl rfl ?_
      refine wr_gr (k0 := 236) (x := 239) (nx := 39) (r1 := 11) (r2 := 14) (r3 := 0) rfl rfl (by decide) rfl ⟨rfl, rfl⟩ rfl ?_
      refine wi_iconst (n := 0) (nx := 40) (r1 := 0) (r2 := 0) (r3 := 0) rfl ?_
      refine wr_ia (k0 := 239) (a := 0) (f := 0) (x := h 239 0) (nx := 41) (r1 := 0) (r2 := 0) (r3 := 0) rfl (by decide) rfl (by omega) (by omega) (by decide) ((u34 239 0 rfl).trans (u22 239 0 rfl)) ?_
      refine wi_icmp (cd := .ne) (nx := 44) (r1 := 49) (r2 := 0) (r3 := 0) rfl (by omega) (by omega) (fun (q52 : z43 ≠ (h 239 0)) => ?_) (fun (q52 : ¬ (z43 ≠ (h 239 0))) => ?_)
      ·
        refine wi_aload_n (i := 0) (x := 236) (nx := 50) (r1 := 0) (r2 := 0) (r3 := 0) rfl rfl ?_
        refine wr_V (k0 := 236) (rest := []) (as := [.ref 236]) (nx := 53) (r1 := 219) (r2 := 0) (r3 := 11) rfl rfl rfl (of_decide_eq_true rfl) rfl rfl (by decide) rfl rfl (of_decide_eq_true rfl) (of_decide_eq_true rfl) ?_
        refine wi_aload_n (i := 0) (x := 236) (nx := 1) (r1 := 0) (r2 := 0) (r3 := 0) rfl rfl ?_
        refine wr_gi0 (k0 := 236) (x := h34 236 8) (nx := 4) (r1 := 11) (r2 := 8) (r3 := 0) rfl rfl (by decide) rfl ⟨rfl, rfl⟩ rfl rfl ?_
        refine wi_if (cd := .ne) (nx := 7) (r1 := 11) (r2 := 0) (r3 := 0) rfl (by omega) (fun (q53 : (h34 236 8) ≠ 0) => by exfalso; omega) (fun (q53 : ¬ ((h34 236 8) ≠ 0)) => ?_)
        refine wi_iconst (n := 1) (nx := 8) (r1 := 0) (r2 := 0) (r3 := 0) rfl ?_
        refine wi_goto (nx := 11) (r1 := 12) (r2 := 0) (r3 := 0) rfl ?_
        refine wi_zreturn (nx := 13) (r1 := 0) (r2 := 0) (r3 := 0) rfl rfl (by omega) ?_
        refine wk_i ?_
        refine wi_if (cd := .ne) (nx := 56) (r1 := 57) (r2 := 0) (r3 := 0) rfl (by omega) (fun (q55 : 1 ≠ 0) => ?_) (fun (q55 : ¬ (1 ≠ 0)) => by exfalso; omega)
        refine wi_aload_n (i := 0) (x := 236) (nx := 58) (r1 := 0) (r2 := 0) (r3 := 0) rfl rfl ?_
        refine wr_V (k0 := 236) (rest := []) (as := [.ref 236]) (nx := 61) (r1 := 215) (r2 := 0) (r3 := 11) rfl rfl rfl (of_decide_eq_true rfl) rfl rfl (by decide) rfl rfl (of_decide_eq_true rfl) (of_decide_eq_true rfl) ?_
        have e57 : h34 236 4 = h22 236 4 := (u34 236 4 rfl)
        have e58 : h34 236 3 = h 236 3 := ((u34 236 3 rfl).trans (u22 236 3 rfl))
        refine ct_215_236 hcr  g34   (show (h34 236 4) ≤ (h34 236 3) by omega) (show (h34 236 4) = (tk_nx tB tn (tk_nx tB tn tp)) by omega) (show 0 ≤ (tk_nx tB tn (tk_nx tB tn tp)) by omega) (show (tk_nx tB tn (tk_nx tB tn tp)) ≤ tn by omega) rb44 (fun h56 g56 u56 (p56_0 : (h34 236 4) ≤ (h56 236 4)) (p56_1 : (h56 236 4) ≤ (h34 236 3)) (p56_2 : ((h56 236 4) = tk_nx tB tn (tk_nx tB tn (tk_nx tB tn tp)) ∧ (h56 236 5) = tk_st tB tn (tk_nx tB tn (tk_nx tB tn tp)) ∧ TKk tB tn (tk_nx tB tn (tk_nx tB tn tp)) ((h56 236 6)) ((h56 236 7)) ((h56 236 12)))) (p56_3 : (tk_nx tB tn (tk_nx tB tn tp)) ≤ tk_nx tB tn (tk_nx tB tn (tk_nx tB tn tp)) ∧ tk_nx tB tn (tk_nx tB tn (tk_nx tB tn tp)) ≤ tn) => ?_)
        have F59 := F37.then (by decide +kernel) u56
        have b60 := gi_b (lo := 0) (hi := 800) g56 236 4 rfl
        have b61 := gi_b (lo := 0) (hi := 800) g56 236 5 rfl
        have b62 := gi_b (lo := 0) (hi := 4) g56 236 6 rfl
        have b63 := gi_b (lo := 0) (hi := 999) g56 236 7 rfl
        have b64 := gi_b (lo := -9223372036854775808) (hi := 9223372036854775807) g56 236 12 rfl
        have tkk65 := p56_2.2.2
        have tN66 := @tk_nx_b tB tn (tk_nx tB tn (tk_nx tB tn tp)) (by omega) (by omega)
        refine wk_n ?_
        refine wi_aload_n (i := 0) (x := 236) (nx := 62) (r1 := 0) (r2 := 0) (r3 := 0) rfl rfl ?_
        refine wr_gr (k0 := 236) (x := 239) (nx := 65) (r1 := 11) (r2 := 14) (r3 := 0) rfl rfl (by decide) rfl ⟨rfl, rfl⟩ rfl ?_
        refine wi_bipush (n := 31) (nx := 67) (r1 := 0) (r2 := 0) (r3 := 0) rfl (by decide) ?_
        refine wi_iload_n (i := 1) (e := h 239 2) (nx := 68) (r1 := 0) (r2 := 0) (r3 := 0) rfl rfl ?_
        refine wr_add (nx := 69) (r1 := 0) (r2 := 0) (r3 := 0) rfl (fun e67 (fe67 : e67 = 31 + (h 239 2)) => ?_)
        refine wi_iload_n (i := 2) (e := z43) (nx := 70) (r1 := 0) (r2 := 0) (r3 := 0) rfl rfl ?_
        obtain ⟨i68, ei68⟩ : ∃ q : Nat, e67 = (q : Int) := ⟨(e67).toNat, by omega⟩
        refine wr_is (k0 := 239) (a := e67) (f := i68) (x := z43) (bl := 0) (bh := 4) (nx := 71) (r1 := 0) (r2 := 0) (r3 := 0) rfl (by decide) rfl (by omega) (by omega) (by decide) g56 (gi_rq 31 12 (fun _ => rfl) (by decide +kernel) (by omega)) (by omega) (fun h69 g69 w69 u69 => ?_)
        have F70 := F59.then rfl (FR.idx (p := 31) (q := 42) u69 (by omega))
        refine wi_aload_n (i := 0) (x := 236) (nx := 72) (r1 := 0) (r2 := 0) (r3 := 0) rfl rfl ?_
        refine wr_gr (k0 := 236) (x := 239) (nx := 75) (r1 := 11) (r2 := 14) (r3 := 0) rfl rfl (by decide) rfl ⟨rfl, rfl⟩ rfl ?_
        refine wi_bipush (n := 19) (nx := 77) (r1 := 0) (r2 := 0) (r3 := 0) rfl (by decide) ?_
        refine wi_iload_n (i := 1) (e := h 239 2) (nx := 78) (r1 := 0) (r2 := 0) (r3 := 0) rfl rfl ?_
        refine wr_add (nx := 79) (r1 := 0) (r2 := 0) (r3 := 0) rfl (fun e71 (fe71 : e71 = 19 + (h 239 2)) => ?_)
        refine wi_aload_n (i := 0) (x := 236) (nx := 80) (r1 := 0) (r2 := 0) (r3 := 0) rfl rfl ?_
        refine wi_ldc2_w (e := 81049) (nx := 83) (r1 := 81049) (r2 := 0) (r3 := 0) rfl (by decide) ?_
        refine wi_iconst (n := 0) (nx := 84) (r1 := 0) (r2 := 0) (r3 := 0) rfl ?_
        refine wi_iconst (n := 3) (nx := 85) (r1 := 0) (r2 := 0) (r3 := 0) rfl ?_
        have wk72 : tk_kd tB tn (tk_nx tB tn (tk_nx tB tn tp)) = 1 → (tk_sw tB tn (tk_nx tB tn (tk_nx tB tn tp)) = 81049 ↔ tk_wd (tk_lw tB tn (tk_nx tB tn (tk_nx tB tn tp))) = 5) := fun e => tk_wk 4 (by decide) (by omega) (by omega) e
        refine wr_V (k0 := 236) (rest := [vi e71, .ref 239]) (as := [.ref 236, vl 81049, vi 0, vi 3]) (nx := 88) (r1 := 228) (r2 := 3) (r3 := 11) rfl rfl rfl (of_decide_eq_true rfl) rfl rfl (by decide) rfl rfl (of_decide_eq_true rfl) (of_decide_eq_true rfl) ?_
        have e74 : h69 236 4 = h56 236 4 := (u69 236 4 (fn_a (by omega) fn_0))
        have e75 : h69 236 3 = h 236 3 := ((u69 236 3 (fn_a (by omega) fn_0)).trans ((u56 236 3 rfl).trans ((u34 236 3 rfl).trans (u22 236 3 rfl))))
        have e76 : h69 236 8 = h34 236 8 := ((u69 236 8 (fn_a (by omega) fn_0)).trans (u56 236 8 rfl))
        have e77 : h69 236 5 = h56 236 5 := (u69 236 5 (fn_a (by omega) fn_0))
        have e78 : h69 236 6 = h56 236 6 := (u69 236 6 (fn_a (by omega) fn_0))
        have e79 : h69 236 7 = h56 236 7 := (u69 236 7 (fn_a (by omega) fn_0))
        have e80 : h69 236 12 = h56 236 12 := (u69 236 12 (fn_a (by omega) fn_0))
        have rb82 := RefB.fr u56 rfl rb44
        have rb83 := RefB.fr u69 rfl rb82
        refine ct_228_236 hcr  g69 81049 0 3 (by omega) (by omega) (by omega) (show (h69 236 4) ≤ (h69 236 3) by omega) (show 0 ≤ (tk_nx tB tn (tk_nx tB tn tp)) by omega) (show (tk_nx tB tn (tk_nx tB tn tp)) ≤ tn by omega) (show (tk_nx tB tn (tk_nx tB tn tp)) ≤ tk_nx tB tn (tk_nx tB tn (tk_nx tB tn tp)) ∧ tk_nx tB tn (tk_nx tB tn (tk_nx tB tn tp)) ≤ tn by omega) (show 1 ≤ (h69 236 8) ∨ ((h69 236 4) = tk_nx tB tn (tk_nx tB tn (tk_nx tB tn tp)) ∧ (h69 236 5) = tk_st tB tn (tk_nx tB tn (tk_nx tB tn tp)) ∧ TKk tB tn (tk_nx tB tn (tk_nx tB tn tp)) ((h69 236 6)) ((h69 236 7)) ((h69 236 12))) from (Or.inr (show ((h69 236 4) = tk_nx tB tn (tk_nx tB tn (tk_nx tB tn tp)) ∧ (h69 236 5) = tk_st tB tn (tk_nx tB tn (tk_nx tB tn tp)) ∧ TKk tB tn (tk_nx tB tn (tk_nx tB tn tp)) ((h69 236 6)) ((h69 236 7)) ((h69 236 12))) by first | assumption | exact ⟨by omega, by omega, TKk.mv (by assumption) (by omega) (by omega) (by omega)⟩))) rb83 (fun h73 z81 g73 u73 (fz81 : 0 ≤ z81 ∧ z81 ≤ 999) (p73_0 : (1 ≤ (h69 236 8) ∧ (h73 236 8) = (h69 236 8) ∧ (h73 236 9) = (h69 236 9)) ∨ ((h69 236 8) = 0 ∧ tk_kd tB tn (tk_nx tB tn (tk_nx tB tn tp)) = 1 ∧ tk_sw tB tn (tk_nx tB tn (tk_nx tB tn tp)) = 81049 ∧ tk_kd tB tn (tk_nx tB tn (tk_nx tB tn (tk_nx tB tn tp))) = 2 ∧ 0 ≤ tk_nb tB tn (tk_nx tB tn (tk_nx tB tn (tk_nx tB tn tp))) ∧ tk_nb tB tn (tk_nx tB tn (tk_nx tB tn (tk_nx tB tn tp))) ≤ 3 ∧ z81 = tk_nb tB tn (tk_nx tB tn (tk_nx tB tn (tk_nx tB tn tp))) ∧ (h73 236 8) = (h69 236 8) ∧ (h73 236 9) = (h69 236 9) ∧ ((h73 236 4) = tk_nx tB tn (tk_nx tB tn (tk_nx tB tn (tk_nx tB tn (tk_nx tB tn tp)))) ∧ (h73 236 5) = tk_st tB tn (tk_nx tB tn (tk_nx tB tn (tk_nx tB tn (tk_nx tB tn tp)))) ∧ TKk tB tn (tk_nx tB tn (tk_nx tB tn (tk_nx tB tn (tk_nx tB tn tp)))) ((h73 236 6)) ((h73 236 7)) ((h73 236 12)))) ∨ ((h69 236 8) = 0 ∧ (tk_kd tB tn (tk_nx tB tn (tk_nx tB tn tp)) ≠ 1 ∨ tk_sw tB tn (tk_nx tB tn (tk_nx tB tn tp)) ≠ 81049) ∧ (h73 236 8) = 1 ∧ (h73 236 9) = tk_st tB tn (tk_nx tB tn (tk_nx tB tn tp))) ∨ ((h69 236 8) = 0 ∧ tk_kd tB tn (tk_nx tB tn (tk_nx tB tn tp)) = 1 ∧ tk_sw tB tn (tk_nx tB tn (tk_nx tB tn tp)) = 81049 ∧ tk_kd tB tn (tk_nx tB tn (tk_nx tB tn (tk_nx tB tn tp))) ≠ 2 ∧ (h73 236 8) = 1 ∧ (h73 236 9) = tk_st tB tn (tk_nx tB tn (tk_nx tB tn (tk_nx tB tn tp)))) ∨ ((h69 236 8) = 0 ∧ tk_kd tB tn (tk_nx tB tn (tk_nx tB tn tp)) = 1 ∧ tk_sw tB tn (tk_nx tB tn (tk_nx tB tn tp)) = 81049 ∧ tk_kd tB tn (tk_nx tB tn (tk_nx tB tn (tk_nx tB tn tp))) = 2 ∧ (tk_nb tB tn (tk_nx tB tn (tk_nx tB tn (tk_nx tB tn tp))) < 0 ∨ 3 < tk_nb tB tn (tk_nx tB tn (tk_nx tB tn (tk_nx tB tn tp)))) ∧ (h73 236 8) = 2 ∧ (h73 236 9) = tk_st tB tn (tk_nx tB tn (tk_nx tB tn (tk_nx tB tn tp))))) (p73_1 : (h69 236 4) ≤ (h73 236 4)) (p73_2 : (h73 236 4) ≤ (h69 236 3)) (p73_3 : 1 ≤ (h73 236 8) ∨ (h69 236 8) = 0) (p73_4 : 1 ≤ (h73 236 8) ∨ (0 ≤ z81 ∧ z81 ≤ 3)) => ?_)
        have F84 := F70.then (by decide +kernel) u73
        have e85 : h69 236 9 = h34 236 9 := ((u69 236 9 (fn_a (by omega) fn_0)).trans (u56 236 9 rfl))
        have b86 := gi_b (lo := 0) (hi := 5) g73 236 8 rfl
        have b87 := gi_b (lo := -2147483648) (hi := 2147483647) g73 236 9 rfl
        have b88 := gi_b (lo := 0) (hi := 800) g73 236 4 rfl
        have b89 := gi_b (lo := 0) (hi := 800) g73 236 5 rfl
        have b90 := gi_b (lo := 0) (hi := 4) g73 236 6 rfl
        have b91 := gi_b (lo := 0) (hi := 999) g73 236 7 rfl
        have b92 := gi_b (lo := -9223372036854775808) (hi := 9223372036854775807) g73 236 12 rfl
        refine wk_i ?_
        rcases p73_0 with p73_0 | p73_0 | p73_0 | p73_0 | p73_0
        ·
          exfalso; omega
        ·
          have tkk93 := (p73_0.2.2.2.2.2.2.2.2.2).2.2
          have tN94 := @tk_nx_b tB tn (tk_nx tB tn (tk_nx tB tn (tk_nx tB tn tp))) (by omega) (by omega)
          have tN95 := @tk_nx_b tB tn (tk_nx tB tn (tk_nx tB tn (tk_nx tB tn (tk_nx tB tn tp)))) (by omega) (by omega)
          obtain ⟨i96, ei96⟩ : ∃ q : Nat, e71 = (q : Int) := ⟨(e71).toNat, by omega⟩
          refine wr_is (k0 := 239) (a := e71) (f := i96) (x := z81) (bl := 0) (bh := 999) (nx := 89) (r1 := 0) (r2 := 0) (r3 := 0) rfl (by decide) rfl (by omega) (by omega) (by decide) g73 (gi_rq 19 12 (fun _ => rfl) (by decide +kernel) (by omega)) (by omega) (fun h97 g97 w97 u97 => ?_)
          have F98 := F84.then rfl (FR.idx (p := 19) (q := 30) u97 (by omega))
          refine wi_aload_n (i := 0) (x := 236) (nx := 90) (r1 := 0) (r2 := 0) (r3 := 0) rfl rfl ?_
          refine wr_gr (k0 := 236) (x := 239) (nx := 93) (r1 := 11) (r2 := 14) (r3 := 0) rfl rfl (by decide) rfl ⟨rfl, rfl⟩ rfl ?_
          refine wi_bipush (n := 43) (nx := 95) (r1 := 0) (r2 := 0) (r3 := 0) rfl (by decide) ?_
          refine wi_iload_n (i := 1) (e := h 239 2) (nx := 96) (r1 := 0) (r2 := 0) (r3 := 0) rfl rfl ?_
          refine wr_add (nx := 97) (r1 := 0) (r2 := 0) (r3 := 0) rfl (fun e99 (fe99 : e99 = 43 + (h 239 2)) => ?_)
          refine wi_aload_n (i := 0) (x := 236) (nx := 98) (r1 := 0) (r2 := 0) (r3 := 0) rfl rfl ?_
          refine wi_ldc2_w (e := 2084) (nx := 101) (r1 := 2084) (r2 := 0) (r3 := 0) rfl (by decide) ?_
          refine wr_V (k0 := 236) (rest := [vi e99, .ref 239]) (as := [.ref 236, vl 2084]) (nx := 104) (r1 := 230) (r2 := 1) (r3 := 11) rfl rfl rfl (of_decide_eq_true rfl) rfl rfl (by decide) rfl rfl (of_decide_eq_true rfl) (of_decide_eq_true rfl) ?_
          refine wi_aload_n (i := 0) (x := 236) (nx := 1) (r1 := 0) (r2 := 0) (r3 := 0) rfl rfl ?_
          refine wi_lload_n (i := 1) (e := 2084) (nx := 2) (r1 := 0) (r2 := 0) (r3 := 0) rfl rfl ?_
          refine wr_V (k0 := 236) (rest := []) (as := [.ref 236, vl 2084]) (nx := 5) (r1 := 221) (r2 := 1) (r3 := 11) rfl rfl rfl (of_decide_eq_true rfl) rfl rfl (by decide) rfl rfl (of_decide_eq_true rfl) (of_decide_eq_true rfl) ?_
          refine wi_aload_n (i := 0) (x := 236) (nx := 1) (r1 := 0) (r2 := 0) (r3 := 0) rfl rfl ?_
          refine wr_gi0 (k0 := 236) (x := h73 236 8) (nx := 4) (r1 := 11) (r2 := 8) (r3 := 0) rfl rfl (by decide) rfl ⟨rfl, rfl⟩ rfl (u97 236 8 (fn_a (by omega) fn_0)) ?_
          refine wi_if (cd := .ne) (nx := 7) (r1 := 28) (r2 := 0) (r3 := 0) rfl (by omega) (fun (q100 : (h73 236 8) ≠ 0) => by exfalso; omega) (fun (q100 : ¬ ((h73 236 8) ≠ 0)) => ?_)
          refine wi_aload_n (i := 0) (x := 236) (nx := 8) (r1 := 0) (r2 := 0) (r3 := 0) rfl rfl ?_
          refine wr_gi0 (k0 := 236) (x := h73 236 6) (nx := 11) (r1 := 11) (r2 := 6) (r3 := 0) rfl rfl (by decide) rfl ⟨rfl, rfl⟩ rfl (u97 236 6 (fn_a (by omega) fn_0)) ?_
          refine wi_iconst (n := 1) (nx := 12) (r1 := 0) (r2 := 0) (r3 := 0) rfl ?_
          refine wi_icmp (cd := .ne) (nx := 15) (r1 := 28) (r2 := 0) (r3 := 0) rfl (by omega) (by omega) (fun (q102 : (h73 236 6) ≠ 1) => ?_) (fun (q102 : ¬ ((h73 236 6) ≠ 1)) => ?_)
          ·
            try have kf103 := TKk.n1 (B := tB) (n := tn) (p := (tk_nx tB tn (tk_nx tB tn (tk_nx tB tn (tk_nx tB tn tp))))) (a6 := h73 236 6) (by assumption) (by omega)
            refine wi_iconst (n := 0) (nx := 29) (r1 := 0) (r2 := 0) (r3 := 0) rfl ?_
            refine wi_zreturn (nx := 30) (r1 := 0) (r2 := 0) (r3 := 0) rfl rfl (by omega) ?_
            refine wk_i ?_
            refine wi_istore_n (i := 3) (e := 0) (lo2 := [(3, vi 0), (0, .ref 236), (1, vl 2084)]) (nx := 6) (r1 := 0) (r2 := 0) (r3 := 0) rfl rfl ?_
            refine wi_iload_n (i := 3) (e := 0) (nx := 7) (r1 := 0) (r2 := 0) (r3 := 0) rfl rfl ?_
            refine wi_if (cd := .eq) (nx := 10) (r1 := 14) (r2 := 0) (r3 := 0) rfl (by omega) (fun (q104 : 0 = 0) => ?_) (fun (q104 : ¬ (0 = 0)) => by exfalso; omega)
            refine wi_iload_n (i := 3) (e := 0) (nx := 15) (r1 := 0) (r2 := 0) (r3 := 0) rfl rfl ?_
            refine wi_zreturn (nx := 16) (r1 := 0) (r2 := 0) (r3 := 0) rfl rfl (by omega) ?_
            refine wk_i ?_
            refine wi_if (cd := .eq) (nx := 107) (r1 := 116) (r2 := 0) (r3 := 0) rfl (by omega) (fun (q105 : 0 = 0) => ?_) (fun (q105 : ¬ (0 = 0)) => by exfalso; omega)
            refine wi_iconst (n := 0) (nx := 117) (r1 := 0) (r2 := 0) (r3 := 0) rfl ?_
            obtain ⟨i106, ei106⟩ : ∃ q : Nat, e99 = (q : Int) := ⟨(e99).toNat, by omega⟩
            refine wr_is (k0 := 239) (a := e99) (f := i106) (x := 0) (bl := 0) (bh := 999) (nx := 118) (r1 := 0) (r2 := 0) (r3 := 0) rfl (by decide) rfl (by omega) (by omega) (by decide) g97 (gi_rq 43 12 (fun _ => rfl) (by decide +kernel) (by omega)) (by omega) (fun h107 g107 w107 u107 => ?_)
            have F108 := F98.then rfl (FR.idx (p := 43) (q := 54) u107 (by omega))
            refine wi_aload_n (i := 0) (x := 236) (nx := 119) (r1 := 0) (r2 := 0) (r3 := 0) rfl rfl ?_
            refine wr_V (k0 := 236) (rest := []) (as := [.ref 236]) (nx := 122) (r1 := 219) (r2 := 0) (r3 := 11) rfl rfl rfl (of_decide_eq_true rfl) rfl rfl (by decide) rfl rfl (of_decide_eq_true rfl) (of_decide_eq_true rfl) ?_
            refine wi_aload_n (i := 0) (x := 236) (nx := 1) (r1 := 0) (r2 := 0) (r3 := 0) rfl rfl ?_
            refine wr_gi0 (k0 := 236) (x := h73 236 8) (nx := 4) (r1 := 11) (r2 := 8) (r3 := 0) rfl rfl (by decide) rfl ⟨rfl, rfl⟩ rfl ((u107 236 8 (fn_a (by omega) fn_0)).trans (u97 236 8 (fn_a (by omega) fn_0))) ?_
            refine wi_if (cd := .ne) (nx := 7) (r1 := 11) (r2 := 0) (r3 := 0) rfl (by omega) (fun (q109 : (h73 236 8) ≠ 0) => by exfalso; omega) (fun (q109 : ¬ ((h73 236 8) ≠ 0)) => ?_)
            refine wi_iconst (n := 1) (nx := 8) (r1 := 0) (r2 := 0) (r3 := 0) rfl ?_
            refine wi_goto (nx := 11) (r1 := 12) (r2 := 0) (r3 := 0) rfl ?_
            refine wi_zreturn (nx := 13) (r1 := 0) (r2 := 0) (r3 := 0) rfl rfl (by omega) ?_
            refine wk_i ?_
            refine wi_if (cd := .eq) (nx := 125) (r1 := 135) (r2 := 0) (r3 := 0) rfl (by omega) (fun (q111 : 1 = 0) => by exfalso; omega) (fun (q111 : ¬ (1 = 0)) => ?_)
            refine wi_aload_n (i := 0) (x := 236) (nx := 126) (r1 := 0) (r2 := 0) (r3 := 0) rfl rfl ?_
            refine wr_gr (k0 := 236) (x := 239) (nx := 129) (r1 := 11) (r2 := 14) (r3 := 0) rfl rfl (by decide) rfl ⟨rfl, rfl⟩ rfl ?_
            refine wi_iconst (n := 2) (nx := 130) (r1 := 0) (r2 := 0) (r3 := 0) rfl ?_
            refine wi_dup2 (nx := 131) (r1 := 0) (r2 := 0) (r3 := 0) rfl rfl rfl ?_
            refine wr_ia (k0 := 239) (a := 2) (f := 2) (x := h 239 2) (nx := 132) (r1 := 0) (r2 := 0) (r3 := 0) rfl (by decide) rfl (by omega) (by omega) (by decide) ((u107 239 2 (fn_i (by omega) fn_0)).trans ((u97 239 2 (fn_i (by omega) fn_0)).trans ((u73 239 2 rfl).trans ((u69 239 2 (fn_i (by omega) fn_0)).trans ((u56 239 2 rfl).trans ((u34 239 2 rfl).trans (u22 239 2 rfl))))))) ?_
            refine wi_iconst (n := 1) (nx := 133) (r1 := 0) (r2 := 0) (r3 := 0) rfl ?_
            refine wr_add (nx := 134) (r1 := 0) (r2 := 0) (r3 := 0) rfl (fun e112 (fe112 : e112 = (h 239 2) + 1) => ?_)
            refine wr_is (k0 := 239) (a := 2) (f := 2) (x := e112) (bl := 0) (bh := 12) (nx := 135) (r1 := 0) (r2 := 0) (r3 := 0) rfl (by decide) rfl (by omega) (by omega) (by decide) g107 rfl (by omega) (fun h113 g113 w113 u113 => ?_)
            have F114 := F108.then rfl u113
            refine wi_return (nx := 136) (r1 := 0) (r2 := 0) (r3 := 0) rfl rfl ?_
            have e115 : h113 236 4 = h73 236 4 := ((u113 236 4 rfl).trans ((u107 236 4 (fn_a (by omega) fn_0)).trans (u97 236 4 (fn_a (by omega) fn_0))))
            have e116 : h113 236 8 = h73 236 8 := ((u113 236 8 rfl).trans ((u107 236 8 (fn_a (by omega) fn_0)).trans (u97 236 8 (fn_a (by omega) fn_0))))
            have e117 : h113 239 5 = h 239 5 := ((u113 239 5 rfl).trans ((u107 239 5 (fn_i (by omega) fn_0)).trans ((u97 239 5 (fn_i (by omega) fn_0)).trans ((u73 239 5 rfl).trans ((u69 239 5 (fn_i (by omega) fn_0)).trans ((u56 239 5 rfl).trans ((u34 239 5 rfl).trans (u22 239 5 rfl))))))))
            have e118 : h113 239 7 = h 239 7 := ((u113 239 7 rfl).trans ((u107 239 7 (fn_i (by omega) fn_0)).trans ((u97 239 7 (fn_i (by omega) fn_0)).trans ((u73 239 7 rfl).trans ((u69 239 7 (fn_i (by omega) fn_0)).trans ((u56 239 7 rfl).trans ((u34 239 7 rfl).trans (u22 239 7 rfl))))))))
            have e119 : h113 239 15 = h 239 15 := ((u113 239 15 rfl).trans ((u107 239 15 (fn_i (by omega) fn_0)).trans ((u97 239 15 (fn_i (by omega) fn_0)).trans ((u73 239 15 rfl).trans ((u69 239 15 (fn_i (by omega) fn_0)).trans ((u56 239 15 rfl).trans ((u34 239 15 rfl).trans (u22 239 15 rfl))))))))
            have e120 : h113 239 16 = h 239 16 := ((u113 239 16 rfl).trans ((u107 239 16 (fn_i (by omega) fn_0)).trans ((u97 239 16 (fn_i (by omega) fn_0)).trans ((u73 239 16 rfl).trans ((u69 239 16 (fn_i (by omega) fn_0)).trans ((u56 239 16 rfl).trans ((u34 239 16 rfl).trans (u22 239 16 rfl))))))))
            have e121 : h113 239 17 = h 239 17 := ((u113 239 17 rfl).trans ((u107 239 17 (fn_i (by omega) fn_0)).trans ((u97 239 17 (fn_i (by omega) fn_0)).trans ((u73 239 17 rfl).trans ((u69 239 17 (fn_i (by omega) fn_0)).trans ((u56 239 17 rfl).trans ((u34 239 17 rfl).trans (u22 239 17 rfl))))))))
            have e122 : h113 239 18 = h 239 18 := ((u113 239 18 rfl).trans ((u107 239 18 (fn_i (by omega) fn_0)).trans ((u97 239 18 (fn_i (by omega) fn_0)).trans ((u73 239 18 rfl).trans ((u69 239 18 (fn_i (by omega) fn_0)).trans ((u56 239 18 rfl).trans ((u34 239 18 rfl).trans (u22 239 18 rfl))))))))
            have e123 : h113 236 9 = h73 236 9 := ((u113 236 9 rfl).trans ((u107 236 9 (fn_a (by omega) fn_0)).trans (u97 236 9 (fn_a (by omega) fn_0))))
            have e124 : h113 239 0 = h 239 0 := ((u113 239 0 rfl).trans ((u107 239 0 (fn_i (by omega) fn_0)).trans ((u97 239 0 (fn_i (by omega) fn_0)).trans ((u73 239 0 rfl).trans ((u69 239 0 (fn_i (by omega) fn_0)).trans ((u56 239 0 rfl).trans ((u34 239 0 rfl).trans (u22 239 0 rfl))))))))
            have e125 : h113 239 1 = h 239 1 := ((u113 239 1 rfl).trans ((u107 239 1 (fn_i (by omega) fn_0)).trans ((u97 239 1 (fn_i (by omega) fn_0)).trans ((u73 239 1 rfl).trans ((u69 239 1 (fn_i (by omega) fn_0)).trans ((u56 239 1 rfl).trans ((u34 239 1 rfl).trans (u22 239 1 rfl))))))))
            have e126 : h113 239 2 = e112 := w113
            have b127 := gi_b (lo := 0) (hi := 999) g 239 3 rfl
            have e128 : h113 239 3 = h 239 3 := ((u113 239 3 rfl).trans ((u107 239 3 (fn_i (by omega) fn_0)).trans ((u97 239 3 (fn_i (by omega) fn_0)).trans ((u73 239 3 rfl).trans ((u69 239 3 (fn_i (by omega) fn_0)).trans ((u56 239 3 rfl).trans ((u34 239 3 rfl).trans (u22 239 3 rfl))))))))
            have b129 := gi_b (lo := 0) (hi := 999) g 239 4 rfl
            have e130 : h113 239 4 = h 239 4 := ((u113 239 4 rfl).trans ((u107 239 4 (fn_i (by omega) fn_0)).trans ((u97 239 4 (fn_i (by omega) fn_0)).trans ((u73 239 4 rfl).trans ((u69 239 4 (fn_i (by omega) fn_0)).trans ((u56 239 4 rfl).trans ((u34 239 4 rfl).trans (u22 239 4 rfl))))))))
            have b131 := gi_b (lo := 0) (hi := 999) g 239 6 rfl
            have e132 : h113 239 6 = h 239 6 := ((u113 239 6 rfl).trans ((u107 239 6 (fn_i (by omega) fn_0)).trans ((u97 239 6 (fn_i (by omega) fn_0)).trans ((u73 239 6 rfl).trans ((u69 239 6 (fn_i (by omega) fn_0)).trans ((u56 239 6 rfl).trans ((u34 239 6 rfl).trans (u22 239 6 rfl))))))))
            have b133 := gi_b (lo := 0) (hi := 999) g 239 8 rfl
            have e134 : h113 239 8 = h 239 8 := ((u113 239 8 rfl).trans ((u107 239 8 (fn_i (by omega) fn_0)).trans ((u97 239 8 (fn_i (by omega) fn_0)).trans ((u73 239 8 rfl).trans ((u69 239 8 (fn_i (by omega) fn_0)).trans ((u56 239 8 rfl).trans ((u34 239 8 rfl).trans (u22 239 8 rfl))))))))
            have b135 := gi_b (lo := 0) (hi := 999) g 239 9 rfl
            have e136 : h113 239 9 = h 239 9 := ((u113 239 9 rfl).trans ((u107 239 9 (fn_i (by omega) fn_0)).trans ((u97 239 9 (fn_i (by omega) fn_0)).trans ((u73 239 9 rfl).trans ((u69 239 9 (fn_i (by omega) fn_0)).trans ((u56 239 9 rfl).trans ((u34 239 9 rfl).trans (u22 239 9 rfl))))))))
            have b137 := gi_b (lo := 0) (hi := 1) g 236 23 rfl
            have e138 : h113 236 23 = h 236 23 := ((u113 236 23 rfl).trans ((u107 236 23 (fn_a (by omega) fn_0)).trans ((u97 236 23 (fn_a (by omega) fn_0)).trans ((u73 236 23 rfl).trans ((u69 236 23 (fn_a (by omega) fn_0)).trans ((u56 236 23 rfl).trans ((u34 236 23 rfl).trans (u22 236 23 rfl))))))))
            have b139 := gi_b (lo := 0) (hi := 1) g 236 24 rfl
            have e140 : h113 236 24 = h 236 24 := ((u113 236 24 rfl).trans ((u107 236 24 (fn_a (by omega) fn_0)).trans ((u97 236 24 (fn_a (by omega) fn_0)).trans ((u73 236 24 rfl).trans ((u69 236 24 (fn_a (by omega) fn_0)).trans ((u56 236 24 rfl).trans ((u34 236 24 rfl).trans (u22 236 24 rfl))))))))
            have b141 := gi_b (lo := 0) (hi := 1) g 236 25 rfl
            have e142 : h113 236 25 = h 236 25 := ((u113 236 25 rfl).trans ((u107 236 25 (fn_a (by omega) fn_0)).trans ((u97 236 25 (fn_a (by omega) fn_0)).trans ((u73 236 25 rfl).trans ((u69 236 25 (fn_a (by omega) fn_0)).trans ((u56 236 25 rfl).trans ((u34 236 25 rfl).trans (u22 236 25 rfl))))))))
            have b143 := gi_b (lo := 0) (hi := 1) g 236 26 rfl
            have e144 : h113 236 26 = h 236 26 := ((u113 236 26 rfl).trans ((u107 236 26 (fn_a (by omega) fn_0)).trans ((u97 236 26 (fn_a (by omega) fn_0)).trans ((u73 236 26 rfl).trans ((u69 236 26 (fn_a (by omega) fn_0)).trans ((u56 236 26 rfl).trans ((u34 236 26 rfl).trans (u22 236 26 rfl))))))))
            have e145 : h113 236 5 = h73 236 5 := ((u113 236 5 rfl).trans ((u107 236 5 (fn_a (by omega) fn_0)).trans (u97 236 5 (fn_a (by omega) fn_0))))
            have e146 : h113 236 6 = h73 236 6 := ((u113 236 6 rfl).trans ((u107 236 6 (fn_a (by omega) fn_0)).trans (u97 236 6 (fn_a (by omega) fn_0))))
            have e147 : h113 236 7 = h73 236 7 := ((u113 236 7 rfl).trans ((u107 236 7 (fn_a (by omega) fn_0)).trans (u97 236 7 (fn_a (by omega) fn_0))))
            have e148 : h113 236 12 = h73 236 12 := ((u113 236 12 rfl).trans ((u107 236 12 (fn_a (by omega) fn_0)).trans (u97 236 12 (fn_a (by omega) fn_0))))
            exact k h113 g113 F114 (show (h 236 4) ≤ (h113 236 4) by omega) (show (h113 236 4) ≤ (h 236 3) by omega) (show 1 ≤ (h113 236 8) ∨ ((h113 239 5) ≤ 9 ∧ 1 ≤ (h113 239 5) ∧ (h113 239 7) ≤ 3 ∧ (h113 239 15) ≤ 6 ∧ (h113 239 16) ≤ 6 ∧ (h113 239 17) ≤ 6 ∧ (h113 239 18) ≤ 6) by omega) (show (h113 236 8) ≠ 0 ∨ (h113 236 9) = -1 by omega) (by (try clear p34_1 p73_3 p73_4); unfold tk_car tk_wrd tk_num tk_bad; (try dsimp only); (repeat (first | rw [if_pos (by omega)] | rw [if_neg (by omega)])); (repeat ((first | unfold tk_wrd | unfold tk_num | unfold tk_bad); (try dsimp only); (repeat (first | rw [if_pos (by omega)] | rw [if_neg (by omega)])))); exact tk_ORs (by omega) (by first | assumption | exact ⟨by omega, by omega, TKk.mv (by assumption) (by omega) (by omega) (by omega)⟩) (CVr.car (c := (h 239 2).toNat) xq1 (by omega) (by omega) (fun i _ _ _ _ => ((u113 239 i (fn_i (by omega) fn_0)).trans ((u107 239 i (fn_i (by omega) fn_0)).trans ((u97 239 i (fn_i (by omega) fn_0)).trans ((u73 239 i (fo_nk rfl)).trans ((u69 239 i (fn_i (by omega) fn_0)).trans ((u56 239 i (fo_nk rfl)).trans ((u34 239 i (fn_a (by decide) (fn_a (by decide) fn_0))).trans (u22 239 i (fo_nk rfl)))))))))) (fun i _ _ => ((u113 236 i (fn_a (by omega) fn_0)).trans ((u107 236 i (fn_a (by omega) fn_0)).trans ((u97 236 i (fn_a (by omega) fn_0)).trans ((u73 236 i (fo_gk (m := 12) (by omega) rfl)).trans ((u69 236 i (fn_a (by omega) fn_0)).trans ((u56 236 i (fo_gk (m := 12) (by omega) rfl)).trans ((u34 236 i (fn_i (by omega) (fn_i (by omega) fn_0))).trans (u22 236 i (fo_gk (m := 12) (by omega) rfl)))))))))) (by rw [show 31 + (h 239 2).toNat = i68 by omega]; exact ((u113 239 i68 (fn_i (by omega) fn_0)).trans ((u107 239 i68 (fn_i (by omega) fn_0)).trans ((u97 239 i68 (fn_i (by omega) fn_0)).trans ((u73 239 i68 (fo_nk rfl)).trans w69)))).trans (by omega)) (by rw [show 19 + (h 239 2).toNat = i96 by omega]; exact ((u113 239 i96 (fn_i (by omega) fn_0)).trans ((u107 239 i96 (fn_i (by omega) fn_0)).trans w97)).trans (by omega)) (by rw [show 43 + (h 239 2).toNat = i106 by omega]; exact ((u113 239 i106 (fn_i (by omega) fn_0)).trans w107).trans (by omega)) (fun i => ((u113 244 i (fn_a (by omega) fn_0)).trans ((u107 244 i (fn_a (by omega) fn_0)).trans ((u97 244 i (fn_a (by omega) fn_0)).trans ((u73 244 i (fo_nk rfl)).trans ((u69 244 i (fn_a (by omega) fn_0)).trans ((u56 244 i (fo_nk rfl)).trans ((u34 244 i (fn_a (by decide) (fn_a (by decide) fn_0))).trans (u22 244 i (fo_nk rfl)))))))))) (by omega) (by omega) (by omega)))
          ·
            try have kf103 := TKk.e1 (B := tB) (n := tn) (p := (tk_nx tB tn (tk_nx tB tn (tk_nx tB tn (tk_nx tB tn tp))))) (a6 := h73 236 6) (by assumption) (by omega)
            refine wi_aload_n (i := 0) (x := 236) (nx := 16) (r1 := 0) (r2 := 0) (r3 := 0) rfl rfl ?_
            refine wr_gi1 (k0 := 236) (x := h73 236 12) (nx := 19) (r1 := 11) (r2 := 12) (r3 := 0) rfl rfl (by decide) rfl ⟨rfl, rfl⟩ rfl (u97 236 12 (fn_a (by omega) fn_0)) ?_
            refine wi_lload_n (i := 1) (e := 2084) (nx := 20) (r1 := 0) (r2 := 0) (r3 := 0) rfl rfl ?_
            refine wi_lcmp (a := h73 236 12) (e := 2084) (nx := 21) (r1 := 0) (r2 := 0) (r3 := 0) rfl (by omega) (by omega) (fun r104 (fr104 : (r104 = -1 ∧ (h73 236 12) < 2084) ∨ (r104 = 0 ∧ (h73 236 12) = 2084) ∨ (r104 = 1 ∧ 2084 < (h73 236 12))) => ?_)
            refine wi_if (cd := .ne) (nx := 24) (r1 := 28) (r2 := 0) (r3 := 0) rfl (by omega) (fun (q105 : r104 ≠ 0) => ?_) (fun (q105 : ¬ (r104 ≠ 0)) => ?_)
            ·
              try have wk106 : tk_wd (tk_lw tB tn (tk_nx tB tn (tk_nx tB tn (tk_nx tB tn (tk_nx tB tn tp))))) ≠ 6 := fun e => absurd ((tk_wk (B := tB) (n := tn) (p := (tk_nx tB tn (tk_nx tB tn (tk_nx tB tn (tk_nx tB tn tp))))) 5 (by decide) (by omega) (by omega) (by omega)).mpr e) (by show ¬ (tk_sw tB tn (tk_nx tB tn (tk_nx tB tn (tk_nx tB tn (tk_nx tB tn tp)))) = 2084); omega)
              refine wi_iconst (n := 0) (nx := 29) (r1 := 0) (r2 := 0) (r3 := 0) rfl ?_
              refine wi_zreturn (nx := 30) (r1 := 0) (r2 := 0) (r3 := 0) rfl rfl (by omega) ?_
              refine wk_i ?_
              refine wi_istore_n (i := 3) (e := 0) (lo2 := [(3, vi 0), (0, .ref 236), (1, vl 2084)]) (nx := 6) (r1 := 0) (r2 := 0) (r3 := 0) rfl rfl ?_
              refine wi_iload_n (i := 3) (e := 0) (nx := 7) (r1 := 0) (r2 := 0) (r3 := 0) rfl rfl ?_
              refine wi_if (cd := .eq) (nx := 10) (r1 := 14) (r2 := 0) (r3 := 0) rfl (by omega) (fun (q107 : 0 = 0) => ?_) (fun (q107 : ¬ (0 = 0)) => by exfalso; omega)
              refine wi_iload_n (i := 3) (e := 0) (nx := 15) (r1 := 0) (r2 := 0) (r3 := 0) rfl rfl ?_
              refine wi_zreturn (nx := 16) (r1 := 0) (r2 := 0) (r3 := 0) rfl rfl (by omega) ?_
              refine wk_i ?_
              refine wi_if (cd := .eq) (nx := 107) (r1 := 116) (r2 := 0) (r3 := 0) rfl (by omega) (fun (q108 : 0 = 0) => ?_) (fun (q108 : ¬ (0 = 0)) => by exfalso; omega)
              refine wi_iconst (n := 0) (nx := 117) (r1 := 0) (r2 := 0) (r3 := 0) rfl ?_
              obtain ⟨i109, ei109⟩ : ∃ q : Nat, e99 = (q : Int) := ⟨(e99).toNat, by omega⟩
              refine wr_is (k0 := 239) (a := e99) (f := i109) (x := 0) (bl := 0) (bh := 999) (nx := 118) (r1 := 0) (r2 := 0) (r3 := 0) rfl (by decide) rfl (by omega) (by omega) (by decide) g97 (gi_rq 43 12 (fun _ => rfl) (by decide +kernel) (by omega)) (by omega) (fun h110 g110 w110 u110 => ?_)
              have F111 := F98.then rfl (FR.idx (p := 43) (q := 54) u110 (by omega))
              refine wi_aload_n (i := 0) (x := 236) (nx := 119) (r1 := 0) (r2 := 0) (r3 := 0) rfl rfl ?_
              refine wr_V (k0 := 236) (rest := []) (as := [.ref 236]) (nx := 122) (r1 := 219) (r2 := 0) (r3 := 11) rfl rfl rfl (of_decide_eq_true rfl) rfl rfl (by decide) rfl rfl (of_decide_eq_true rfl) (of_decide_eq_true rfl) ?_
              refine wi_aload_n (i := 0) (x := 236) (nx := 1) (r1 := 0) (r2 := 0) (r3 := 0) rfl rfl ?_
              refine wr_gi0 (k0 := 236) (x := h73 236 8) (nx := 4) (r1 := 11) (r2 := 8) (r3 := 0) rfl rfl (by decide) rfl ⟨rfl, rfl⟩ rfl ((u110 236 8 (fn_a (by omega) fn_0)).trans (u97 236 8 (fn_a (by omega) fn_0))) ?_
              refine wi_if (cd := .ne) (nx := 7) (r1 := 11) (r2 := 0) (r3 := 0) rfl (by omega) (fun (q112 : (h73 236 8) ≠ 0) => by exfalso; omega) (fun (q112 : ¬ ((h73 236 8) ≠ 0)) => ?_)
              refine wi_iconst (n := 1) (nx := 8) (r1 := 0) (r2 := 0) (r3 := 0) rfl ?_
              refine wi_goto (nx := 11) (r1 := 12) (r2 := 0) (r3 := 0) rfl ?_
              refine wi_zreturn (nx := 13) (r1 := 0) (r2 := 0) (r3 := 0) rfl rfl (by omega) ?_
              refine wk_i ?_
              refine wi_if (cd := .eq) (nx := 125) (r1 := 135) (r2 := 0) (r3 := 0) rfl (by omega) (fun (q114 : 1 = 0) => by exfalso; omega) (fun (q114 : ¬ (1 = 0)) => ?_)
              refine wi_aload_n (i := 0) (x := 236) (nx := 126) (r1 := 0) (r2 := 0) (r3 := 0) rfl rfl ?_
              refine wr_gr (k0 := 236) (x := 239) (nx := 129) (r1 := 11) (r2 := 14) (r3 := 0) rfl rfl (by decide) rfl ⟨rfl, rfl⟩ rfl ?_
              refine wi_iconst (n := 2) (nx := 130) (r1 := 0) (r2 := 0) (r3 := 0) rfl ?_
              refine wi_dup2 (nx := 131) (r1 := 0) (r2 := 0) (r3 := 0) rfl rfl rfl ?_
              refine wr_ia (k0 := 239) (a := 2) (f := 2) (x := h 239 2) (nx := 132) (r1 := 0) (r2 := 0) (r3 := 0) rfl (by decide) rfl (by omega) (by omega) (by decide) ((u110 239 2 (fn_i (by omega) fn_0)).trans ((u97 239 2 (fn_i (by omega) fn_0)).trans ((u73 239 2 rfl).trans ((u69 239 2 (fn_i (by omega) fn_0)).trans ((u56 239 2 rfl).trans ((u34 239 2 rfl).trans (u22 239 2 rfl))))))) ?_
              refine wi_iconst (n := 1) (nx := 133) (r1 := 0) (r2 := 0) (r3 := 0) rfl ?_
              refine wr_add (nx := 134) (r1 := 0) (r2 := 0) (r3 := 0) rfl (fun e115 (fe115 : e115 = (h 239 2) + 1) => ?_)
              refine wr_is (k0 := 239) (a := 2) (f := 2) (x := e115) (bl := 0) (bh := 12) (nx := 135) (r1 := 0) (r2 := 0) (r3 := 0) rfl (by decide) rfl (by omega) (by omega) (by decide) g110 rfl (by omega) (fun h116 g116 w116 u116 => ?_)
              have F117 := F111.then rfl u116
              refine wi_return (nx := 136) (r1 := 0) (r2 := 0) (r3 := 0) rfl rfl ?_
              have e118 : h116 236 4 = h73 236 4 := ((u116 236 4 rfl).trans ((u110 236 4 (fn_a (by omega) fn_0)).trans (u97 236 4 (fn_a (by omega) fn_0))))
              have e119 : h116 236 8 = h73 236 8 := ((u116 236 8 rfl).trans ((u110 236 8 (fn_a (by omega) fn_0)).trans (u97 236 8 (fn_a (by omega) fn_0))))
              have e120 : h116 239 5 = h 239 5 := ((u116 239 5 rfl).trans ((u110 239 5 (fn_i (by omega) fn_0)).trans ((u97 239 5 (fn_i (by omega) fn_0)).trans ((u73 239 5 rfl).trans ((u69 239 5 (fn_i (by omega) fn_0)).trans ((u56 239 5 rfl).trans ((u34 239 5 rfl).trans (u22 239 5 rfl))))))))
              have e121 : h116 239 7 = h 239 7 := ((u116 239 7 rfl).trans ((u110 239 7 (fn_i (by omega) fn_0)).trans ((u97 239 7 (fn_i (by omega) fn_0)).trans ((u73 239 7 rfl).trans ((u69 239 7 (fn_i (by omega) fn_0)).trans ((u56 239 7 rfl).trans ((u34 239 7 rfl).trans (u22 239 7 rfl))))))))
              have e122 : h116 239 15 = h 239 15 := ((u116 239 15 rfl).trans ((u110 239 15 (fn_i (by omega) fn_0)).trans ((u97 239 15 (fn_i (by omega) fn_0)).trans ((u73 239 15 rfl).trans ((u69 239 15 (fn_i (by omega) fn_0)).trans ((u56 239 15 rfl).trans ((u34 239 15 rfl).trans (u22 239 15 rfl))))))))
              have e123 : h116 239 16 = h 239 16 := ((u116 239 16 rfl).trans ((u110 239 16 (fn_i (by omega) fn_0)).trans ((u97 239 16 (fn_i (by omega) fn_0)).trans ((u73 239 16 rfl).trans ((u69 239 16 (fn_i (by omega) fn_0)).trans ((u56 239 16 rfl).trans ((u34 239 16 rfl).trans (u22 239 16 rfl))))))))
              have e124 : h116 239 17 = h 239 17 := ((u116 239 17 rfl).trans ((u110 239 17 (fn_i (by omega) fn_0)).trans ((u97 239 17 (fn_i (by omega) fn_0)).trans ((u73 239 17 rfl).trans ((u69 239 17 (fn_i (by omega) fn_0)).trans ((u56 239 17 rfl).trans ((u34 239 17 rfl).trans (u22 239 17 rfl))))))))
              have e125 : h116 239 18 = h 239 18 := ((u116 239 18 rfl).trans ((u110 239 18 (fn_i (by omega) fn_0)).trans ((u97 239 18 (fn_i (by omega) fn_0)).trans ((u73 239 18 rfl).trans ((u69 239 18 (fn_i (by omega) fn_0)).trans ((u56 239 18 rfl).trans ((u34 239 18 rfl).trans (u22 239 18 rfl))))))))
              have e126 : h116 236 9 = h73 236 9 := ((u116 236 9 rfl).trans ((u110 236 9 (fn_a (by omega) fn_0)).trans (u97 236 9 (fn_a (by omega) fn_0))))
              have e127 : h116 239 0 = h 239 0 := ((u116 239 0 rfl).trans ((u110 239 0 (fn_i (by omega) fn_0)).trans ((u97 239 0 (fn_i (by omega) fn_0)).trans ((u73 239 0 rfl).trans ((u69 239 0 (fn_i (by omega) fn_0)).trans ((u56 239 0 rfl).trans ((u34 239 0 rfl).trans (u22 239 0 rfl))))))))
              have e128 : h116 239 1 = h 239 1 := ((u116 239 1 rfl).trans ((u110 239 1 (fn_i (by omega) fn_0)).trans ((u97 239 1 (fn_i (by omega) fn_0)).trans ((u73 239 1 rfl).trans ((u69 239 1 (fn_i (by omega) fn_0)).trans ((u56 239 1 rfl).trans ((u34 239 1 rfl).trans (u22 239 1 rfl))))))))
              have e129 : h116 239 2 = e115 := w116
              have b130 := gi_b (lo := 0) (hi := 999) g 239 3 rfl
              have e131 : h116 239 3 = h 239 3 := ((u116 239 3 rfl).trans ((u110 239 3 (fn_i (by omega) fn_0)).trans ((u97 239 3 (fn_i (by omega) fn_0)).trans ((u73 239 3 rfl).trans ((u69 239 3 (fn_i (by omega) fn_0)).trans ((u56 239 3 rfl).trans ((u34 239 3 rfl).trans (u22 239 3 rfl))))))))
              have b132 := gi_b (lo := 0) (hi := 999) g 239 4 rfl
              have e133 : h116 239 4 = h 239 4 := ((u116 239 4 rfl).trans ((u110 239 4 (fn_i (by omega) fn_0)).trans ((u97 239 4 (fn_i (by omega) fn_0)).trans ((u73 239 4 rfl).trans ((u69 239 4 (fn_i (by omega) fn_0)).trans ((u56 239 4 rfl).trans ((u34 239 4 rfl).trans (u22 239 4 rfl))))))))
              have b134 := gi_b (lo := 0) (hi := 999) g 239 6 rfl
              have e135 : h116 239 6 = h 239 6 := ((u116 239 6 rfl).trans ((u110 239 6 (fn_i (by omega) fn_0)).trans ((u97 239 6 (fn_i (by omega) fn_0)).trans ((u73 239 6 rfl).trans ((u69 239 6 (fn_i (by omega) fn_0)).trans ((u56 239 6 rfl).trans ((u34 239 6 rfl).trans (u22 239 6 rfl))))))))
              have b136 := gi_b (lo := 0) (hi := 999) g 239 8 rfl
              have e137 : h116 239 8 = h 239 8 := ((u116 239 8 rfl).trans ((u110 239 8 (fn_i (by omega) fn_0)).trans ((u97 239 8 (fn_i (by omega) fn_0)).trans ((u73 239 8 rfl).trans ((u69 239 8 (fn_i (by omega) fn_0)).trans ((u56 239 8 rfl).trans ((u34 239 8 rfl).trans (u22 239 8 rfl))))))))
              have b138 := gi_b (lo := 0) (hi := 999) g 239 9 rfl
              have e139 : h116 239 9 = h 239 9 := ((u116 239 9 rfl).trans ((u110 239 9 (fn_i (by omega) fn_0)).trans ((u97 239 9 (fn_i (by omega) fn_0)).trans ((u73 239 9 rfl).trans ((u69 239 9 (fn_i (by omega) fn_0)).trans ((u56 239 9 rfl).trans ((u34 239 9 rfl).trans (u22 239 9 rfl))))))))
              have b140 := gi_b (lo := 0) (hi := 1) g 236 23 rfl
              have e141 : h116 236 23 = h 236 23 := ((u116 236 23 rfl).trans ((u110 236 23 (fn_a (by omega) fn_0)).trans ((u97 236 23 (fn_a (by omega) fn_0)).trans ((u73 236 23 rfl).trans ((u69 236 23 (fn_a (by omega) fn_0)).trans ((u56 236 23 rfl).trans ((u34 236 23 rfl).trans (u22 236 23 rfl))))))))
              have b142 := gi_b (lo := 0) (hi := 1) g 236 24 rfl
              have e143 : h116 236 24 = h 236 24 := ((u116 236 24 rfl).trans ((u110 236 24 (fn_a (by omega) fn_0)).trans ((u97 236 24 (fn_a (by omega) fn_0)).trans ((u73 236 24 rfl).trans ((u69 236 24 (fn_a (by omega) fn_0)).trans ((u56 236 24 rfl).trans ((u34 236 24 rfl).trans (u22 236 24 rfl))))))))
              have b144 := gi_b (lo := 0) (hi := 1) g 236 25 rfl
              have e145 : h116 236 25 = h 236 25 := ((u116 236 25 rfl).trans ((u110 236 25 (fn_a (by omega) fn_0)).trans ((u97 236 25 (fn_a (by omega) fn_0)).trans ((u73 236 25 rfl).trans ((u69 236 25 (fn_a (by omega) fn_0)).trans ((u56 236 25 rfl).trans ((u34 236 25 rfl).trans (u22 236 25 rfl))))))))
              have b146 := gi_b (lo := 0) (hi := 1) g 236 26 rfl
              have e147 : h116 236 26 = h 236 26 := ((u116 236 26 rfl).trans ((u110 236 26 (fn_a (by omega) fn_0)).trans ((u97 236 26 (fn_a (by omega) fn_0)).trans ((u73 236 26 rfl).trans ((u69 236 26 (fn_a (by omega) fn_0)).trans ((u56 236 26 rfl).trans ((u34 236 26 rfl).trans (u22 236 26 rfl))))))))
              have e148 : h116 236 5 = h73 236 5 := ((u116 236 5 rfl).trans ((u110 236 5 (fn_a (by omega) fn_0)).trans (u97 236 5 (fn_a (by omega) fn_0))))
              have e149 : h116 236 6 = h73 236 6 := ((u116 236 6 rfl).trans ((u110 236 6 (fn_a (by omega) fn_0)).trans (u97 236 6 (fn_a (by omega) fn_0))))
              have e150 : h116 236 7 = h73 236 7 := ((u116 236 7 rfl).trans ((u110 236 7 (fn_a (by omega) fn_0)).trans (u97 236 7 (fn_a (by omega) fn_0))))
              have e151 : h116 236 12 = h73 236 12 := ((u116 236 12 rfl).trans ((u110 236 12 (fn_a (by omega) fn_0)).trans (u97 236 12 (fn_a (by omega) fn_0))))
              exact k h116 g116 F117 (show (h 236 4) ≤ (h116 236 4) by omega) (show (h116 236 4) ≤ (h 236 3) by omega) (show 1 ≤ (h116 236 8) ∨ ((h116 239 5) ≤ 9 ∧ 1 ≤ (h116 239 5) ∧ (h116 239 7) ≤ 3 ∧ (h116 239 15) ≤ 6 ∧ (h116 239 16) ≤ 6 ∧ (h116 239 17) ≤ 6 ∧ (h116 239 18) ≤ 6) by omega) (show (h116 236 8) ≠ 0 ∨ (h116 236 9) = -1 by omega) (by (try clear p34_1 p73_3 p73_4); unfold tk_car tk_wrd tk_num tk_bad; (try dsimp only); (repeat (first | rw [if_pos (by omega)] | rw [if_neg (by omega)])); (repeat ((first | unfold tk_wrd | unfold tk_num | unfold tk_bad); (try dsimp only); (repeat (first | rw [if_pos (by omega)] | rw [if_neg (by omega)])))); exact tk_ORs (by omega) (by first | assumption | exact ⟨by omega, by omega, TKk.mv (by assumption) (by omega) (by omega) (by omega)⟩) (CVr.car (c := (h 239 2).toNat) xq1 (by omega) (by omega) (fun i _ _ _ _ => ((u116 239 i (fn_i (by omega) fn_0)).trans ((u110 239 i (fn_i (by omega) fn_0)).trans ((u97 239 i (fn_i (by omega) fn_0)).trans ((u73 239 i (fo_nk rfl)).trans ((u69 239 i (fn_i (by omega) fn_0)).trans ((u56 239 i (fo_nk rfl)).trans ((u34 239 i (fn_a (by decide) (fn_a (by decide) fn_0))).trans (u22 239 i (fo_nk rfl)))))))))) (fun i _ _ => ((u116 236 i (fn_a (by omega) fn_0)).trans ((u110 236 i (fn_a (by omega) fn_0)).trans ((u97 236 i (fn_a (by omega) fn_0)).trans ((u73 236 i (fo_gk (m := 12) (by omega) rfl)).trans ((u69 236 i (fn_a (by omega) fn_0)).trans ((u56 236 i (fo_gk (m := 12) (by omega) rfl)).trans ((u34 236 i (fn_i (by omega) (fn_i (by omega) fn_0))).trans (u22 236 i (fo_gk (m := 12) (by omega) rfl)))))))))) (by rw [show 31 + (h 239 2).toNat = i68 by omega]; exact ((u116 239 i68 (fn_i (by omega) fn_0)).trans ((u110 239 i68 (fn_i (by omega) fn_0)).trans ((u97 239 i68 (fn_i (by omega) fn_0)).trans ((u73 239 i68 (fo_nk rfl)).trans w69)))).trans (by omega)) (by rw [show 19 + (h 239 2).toNat = i96 by omega]; exact ((u116 239 i96 (fn_i (by omega) fn_0)).trans ((u110 239 i96 (fn_i (by omega) fn_0)).trans w97)).trans (by omega)) (by rw [show 43 + (h 239 2).toNat = i109 by omega]; exact ((u116 239 i109 (fn_i (by omega) fn_0)).trans w110).trans (by omega)) (fun i => ((u116 244 i (fn_a (by omega) fn_0)).trans ((u110 244 i (fn_a (by omega) fn_0)).trans ((u97 244 i (fn_a (by omega) fn_0)).trans ((u73 244 i (fo_nk rfl)).trans ((u69 244 i (fn_a (by omega) fn_0)).trans ((u56 244 i (fo_nk rfl)).trans ((u34 244 i (fn_a (by decide) (fn_a (by decide) fn_0))).trans (u22 244 i (fo_nk rfl)))))))))) (by omega) (by omega) (by omega)))
            ·
              try have wk106 : tk_wd (tk_lw tB tn (tk_nx tB tn (tk_nx tB tn (tk_nx tB tn (tk_nx tB tn tp))))) = 6 := (tk_wk (B := tB) (n := tn) (p := (tk_nx tB tn (tk_nx tB tn (tk_nx tB tn (tk_nx tB tn tp))))) 5 (by decide) (by omega) (by omega) (by omega)).mp (by show tk_sw tB tn (tk_nx tB tn (tk_nx tB tn (tk_nx tB tn (tk_nx tB tn tp)))) = 2084; omega)
              refine wi_iconst (n := 1) (nx := 25) (r1 := 0) (r2 := 0) (r3 := 0) rfl ?_
              refine wi_goto (nx := 28) (r1 := 29) (r2 := 0) (r3 := 0) rfl ?_
              refine wi_zreturn (nx := 30) (r1 := 0) (r2 := 0) (r3 := 0) rfl rfl (by omega) ?_
              refine wk_i ?_
              refine wi_istore_n (i := 3) (e := 1) (lo2 := [(3, vi 1), (0, .ref 236), (1, vl 2084)]) (nx := 6) (r1 := 0) (r2 := 0) (r3 := 0) rfl rfl ?_
              refine wi_iload_n (i := 3) (e := 1) (nx := 7) (r1 := 0) (r2 := 0) (r3 := 0) rfl rfl ?_
              refine wi_if (cd := .eq) (nx := 10) (r1 := 14) (r2 := 0) (r3 := 0) rfl (by omega) (fun (q107 : 1 = 0) => by exfalso; omega) (fun (q107 : ¬ (1 = 0)) => ?_)
              refine wi_aload_n (i := 0) (x := 236) (nx := 11) (r1 := 0) (r2 := 0) (r3 := 0) rfl rfl ?_
              refine wr_V (k0 := 236) (rest := []) (as := [.ref 236]) (nx := 14) (r1 := 215) (r2 := 0) (r3 := 11) rfl rfl rfl (of_decide_eq_true rfl) rfl rfl (by decide) rfl rfl (of_decide_eq_true rfl) (of_decide_eq_true rfl) ?_
              have e109 : h97 236 4 = h73 236 4 := (u97 236 4 (fn_a (by omega) fn_0))
              have e110 : h97 236 3 = h 236 3 := ((u97 236 3 (fn_a (by omega) fn_0)).trans ((u73 236 3 rfl).trans ((u69 236 3 (fn_a (by omega) fn_0)).trans ((u56 236 3 rfl).trans ((u34 236 3 rfl).trans (u22 236 3 rfl))))))
              have rb111 := RefB.fr u73 rfl rb83
              have rb112 := RefB.fr u97 rfl rb111
              refine ct_215_236 hcr  g97   (show (h97 236 4) ≤ (h97 236 3) by omega) (show (h97 236 4) = (tk_nx tB tn (tk_nx tB tn (tk_nx tB tn (tk_nx tB tn (tk_nx tB tn tp))))) by omega) (show 0 ≤ (tk_nx tB tn (tk_nx tB tn (tk_nx tB tn (tk_nx tB tn (tk_nx tB tn tp))))) by omega) (show (tk_nx tB tn (tk_nx tB tn (tk_nx tB tn (tk_nx tB tn (tk_nx tB tn tp))))) ≤ tn by omega) rb112 (fun h108 g108 u108 (p108_0 : (h97 236 4) ≤ (h108 236 4)) (p108_1 : (h108 236 4) ≤ (h97 236 3)) (p108_2 : ((h108 236 4) = tk_nx tB tn (tk_nx tB tn (tk_nx tB tn (tk_nx tB tn (tk_nx tB tn (tk_nx tB tn tp))))) ∧ (h108 236 5) = tk_st tB tn (tk_nx tB tn (tk_nx tB tn (tk_nx tB tn (tk_nx tB tn (tk_nx tB tn tp))))) ∧ TKk tB tn (tk_nx tB tn (tk_nx tB tn (tk_nx tB tn (tk_nx tB tn (tk_nx tB tn tp))))) ((h108 236 6)) ((h108 236 7)) ((h108 236 12)))) (p108_3 : (tk_nx tB tn (tk_nx tB tn (tk_nx tB tn (tk_nx tB tn (tk_nx tB tn tp))))) ≤ tk_nx tB tn (tk_nx tB tn (tk_nx tB tn (tk_nx tB tn (tk_nx tB tn (tk_nx tB tn tp))))) ∧ tk_nx tB tn (tk_nx tB tn (tk_nx tB tn (tk_nx tB tn (tk_nx tB tn (tk_nx tB tn tp))))) ≤ tn) => ?_)
              have F113 := F98.then (by decide +kernel) u108
              have b114 := gi_b (lo := 0) (hi := 800) g108 236 4 rfl
              have b115 := gi_b (lo := 0) (hi := 800) g108 236 5 rfl
              have b116 := gi_b (lo := 0) (hi := 4) g108 236 6 rfl
              have b117 := gi_b (lo := 0) (hi := 999) g108 236 7 rfl
              have b118 := gi_b (lo := -9223372036854775808) (hi := 9223372036854775807) g108 236 12 rfl
              have tkk119 := p108_2.2.2
              have tN120 := @tk_nx_b tB tn (tk_nx tB tn (tk_nx tB tn (tk_nx tB tn (tk_nx tB tn (tk_nx tB tn tp))))) (by omega) (by omega)
              refine wk_n ?_
              refine wi_iload_n (i := 3) (e := 1) (nx := 15) (r1 := 0) (r2 := 0) (r3 := 0) rfl rfl ?_
              refine wi_zreturn (nx := 16) (r1 := 0) (r2 := 0) (r3 := 0) rfl rfl (by omega) ?_
              refine wk_i ?_
              refine wi_if (cd := .eq) (nx := 107) (r1 := 116) (r2 := 0) (r3 := 0) rfl (by omega) (fun (q121 : 1 = 0) => by exfalso; omega) (fun (q121 : ¬ (1 = 0)) => ?_)
              refine wi_aload_n (i := 0) (x := 236) (nx := 108) (r1 := 0) (r2 := 0) (r3 := 0) rfl rfl ?_
              refine wi_iconst (n := 0) (nx := 109) (r1 := 0) (r2 := 0) (r3 := 0) rfl ?_
              refine wi_iconst (n := 2) (nx := 110) (r1 := 0) (r2 := 0) (r3 := 0) rfl ?_
              refine wr_V (k0 := 236) (rest := [vi e99, .ref 239]) (as := [.ref 236, vi 0, vi 2]) (nx := 113) (r1 := 231) (r2 := 2) (r3 := 11) rfl rfl rfl (of_decide_eq_true rfl) rfl rfl (by decide) rfl rfl (of_decide_eq_true rfl) (of_decide_eq_true rfl) ?_
              have e123 : h108 236 3 = h 236 3 := ((u108 236 3 rfl).trans ((u97 236 3 (fn_a (by omega) fn_0)).trans ((u73 236 3 rfl).trans ((u69 236 3 (fn_a (by omega) fn_0)).trans ((u56 236 3 rfl).trans ((u34 236 3 rfl).trans (u22 236 3 rfl)))))))
              have e124 : h108 236 8 = h73 236 8 := ((u108 236 8 rfl).trans (u97 236 8 (fn_a (by omega) fn_0)))
              have rb126 := RefB.fr u108 rfl rb112
              refine ct_231_236 hcr  g108 0 2 (by omega) (by omega) (show (h108 236 4) ≤ (h108 236 3) by omega) (show 0 ≤ (tk_nx tB tn (tk_nx tB tn (tk_nx tB tn (tk_nx tB tn (tk_nx tB tn tp))))) by omega) (show (tk_nx tB tn (tk_nx tB tn (tk_nx tB tn (tk_nx tB tn (tk_nx tB tn tp))))) ≤ tn by omega) (show (tk_nx tB tn (tk_nx tB tn (tk_nx tB tn (tk_nx tB tn (tk_nx tB tn tp))))) ≤ tk_nx tB tn (tk_nx tB tn (tk_nx tB tn (tk_nx tB tn (tk_nx tB tn (tk_nx tB tn tp))))) ∧ tk_nx tB tn (tk_nx tB tn (tk_nx tB tn (tk_nx tB tn (tk_nx tB tn (tk_nx tB tn tp))))) ≤ tn by omega) (show 1 ≤ (h108 236 8) ∨ ((h108 236 4) = tk_nx tB tn (tk_nx tB tn (tk_nx tB tn (tk_nx tB tn (tk_nx tB tn (tk_nx tB tn tp))))) ∧ (h108 236 5) = tk_st tB tn (tk_nx tB tn (tk_nx tB tn (tk_nx tB tn (tk_nx tB tn (tk_nx tB tn tp))))) ∧ TKk tB tn (tk_nx tB tn (tk_nx tB tn (tk_nx tB tn (tk_nx tB tn (tk_nx tB tn tp))))) ((h108 236 6)) ((h108 236 7)) ((h108 236 12))) from (Or.inr (show ((h108 236 4) = tk_nx tB tn (tk_nx tB tn (tk_nx tB tn (tk_nx tB tn (tk_nx tB tn (tk_nx tB tn tp))))) ∧ (h108 236 5) = tk_st tB tn (tk_nx tB tn (tk_nx tB tn (tk_nx tB tn (tk_nx tB tn (tk_nx tB tn tp))))) ∧ TKk tB tn (tk_nx tB tn (tk_nx tB tn (tk_nx tB tn (tk_nx tB tn (tk_nx tB tn tp))))) ((h108 236 6)) ((h108 236 7)) ((h108 236 12))) by first | assumption | exact ⟨by omega, by omega, TKk.mv (by assumption) (by omega) (by omega) (by omega)⟩))) rb126 (fun h122 z125 g122 u122 (fz125 : 0 ≤ z125 ∧ z125 ≤ 999) (p122_0 : (1 ≤ (h108 236 8) ∧ (h122 236 8) = (h108 236 8) ∧ (h122 236 9) = (h108 236 9)) ∨ ((h108 236 8) = 0 ∧ tk_kd tB tn (tk_nx tB tn (tk_nx tB tn (tk_nx tB tn (tk_nx tB tn (tk_nx tB tn tp))))) = 2 ∧ 0 ≤ tk_nb tB tn (tk_nx tB tn (tk_nx tB tn (tk_nx tB tn (tk_nx tB tn (tk_nx tB tn tp))))) ∧ tk_nb tB tn (tk_nx tB tn (tk_nx tB tn (tk_nx tB tn (tk_nx tB tn (tk_nx tB tn tp))))) ≤ 2 ∧ z125 = tk_nb tB tn (tk_nx tB tn (tk_nx tB tn (tk_nx tB tn (tk_nx tB tn (tk_nx tB tn tp))))) ∧ (h122 236 8) = (h108 236 8) ∧ (h122 236 9) = (h108 236 9) ∧ ((h122 236 4) = tk_nx tB tn (tk_nx tB tn (tk_nx tB tn (tk_nx tB tn (tk_nx tB tn (tk_nx tB tn (tk_nx tB tn tp)))))) ∧ (h122 236 5) = tk_st tB tn (tk_nx tB tn (tk_nx tB tn (tk_nx tB tn (tk_nx tB tn (tk_nx tB tn (tk_nx tB tn tp)))))) ∧ TKk tB tn (tk_nx tB tn (tk_nx tB tn (tk_nx tB tn (tk_nx tB tn (tk_nx tB tn (tk_nx tB tn tp)))))) ((h122 236 6)) ((h122 236 7)) ((h122 236 12)))) ∨ ((h108 236 8) = 0 ∧ tk_kd tB tn (tk_nx tB tn (tk_nx tB tn (tk_nx tB tn (tk_nx tB tn (tk_nx tB tn tp))))) ≠ 2 ∧ (h122 236 8) = 1 ∧ (h122 236 9) = tk_st tB tn (tk_nx tB tn (tk_nx tB tn (tk_nx tB tn (tk_nx tB tn (tk_nx tB tn tp)))))) ∨ ((h108 236 8) = 0 ∧ tk_kd tB tn (tk_nx tB tn (tk_nx tB tn (tk_nx tB tn (tk_nx tB tn (tk_nx tB tn tp))))) = 2 ∧ (tk_nb tB tn (tk_nx tB tn (tk_nx tB tn (tk_nx tB tn (tk_nx tB tn (tk_nx tB tn tp))))) < 0 ∨ 2 < tk_nb tB tn (tk_nx tB tn (tk_nx tB tn (tk_nx tB tn (tk_nx tB tn (tk_nx tB tn tp)))))) ∧ (h122 236 8) = 2 ∧ (h122 236 9) = tk_st tB tn (tk_nx tB tn (tk_nx tB tn (tk_nx tB tn (tk_nx tB tn (tk_nx tB tn tp))))))) (p122_1 : (h108 236 4) ≤ (h122 236 4)) (p122_2 : (h122 236 4) ≤ (h108 236 3)) (p122_3 : 1 ≤ (h122 236 8) ∨ (h108 236 8) = 0) (p122_4 : 1 ≤ (h122 236 8) ∨ (0 ≤ z125 ∧ z125 ≤ 2)) (p122_5 : 1 ≤ (h122 236 8) ∨ (h108 236 6) = 2) => ?_)
              have F127 := F113.then (by decide +kernel) u122
              have e128 : h108 236 9 = h73 236 9 := ((u108 236 9 rfl).trans (u97 236 9 (fn_a (by omega) fn_0)))
              have b129 := gi_b (lo := 0) (hi := 5) g122 236 8 rfl
              have b130 := gi_b (lo := -2147483648) (hi := 2147483647) g122 236 9 rfl
              have b131 := gi_b (lo := 0) (hi := 800) g122 236 4 rfl
              have b132 := gi_b (lo := 0) (hi := 800) g122 236 5 rfl
              have b133 := gi_b (lo := 0) (hi := 4) g122 236 6 rfl
              have b134 := gi_b (lo := 0) (hi := 999) g122 236 7 rfl
              have b135 := gi_b (lo := -9223372036854775808) (hi := 9223372036854775807) g122 236 12 rfl
              refine wk_i ?_
              rcases p122_0 with p122_0 | p122_0 | p122_0 | p122_0
              ·
                exfalso; omega
              ·
                have tkk136 := (p122_0.2.2.2.2.2.2.2).2.2
                have tN137 := @tk_nx_b tB tn (tk_nx tB tn (tk_nx tB tn (tk_nx tB tn (tk_nx tB tn (tk_nx tB tn (tk_nx tB tn tp)))))) (by omega) (by omega)
                refine wi_goto (nx := 116) (r1 := 117) (r2 := 0) (r3 := 0) rfl ?_
                obtain ⟨i138, ei138⟩ : ∃ q : Nat, e99 = (q : Int) := ⟨(e99).toNat, by omega⟩
                refine wr_is (k0 := 239) (a := e99) (f := i138) (x := z125) (bl := 0) (bh := 999) (nx := 118) (r1 := 0) (r2 := 0) (r3 := 0) rfl (by decide) rfl (by omega) (by omega) (by decide) g122 (gi_rq 43 12 (fun _ => rfl) (by decide +kernel) (by omega)) (by omega) (fun h139 g139 w139 u139 => ?_)
                have F140 := F127.then rfl (FR.idx (p := 43) (q := 54) u139 (by omega))
                refine wi_aload_n (i := 0) (x := 236) (nx := 119) (r1 := 0) (r2 := 0) (r3 := 0) rfl rfl ?_
                refine wr_V (k0 := 236) (rest := []) (as := [.ref 236]) (nx := 122) (r1 := 219) (r2 := 0) (r3 := 11) rfl rfl rfl (of_decide_eq_true rfl) rfl rfl (by decide) rfl rfl (of_decide_eq_true rfl) (of_decide_eq_true rfl) ?_
                refine wi_aload_n (i := 0) (x := 236) (nx := 1) (r1 := 0) (r2 := 0) (r3 := 0) rfl rfl ?_
                refine wr_gi0 (k0 := 236) (x := h122 236 8) (nx := 4) (r1 := 11) (r2 := 8) (r3 := 0) rfl rfl (by decide) rfl ⟨rfl, rfl⟩ rfl (u139 236 8 (fn_a (by omega) fn_0)) ?_
                refine wi_if (cd := .ne) (nx := 7) (r1 := 11) (r2 := 0) (r3 := 0) rfl (by omega) (fun (q141 : (h122 236 8) ≠ 0) => by exfalso; omega) (fun (q141 : ¬ ((h122 236 8) ≠ 0)) => ?_)
                refine wi_iconst (n := 1) (nx := 8) (r1 := 0) (r2 := 0) (r3 := 0) rfl ?_
                refine wi_goto (nx := 11) (r1 := 12) (r2 := 0) (r3 := 0) rfl ?_
                refine wi_zreturn (nx := 13) (r1 := 0) (r2 := 0) (r3 := 0) rfl rfl (by omega) ?_
                refine wk_i ?_
                refine wi_if (cd := .eq) (nx := 125) (r1 := 135) (r2 := 0) (r3 := 0) rfl (by omega) (fun (q143 : 1 = 0) => by exfalso; omega) (fun (q143 : ¬ (1 = 0)) => ?_)
                refine wi_aload_n (i := 0) (x := 236) (nx := 126) (r1 := 0) (r2 := 0) (r3 := 0) rfl rfl ?_
                refine wr_gr (k0 := 236) (x := 239) (nx := 129) (r1 := 11) (r2 := 14) (r3 := 0) rfl rfl (by decide) rfl ⟨rfl, rfl⟩ rfl ?_
                refine wi_iconst (n := 2) (nx := 130) (r1 := 0) (r2 := 0) (r3 := 0) rfl ?_
                refine wi_dup2 (nx := 131) (r1 := 0) (r2 := 0) (r3 := 0) rfl rfl rfl ?_
                refine wr_ia (k0 := 239) (a := 2) (f := 2) (x := h 239 2) (nx := 132) (r1 := 0) (r2 := 0) (r3 := 0) rfl (by decide) rfl (by omega) (by omega) (by decide) ((u139 239 2 (fn_i (by omega) fn_0)).trans ((u122 239 2 rfl).trans ((u108 239 2 rfl).trans ((u97 239 2 (fn_i (by omega) fn_0)).trans ((u73 239 2 rfl).trans ((u69 239 2 (fn_i (by omega) fn_0)).trans ((u56 239 2 rfl).trans ((u34 239 2 rfl).trans (u22 239 2 rfl))))))))) ?_
                refine wi_iconst (n := 1) (nx := 133) (r1 := 0) (r2 := 0) (r3 := 0) rfl ?_
                refine wr_add (nx := 134) (r1 := 0) (r2 := 0) (r3 := 0) rfl (fun e144 (fe144 : e144 = (h 239 2) + 1) => ?_)
                refine wr_is (k0 := 239) (a := 2) (f := 2) (x := e144) (bl := 0) (bh := 12) (nx := 135) (r1 := 0) (r2 := 0) (r3 := 0) rfl (by decide) rfl (by omega) (by omega) (by decide) g139 rfl (by omega) (fun h145 g145 w145 u145 => ?_)
                have F146 := F140.then rfl u145
                refine wi_return (nx := 136) (r1 := 0) (r2 := 0) (r3 := 0) rfl rfl ?_
                have e147 : h145 236 4 = h122 236 4 := ((u145 236 4 rfl).trans (u139 236 4 (fn_a (by omega) fn_0)))
                have e148 : h145 236 8 = h122 236 8 := ((u145 236 8 rfl).trans (u139 236 8 (fn_a (by omega) fn_0)))
                have e149 : h145 239 5 = h 239 5 := ((u145 239 5 rfl).trans ((u139 239 5 (fn_i (by omega) fn_0)).trans ((u122 239 5 rfl).trans ((u108 239 5 rfl).trans ((u97 239 5 (fn_i (by omega) fn_0)).trans ((u73 239 5 rfl).trans ((u69 239 5 (fn_i (by omega) fn_0)).trans ((u56 239 5 rfl).trans ((u34 239 5 rfl).trans (u22 239 5 rfl))))))))))
                have e150 : h145 239 7 = h 239 7 := ((u145 239 7 rfl).trans ((u139 239 7 (fn_i (by omega) fn_0)).trans ((u122 239 7 rfl).trans ((u108 239 7 rfl).trans ((u97 239 7 (fn_i (by omega) fn_0)).trans ((u73 239 7 rfl).trans ((u69 239 7 (fn_i (by omega) fn_0)).trans ((u56 239 7 rfl).trans ((u34 239 7 rfl).trans (u22 239 7 rfl))))))))))
                have e151 : h145 239 15 = h 239 15 := ((u145 239 15 rfl).trans ((u139 239 15 (fn_i (by omega) fn_0)).trans ((u122 239 15 rfl).trans ((u108 239 15 rfl).trans ((u97 239 15 (fn_i (by omega) fn_0)).trans ((u73 239 15 rfl).trans ((u69 239 15 (fn_i (by omega) fn_0)).trans ((u56 239 15 rfl).trans ((u34 239 15 rfl).trans (u22 239 15 rfl))))))))))
                have e152 : h145 239 16 = h 239 16 := ((u145 239 16 rfl).trans ((u139 239 16 (fn_i (by omega) fn_0)).trans ((u122 239 16 rfl).trans ((u108 239 16 rfl).trans ((u97 239 16 (fn_i (by omega) fn_0)).trans ((u73 239 16 rfl).trans ((u69 239 16 (fn_i (by omega) fn_0)).trans ((u56 239 16 rfl).trans ((u34 239 16 rfl).trans (u22 239 16 rfl))))))))))
                have e153 : h145 239 17 = h 239 17 := ((u145 239 17 rfl).trans ((u139 239 17 (fn_i (by omega) fn_0)).trans ((u122 239 17 rfl).trans ((u108 239 17 rfl).trans ((u97 239 17 (fn_i (by omega) fn_0)).trans ((u73 239 17 rfl).trans ((u69 239 17 (fn_i (by omega) fn_0)).trans ((u56 239 17 rfl).trans ((u34 239 17 rfl).trans (u22 239 17 rfl))))))))))
                have e154 : h145 239 18 = h 239 18 := ((u145 239 18 rfl).trans ((u139 239 18 (fn_i (by omega) fn_0)).trans ((u122 239 18 rfl).trans ((u108 239 18 rfl).trans ((u97 239 18 (fn_i (by omega) fn_0)).trans ((u73 239 18 rfl).trans ((u69 239 18 (fn_i (by omega) fn_0)).trans ((u56 239 18 rfl).trans ((u34 239 18 rfl).trans (u22 239 18 rfl))))))))))
                have e155 : h145 236 9 = h122 236 9 := ((u145 236 9 rfl).trans (u139 236 9 (fn_a (by omega) fn_0)))
                have e156 : h145 239 0 = h 239 0 := ((u145 239 0 rfl).trans ((u139 239 0 (fn_i (by omega) fn_0)).trans ((u122 239 0 rfl).trans ((u108 239 0 rfl).trans ((u97 239 0 (fn_i (by omega) fn_0)).trans ((u73 239 0 rfl).trans ((u69 239 0 (fn_i (by omega) fn_0)).trans ((u56 239 0 rfl).trans ((u34 239 0 rfl).trans (u22 239 0 rfl))))))))))
                have e157 : h145 239 1 = h 239 1 := ((u145 239 1 rfl).trans ((u139 239 1 (fn_i (by omega) fn_0)).trans ((u122 239 1 rfl).trans ((u108 239 1 rfl).trans ((u97 239 1 (fn_i (by omega) fn_0)).trans ((u73 239 1 rfl).trans ((u69 239 1 (fn_i (by omega) fn_0)).trans ((u56 239 1 rfl).trans ((u34 239 1 rfl).trans (u22 239 1 rfl))))))))))
                have e158 : h145 239 2 = e144 := w145
                have b159 := gi_b (lo := 0) (hi := 999) g 239 3 rfl
                have e160 : h145 239 3 = h 239 3 := ((u145 239 3 rfl).trans ((u139 239 3 (fn_i (by omega) fn_0)).trans ((u122 239 3 rfl).trans ((u108 239 3 rfl).trans ((u97 239 3 (fn_i (by omega) fn_0)).trans ((u73 239 3 rfl).trans ((u69 239 3 (fn_i (by omega) fn_0)).trans ((u56 239 3 rfl).trans ((u34 239 3 rfl).trans (u22 239 3 rfl))))))))))
                have b161 := gi_b (lo := 0) (hi := 999) g 239 4 rfl
                have e162 : h145 239 4 = h 239 4 := ((u145 239 4 rfl).trans ((u139 239 4 (fn_i (by omega) fn_0)).trans ((u122 239 4 rfl).trans ((u108 239 4 rfl).trans ((u97 239 4 (fn_i (by omega) fn_0)).trans ((u73 239 4 rfl).trans ((u69 239 4 (fn_i (by omega) fn_0)).trans ((u56 239 4 rfl).trans ((u34 239 4 rfl).trans (u22 239 4 rfl))))))))))
                have b163 := gi_b (lo := 0) (hi := 999) g 239 6 rfl
                have e164 : h145 239 6 = h 239 6 := ((u145 239 6 rfl).trans ((u139 239 6 (fn_i (by omega) fn_0)).trans ((u122 239 6 rfl).trans ((u108 239 6 rfl).trans ((u97 239 6 (fn_i (by omega) fn_0)).trans ((u73 239 6 rfl).trans ((u69 239 6 (fn_i (by omega) fn_0)).trans ((u56 239 6 rfl).trans ((u34 239 6 rfl).trans (u22 239 6 rfl))))))))))
                have b165 := gi_b (lo := 0) (hi := 999) g 239 8 rfl
                have e166 : h145 239 8 = h 239 8 := ((u145 239 8 rfl).trans ((u139 239 8 (fn_i (by omega) fn_0)).trans ((u122 239 8 rfl).trans ((u108 239 8 rfl).trans ((u97 239 8 (fn_i (by omega) fn_0)).trans ((u73 239 8 rfl).trans ((u69 239 8 (fn_i (by omega) fn_0)).trans ((u56 239 8 rfl).trans ((u34 239 8 rfl).trans (u22 239 8 rfl))))))))))
                have b167 := gi_b (lo := 0) (hi := 999) g 239 9 rfl
                have e168 : h145 239 9 = h 239 9 := ((u145 239 9 rfl).trans ((u139 239 9 (fn_i (by omega) fn_0)).trans ((u122 239 9 rfl).trans ((u108 239 9 rfl).trans ((u97 239 9 (fn_i (by omega) fn_0)).trans ((u73 239 9 rfl).trans ((u69 239 9 (fn_i (by omega) fn_0)).trans ((u56 239 9 rfl).trans ((u34 239 9 rfl).trans (u22 239 9 rfl))))))))))
                have b169 := gi_b (lo := 0) (hi := 1) g 236 23 rfl
                have e170 : h145 236 23 = h 236 23 := ((u145 236 23 rfl).trans ((u139 236 23 (fn_a (by omega) fn_0)).trans ((u122 236 23 rfl).trans ((u108 236 23 rfl).trans ((u97 236 23 (fn_a (by omega) fn_0)).trans ((u73 236 23 rfl).trans ((u69 236 23 (fn_a (by omega) fn_0)).trans ((u56 236 23 rfl).trans ((u34 236 23 rfl).trans (u22 236 23 rfl))))))))))
                have b171 := gi_b (lo := 0) (hi := 1) g 236 24 rfl
                have e172 : h145 236 24 = h 236 24 := ((u145 236 24 rfl).trans ((u139 236 24 (fn_a (by omega) fn_0)).trans ((u122 236 24 rfl).trans ((u108 236 24 rfl).trans ((u97 236 24 (fn_a (by omega) fn_0)).trans ((u73 236 24 rfl).trans ((u69 236 24 (fn_a (by omega) fn_0)).trans ((u56 236 24 rfl).trans ((u34 236 24 rfl).trans (u22 236 24 rfl))))))))))
                have b173 := gi_b (lo := 0) (hi := 1) g 236 25 rfl
                have e174 : h145 236 25 = h 236 25 := ((u145 236 25 rfl).trans ((u139 236 25 (fn_a (by omega) fn_0)).trans ((u122 236 25 rfl).trans ((u108 236 25 rfl).trans ((u97 236 25 (fn_a (by omega) fn_0)).trans ((u73 236 25 rfl).trans ((u69 236 25 (fn_a (by omega) fn_0)).trans ((u56 236 25 rfl).trans ((u34 236 25 rfl).trans (u22 236 25 rfl))))))))))
                have b175 := gi_b (lo := 0) (hi := 1) g 236 26 rfl
                have e176 : h145 236 26 = h 236 26 := ((u145 236 26 rfl).trans ((u139 236 26 (fn_a (by omega) fn_0)).trans ((u122 236 26 rfl).trans ((u108 236 26 rfl).trans ((u97 236 26 (fn_a (by omega) fn_0)).trans ((u73 236 26 rfl).trans ((u69 236 26 (fn_a (by omega) fn_0)).trans ((u56 236 26 rfl).trans ((u34 236 26 rfl).trans (u22 236 26 rfl))))))))))
                have e177 : h145 236 5 = h122 236 5 := ((u145 236 5 rfl).trans (u139 236 5 (fn_a (by omega) fn_0)))
                have e178 : h145 236 6 = h122 236 6 := ((u145 236 6 rfl).trans (u139 236 6 (fn_a (by omega) fn_0)))
                have e179 : h145 236 7 = h122 236 7 := ((u145 236 7 rfl).trans (u139 236 7 (fn_a (by omega) fn_0)))
                have e180 : h145 236 12 = h122 236 12 := ((u145 236 12 rfl).trans (u139 236 12 (fn_a (by omega) fn_0)))
                exact k h145 g145 F146 (show (h 236 4) ≤ (h145 236 4) by omega) (show (h145 236 4) ≤ (h 236 3) by omega) (show 1 ≤ (h145 236 8) ∨ ((h145 239 5) ≤ 9 ∧ 1 ≤ (h145 239 5) ∧ (h145 239 7) ≤ 3 ∧ (h145 239 15) ≤ 6 ∧ (h145 239 16) ≤ 6 ∧ (h145 239 17) ≤ 6 ∧ (h145 239 18) ≤ 6) by omega) (show (h145 236 8) ≠ 0 ∨ (h145 236 9) = -1 by omega) (by (try clear p34_1 p73_3 p73_4 p122_3 p122_4 p122_5); unfold tk_car tk_wrd tk_num tk_bad; (try dsimp only); (repeat (first | rw [if_pos (by omega)] | rw [if_neg (by omega)])); (repeat ((first | unfold tk_wrd | unfold tk_num | unfold tk_bad); (try dsimp only); (repeat (first | rw [if_pos (by omega)] | rw [if_neg (by omega)])))); exact tk_ORs (by omega) (by first | assumption | exact ⟨by omega, by omega, TKk.mv (by assumption) (by omega) (by omega) (by omega)⟩) (CVr.car (c := (h 239 2).toNat) xq1 (by omega) (by omega) (fun i _ _ _ _ => ((u145 239 i (fn_i (by omega) fn_0)).trans ((u139 239 i (fn_i (by omega) fn_0)).trans ((u122 239 i (fo_nk rfl)).trans ((u108 239 i (fo_nk rfl)).trans ((u97 239 i (fn_i (by omega) fn_0)).trans ((u73 239 i (fo_nk rfl)).trans ((u69 239 i (fn_i (by omega) fn_0)).trans ((u56 239 i (fo_nk rfl)).trans ((u34 239 i (fn_a (by decide) (fn_a (by decide) fn_0))).trans (u22 239 i (fo_nk rfl)))))))))))) (fun i _ _ => ((u145 236 i (fn_a (by omega) fn_0)).trans ((u139 236 i (fn_a (by omega) fn_0)).trans ((u122 236 i (fo_gk (m := 12) (by omega) rfl)).trans ((u108 236 i (fo_gk (m := 12) (by omega) rfl)).trans ((u97 236 i (fn_a (by omega) fn_0)).trans ((u73 236 i (fo_gk (m := 12) (by omega) rfl)).trans ((u69 236 i (fn_a (by omega) fn_0)).trans ((u56 236 i (fo_gk (m := 12) (by omega) rfl)).trans ((u34 236 i (fn_i (by omega) (fn_i (by omega) fn_0))).trans (u22 236 i (fo_gk (m := 12) (by omega) rfl)))))))))))) (by rw [show 31 + (h 239 2).toNat = i68 by omega]; exact ((u145 239 i68 (fn_i (by omega) fn_0)).trans ((u139 239 i68 (fn_i (by omega) fn_0)).trans ((u122 239 i68 (fo_nk rfl)).trans ((u108 239 i68 (fo_nk rfl)).trans ((u97 239 i68 (fn_i (by omega) fn_0)).trans ((u73 239 i68 (fo_nk rfl)).trans w69)))))).trans (by omega)) (by rw [show 19 + (h 239 2).toNat = i96 by omega]; exact ((u145 239 i96 (fn_i (by omega) fn_0)).trans ((u139 239 i96 (fn_i (by omega) fn_0)).trans ((u122 239 i96 (fo_nk rfl)).trans ((u108 239 i96 (fo_nk rfl)).trans w97)))).trans (by omega)) (by rw [show 43 + (h 239 2).toNat = i138 by omega]; exact ((u145 239 i138 (fn_i (by omega) fn_0)).trans w139).trans (by omega)) (fun i => ((u145 244 i (fn_a (by omega) fn_0)).trans ((u139 244 i (fn_a (by omega) fn_0)).trans ((u122 244 i (fo_nk rfl)).trans ((u108 244 i (fo_nk rfl)).trans ((u97 244 i (fn_a (by omega) fn_0)).trans ((u73 244 i (fo_nk rfl)).trans ((u69 244 i (fn_a (by omega) fn_0)).trans ((u56 244 i (fo_nk rfl)).trans ((u34 244 i (fn_a (by decide) (fn_a (by decide) fn_0))).trans (u22 244 i (fo_nk rfl)))))))))))) (by omega) (by omega) (by omega)))
              ·
                refine wi_goto (nx := 116) (r1 := 117) (r2 := 0) (r3 := 0) rfl ?_
                obtain ⟨i136, ei136⟩ : ∃ q : Nat, e99 = (q : Int) := ⟨(e99).toNat, by omega⟩
                refine wr_is (k0 := 239) (a := e99) (f := i136) (x := z125) (bl := 0) (bh := 999) (nx := 118) (r1 := 0) (r2 := 0) (r3 := 0) rfl (by decide) rfl (by omega) (by omega) (by decide) g122 (gi_rq 43 12 (fun _ => rfl) (by decide +kernel) (by omega)) (by omega) (fun h137 g137 w137 u137 => ?_)
                have F138 := F127.then rfl (FR.idx (p := 43) (q := 54) u137 (by omega))
                refine wi_aload_n (i := 0) (x := 236) (nx := 119) (r1 := 0) (r2 := 0) (r3 := 0) rfl rfl ?_
                refine wr_V (k0 := 236) (rest := []) (as := [.ref 236]) (nx := 122) (r1 := 219) (r2 := 0) (r3 := 11) rfl rfl rfl (of_decide_eq_true rfl) rfl rfl (by decide) rfl rfl (of_decide_eq_true rfl) (of_decide_eq_true rfl) ?_
                refine wi_aload_n (i := 0) (x := 236) (nx := 1) (r1 := 0) (r2 := 0) (r3 := 0) rfl rfl ?_
                refine wr_gi0 (k0 := 236) (x := h122 236 8) (nx := 4) (r1 := 11) (r2 := 8) (r3 := 0) rfl rfl (by decide) rfl ⟨rfl, rfl⟩ rfl (u137 236 8 (fn_a (by omega) fn_0)) ?_
                refine wi_if (cd := .ne) (nx := 7) (r1 := 11) (r2 := 0) (r3 := 0) rfl (by omega) (fun (q139 : (h122 236 8) ≠ 0) => ?_) (fun (q139 : ¬ ((h122 236 8) ≠ 0)) => by exfalso; omega)
                refine wi_iconst (n := 0) (nx := 12) (r1 := 0) (r2 := 0) (r3 := 0) rfl ?_
                refine wi_zreturn (nx := 13) (r1 := 0) (r2 := 0) (r3 := 0) rfl rfl (by omega) ?_
                refine wk_i ?_
                refine wi_if (cd := .eq) (nx := 125) (r1 := 135) (r2 := 0) (r3 := 0) rfl (by omega) (fun (q141 : 0 = 0) => ?_) (fun (q141 : ¬ (0 = 0)) => by exfalso; omega)
                refine wi_return (nx := 136) (r1 := 0) (r2 := 0) (r3 := 0) rfl rfl ?_
                have e142 : h137 236 4 = h122 236 4 := (u137 236 4 (fn_a (by omega) fn_0))
                have e143 : h137 236 8 = h122 236 8 := (u137 236 8 (fn_a (by omega) fn_0))
                have e144 : h137 239 5 = h 239 5 := ((u137 239 5 (fn_i (by omega) fn_0)).trans ((u122 239 5 rfl).trans ((u108 239 5 rfl).trans ((u97 239 5 (fn_i (by omega) fn_0)).trans ((u73 239 5 rfl).trans ((u69 239 5 (fn_i (by omega) fn_0)).trans ((u56 239 5 rfl).trans ((u34 239 5 rfl).trans (u22 239 5 rfl)))))))))
                have e145 : h137 239 7 = h 239 7 := ((u137 239 7 (fn_i (by omega) fn_0)).trans ((u122 239 7 rfl).trans ((u108 239 7 rfl).trans ((u97 239 7 (fn_i (by omega) fn_0)).trans ((u73 239 7 rfl).trans ((u69 239 7 (fn_i (by omega) fn_0)).trans ((u56 239 7 rfl).trans ((u34 239 7 rfl).trans (u22 239 7 rfl)))))))))
                have e146 : h137 239 15 = h 239 15 := ((u137 239 15 (fn_i (by omega) fn_0)).trans ((u122 239 15 rfl).trans ((u108 239 15 rfl).trans ((u97 239 15 (fn_i (by omega) fn_0)).trans ((u73 239 15 rfl).trans ((u69 239 15 (fn_i (by omega) fn_0)).trans ((u56 239 15 rfl).trans ((u34 239 15 rfl).trans (u22 239 15 rfl)))))))))
                have e147 : h137 239 16 = h 239 16 := ((u137 239 16 (fn_i (by omega) fn_0)).trans ((u122 239 16 rfl).trans ((u108 239 16 rfl).trans ((u97 239 16 (fn_i (by omega) fn_0)).trans ((u73 239 16 rfl).trans ((u69 239 16 (fn_i (by omega) fn_0)).trans ((u56 239 16 rfl).trans ((u34 239 16 rfl).trans (u22 239 16 rfl)))))))))
                have e148 : h137 239 17 = h 239 17 := ((u137 239 17 (fn_i (by omega) fn_0)).trans ((u122 239 17 rfl).trans ((u108 239 17 rfl).trans ((u97 239 17 (fn_i (by omega) fn_0)).trans ((u73 239 17 rfl).trans ((u69 239 17 (fn_i (by omega) fn_0)).trans ((u56 239 17 rfl).trans ((u34 239 17 rfl).trans (u22 239 17 rfl)))))))))
                have e149 : h137 239 18 = h 239 18 := ((u137 239 18 (fn_i (by omega) fn_0)).trans ((u122 239 18 rfl).trans ((u108 239 18 rfl).trans ((u97 239 18 (fn_i (by omega) fn_0)).trans ((u73 239 18 rfl).trans ((u69 239 18 (fn_i (by omega) fn_0)).trans ((u56 239 18 rfl).trans ((u34 239 18 rfl).trans (u22 239 18 rfl)))))))))
                have e150 : h137 236 9 = h122 236 9 := (u137 236 9 (fn_a (by omega) fn_0))
                exact k h137 g137 F138 (show (h 236 4) ≤ (h137 236 4) by omega) (show (h137 236 4) ≤ (h 236 3) by omega) (show 1 ≤ (h137 236 8) ∨ ((h137 239 5) ≤ 9 ∧ 1 ≤ (h137 239 5) ∧ (h137 239 7) ≤ 3 ∧ (h137 239 15) ≤ 6 ∧ (h137 239 16) ≤ 6 ∧ (h137 239 17) ≤ 6 ∧ (h137 239 18) ≤ 6) by omega) (show (h137 236 8) ≠ 0 ∨ (h137 236 9) = -1 by omega) (by (try clear p34_1 p73_3 p73_4 p122_3 p122_4 p122_5); unfold tk_car tk_wrd tk_num tk_bad; (try dsimp only); (repeat (first | rw [if_pos (by omega)] | rw [if_neg (by omega)])); (repeat ((first | unfold tk_wrd | unfold tk_num | unfold tk_bad); (try dsimp only); (repeat (first | rw [if_pos (by omega)] | rw [if_neg (by omega)])))); first | exact tk_ORe (by omega) (by omega) (by omega) | ((repeat' split) <;> (first | exact tk_ORe (by omega) (by omega) (by omega) | (exfalso; omega))))
              ·
                refine wi_goto (nx := 116) (r1 := 117) (r2 := 0) (r3 := 0) rfl ?_
                obtain ⟨i136, ei136⟩ : ∃ q : Nat, e99 = (q : Int) := ⟨(e99).toNat, by omega⟩
                refine wr_is (k0 := 239) (a := e99) (f := i136) (x := z125) (bl := 0) (bh := 999) (nx := 118) (r1 := 0) (r2 := 0) (r3 := 0) rfl (by decide) rfl (by omega) (by omega) (by decide) g122 (gi_rq 43 12 (fun _ => rfl) (by decide +kernel) (by omega)) (by omega) (fun h137 g137 w137 u137 => ?_)
                have F138 := F127.then rfl (FR.idx (p := 43) (q := 54) u137 (by omega))
                refine wi_aload_n (i := 0) (x := 236) (nx := 119) (r1 := 0) (r2 := 0) (r3 := 0) rfl rfl ?_
                refine wr_V (k0 := 236) (rest := []) (as := [.ref 236]) (nx := 122) (r1 := 219) (r2 := 0) (r3 := 11) rfl rfl rfl (of_decide_eq_true rfl) rfl rfl (by decide) rfl rfl (of_decide_eq_true rfl) (of_decide_eq_true rfl) ?_
                refine wi_aload_n (i := 0) (x := 236) (nx := 1) (r1 := 0) (r2 := 0) (r3 := 0) rfl rfl ?_
                refine wr_gi0 (k0 := 236) (x := h122 236 8) (nx := 4) (r1 := 11) (r2 := 8) (r3 := 0) rfl rfl (by decide) rfl ⟨rfl, rfl⟩ rfl (u137 236 8 (fn_a (by omega) fn_0)) ?_
                refine wi_if (cd := .ne) (nx := 7) (r1 := 11) (r2 := 0) (r3 := 0) rfl (by omega) (fun (q139 : (h122 236 8) ≠ 0) => ?_) (fun (q139 : ¬ ((h122 236 8) ≠ 0)) => by exfalso; omega)
                refine wi_iconst (n := 0) (nx := 12) (r1 := 0) (r2 := 0) (r3 := 0) rfl ?_
                refine wi_zreturn (nx := 13) (r1 := 0) (r2 := 0) (r3 := 0) rfl rfl (by omega) ?_
                refine wk_i ?_
                refine wi_if (cd := .eq) (nx := 125) (r1 := 135) (r2 := 0) (r3 := 0) rfl (by omega) (fun (q141 : 0 = 0) => ?_) (fun (q141 : ¬ (0 = 0)) => by exfalso; omega)
                refine wi_return (nx := 136) (r1 := 0) (r2 := 0) (r3 := 0) rfl rfl ?_
                have e142 : h137 236 4 = h122 236 4 := (u137 236 4 (fn_a (by omega) fn_0))
                have e143 : h137 236 8 = h122 236 8 := (u137 236 8 (fn_a (by omega) fn_0))
                have e144 : h137 239 5 = h 239 5 := ((u137 239 5 (fn_i (by omega) fn_0)).trans ((u122 239 5 rfl).trans ((u108 239 5 rfl).trans ((u97 239 5 (fn_i (by omega) fn_0)).trans ((u73 239 5 rfl).trans ((u69 239 5 (fn_i (by omega) fn_0)).trans ((u56 239 5 rfl).trans ((u34 239 5 rfl).trans (u22 239 5 rfl)))))))))
                have e145 : h137 239 7 = h 239 7 := ((u137 239 7 (fn_i (by omega) fn_0)).trans ((u122 239 7 rfl).trans ((u108 239 7 rfl).trans ((u97 239 7 (fn_i (by omega) fn_0)).trans ((u73 239 7 rfl).trans ((u69 239 7 (fn_i (by omega) fn_0)).trans ((u56 239 7 rfl).trans ((u34 239 7 rfl).trans (u22 239 7 rfl)))))))))
                have e146 : h137 239 15 = h 239 15 := ((u137 239 15 (fn_i (by omega) fn_0)).trans ((u122 239 15 rfl).trans ((u108 239 15 rfl).trans ((u97 239 15 (fn_i (by omega) fn_0)).trans ((u73 239 15 rfl).trans ((u69 239 15 (fn_i (by omega) fn_0)).trans ((u56 239 15 rfl).trans ((u34 239 15 rfl).trans (u22 239 15 rfl)))))))))
                have e147 : h137 239 16 = h 239 16 := ((u137 239 16 (fn_i (by omega) fn_0)).trans ((u122 239 16 rfl).trans ((u108 239 16 rfl).trans ((u97 239 16 (fn_i (by omega) fn_0)).trans ((u73 239 16 rfl).trans ((u69 239 16 (fn_i (by omega) fn_0)).trans ((u56 239 16 rfl).trans ((u34 239 16 rfl).trans (u22 239 16 rfl)))))))))
                have e148 : h137 239 17 = h 239 17 := ((u137 239 17 (fn_i (by omega) fn_0)).trans ((u122 239 17 rfl).trans ((u108 239 17 rfl).trans ((u97 239 17 (fn_i (by omega) fn_0)).trans ((u73 239 17 rfl).trans ((u69 239 17 (fn_i (by omega) fn_0)).trans ((u56 239 17 rfl).trans ((u34 239 17 rfl).trans (u22 239 17 rfl)))))))))
                have e149 : h137 239 18 = h 239 18 := ((u137 239 18 (fn_i (by omega) fn_0)).trans ((u122 239 18 rfl).trans ((u108 239 18 rfl).trans ((u97 239 18 (fn_i (by omega) fn_0)).trans ((u73 239 18 rfl).trans ((u69 239 18 (fn_i (by omega) fn_0)).trans ((u56 239 18 rfl).trans ((u34 239 18 rfl).trans (u22 239 18 rfl)))))))))
                have e150 : h137 236 9 = h122 236 9 := (u137 236 9 (fn_a (by omega) fn_0))
                exact k h137 g137 F138 (show (h 236 4) ≤ (h137 236 4) by omega) (show (h137 236 4) ≤ (h 236 3) by omega) (show 1 ≤ (h137 236 8) ∨ ((h137 239 5) ≤ 9 ∧ 1 ≤ (h137 239 5) ∧ (h137 239 7) ≤ 3 ∧ (h137 239 15) ≤ 6 ∧ (h137 239 16) ≤ 6 ∧ (h137 239 17) ≤ 6 ∧ (h137 239 18) ≤ 6) by omega) (show (h137 236 8) ≠ 0 ∨ (h137 236 9) = -1 by omega) (by (try clear p34_1 p73_3 p73_4 p122_3 p122_4 p122_5); unfold tk_car tk_wrd tk_num tk_bad; (try dsimp only); (repeat (first | rw [if_pos (by omega)] | rw [if_neg (by omega)])); (repeat ((first | unfold tk_wrd | unfold tk_num | unfold tk_bad); (try dsimp only); (repeat (first | rw [if_pos (by omega)] | rw [if_neg (by omega)])))); first | exact tk_ORe (by omega) (by omega) (by omega) | ((repeat' split) <;> (first | exact tk_ORe (by omega) (by omega) (by omega) | (exfalso; omega))))
        ·
          obtain ⟨i93, ei93⟩ : ∃ q : Nat, e71 = (q : Int) := ⟨(e71).toNat, by omega⟩
          refine wr_is (k0 := 239) (a := e71) (f := i93) (x := z81) (bl := 0) (bh := 999) (nx := 89) (r1 := 0) (r2 := 0) (r3 := 0) rfl (by decide) rfl (by omega) (by omega) (by decide) g73 (gi_rq 19 12 (fun _ => rfl) (by decide +kernel) (by omega)) (by omega) (fun h94 g94 w94 u94 => ?_)
          have F95 := F84.then rfl (FR.idx (p := 19) (q := 30) u94 (by omega))
          refine wi_aload_n (i := 0) (x := 236) (nx := 90) (r1 := 0) (r2 := 0) (r3 := 0) rfl rfl ?_
          refine wr_gr (k0 := 236) (x := 239) (nx := 93) (r1 := 11) (r2 := 14) (r3 := 0) rfl rfl (by decide) rfl ⟨rfl, rfl⟩ rfl ?_
          refine wi_bipush (n := 43) (nx := 95) (r1 := 0) (r2 := 0) (r3 := 0) rfl (by decide) ?_
          refine wi_iload_n (i := 1) (e := h 239 2) (nx := 96) (r1 := 0) (r2 := 0) (r3 := 0) rfl rfl ?_
          refine wr_add (nx := 97) (r1 := 0) (r2 := 0) (r3 := 0) rfl (fun e96 (fe96 : e96 = 43 + (h 239 2)) => ?_)
          refine wi_aload_n (i := 0) (x := 236) (nx := 98) (r1 := 0) (r2 := 0) (r3 := 0) rfl rfl ?_
          refine wi_ldc2_w (e := 2084) (nx := 101) (r1 := 2084) (r2 := 0) (r3 := 0) rfl (by decide) ?_
          refine wr_V (k0 := 236) (rest := [vi e96, .ref 239]) (as := [.ref 236, vl 2084]) (nx := 104) (r1 := 230) (r2 := 1) (r3 := 11) rfl rfl rfl (of_decide_eq_true rfl) rfl rfl (by decide) rfl rfl (of_decide_eq_true rfl) (of_decide_eq_true rfl) ?_
          refine wi_aload_n (i := 0) (x := 236) (nx := 1) (r1 := 0) (r2 := 0) (r3 := 0) rfl rfl ?_
          refine wi_lload_n (i := 1) (e := 2084) (nx := 2) (r1 := 0) (r2 := 0) (r3 := 0) rfl rfl ?_
          refine wr_V (k0 := 236) (rest := []) (as := [.ref 236, vl 2084]) (nx := 5) (r1 := 221) (r2 := 1) (r3 := 11) rfl rfl rfl (of_decide_eq_true rfl) rfl rfl (by decide) rfl rfl (of_decide_eq_true rfl) (of_decide_eq_true rfl) ?_
          refine wi_aload_n (i := 0) (x := 236) (nx := 1) (r1 := 0) (r2 := 0) (r3 := 0) rfl rfl ?_
          refine wr_gi0 (k0 := 236) (x := h73 236 8) (nx := 4) (r1 := 11) (r2 := 8) (r3 := 0) rfl rfl (by decide) rfl ⟨rfl, rfl⟩ rfl (u94 236 8 (fn_a (by omega) fn_0)) ?_
          refine wi_if (cd := .ne) (nx := 7) (r1 := 28) (r2 := 0) (r3 := 0) rfl (by omega) (fun (q97 : (h73 236 8) ≠ 0) => ?_) (fun (q97 : ¬ ((h73 236 8) ≠ 0)) => by exfalso; omega)
          refine wi_iconst (n := 0) (nx := 29) (r1 := 0) (r2 := 0) (r3 := 0) rfl ?_
          refine wi_zreturn (nx := 30) (r1 := 0) (r2 := 0) (r3 := 0) rfl rfl (by omega) ?_
          refine wk_i ?_
          refine wi_istore_n (i := 3) (e := 0) (lo2 := [(3, vi 0), (0, .ref 236), (1, vl 2084)]) (nx := 6) (r1 := 0) (r2 := 0) (r3 := 0) rfl rfl ?_
          refine wi_iload_n (i := 3) (e := 0) (nx := 7) (r1 := 0) (r2 := 0) (r3 := 0) rfl rfl ?_
          refine wi_if (cd := .eq) (nx := 10) (r1 := 14) (r2 := 0) (r3 := 0) rfl (by omega) (fun (q99 : 0 = 0) => ?_) (fun (q99 : ¬ (0 = 0)) => by exfalso; omega)
          refine wi_iload_n (i := 3) (e := 0) (nx := 15) (r1 := 0) (r2 := 0) (r3 := 0) rfl rfl ?_
          refine wi_zreturn (nx := 16) (r1 := 0) (r2 := 0) (r3 := 0) rfl rfl (by omega) ?_
          refine wk_i ?_
          refine wi_if (cd := .eq) (nx := 107) (r1 := 116) (r2 := 0) (r3 := 0) rfl (by omega) (fun (q100 : 0 = 0) => ?_) (fun (q100 : ¬ (0 = 0)) => by exfalso; omega)
          refine wi_iconst (n := 0) (nx := 117) (r1 := 0) (r2 := 0) (r3 := 0) rfl ?_
          obtain ⟨i101, ei101⟩ : ∃ q : Nat, e96 = (q : Int) := ⟨(e96).toNat, by omega⟩
          refine wr_is (k0 := 239) (a := e96) (f := i101) (x := 0) (bl := 0) (bh := 999) (nx := 118) (r1 := 0) (r2 := 0) (r3 := 0) rfl (by decide) rfl (by omega) (by omega) (by decide) g94 (gi_rq 43 12 (fun _ => rfl) (by decide +kernel) (by omega)) (by omega) (fun h102 g102 w102 u102 => ?_)
          have F103 := F95.then rfl (FR.idx (p := 43) (q := 54) u102 (by omega))
          refine wi_aload_n (i := 0) (x := 236) (nx := 119) (r1 := 0) (r2 := 0) (r3 := 0) rfl rfl ?_
          refine wr_V (k0 := 236) (rest := []) (as := [.ref 236]) (nx := 122) (r1 := 219) (r2 := 0) (r3 := 11) rfl rfl rfl (of_decide_eq_true rfl) rfl rfl (by decide) rfl rfl (of_decide_eq_true rfl) (of_decide_eq_true rfl) ?_
          refine wi_aload_n (i := 0) (x := 236) (nx := 1) (r1 := 0) (r2 := 0) (r3 := 0) rfl rfl ?_
          refine wr_gi0 (k0 := 236) (x := h73 236 8) (nx := 4) (r1 := 11) (r2 := 8) (r3 := 0) rfl rfl (by decide) rfl ⟨rfl, rfl⟩ rfl ((u102 236 8 (fn_a (by omega) fn_0)).trans (u94 236 8 (fn_a (by omega) fn_0))) ?_
          refine wi_if (cd := .ne) (nx := 7) (r1 := 11) (r2 := 0) (r3 := 0) rfl (by omega) (fun (q104 : (h73 236 8) ≠ 0) => ?_) (fun (q104 : ¬ ((h73 236 8) ≠ 0)) => by exfalso; omega)
          refine wi_iconst (n := 0) (nx := 12) (r1 := 0) (r2 := 0) (r3 := 0) rfl ?_
          refine wi_zreturn (nx := 13) (r1 := 0) (r2 := 0) (r3 := 0) rfl rfl (by omega) ?_
          refine wk_i ?_
          refine wi_if (cd := .eq) (nx := 125) (r1 := 135) (r2 := 0) (r3 := 0) rfl (by omega) (fun (q106 : 0 = 0) => ?_) (fun (q106 : ¬ (0 = 0)) => by exfalso; omega)
          refine wi_return (nx := 136) (r1 := 0) (r2 := 0) (r3 := 0) rfl rfl ?_
          have e107 : h102 236 4 = h73 236 4 := ((u102 236 4 (fn_a (by omega) fn_0)).trans (u94 236 4 (fn_a (by omega) fn_0)))
          have e108 : h102 236 8 = h73 236 8 := ((u102 236 8 (fn_a (by omega) fn_0)).trans (u94 236 8 (fn_a (by omega) fn_0)))
          have e109 : h102 239 5 = h 239 5 := ((u102 239 5 (fn_i (by omega) fn_0)).trans ((u94 239 5 (fn_i (by omega) fn_0)).trans ((u73 239 5 rfl).trans ((u69 239 5 (fn_i (by omega) fn_0)).trans ((u56 239 5 rfl).trans ((u34 239 5 rfl).trans (u22 239 5 rfl)))))))
          have e110 : h102 239 7 = h 239 7 := ((u102 239 7 (fn_i (by omega) fn_0)).trans ((u94 239 7 (fn_i (by omega) fn_0)).trans ((u73 239 7 rfl).trans ((u69 239 7 (fn_i (by omega) fn_0)).trans ((u56 239 7 rfl).trans ((u34 239 7 rfl).trans (u22 239 7 rfl)))))))
          have e111 : h102 239 15 = h 239 15 := ((u102 239 15 (fn_i (by omega) fn_0)).trans ((u94 239 15 (fn_i (by omega) fn_0)).trans ((u73 239 15 rfl).trans ((u69 239 15 (fn_i (by omega) fn_0)).trans ((u56 239 15 rfl).trans ((u34 239 15 rfl).trans (u22 239 15 rfl)))))))
          have e112 : h102 239 16 = h 239 16 := ((u102 239 16 (fn_i (by omega) fn_0)).trans ((u94 239 16 (fn_i (by omega) fn_0)).trans ((u73 239 16 rfl).trans ((u69 239 16 (fn_i (by omega) fn_0)).trans ((u56 239 16 rfl).trans ((u34 239 16 rfl).trans (u22 239 16 rfl)))))))
          have e113 : h102 239 17 = h 239 17 := ((u102 239 17 (fn_i (by omega) fn_0)).trans ((u94 239 17 (fn_i (by omega) fn_0)).trans ((u73 239 17 rfl).trans ((u69 239 17 (fn_i (by omega) fn_0)).trans ((u56 239 17 rfl).trans ((u34 239 17 rfl).trans (u22 239 17 rfl)))))))
          have e114 : h102 239 18 = h 239 18 := ((u102 239 18 (fn_i (by omega) fn_0)).trans ((u94 239 18 (fn_i (by omega) fn_0)).trans ((u73 239 18 rfl).trans ((u69 239 18 (fn_i (by omega) fn_0)).trans ((u56 239 18 rfl).trans ((u34 239 18 rfl).trans (u22 239 18 rfl)))))))
          have e115 : h102 236 9 = h73 236 9 := ((u102 236 9 (fn_a (by omega) fn_0)).trans (u94 236 9 (fn_a (by omega) fn_0)))
          exact k h102 g102 F103 (show (h 236 4) ≤ (h102 236 4) by omega) (show (h102 236 4) ≤ (h 236 3) by omega) (show 1 ≤ (h102 236 8) ∨ ((h102 239 5) ≤ 9 ∧ 1 ≤ (h102 239 5) ∧ (h102 239 7) ≤ 3 ∧ (h102 239 15) ≤ 6 ∧ (h102 239 16) ≤ 6 ∧ (h102 239 17) ≤ 6 ∧ (h102 239 18) ≤ 6) by omega) (show (h102 236 8) ≠ 0 ∨ (h102 236 9) = -1 by omega) (by (try clear p34_1 p73_3 p73_4); unfold tk_car tk_wrd tk_num tk_bad; (try dsimp only); (repeat (first | rw [if_pos (by omega)] | rw [if_neg (by omega)])); (repeat ((first | unfold tk_wrd | unfold tk_num | unfold tk_bad); (try dsimp only); (repeat (first | rw [if_pos (by omega)] | rw [if_neg (by omega)])))); first | exact tk_ORe (by omega) (by omega) (by omega) | ((repeat' split) <;> (first | exact tk_ORe (by omega) (by omega) (by omega) | (exfalso; omega))))
        ·
          have tN93 := @tk_nx_b tB tn (tk_nx tB tn (tk_nx tB tn tp)) (by omega) (by omega)
          obtain ⟨i94, ei94⟩ : ∃ q : Nat, e71 = (q : Int) := ⟨(e71).toNat, by omega⟩
          refine wr_is (k0 := 239) (a := e71) (f := i94) (x := z81) (bl := 0) (bh := 999) (nx := 89) (r1 := 0) (r2 := 0) (r3 := 0) rfl (by decide) rfl (by omega) (by omega) (by decide) g73 (gi_rq 19 12 (fun _ => rfl) (by decide +kernel) (by omega)) (by omega) (fun h95 g95 w95 u95 => ?_)
          have F96 := F84.then rfl (FR.idx (p := 19) (q := 30) u95 (by omega))
          refine wi_aload_n (i := 0) (x := 236) (nx := 90) (r1 := 0) (r2 := 0) (r3 := 0) rfl rfl ?_
          refine wr_gr (k0 := 236) (x := 239) (nx := 93) (r1 := 11) (r2 := 14) (r3 := 0) rfl rfl (by decide) rfl ⟨rfl, rfl⟩ rfl ?_
          refine wi_bipush (n := 43) (nx := 95) (r1 := 0) (r2 := 0) (r3 := 0) rfl (by decide) ?_
          refine wi_iload_n (i := 1) (e := h 239 2) (nx := 96) (r1 := 0) (r2 := 0) (r3 := 0) rfl rfl ?_
          refine wr_add (nx := 97) (r1 := 0) (r2 := 0) (r3 := 0) rfl (fun e97 (fe97 : e97 = 43 + (h 239 2)) => ?_)
          refine wi_aload_n (i := 0) (x := 236) (nx := 98) (r1 := 0) (r2 := 0) (r3 := 0) rfl rfl ?_
          refine wi_ldc2_w (e := 2084) (nx := 101) (r1 := 2084) (r2 := 0) (r3 := 0) rfl (by decide) ?_
          refine wr_V (k0 := 236) (rest := [vi e97, .ref 239]) (as := [.ref 236, vl 2084]) (nx := 104) (r1 := 230) (r2 := 1) (r3 := 11) rfl rfl rfl (of_decide_eq_true rfl) rfl rfl (by decide) rfl rfl (of_decide_eq_true rfl) (of_decide_eq_true rfl) ?_
          refine wi_aload_n (i := 0) (x := 236) (nx := 1) (r1 := 0) (r2 := 0) (r3 := 0) rfl rfl ?_
          refine wi_lload_n (i := 1) (e := 2084) (nx := 2) (r1 := 0) (r2 := 0) (r3 := 0) rfl rfl ?_
          refine wr_V (k0 := 236) (rest := []) (as := [.ref 236, vl 2084]) (nx := 5) (r1 := 221) (r2 := 1) (r3 := 11) rfl rfl rfl (of_decide_eq_true rfl) rfl rfl (by decide) rfl rfl (of_decide_eq_true rfl) (of_decide_eq_true rfl) ?_
          refine wi_aload_n (i := 0) (x := 236) (nx := 1) (r1 := 0) (r2 := 0) (r3 := 0) rfl rfl ?_
          refine wr_gi0 (k0 := 236) (x := h73 236 8) (nx := 4) (r1 := 11) (r2 := 8) (r3 := 0) rfl rfl (by decide) rfl ⟨rfl, rfl⟩ rfl (u95 236 8 (fn_a (by omega) fn_0)) ?_
          refine wi_if (cd := .ne) (nx := 7) (r1 := 28) (r2 := 0) (r3 := 0) rfl (by omega) (fun (q98 : (h73 236 8) ≠ 0) => ?_) (fun (q98 : ¬ ((h73 236 8) ≠ 0)) => by exfalso; omega)
          refine wi_iconst (n := 0) (nx := 29) (r1 := 0) (r2 := 0) (r3 := 0) rfl ?_
          refine wi_zreturn (nx := 30) (r1 := 0) (r2 := 0) (r3 := 0) rfl rfl (by omega) ?_
          refine wk_i ?_
          refine wi_istore_n (i := 3) (e := 0) (lo2 := [(3, vi 0), (0, .ref 236), (1, vl 2084)]) (nx := 6) (r1 := 0) (r2 := 0) (r3 := 0) rfl rfl ?_
          refine wi_iload_n (i := 3) (e := 0) (nx := 7) (r1 := 0) (r2 := 0) (r3 := 0) rfl rfl ?_
          refine wi_if (cd := .eq) (nx := 10) (r1 := 14) (r2 := 0) (r3 := 0) rfl (by omega) (fun (q100 : 0 = 0) => ?_) (fun (q100 : ¬ (0 = 0)) => by exfalso; omega)
          refine wi_iload_n (i := 3) (e := 0) (nx := 15) (r1 := 0) (r2 := 0) (r3 := 0) rfl rfl ?_
          refine wi_zreturn (nx := 16) (r1 := 0) (r2 := 0) (r3 := 0) rfl rfl (by omega) ?_
          refine wk_i ?_
          refine wi_if (cd := .eq) (nx := 107) (r1 := 116) (r2 := 0) (r3 := 0) rfl (by omega) (fun (q101 : 0 = 0) => ?_) (fun (q101 : ¬ (0 = 0)) => by exfalso; omega)
          refine wi_iconst (n := 0) (nx := 117) (r1 := 0) (r2 := 0) (r3 := 0) rfl ?_
          obtain ⟨i102, ei102⟩ : ∃ q : Nat, e97 = (q : Int) := ⟨(e97).toNat, by omega⟩
          refine wr_is (k0 := 239) (a := e97) (f := i102) (x := 0) (bl := 0) (bh := 999) (nx := 118) (r1 := 0) (r2 := 0) (r3 := 0) rfl (by decide) rfl (by omega) (by omega) (by decide) g95 (gi_rq 43 12 (fun _ => rfl) (by decide +kernel) (by omega)) (by omega) (fun h103 g103 w103 u103 => ?_)
          have F104 := F96.then rfl (FR.idx (p := 43) (q := 54) u103 (by omega))
          refine wi_aload_n (i := 0) (x := 236) (nx := 119) (r1 := 0) (r2 := 0) (r3 := 0) rfl rfl ?_
          refine wr_V (k0 := 236) (rest := []) (as := [.ref 236]) (nx := 122) (r1 := 219) (r2 := 0) (r3 := 11) rfl rfl rfl (of_decide_eq_true rfl) rfl rfl (by decide) rfl rfl (of_decide_eq_true rfl) (of_decide_eq_true rfl) ?_
          refine wi_aload_n (i := 0) (x := 236) (nx := 1) (r1 := 0) (r2 := 0) (r3 := 0) rfl rfl ?_
          refine wr_gi0 (k0 := 236) (x := h73 236 8) (nx := 4) (r1 := 11) (r2 := 8) (r3 := 0) rfl rfl (by decide) rfl ⟨rfl, rfl⟩ rfl ((u103 236 8 (fn_a (by omega) fn_0)).trans (u95 236 8 (fn_a (by omega) fn_0))) ?_
          refine wi_if (cd := .ne) (nx := 7) (r1 := 11) (r2 := 0) (r3 := 0) rfl (by omega) (fun (q105 : (h73 236 8) ≠ 0) => ?_) (fun (q105 : ¬ ((h73 236 8) ≠ 0)) => by exfalso; omega)
          refine wi_iconst (n := 0) (nx := 12) (r1 := 0) (r2 := 0) (r3 := 0) rfl ?_
          refine wi_zreturn (nx := 13) (r1 := 0) (r2 := 0) (r3 := 0) rfl rfl (by omega) ?_
          refine wk_i ?_
          refine wi_if (cd := .eq) (nx := 125) (r1 := 135) (r2 := 0) (r3 := 0) rfl (by omega) (fun (q107 : 0 = 0) => ?_) (fun (q107 : ¬ (0 = 0)) => by exfalso; omega)
          refine wi_return (nx := 136) (r1 := 0) (r2 := 0) (r3 := 0) rfl rfl ?_
          have e108 : h103 236 4 = h73 236 4 := ((u103 236 4 (fn_a (by omega) fn_0)).trans (u95 236 4 (fn_a (by omega) fn_0)))
          have e109 : h103 236 8 = h73 236 8 := ((u103 236 8 (fn_a (by omega) fn_0)).trans (u95 236 8 (fn_a (by omega) fn_0)))
          have e110 : h103 239 5 = h 239 5 := ((u103 239 5 (fn_i (by omega) fn_0)).trans ((u95 239 5 (fn_i (by omega) fn_0)).trans ((u73 239 5 rfl).trans ((u69 239 5 (fn_i (by omega) fn_0)).trans ((u56 239 5 rfl).trans ((u34 239 5 rfl).trans (u22 239 5 rfl)))))))
          have e111 : h103 239 7 = h 239 7 := ((u103 239 7 (fn_i (by omega) fn_0)).trans ((u95 239 7 (fn_i (by omega) fn_0)).trans ((u73 239 7 rfl).trans ((u69 239 7 (fn_i (by omega) fn_0)).trans ((u56 239 7 rfl).trans ((u34 239 7 rfl).trans (u22 239 7 rfl)))))))
          have e112 : h103 239 15 = h 239 15 := ((u103 239 15 (fn_i (by omega) fn_0)).trans ((u95 239 15 (fn_i (by omega) fn_0)).trans ((u73 239 15 rfl).trans ((u69 239 15 (fn_i (by omega) fn_0)).trans ((u56 239 15 rfl).trans ((u34 239 15 rfl).trans (u22 239 15 rfl)))))))
          have e113 : h103 239 16 = h 239 16 := ((u103 239 16 (fn_i (by omega) fn_0)).trans ((u95 239 16 (fn_i (by omega) fn_0)).trans ((u73 239 16 rfl).trans ((u69 239 16 (fn_i (by omega) fn_0)).trans ((u56 239 16 rfl).trans ((u34 239 16 rfl).trans (u22 239 16 rfl)))))))
          have e114 : h103 239 17 = h 239 17 := ((u103 239 17 (fn_i (by omega) fn_0)).trans ((u95 239 17 (fn_i (by omega) fn_0)).trans ((u73 239 17 rfl).trans ((u69 239 17 (fn_i (by omega) fn_0)).trans ((u56 239 17 rfl).trans ((u34 239 17 rfl).trans (u22 239 17 rfl)))))))
          have e115 : h103 239 18 = h 239 18 := ((u103 239 18 (fn_i (by omega) fn_0)).trans ((u95 239 18 (fn_i (by omega) fn_0)).trans ((u73 239 18 rfl).trans ((u69 239 18 (fn_i (by omega) fn_0)).trans ((u56 239 18 rfl).trans ((u34 239 18 rfl).trans (u22 239 18 rfl)))))))
          have e116 : h103 236 9 = h73 236 9 := ((u103 236 9 (fn_a (by omega) fn_0)).trans (u95 236 9 (fn_a (by omega) fn_0)))
          exact k h103 g103 F104 (show (h 236 4) ≤ (h103 236 4) by omega) (show (h103 236 4) ≤ (h 236 3) by omega) (show 1 ≤ (h103 236 8) ∨ ((h103 239 5) ≤ 9 ∧ 1 ≤ (h103 239 5) ∧ (h103 239 7) ≤ 3 ∧ (h103 239 15) ≤ 6 ∧ (h103 239 16) ≤ 6 ∧ (h103 239 17) ≤ 6 ∧ (h103 239 18) ≤ 6) by omega) (show (h103 236 8) ≠ 0 ∨ (h103 236 9) = -1 by omega) (by (try clear p34_1 p73_3 p73_4); unfold tk_car tk_wrd tk_num tk_bad; (try dsimp only); (repeat (first | rw [if_pos (by omega)] | rw [if_neg (by omega)])); (repeat ((first | unfold tk_wrd | unfold tk_num | unfold tk_bad); (try dsimp only); (repeat (first | rw [if_pos (by omega)] | rw [if_neg (by omega)])))); first | exact tk_ORe (by omega) (by omega) (by omega) | ((repeat' split) <;> (first | exact tk_ORe (by omega) (by omega) (by omega) | (exfalso; omega))))
        ·
          have tN93 := @tk_nx_b tB tn (tk_nx tB tn (tk_nx tB tn tp)) (by omega) (by omega)
          obtain ⟨i94, ei94⟩ : ∃ q : Nat, e71 = (q : Int) := ⟨(e71).toNat, by omega⟩
          refine wr_is (k0 := 239) (a := e71) (f := i94) (x := z81) (bl := 0) (bh := 999) (nx := 89) (r1 := 0) (r2 := 0) (r3 := 0) rfl (by decide) rfl (by omega) (by omega) (by decide) g73 (gi_rq 19 12 (fun _ => rfl) (by decide +kernel) (by omega)) (by omega) (fun h95 g95 w95 u95 => ?_)
          have F96 := F84.then rfl (FR.idx (p := 19) (q := 30) u95 (by omega))
          refine wi_aload_n (i := 0) (x := 236) (nx := 90) (r1 := 0) (r2 := 0) (r3 := 0) rfl rfl ?_
          refine wr_gr (k0 := 236) (x := 239) (nx := 93) (r1 := 11) (r2 := 14) (r3 := 0) rfl rfl (by decide) rfl ⟨rfl, rfl⟩ rfl ?_
          refine wi_bipush (n := 43) (nx := 95) (r1 := 0) (r2 := 0) (r3 := 0) rfl (by decide) ?_
          refine wi_iload_n (i := 1) (e := h 239 2) (nx := 96) (r1 := 0) (r2 := 0) (r3 := 0) rfl rfl ?_
          refine wr_add (nx := 97) (r1 := 0) (r2 := 0) (r3 := 0) rfl (fun e97 (fe97 : e97 = 43 + (h 239 2)) => ?_)
          refine wi_aload_n (i := 0) (x := 236) (nx := 98) (r1 := 0) (r2 := 0) (r3 := 0) rfl rfl ?_
          refine wi_ldc2_w (e := 2084) (nx := 101) (r1 := 2084) (r2 := 0) (r3 := 0) rfl (by decide) ?_
          refine wr_V (k0 := 236) (rest := [vi e97, .ref 239]) (as := [.ref 236, vl 2084]) (nx := 104) (r1 := 230) (r2 := 1) (r3 := 11) rfl rfl rfl (of_decide_eq_true rfl) rfl rfl (by decide) rfl rfl (of_decide_eq_true rfl) (of_decide_eq_true rfl) ?_
          refine wi_aload_n (i := 0) (x := 236) (nx := 1) (r1 := 0) (r2 := 0) (r3 := 0) rfl rfl ?_
          refine wi_lload_n (i := 1) (e := 2084) (nx := 2) (r1 := 0) (r2 := 0) (r3 := 0) rfl rfl ?_
          refine wr_V (k0 := 236) (rest := []) (as := [.ref 236, vl 2084]) (nx := 5) (r1 := 221) (r2 := 1) (r3 := 11) rfl rfl rfl (of_decide_eq_true rfl) rfl rfl (by decide) rfl rfl (of_decide_eq_true rfl) (of_decide_eq_true rfl) ?_
          refine wi_aload_n (i := 0) (x := 236) (nx := 1) (r1 := 0) (r2 := 0) (r3 := 0) rfl rfl ?_
          refine wr_gi0 (k0 := 236) (x := h73 236 8) (nx := 4) (r1 := 11) (r2 := 8) (r3 := 0) rfl rfl (by decide) rfl ⟨rfl, rfl⟩ rfl (u95 236 8 (fn_a (by omega) fn_0)) ?_
          refine wi_if (cd := .ne) (nx := 7) (r1 := 28) (r2 := 0) (r3 := 0) rfl (by omega) (fun (q98 : (h73 236 8) ≠ 0) => ?_) (fun (q98 : ¬ ((h73 236 8) ≠ 0)) => by exfalso; omega)
          refine wi_iconst (n := 0) (nx := 29) (r1 := 0) (r2 := 0) (r3 := 0) rfl ?_
          refine wi_zreturn (nx := 30) (r1 := 0) (r2 := 0) (r3 := 0) rfl rfl (by omega) ?_
          refine wk_i ?_
          refine wi_istore_n (i := 3) (e := 0) (lo2 := [(3, vi 0), (0, .ref 236), (1, vl 2084)]) (nx := 6) (r1 := 0) (r2 := 0) (r3 := 0) rfl rfl ?_
          refine wi_iload_n (i := 3) (e := 0) (nx := 7) (r1 := 0) (r2 := 0) (r3 := 0) rfl rfl ?_
          refine wi_if (cd := .eq) (nx := 10) (r1 := 14) (r2 := 0) (r3 := 0) rfl (by omega) (fun (q100 : 0 = 0) => ?_) (fun (q100 : ¬ (0 = 0)) => by exfalso; omega)
          refine wi_iload_n (i := 3) (e := 0) (nx := 15) (r1 := 0) (r2 := 0) (r3 := 0) rfl rfl ?_
          refine wi_zreturn (nx := 16) (r1 := 0) (r2 := 0) (r3 := 0) rfl rfl (by omega) ?_
          refine wk_i ?_
          refine wi_if (cd := .eq) (nx := 107) (r1 := 116) (r2 := 0) (r3 := 0) rfl (by omega) (fun (q101 : 0 = 0) => ?_) (fun (q101 : ¬ (0 = 0)) => by exfalso; omega)
          refine wi_iconst (n := 0) (nx := 117) (r1 := 0) (r2 := 0) (r3 := 0) rfl ?_
          obtain ⟨i102, ei102⟩ : ∃ q : Nat, e97 = (q : Int) := ⟨(e97).toNat, by omega⟩
          refine wr_is (k0 := 239) (a := e97) (f := i102) (x := 0) (bl := 0) (bh := 999) (nx := 118) (r1 := 0) (r2 := 0) (r3 := 0) rfl (by decide) rfl (by omega) (by omega) (by decide) g95 (gi_rq 43 12 (fun _ => rfl) (by decide +kernel) (by omega)) (by omega) (fun h103 g103 w103 u103 => ?_)
          have F104 := F96.then rfl (FR.idx (p := 43) (q := 54) u103 (by omega))
          refine wi_aload_n (i := 0) (x := 236) (nx := 119) (r1 := 0) (r2 := 0) (r3 := 0) rfl rfl ?_
          refine wr_V (k0 := 236) (rest := []) (as := [.ref 236]) (nx := 122) (r1 := 219) (r2 := 0) (r3 := 11) rfl rfl rfl (of_decide_eq_true rfl) rfl rfl (by decide) rfl rfl (of_decide_eq_true rfl) (of_decide_eq_true rfl) ?_
          refine wi_aload_n (i := 0) (x := 236) (nx := 1) (r1 := 0) (r2 := 0) (r3 := 0) rfl rfl ?_
          refine wr_gi0 (k0 := 236) (x := h73 236 8) (nx := 4) (r1 := 11) (r2 := 8) (r3 := 0) rfl rfl (by decide) rfl ⟨rfl, rfl⟩ rfl ((u103 236 8 (fn_a (by omega) fn_0)).trans (u95 236 8 (fn_a (by omega) fn_0))) ?_
          refine wi_if (cd := .ne) (nx := 7) (r1 := 11) (r2 := 0) (r3 := 0) rfl (by omega) (fun (q105 : (h73 236 8) ≠ 0) => ?_) (fun (q105 : ¬ ((h73 236 8) ≠ 0)) => by exfalso; omega)
          refine wi_iconst (n := 0) (nx := 12) (r1 := 0) (r2 := 0) (r3 := 0) rfl ?_
          refine wi_zreturn (nx := 13) (r1 := 0) (r2 := 0) (r3 := 0) rfl rfl (by omega) ?_
          refine wk_i ?_
          refine wi_if (cd := .eq) (nx := 125) (r1 := 135) (r2 := 0) (r3 := 0) rfl (by omega) (fun (q107 : 0 = 0) => ?_) (fun (q107 : ¬ (0 = 0)) => by exfalso; omega)
          refine wi_return (nx := 136) (r1 := 0) (r2 := 0) (r3 := 0) rfl rfl ?_
          have e108 : h103 236 4 = h73 236 4 := ((u103 236 4 (fn_a (by omega) fn_0)).trans (u95 236 4 (fn_a (by omega) fn_0)))
          have e109 : h103 236 8 = h73 236 8 := ((u103 236 8 (fn_a (by omega) fn_0)).trans (u95 236 8 (fn_a (by omega) fn_0)))
          have e110 : h103 239 5 = h 239 5 := ((u103 239 5 (fn_i (by omega) fn_0)).trans ((u95 239 5 (fn_i (by omega) fn_0)).trans ((u73 239 5 rfl).trans ((u69 239 5 (fn_i (by omega) fn_0)).trans ((u56 239 5 rfl).trans ((u34 239 5 rfl).trans (u22 239 5 rfl)))))))
          have e111 : h103 239 7 = h 239 7 := ((u103 239 7 (fn_i (by omega) fn_0)).trans ((u95 239 7 (fn_i (by omega) fn_0)).trans ((u73 239 7 rfl).trans ((u69 239 7 (fn_i (by omega) fn_0)).trans ((u56 239 7 rfl).trans ((u34 239 7 rfl).trans (u22 239 7 rfl)))))))
          have e112 : h103 239 15 = h 239 15 := ((u103 239 15 (fn_i (by omega) fn_0)).trans ((u95 239 15 (fn_i (by omega) fn_0)).trans ((u73 239 15 rfl).trans ((u69 239 15 (fn_i (by omega) fn_0)).trans ((u56 239 15 rfl).trans ((u34 239 15 rfl).trans (u22 239 15 rfl)))))))
          have e113 : h103 239 16 = h 239 16 := ((u103 239 16 (fn_i (by omega) fn_0)).trans ((u95 239 16 (fn_i (by omega) fn_0)).trans ((u73 239 16 rfl).trans ((u69 239 16 (fn_i (by omega) fn_0)).trans ((u56 239 16 rfl).trans ((u34 239 16 rfl).trans (u22 239 16 rfl)))))))
          have e114 : h103 239 17 = h 239 17 := ((u103 239 17 (fn_i (by omega) fn_0)).trans ((u95 239 17 (fn_i (by omega) fn_0)).trans ((u73 239 17 rfl).trans ((u69 239 17 (fn_i (by omega) fn_0)).trans ((u56 239 17 rfl).trans ((u34 239 17 rfl).trans (u22 239 17 rfl)))))))
          have e115 : h103 239 18 = h 239 18 := ((u103 239 18 (fn_i (by omega) fn_0)).trans ((u95 239 18 (fn_i (by omega) fn_0)).trans ((u73 239 18 rfl).trans ((u69 239 18 (fn_i (by omega) fn_0)).trans ((u56 239 18 rfl).trans ((u34 239 18 rfl).trans (u22 239 18 rfl)))))))
          have e116 : h103 236 9 = h73 236 9 := ((u103 236 9 (fn_a (by omega) fn_0)).trans (u95 236 9 (fn_a (by omega) fn_0)))
          exact k h103 g103 F104 (show (h 236 4) ≤ (h103 236 4) by omega) (show (h103 236 4) ≤ (h 236 3) by omega) (show 1 ≤ (h103 236 8) ∨ ((h103 239 5) ≤ 9 ∧ 1 ≤ (h103 239 5) ∧ (h103 239 7) ≤ 3 ∧ (h103 239 15) ≤ 6 ∧ (h103 239 16) ≤ 6 ∧ (h103 239 17) ≤ 6 ∧ (h103 239 18) ≤ 6) by omega) (show (h103 236 8) ≠ 0 ∨ (h103 236 9) = -1 by omega) (by (try clear p34_1 p73_3 p73_4); unfold tk_car tk_wrd tk_num tk_bad; (try dsimp only); (repeat (first | rw [if_pos (by omega)] | rw [if_neg (by omega)])); (repeat ((first | unfold tk_wrd | unfold tk_num | unfold tk_bad); (try dsimp only); (repeat (first | rw [if_pos (by omega)] | rw [if_neg (by omega)])))); first | exact tk_ORe (by omega) (by omega) (by omega) | ((repeat' split) <;> (first | exact tk_ORe (by omega) (by omega) (by omega) | (exfalso; omega))))
      ·
        refine wi_aload_n (i := 0) (x := 236) (nx := 45) (r1 := 0) (r2 := 0) (r3 := 0) rfl rfl ?_
        refine wi_iconst (n := 4) (nx := 46) (r1 := 0) (r2 := 0) (r3 := 0) rfl ?_
        refine wr_V (k0 := 236) (rest := []) (as := [.ref 236, vi 4]) (nx := 49) (r1 := 224) (r2 := 1) (r3 := 11) rfl rfl rfl (of_decide_eq_true rfl) rfl rfl (by decide) rfl rfl (of_decide_eq_true rfl) (of_decide_eq_true rfl) ?_
        refine ct_224_236 hcr  g34 4 (by omega)  (fun h53 g53 u53 (p53_0 : 1 ≤ (h53 236 8)) (p53_1 : (1 ≤ (h34 236 8) ∧ (h53 236 8) = (h34 236 8) ∧ (h53 236 9) = (h34 236 9)) ∨ ((h34 236 8) = 0 ∧ (h53 236 9) = (h34 236 5) ∧ (((h34 236 6) = 4 ∧ (h53 236 8) = 1) ∨ ((h34 236 6) ≠ 4 ∧ (h53 236 8) = 4)))) => ?_)
        have F54 := F37.then (by decide +kernel) u53
        have b55 := gi_b (lo := 0) (hi := 5) g53 236 8 rfl
        have e56 : h34 236 5 = h22 236 5 := (u34 236 5 rfl)
        have e57 : h34 236 6 = h22 236 6 := (u34 236 6 rfl)
        have b58 := gi_b (lo := -2147483648) (hi := 2147483647) g53 236 9 rfl
        refine wk_n ?_
        refine wi_aload_n (i := 0) (x := 236) (nx := 50) (r1 := 0) (r2 := 0) (r3 := 0) rfl rfl ?_
        refine wr_V (k0 := 236) (rest := []) (as := [.ref 236]) (nx := 53) (r1 := 219) (r2 := 0) (r3 := 11) rfl rfl rfl (of_decide_eq_true rfl) rfl rfl (by decide) rfl rfl (of_decide_eq_true rfl) (of_decide_eq_true rfl) ?_
        refine wi_aload_n (i := 0) (x := 236) (nx := 1) (r1 := 0) (r2 := 0) (r3 := 0) rfl rfl ?_
        refine wr_gi0 (k0 := 236) (x := h53 236 8) (nx := 4) (r1 := 11) (r2 := 8) (r3 := 0) rfl rfl (by decide) rfl ⟨rfl, rfl⟩ rfl rfl ?_
        refine wi_if (cd := .ne) (nx := 7) (r1 := 11) (r2 := 0) (r3 := 0) rfl (by omega) (fun (q59 : (h53 236 8) ≠ 0) => ?_) (fun (q59 : ¬ ((h53 236 8) ≠ 0)) => by exfalso; omega)
        refine wi_iconst (n := 0) (nx := 12) (r1 := 0) (r2 := 0) (r3 := 0) rfl ?_
        refine wi_zreturn (nx := 13) (r1 := 0) (r2 := 0) (r3 := 0) rfl rfl (by omega) ?_
        refine wk_i ?_
        refine wi_if (cd := .ne) (nx := 56) (r1 := 57) (r2 := 0) (r3 := 0) rfl (by omega) (fun (q61 : 0 ≠ 0) => by exfalso; omega) (fun (q61 : ¬ (0 ≠ 0)) => ?_)
        refine wi_return (nx := 57) (r1 := 0) (r2 := 0) (r3 := 0) rfl rfl ?_
        have e62 : h53 236 4 = h22 236 4 := ((u53 236 4 rfl).trans (u34 236 4 rfl))
        have e63 : h53 239 5 = h 239 5 := ((u53 239 5 rfl).trans ((u34 239 5 rfl).trans (u22 239 5 rfl)))
        have e64 : h53 239 7 = h 239 7 := ((u53 239 7 rfl).trans ((u34 239 7 rfl).trans (u22 239 7 rfl)))
        have e65 : h53 239 15 = h 239 15 := ((u53 239 15 rfl).trans ((u34 239 15 rfl).trans (u22 239 15 rfl)))
        have e66 : h53 239 16 = h 239 16 := ((u53 239 16 rfl).trans ((u34 239 16 rfl).trans (u22 239 16 rfl)))
        have e67 : h53 239 17 = h 239 17 := ((u53 239 17 rfl).trans ((u34 239 17 rfl).trans (u22 239 17 rfl)))
        have e68 : h53 239 18 = h 239 18 := ((u53 239 18 rfl).trans ((u34 239 18 rfl).trans (u22 239 18 rfl)))
        exact k h53 g53 F54 (show (h 236 4) ≤ (h53 236 4) by omega) (show (h53 236 4) ≤ (h 236 3) by omega) (show 1 ≤ (h53 236 8) ∨ ((h53 239 5) ≤ 9 ∧ 1 ≤ (h53 239 5) ∧ (h53 239 7) ≤ 3 ∧ (h53 239 15) ≤ 6 ∧ (h53 239 16) ≤ 6 ∧ (h53 239 17) ≤ 6 ∧ (h53 239 18) ≤ 6) by omega) (show (h53 236 8) ≠ 0 ∨ (h53 236 9) = -1 by omega) (by (try clear p34_1 p53_1); unfold tk_car tk_wrd tk_num tk_bad; (try dsimp only); (repeat (first | rw [if_pos (by omega)] | rw [if_neg (by omega)])); (repeat ((first | unfold tk_wrd | unfold tk_num | unfold tk_bad); (try dsimp only); (repeat (first | rw [if_pos (by omega)] | rw [if_neg (by omega)])))); first | exact tk_ORe (by omega) (by omega) (by omega) | ((repeat' split) <;> (first | exact tk_ORe (by omega) (by omega) (by omega) | (exfalso; omega))))
    ·
      refine wi_aload_n (i := 0) (x := 236) (nx := 23) (r1 := 0) (r2 := 0) (r3 := 0) rfl rfl ?_
      refine wr_V (k0 := 236) (rest := []) (as := [.ref 236]) (nx := 26) (r1 := 227) (r2 := 0) (r3 := 11) rfl rfl rfl (of_decide_eq_true rfl) rfl rfl (by decide) rfl rfl (of_decide_eq_true rfl) (of_decide_eq_true rfl) ?_
      have e42 : h34 236 12 = h22 236 12 := (u34 236 12 rfl)
      have rb44 := RefB.fr u34 rfl rb36
      have cr45 := CVr.fr u22 rfl xq1
      have cr46 := CVr.fr u34 rfl cr45
      refine ct_227_236 hcr  g34   (show 0 ≤ (tk_nx tB tn tp) by omega) (show (tk_nx tB tn tp) ≤ tn by omega) (show (tk_nx tB tn tp) ≤ tk_nx tB tn (tk_nx tB tn tp) ∧ tk_nx tB tn (tk_nx tB tn tp) ≤ tn by omega) (show tk_kd tB tn (tk_nx tB tn tp) = 1 → (h34 236 12) = tk_sw tB tn (tk_nx tB tn tp) by intro e; have kq := TKk.w (B := tB) (n := tn) (p := (tk_nx tB tn tp)) (by assumption) e; omega) rb44 cr46 (fun z43  (fz43 : 0 ≤ z43 ∧ z43 ≤ 5) (p41_0 : z43 ≤ (h34 239 0)) y41_0 => ?_)
      have e47 : h34 239 0 = h 239 0 := ((u34 239 0 rfl).trans (u22 239 0 rfl))
      refine wk_i ?_
      have nd48 : tk_kd tB tn (tk_nx tB tn tp) = 1 → z43 = tk_fi tS (tk_lw tB tn (tk_nx tB tn tp)) := y41_0
      refine wi_istore_n (i := 2) (e := z43) (lo2 := [(2, vi z43), (1, vi (h 239 2)), (0, .ref 236)]) (nx := 27) (r1 := 0) (r2 := 0) (r3 := 0) rfl rfl ?_
      refine wi_aload_n (i := 0) (x := 236) (nx := 28) (r1 := 0) (r2 := 0) (r3 := 0) rfl rfl ?_
      refine wr_V (k0 := 236) (rest := []) (as := [.ref 236]) (nx := 31) (r1 := 219) (r2 := 0) (r3 := 11) rfl rfl rfl (of_decide_eq_true rfl) rfl rfl (by decide) rfl rfl (of_decide_eq_true rfl) (of_decide_eq_true rfl) ?_
      refine wi_aload_n (i := 0) (x := 236) (nx := 1) (r1 := 0) (r2 := 0) (r3 := 0) rfl rfl ?_
      refine wr_gi0 (k0 := 236) (x := h34 236 8) (nx := 4) (r1 := 11) (r2 := 8) (r3 := 0) rfl rfl (by decide) rfl ⟨rfl, rfl⟩ rfl rfl ?_
      refine wi_if (cd := .ne) (nx := 7) (r1 := 11) (r2 := 0) (r3 := 0) rfl (by omega) (fun (q49 : (h34 236 8) ≠ 0) => ?_) (fun (q49 : ¬ ((h34 236 8) ≠ 0)) => by exfalso; omega)
      refine wi_iconst (n := 0) (nx := 12) (r1 := 0) (r2 := 0) (r3 := 0) rfl ?_
      refine wi_zreturn (nx := 13) (r1 := 0) (r2 := 0) (r3 := 0) rfl rfl (by omega) ?_
      refine wk_i ?_
      refine wi_if (cd := .eq) (nx := 34) (r1 := 49) (r2 := 0) (r3 := 0) rfl (by omega) (fun (q51 : 0 = 0) => ?_) (fun (q51 : ¬ (0 = 0)) => by exfalso; omega)
      refine wi_aload_n (i := 0) (x := 236) (nx := 50) (r1 := 0) (r2 := 0) (r3 := 0) rfl rfl ?_
      refine wr_V (k0 := 236) (rest := []) (as := [.ref 236]) (nx := 53) (r1 := 219) (r2 := 0) (r3 := 11) rfl rfl rfl (of_decide_eq_true rfl) rfl rfl (by decide) rfl rfl (of_decide_eq_true rfl) (of_decide_eq_true rfl) ?_
      refine wi_aload_n (i := 0) (x := 236) (nx := 1) (r1 := 0) (r2 := 0) (r3 := 0) rfl rfl ?_
      refine wr_gi0 (k0 := 236) (x := h34 236 8) (nx := 4) (r1 := 11) (r2 := 8) (r3 := 0) rfl rfl (by decide) rfl ⟨rfl, rfl⟩ rfl rfl ?_
      refine wi_if (cd := .ne) (nx := 7) (r1 := 11) (r2 := 0) (r3 := 0) rfl (by omega) (fun (q52 : (h34 236 8) ≠ 0) => ?_) (fun (q52 : ¬ ((h34 236 8) ≠ 0)) => by exfalso; omega)
      refine wi_iconst (n := 0) (nx := 12) (r1 := 0) (r2 := 0) (r3 := 0) rfl ?_
      refine wi_zreturn (nx := 13) (r1 := 0) (r2 := 0) (r3 := 0) rfl rfl (by omega) ?_
      refine wk_i ?_
      refine wi_if (cd := .ne) (nx := 56) (r1 := 57) (r2 := 0) (r3 := 0) rfl (by omega) (fun (q54 : 0 ≠ 0) => by exfalso; omega) (fun (q54 : ¬ (0 ≠ 0)) => ?_)
      refine wi_return (nx := 57) (r1 := 0) (r2 := 0) (r3 := 0) rfl rfl ?_
      have e55 : h34 236 4 = h22 236 4 := (u34 236 4 rfl)
      have e56 : h34 239 5 = h 239 5 := ((u34 239 5 rfl).trans (u22 239 5 rfl))
      have e57 : h34 239 7 = h 239 7 := ((u34 239 7 rfl).trans (u22 239 7 rfl))
      have e58 : h34 239 15 = h 239 15 := ((u34 239 15 rfl).trans (u22 239 15 rfl))
      have e59 : h34 239 16 = h 239 16 := ((u34 239 16 rfl).trans (u22 239 16 rfl))
      have e60 : h34 239 17 = h 239 17 := ((u34 239 17 rfl).trans (u22 239 17 rfl))
      have e61 : h34 239 18 = h 239 18 := ((u34 239 18 rfl).trans (u22 239 18 rfl))
      exact k h34 g34 F37 (show (h 236 4) ≤ (h34 236 4) by omega) (show (h34 236 4) ≤ (h 236 3) by omega) (show 1 ≤ (h34 236 8) ∨ ((h34 239 5) ≤ 9 ∧ 1 ≤ (h34 239 5) ∧ (h34 239 7) ≤ 3 ∧ (h34 239 15) ≤ 6 ∧ (h34 239 16) ≤ 6 ∧ (h34 239 17) ≤ 6 ∧ (h34 239 18) ≤ 6) by omega) (show (h34 236 8) ≠ 0 ∨ (h34 236 9) = -1 by omega) (by (try clear p34_1); unfold tk_car tk_wrd tk_num tk_bad; (try dsimp only); (repeat (first | rw [if_pos (by omega)] | rw [if_neg (by omega)])); (repeat ((first | unfold tk_wrd | unfold tk_num | unfold tk_bad); (try dsimp only); (repeat (first | rw [if_pos (by omega)] | rw [if_neg (by omega)])))); first | exact tk_ORe (by omega) (by omega) (by omega) | ((repeat' split) <;> (first | exact tk_ORe (by omega) (by omega) (by omega) | (exfalso; omega))))
  ·
    refine wi_aload_n (i := 0) (x := 236) (nx := 11) (r1 := 0) (r2 := 0) (r3 := 0) rfl rfl ?_
    refine wi_iconst (n := 5) (nx := 12) (r1 := 0) (r2 := 0) (r3 := 0) rfl ?_
    refine wr_V (k0 := 236) (rest := []) (as := [.ref 236, vi 5]) (nx := 15) (r1 := 224) (r2 := 1) (r3 := 11) rfl rfl rfl (of_decide_eq_true rfl) rfl rfl (by decide) rfl rfl (of_decide_eq_true rfl) (of_decide_eq_true rfl) ?_
    refine ct_224_236 hcr  g 5 (by omega)  (fun h19 g19 u19 (p19_0 : 1 ≤ (h19 236 8)) (p19_1 : (1 ≤ (h 236 8) ∧ (h19 236 8) = (h 236 8) ∧ (h19 236 9) = (h 236 9)) ∨ ((h 236 8) = 0 ∧ (h19 236 9) = (h 236 5) ∧ (((h 236 6) = 4 ∧ (h19 236 8) = 1) ∨ ((h 236 6) ≠ 4 ∧ (h19 236 8) = 5)))) => ?_)
    have F20 := F0.then (by decide +kernel) u19
    have b21 := gi_b (lo := 0) (hi := 5) g19 236 8 rfl
    have b22 := gi_b (lo := -2147483648) (hi := 2147483647) g19 236 9 rfl
    refine wk_n ?_
    refine wi_aload_n (i := 0) (x := 236) (nx := 16) (r1 := 0) (r2 := 0) (r3 := 0) rfl rfl ?_
    refine wr_V (k0 := 236) (rest := []) (as := [.ref 236]) (nx := 19) (r1 := 219) (r2 := 0) (r3 := 11) rfl rfl rfl (of_decide_eq_true rfl) rfl rfl (by decide) rfl rfl (of_decide_eq_true rfl) (of_decide_eq_true rfl) ?_
    refine wi_aload_n (i := 0) (x := 236) (nx := 1) (r1 := 0) (r2 := 0) (r3 := 0) rfl rfl ?_
    refine wr_gi0 (k0 := 236) (x := h19 236 8) (nx := 4) (r1 := 11) (r2 := 8) (r3 := 0) rfl rfl (by decide) rfl ⟨rfl, rfl⟩ rfl rfl ?_
    refine wi_if (cd := .ne) (nx := 7) (r1 := 11) (r2 := 0) (r3 := 0) rfl (by omega) (fun (q23 : (h19 236 8) ≠ 0) => ?_) (fun (q23 : ¬ ((h19 236 8) ≠ 0)) => by exfalso; omega)
    refine wi_iconst (n := 0) (nx := 12) (r1 := 0) (r2 := 0) (r3 := 0) rfl ?_
    refine wi_zreturn (nx := 13) (r1 := 0) (r2 := 0) (r3 := 0) rfl rfl (by omega) ?_
    refine wk_i ?_
    refine wi_if (cd := .eq) (nx := 22) (r1 := 26) (r2 := 0) (r3 := 0) rfl (by omega) (fun (q25 : 0 = 0) => ?_) (fun (q25 : ¬ (0 = 0)) => by exfalso; omega)
    refine wi_aload_n (i := 0) (x := 236) (nx := 27) (r1 := 0) (r2 := 0) (r3 := 0) rfl rfl ?_
    refine wr_V (k0 := 236) (rest := []) (as := [.ref 236]) (nx := 30) (r1 := 219) (r2 := 0) (r3 := 11) rfl rfl rfl (of_decide_eq_true rfl) rfl rfl (by decide) rfl rfl (of_decide_eq_true rfl) (of_decide_eq_true rfl) ?_
    refine wi_aload_n (i := 0) (x := 236) (nx := 1) (r1 := 0) (r2 := 0) (r3 := 0) rfl rfl ?_
    refine wr_gi0 (k0 := 236) (x := h19 236 8) (nx := 4) (r1 := 11) (r2 := 8) (r3 := 0) rfl rfl (by decide) rfl ⟨rfl, rfl⟩ rfl rfl ?_
    refine wi_if (cd := .ne) (nx := 7) (r1 := 11) (r2 := 0) (r3 := 0) rfl (by omega) (fun (q26 : (h19 236 8) ≠ 0) => ?_) (fun (q26 : ¬ ((h19 236 8) ≠ 0)) => by exfalso; omega)
    refine wi_iconst (n := 0) (nx := 12) (r1 := 0) (r2 := 0) (r3 := 0) rfl ?_
    refine wi_zreturn (nx := 13) (r1 := 0) (r2 := 0) (r3 := 0) rfl rfl (by omega) ?_
    refine wk_i ?_
    refine wi_zreturn (nx := 31) (r1 := 0) (r2 := 0) (r3 := 0) rfl rfl (by omega) ?_
    refine wk_i ?_
    refine wi_if (cd := .ne) (nx := 17) (r1 := 18) (r2 := 0) (r3 := 0) rfl (by omega) (fun (q28 : 0 ≠ 0) => by exfalso; omega) (fun (q28 : ¬ (0 ≠ 0)) => ?_)
    refine wi_return (nx := 18) (r1 := 0) (r2 := 0) (r3 := 0) rfl rfl ?_
    have e29 : h19 236 4 = h 236 4 := (u19 236 4 rfl)
    have e30 : h19 239 5 = h 239 5 := (u19 239 5 rfl)
    have e31 : h19 239 7 = h 239 7 := (u19 239 7 rfl)
    have e32 : h19 239 15 = h 239 15 := (u19 239 15 rfl)
    have e33 : h19 239 16 = h 239 16 := (u19 239 16 rfl)
    have e34 : h19 239 17 = h 239 17 := (u19 239 17 rfl)
    have e35 : h19 239 18 = h 239 18 := (u19 239 18 rfl)
    exact k h19 g19 F20 (show (h 236 4) ≤ (h19 236 4) by omega) (show (h19 236 4) ≤ (h 236 3) by omega) (show 1 ≤ (h19 236 8) ∨ ((h19 239 5) ≤ 9 ∧ 1 ≤ (h19 239 5) ∧ (h19 239 7) ≤ 3 ∧ (h19 239 15) ≤ 6 ∧ (h19 239 16) ≤ 6 ∧ (h19 239 17) ≤ 6 ∧ (h19 239 18) ≤ 6) by omega) (show (h19 236 8) ≠ 0 ∨ (h19 236 9) = -1 by omega) (by (try clear p19_1); unfold tk_car tk_wrd tk_num tk_bad; (try dsimp only); (repeat (first | rw [if_pos (by omega)] | rw [if_neg (by omega)])); (repeat ((first | unfold tk_wrd | unfold tk_num | unfold tk_bad); (try dsimp only); (repeat (first | rw [if_pos (by omega)] | rw [if_neg (by omega)])))); first | exact tk_ORe (by omega) (by omega) (by omega) | ((repeat' split) <;> (first | exact tk_ORe (by omega) (by omega) (by omega) | (exfalso; omega))))
-- method 232: Model.readsLane()V
set_option maxRecDepth 100000 in
set_option maxHeartbeats 100000000 in
theorem ct_232_236 {L : Nat} {xs : Nat → Int32} {d b c : Nat} {h : hp} {cr : Nat → Nat → Option Nat} {Q : hp_Q} (hcr : CR cr)  {tB : Nat → Int} {tn tp : Int} {tS : tk_S} (g : GI h)   (pp0 : h 236 4 ≤ h 236 3) (pp1 : 0 ≤ tp) (pp2 : tp ≤ tn) (pp3 : tp ≤ tk_nx tB tn tp ∧ tk_nx tB tn tp ≤ tn) (pp4 : h 236 8 = 0) (pp5 : h 239 5 ≤ 9) (pp6 : 1 ≤ h 239 5) (pp7 : h 239 7 ≤ 3) (pp8 : h 239 15 ≤ 6) (pp9 : h 239 16 ≤ 6) (pp10 : h 239 17 ≤ 6) (pp11 : h 239 18 ≤ 6) (pp12 : (h 236 4 = tk_nx tB tn tp ∧ h 236 5 = tk_st tB tn tp ∧ TKk tB tn tp (h 236 6) (h 236 7) (h 236 12))) (pp13 : tS 0 ≤ 5 ∧ tS 1 ≤ 4 ∧ tS 2 ≤ 12) (pp14 : h 236 9 = -1) (pp15 : tk_kd tB tn tp = 1) (xq0 : RefB tB tn h) (xq1 : CVr tS h) (k : ∀ (h2 : hp) , GI h2 → FR [(236, 236, some (4, 4)), (236, 236, some (5, 5)), (236, 236, some (6, 6)), (236, 236, some (7, 7)), (236, 236, some (8, 8)), (236, 236, some (9, 9)), (236, 236, some (12, 12)), (239, 239, some (1, 1)), (239, 239, some (15, 15)), (239, 239, some (16, 16)), (239, 239, some (17, 17)), (239, 239, some (18, 18))] h h2 → (h 236 4 ≤ h2 236 4) → (h2 236 4 ≤ h 236 3) → (1 ≤ h2 236 8 ∨ (h2 239 5 ≤ 9 ∧ 1 ≤ h2 239 5 ∧ h2 239 7 ≤ 3 ∧ h2 239 15 ≤ 6 ∧ h2 239 16 ≤ 6 ∧ h2 239 17 ≤ 6 ∧ h2 239 18 ≤ 6)) → (h2 236 8 ≠ 0 ∨ h2 236 9 = -1) → (tk_OR tB tn (tk_lane tB tn tp tS) h2) → Q (.inl none) (hp_w h2 cr) b c) : wp (md_xa (L, xs)) (d + 3) 232 (0, [(0, .ref 236)], [], hp_w h cr, b, c) Q := by
  have F0 : FR [(236, 236, some (4, 4)), (236, 236, some (5, 5)), (236, 236, some (6, 6)), (236, 236, some (7, 7)), (236, 236, some (8, 8)), (236, 236, some (9, 9)), (236, 236, some (12, 12)), (239, 239, some (1, 1)), (239, 239, some (15, 15)), (239, 239, some (16, 16)), (239, 239, some (17, 17)), (239, 239, some (18, 18))] h h := FR.refl
  have tb_1 : h 236 3 = tn := xq0.2.1
  have tb_2 : 0 ≤ tn ∧ tn ≤ 800 := xq0.2.2
  obtain ⟨⟨rv_0, rv_1, rv_2, rv_3, rv_4, rv_5, rv_6, rv_7, rv_8, rv_9⟩, ⟨rf_0, rf_1, rf_2, rf_3⟩, -⟩ := id xq1
  have b1 := gi_b (lo := 0) (hi := 5) g 239 0 rfl
  have b2 := gi_b (lo := 0) (hi := 4) g 239 1 rfl
  have b3 := gi_b (lo := 0) (hi := 12) g 239 2 rfl
  have tkk0_ := pp12.2.2
  have b4 := gi_b (lo := 0) (hi := 800) g 236 4 rfl
  have b5 := gi_b (lo := 0) (hi := 800) g 236 3 rfl
  have b6 := gi_b (lo := 0) (hi := 5) g 236 8 rfl
  have b7 := gi_b (lo := 0) (hi := 999) g 239 5 rfl
  have b8 := gi_b (lo := 0) (hi := 999) g 239 7 rfl
  have b9 := gi_b (lo := 0) (hi := 999) g 239 15 rfl
  have b10 := gi_b (lo := 0) (hi := 999) g 239 16 rfl
  have b11 := gi_b (lo := 0) (hi := 999) g 239 17 rfl
  have b12 := gi_b (lo := 0) (hi := 999) g 239 18 rfl
  have b13 := gi_b (lo := 0) (hi := 800) g 236 5 rfl
  have b14 := gi_b (lo := 0) (hi := 4) g 236 6 rfl
  have b15 := gi_b (lo := 0) (hi := 999) g 236 7 rfl
  have b16 := gi_b (lo := -9223372036854775808) (hi := 9223372036854775807) g 236 12 rfl
  have b17 := gi_b (lo := -2147483648) (hi := 2147483647) g 236 9 rfl
  refine wi_aload_n (i := 0) (x := 236) (nx := 1) (r1 := 0) (r2 := 0) (r3 := 0) rfl rfl ?_
  refine wr_gr (k0 := 236) (x := 239) (nx := 4) (r1 := 11) (r2 := 14) (r3 := 0) rfl rfl (by decide) rfl ⟨rfl, rfl⟩ rfl ?_
  refine wi_iconst (n := 1) (nx := 5) (r1 := 0) (r2 := 0) (r3 := 0) rfl ?_
  rcases (show (h 239 1) = 0 ∨ (h 239 1) = 1 ∨ (h 239 1) = 2 ∨ (h 239 1) = 3 ∨ (h 239 1) = 4 by omega) with q18 | q18 | q18 | q18 | q18
  ·
    refine wr_ia (k0 := 239) (a := 1) (f := 1) (x := 0) (nx := 6) (r1 := 0) (r2 := 0) (r3 := 0) rfl (by decide) rfl (by omega) (by omega) (by decide) q18 ?_
    refine wi_istore_n (i := 1) (e := 0) (lo2 := [(1, vi 0), (0, .ref 236)]) (nx := 7) (r1 := 0) (r2 := 0) (r3 := 0) rfl rfl ?_
    refine wi_aload_n (i := 0) (x := 236) (nx := 8) (r1 := 0) (r2 := 0) (r3 := 0) rfl rfl ?_
    refine wi_iconst (n := 1) (nx := 9) (r1 := 0) (r2 := 0) (r3 := 0) rfl ?_
    refine wi_iconst (n := 4) (nx := 10) (r1 := 0) (r2 := 0) (r3 := 0) rfl ?_
    refine wr_V (k0 := 236) (rest := []) (as := [.ref 236, vi 1, vi 4]) (nx := 13) (r1 := 223) (r2 := 2) (r3 := 11) rfl rfl rfl (of_decide_eq_true rfl) rfl rfl (by decide) rfl rfl (of_decide_eq_true rfl) (of_decide_eq_true rfl) ?_
    refine wi_aload_n (i := 0) (x := 236) (nx := 1) (r1 := 0) (r2 := 0) (r3 := 0) rfl rfl ?_
    refine wr_gr (k0 := 236) (x := 239) (nx := 4) (r1 := 11) (r2 := 14) (r3 := 0) rfl rfl (by decide) rfl ⟨rfl, rfl⟩ rfl ?_
    refine wi_iload_n (i := 1) (e := 1) (nx := 5) (r1 := 0) (r2 := 0) (r3 := 0) rfl rfl ?_
    refine wr_ia (k0 := 239) (a := 1) (f := 1) (x := 0) (nx := 6) (r1 := 0) (r2 := 0) (r3 := 0) rfl (by decide) rfl (by omega) (by omega) (by decide) q18 ?_
    refine wi_iload_n (i := 2) (e := 4) (nx := 7) (r1 := 0) (r2 := 0) (r3 := 0) rfl rfl ?_
    refine wi_icmp (cd := .ne) (nx := 10) (r1 := 15) (r2 := 0) (r3 := 0) rfl (by omega) (by omega) (fun (q19 : 0 ≠ 4) => ?_) (fun (q19 : ¬ (0 ≠ 4)) => by exfalso; omega)
    refine wi_aload_n (i := 0) (x := 236) (nx := 16) (r1 := 0) (r2 := 0) (r3 := 0) rfl rfl ?_
    refine wr_V (k0 := 236) (rest := []) (as := [.ref 236]) (nx := 19) (r1 := 219) (r2 := 0) (r3 := 11) rfl rfl rfl (of_decide_eq_true rfl) rfl rfl (by decide) rfl rfl (of_decide_eq_true rfl) (of_decide_eq_true rfl) ?_
    refine wi_aload_n (i := 0) (x := 236) (nx := 1) (r1 := 0) (r2 := 0) (r3 := 0) rfl rfl ?_
    refine wr_gi0 (k0 := 236) (x := h 236 8) (nx := 4) (r1 := 11) (r2 := 8) (r3 := 0) rfl rfl (by decide) rfl ⟨rfl, rfl⟩ rfl rfl ?_
    refine wi_if (cd := .ne) (nx := 7) (r1 := 11) (r2 := 0) (r3 := 0) rfl (by omega) (fun (q20 : (h 236 8) ≠ 0) => by exfalso; omega) (fun (q20 : ¬ ((h 236 8) ≠ 0)) => ?_)
    refine wi_iconst (n := 1) (nx := 8) (r1 := 0) (r2 := 0) (r3 := 0) rfl ?_
    refine wi_goto (nx := 11) (r1 := 12) (r2 := 0) (r3 := 0) rfl ?_
    refine wi_zreturn (nx := 13) (r1 := 0) (r2 := 0) (r3 := 0) rfl rfl (by omega) ?_
    refine wk_i ?_
    refine wi_if (cd := .eq) (nx := 22) (r1 := 26) (r2 := 0) (r3 := 0) rfl (by omega) (fun (q22 : 1 = 0) => by exfalso; omega) (fun (q22 : ¬ (1 = 0)) => ?_)
    refine wi_aload_n (i := 0) (x := 236) (nx := 23) (r1 := 0) (r2 := 0) (r3 := 0) rfl rfl ?_
    refine wr_V (k0 := 236) (rest := []) (as := [.ref 236]) (nx := 26) (r1 := 215) (r2 := 0) (r3 := 11) rfl rfl rfl (of_decide_eq_true rfl) rfl rfl (by decide) rfl rfl (of_decide_eq_true rfl) (of_decide_eq_true rfl) ?_
    refine ct_215_236 hcr  g   (show (h 236 4) ≤ (h 236 3) by omega) (show (h 236 4) = (tk_nx tB tn tp) by omega) (show 0 ≤ (tk_nx tB tn tp) by omega) (show (tk_nx tB tn tp) ≤ tn by omega) xq0 (fun h23 g23 u23 (p23_0 : (h 236 4) ≤ (h23 236 4)) (p23_1 : (h23 236 4) ≤ (h 236 3)) (p23_2 : ((h23 236 4) = tk_nx tB tn (tk_nx tB tn tp) ∧ (h23 236 5) = tk_st tB tn (tk_nx tB tn tp) ∧ TKk tB tn (tk_nx tB tn tp) ((h23 236 6)) ((h23 236 7)) ((h23 236 12)))) (p23_3 : (tk_nx tB tn tp) ≤ tk_nx tB tn (tk_nx tB tn tp) ∧ tk_nx tB tn (tk_nx tB tn tp) ≤ tn) => ?_)
    have F24 := F0.then (by decide +kernel) u23
    have b25 := gi_b (lo := 0) (hi := 800) g23 236 4 rfl
    have b26 := gi_b (lo := 0) (hi := 800) g23 236 5 rfl
    have b27 := gi_b (lo := 0) (hi := 4) g23 236 6 rfl
    have b28 := gi_b (lo := 0) (hi := 999) g23 236 7 rfl
    have b29 := gi_b (lo := -9223372036854775808) (hi := 9223372036854775807) g23 236 12 rfl
    have tkk30 := p23_2.2.2
    have tN31 := @tk_nx_b tB tn (tk_nx tB tn tp) (by omega) (by omega)
    refine wk_n ?_
    refine wi_aload_n (i := 0) (x := 236) (nx := 27) (r1 := 0) (r2 := 0) (r3 := 0) rfl rfl ?_
    refine wr_V (k0 := 236) (rest := []) (as := [.ref 236]) (nx := 30) (r1 := 219) (r2 := 0) (r3 := 11) rfl rfl rfl (of_decide_eq_true rfl) rfl rfl (by decide) rfl rfl (of_decide_eq_true rfl) (of_decide_eq_true rfl) ?_
    refine wi_aload_n (i := 0) (x := 236) (nx := 1) (r1 := 0) (r2 := 0) (r3 := 0) rfl rfl ?_
    refine wr_gi0 (k0 := 236) (x := h 236 8) (nx := 4) (r1 := 11) (r2 := 8) (r3 := 0) rfl rfl (by decide) rfl ⟨rfl, rfl⟩ rfl (u23 236 8 rfl) ?_
    refine wi_if (cd := .ne) (nx := 7) (r1 := 11) (r2 := 0) (r3 := 0) rfl (by omega) (fun (q32 : (h 236 8) ≠ 0) => by exfalso; omega) (fun (q32 : ¬ ((h 236 8) ≠ 0)) => ?_)
    refine wi_iconst (n := 1) (nx := 8) (r1 := 0) (r2 := 0) (r3 := 0) rfl ?_
    refine wi_goto (nx := 11) (r1 := 12) (r2 := 0) (r3 := 0) rfl ?_
    refine wi_zreturn (nx := 13) (r1 := 0) (r2 := 0) (r3 := 0) rfl rfl (by omega) ?_
    refine wk_i ?_
    refine wi_zreturn (nx := 31) (r1 := 0) (r2 := 0) (r3 := 0) rfl rfl (by omega) ?_
    refine wk_i ?_
    refine wi_if (cd := .ne) (nx := 16) (r1 := 17) (r2 := 0) (r3 := 0) rfl (by omega) (fun (q34 : 1 ≠ 0) => ?_) (fun (q34 : ¬ (1 ≠ 0)) => by exfalso; omega)
    refine wi_aload_n (i := 0) (x := 236) (nx := 18) (r1 := 0) (r2 := 0) (r3 := 0) rfl rfl ?_
    refine wr_gr (k0 := 236) (x := 239) (nx := 21) (r1 := 11) (r2 := 14) (r3 := 0) rfl rfl (by decide) rfl ⟨rfl, rfl⟩ rfl ?_
    refine wi_bipush (n := 15) (nx := 23) (r1 := 0) (r2 := 0) (r3 := 0) rfl (by decide) ?_
    refine wi_iload_n (i := 1) (e := 0) (nx := 24) (r1 := 0) (r2 := 0) (r3 := 0) rfl rfl ?_
    refine wr_addL (15) (nx := 25) (r1 := 0) (r2 := 0) (r3 := 0) rfl (by decide) ?_
    refine wi_aload_n (i := 0) (x := 236) (nx := 26) (r1 := 0) (r2 := 0) (r3 := 0) rfl rfl ?_
    refine wi_iconst (n := 1) (nx := 27) (r1 := 0) (r2 := 0) (r3 := 0) rfl ?_
    refine wi_bipush (n := 6) (nx := 29) (r1 := 0) (r2 := 0) (r3 := 0) rfl (by decide) ?_
    refine wr_V (k0 := 236) (rest := [vi 15, .ref 239]) (as := [.ref 236, vi 1, vi 6]) (nx := 32) (r1 := 231) (r2 := 2) (r3 := 11) rfl rfl rfl (of_decide_eq_true rfl) rfl rfl (by decide) rfl rfl (of_decide_eq_true rfl) (of_decide_eq_true rfl) ?_
    have e36 : h23 236 3 = h 236 3 := (u23 236 3 rfl)
    have e37 : h23 236 8 = h 236 8 := (u23 236 8 rfl)
    have rb39 := RefB.fr u23 rfl xq0
    refine ct_231_236 hcr  g23 1 6 (by omega) (by omega) (show (h23 236 4) ≤ (h23 236 3) by omega) (show 0 ≤ (tk_nx tB tn tp) by omega) (show (tk_nx tB tn tp) ≤ tn by omega) (show (tk_nx tB tn tp) ≤ tk_nx tB tn (tk_nx tB tn tp) ∧ tk_nx tB tn (tk_nx tB tn tp) ≤ tn by omega) (show 1 ≤ (h23 236 8) ∨ ((h23 236 4) = tk_nx tB tn (tk_nx tB tn tp) ∧ (h23 236 5) = tk_st tB tn (tk_nx tB tn tp) ∧ TKk tB tn (tk_nx tB tn tp) ((h23 236 6)) ((h23 236 7)) ((h23 236 12))) from (Or.inr (show ((h23 236 4) = tk_nx tB tn (tk_nx tB tn tp) ∧ (h23 236 5) = tk_st tB tn (tk_nx tB tn tp) ∧ TKk tB tn (tk_nx tB tn tp) ((h23 236 6)) ((h23 236 7)) ((h23 236 12))) by first | assumption | exact ⟨by omega, by omega, TKk.mv (by assumption) (by omega) (by omega) (by omega)⟩))) rb39 (fun h35 z38 g35 u35 (fz38 : 0 ≤ z38 ∧ z38 ≤ 999) (p35_0 : (1 ≤ (h23 236 8) ∧ (h35 236 8) = (h23 236 8) ∧ (h35 236 9) = (h23 236 9)) ∨ ((h23 236 8) = 0 ∧ tk_kd tB tn (tk_nx tB tn tp) = 2 ∧ 1 ≤ tk_nb tB tn (tk_nx tB tn tp) ∧ tk_nb tB tn (tk_nx tB tn tp) ≤ 6 ∧ z38 = tk_nb tB tn (tk_nx tB tn tp) ∧ (h35 236 8) = (h23 236 8) ∧ (h35 236 9) = (h23 236 9) ∧ ((h35 236 4) = tk_nx tB tn (tk_nx tB tn (tk_nx tB tn tp)) ∧ (h35 236 5) = tk_st tB tn (tk_nx tB tn (tk_nx tB tn tp)) ∧ TKk tB tn (tk_nx tB tn (tk_nx tB tn tp)) ((h35 236 6)) ((h35 236 7)) ((h35 236 12)))) ∨ ((h23 236 8) = 0 ∧ tk_kd tB tn (tk_nx tB tn tp) ≠ 2 ∧ (h35 236 8) = 1 ∧ (h35 236 9) = tk_st tB tn (tk_nx tB tn tp)) ∨ ((h23 236 8) = 0 ∧ tk_kd tB tn (tk_nx tB tn tp) = 2 ∧ (tk_nb tB tn (tk_nx tB tn tp) < 1 ∨ 6 < tk_nb tB tn (tk_nx tB tn tp)) ∧ (h35 236 8) = 2 ∧ (h35 236 9) = tk_st tB tn (tk_nx tB tn tp))) (p35_1 : (h23 236 4) ≤ (h35 236 4)) (p35_2 : (h35 236 4) ≤ (h23 236 3)) (p35_3 : 1 ≤ (h35 236 8) ∨ (h23 236 8) = 0) (p35_4 : 1 ≤ (h35 236 8) ∨ (1 ≤ z38 ∧ z38 ≤ 6)) (p35_5 : 1 ≤ (h35 236 8) ∨ (h23 236 6) = 2) => ?_)
    have F40 := F24.then (by decide +kernel) u35
    have e41 : h23 236 9 = h 236 9 := (u23 236 9 rfl)
    have b42 := gi_b (lo := 0) (hi := 5) g35 236 8 rfl
    have b43 := gi_b (lo := -2147483648) (hi := 2147483647) g35 236 9 rfl
    have b44 := gi_b (lo := 0) (hi := 800) g35 236 4 rfl
    have b45 := gi_b (lo := 0) (hi := 800) g35 236 5 rfl
    have b46 := gi_b (lo := 0) (hi := 4) g35 236 6 rfl
    have b47 := gi_b (lo := 0) (hi := 999) g35 236 7 rfl
    have b48 := gi_b (lo := -9223372036854775808) (hi := 9223372036854775807) g35 236 12 rfl
    refine wk_i ?_
    rcases p35_0 with p35_0 | p35_0 | p35_0 | p35_0
    ·
      exfalso; omega
    ·
      have tkk49 := (p35_0.2.2.2.2.2.2.2).2.2
      have tN50 := @tk_nx_b tB tn (tk_nx tB tn (tk_nx tB tn tp)) (by omega) (by omega)
      refine wr_is (k0 := 239) (a := 15) (f := 15) (x := z38) (bl := 0) (bh := 999) (nx := 33) (r1 := 0) (r2 := 0) (r3 := 0) rfl (by decide) rfl (by omega) (by omega) (by decide) g35 rfl (by omega) (fun h51 g51 w51 u51 => ?_)
      have F52 := F40.then rfl u51
      refine wi_aload_n (i := 0) (x := 236) (nx := 34) (r1 := 0) (r2 := 0) (r3 := 0) rfl rfl ?_
      refine wr_V (k0 := 236) (rest := []) (as := [.ref 236]) (nx := 37) (r1 := 219) (r2 := 0) (r3 := 11) rfl rfl rfl (of_decide_eq_true rfl) rfl rfl (by decide) rfl rfl (of_decide_eq_true rfl) (of_decide_eq_true rfl) ?_
      refine wi_aload_n (i := 0) (x := 236) (nx := 1) (r1 := 0) (r2 := 0) (r3 := 0) rfl rfl ?_
      refine wr_gi0 (k0 := 236) (x := h35 236 8) (nx := 4) (r1 := 11) (r2 := 8) (r3 := 0) rfl rfl (by decide) rfl ⟨rfl, rfl⟩ rfl (u51 236 8 rfl) ?_
      refine wi_if (cd := .ne) (nx := 7) (r1 := 11) (r2 := 0) (r3 := 0) rfl (by omega) (fun (q53 : (h35 236 8) ≠ 0) => by exfalso; omega) (fun (q53 : ¬ ((h35 236 8) ≠ 0)) => ?_)
      refine wi_iconst (n := 1) (nx := 8) (r1 := 0) (r2 := 0) (r3 := 0) rfl ?_
      refine wi_goto (nx := 11) (r1 := 12) (r2 := 0) (r3 := 0) rfl ?_
      refine wi_zreturn (nx := 13) (r1 := 0) (r2 := 0) (r3 := 0) rfl rfl (by omega) ?_
      refine wk_i ?_
      refine wi_if (cd := .eq) (nx := 40) (r1 := 50) (r2 := 0) (r3 := 0) rfl (by omega) (fun (q55 : 1 = 0) => by exfalso; omega) (fun (q55 : ¬ (1 = 0)) => ?_)
      refine wi_aload_n (i := 0) (x := 236) (nx := 41) (r1 := 0) (r2 := 0) (r3 := 0) rfl rfl ?_
      refine wr_gr (k0 := 236) (x := 239) (nx := 44) (r1 := 11) (r2 := 14) (r3 := 0) rfl rfl (by decide) rfl ⟨rfl, rfl⟩ rfl ?_
      refine wi_iconst (n := 1) (nx := 45) (r1 := 0) (r2 := 0) (r3 := 0) rfl ?_
      refine wi_dup2 (nx := 46) (r1 := 0) (r2 := 0) (r3 := 0) rfl rfl rfl ?_
      refine wr_ia (k0 := 239) (a := 1) (f := 1) (x := 0) (nx := 47) (r1 := 0) (r2 := 0) (r3 := 0) rfl (by decide) rfl (by omega) (by omega) (by decide) ((u51 239 1 rfl).trans ((u35 239 1 rfl).trans ((u23 239 1 rfl).trans q18))) ?_
      refine wi_iconst (n := 1) (nx := 48) (r1 := 0) (r2 := 0) (r3 := 0) rfl ?_
      refine wr_addL (1) (nx := 49) (r1 := 0) (r2 := 0) (r3 := 0) rfl (by decide) ?_
      refine wr_is (k0 := 239) (a := 1) (f := 1) (x := 1) (bl := 0) (bh := 4) (nx := 50) (r1 := 0) (r2 := 0) (r3 := 0) rfl (by decide) rfl (by omega) (by omega) (by decide) g51 rfl (by omega) (fun h56 g56 w56 u56 => ?_)
      have F57 := F52.then rfl u56
      refine wi_return (nx := 51) (r1 := 0) (r2 := 0) (r3 := 0) rfl rfl ?_
      have e58 : h56 236 4 = h35 236 4 := ((u56 236 4 rfl).trans (u51 236 4 rfl))
      have e59 : h56 236 8 = h35 236 8 := ((u56 236 8 rfl).trans (u51 236 8 rfl))
      have e60 : h56 239 5 = h 239 5 := ((u56 239 5 rfl).trans ((u51 239 5 rfl).trans ((u35 239 5 rfl).trans (u23 239 5 rfl))))
      have e61 : h56 239 7 = h 239 7 := ((u56 239 7 rfl).trans ((u51 239 7 rfl).trans ((u35 239 7 rfl).trans (u23 239 7 rfl))))
      have e62 : h56 239 15 = z38 := ((u56 239 15 rfl).trans w51)
      have e63 : h56 239 16 = h 239 16 := ((u56 239 16 rfl).trans ((u51 239 16 rfl).trans ((u35 239 16 rfl).trans (u23 239 16 rfl))))
      have e64 : h56 239 17 = h 239 17 := ((u56 239 17 rfl).trans ((u51 239 17 rfl).trans ((u35 239 17 rfl).trans (u23 239 17 rfl))))
      have e65 : h56 239 18 = h 239 18 := ((u56 239 18 rfl).trans ((u51 239 18 rfl).trans ((u35 239 18 rfl).trans (u23 239 18 rfl))))
      have e66 : h56 236 9 = h35 236 9 := ((u56 236 9 rfl).trans (u51 236 9 rfl))
      have e67 : h56 239 0 = h 239 0 := ((u56 239 0 rfl).trans ((u51 239 0 rfl).trans ((u35 239 0 rfl).trans (u23 239 0 rfl))))
      have e68 : h56 239 1 = 1 := w56
      have e69 : h56 239 2 = h 239 2 := ((u56 239 2 rfl).trans ((u51 239 2 rfl).trans ((u35 239 2 rfl).trans (u23 239 2 rfl))))
      have b70 := gi_b (lo := 0) (hi := 999) g 239 3 rfl
      have e71 : h56 239 3 = h 239 3 := ((u56 239 3 rfl).trans ((u51 239 3 rfl).trans ((u35 239 3 rfl).trans (u23 239 3 rfl))))
      have b72 := gi_b (lo := 0) (hi := 999) g 239 4 rfl
      have e73 : h56 239 4 = h 239 4 := ((u56 239 4 rfl).trans ((u51 239 4 rfl).trans ((u35 239 4 rfl).trans (u23 239 4 rfl))))
      have b74 := gi_b (lo := 0) (hi := 999) g 239 6 rfl
      have e75 : h56 239 6 = h 239 6 := ((u56 239 6 rfl).trans ((u51 239 6 rfl).trans ((u35 239 6 rfl).trans (u23 239 6 rfl))))
      have b76 := gi_b (lo := 0) (hi := 999) g 239 8 rfl
      have e77 : h56 239 8 = h 239 8 := ((u56 239 8 rfl).trans ((u51 239 8 rfl).trans ((u35 239 8 rfl).trans (u23 239 8 rfl))))
      have b78 := gi_b (lo := 0) (hi := 999) g 239 9 rfl
      have e79 : h56 239 9 = h 239 9 := ((u56 239 9 rfl).trans ((u51 239 9 rfl).trans ((u35 239 9 rfl).trans (u23 239 9 rfl))))
      have b80 := gi_b (lo := 0) (hi := 1) g 236 23 rfl
      have e81 : h56 236 23 = h 236 23 := ((u56 236 23 rfl).trans ((u51 236 23 rfl).trans ((u35 236 23 rfl).trans (u23 236 23 rfl))))
      have b82 := gi_b (lo := 0) (hi := 1) g 236 24 rfl
      have e83 : h56 236 24 = h 236 24 := ((u56 236 24 rfl).trans ((u51 236 24 rfl).trans ((u35 236 24 rfl).trans (u23 236 24 rfl))))
      have b84 := gi_b (lo := 0) (hi := 1) g 236 25 rfl
      have e85 : h56 236 25 = h 236 25 := ((u56 236 25 rfl).trans ((u51 236 25 rfl).trans ((u35 236 25 rfl).trans (u23 236 25 rfl))))
      have b86 := gi_b (lo := 0) (hi := 1) g 236 26 rfl
      have e87 : h56 236 26 = h 236 26 := ((u56 236 26 rfl).trans ((u51 236 26 rfl).trans ((u35 236 26 rfl).trans (u23 236 26 rfl))))
      have e88 : h56 236 5 = h35 236 5 := ((u56 236 5 rfl).trans (u51 236 5 rfl))
      have e89 : h56 236 6 = h35 236 6 := ((u56 236 6 rfl).trans (u51 236 6 rfl))
      have e90 : h56 236 7 = h35 236 7 := ((u56 236 7 rfl).trans (u51 236 7 rfl))
      have e91 : h56 236 12 = h35 236 12 := ((u56 236 12 rfl).trans (u51 236 12 rfl))
      exact k h56 g56 F57 (show (h 236 4) ≤ (h56 236 4) by omega) (show (h56 236 4) ≤ (h 236 3) by omega) (show 1 ≤ (h56 236 8) ∨ ((h56 239 5) ≤ 9 ∧ 1 ≤ (h56 239 5) ∧ (h56 239 7) ≤ 3 ∧ (h56 239 15) ≤ 6 ∧ (h56 239 16) ≤ 6 ∧ (h56 239 17) ≤ 6 ∧ (h56 239 18) ≤ 6) by omega) (show (h56 236 8) ≠ 0 ∨ (h56 236 9) = -1 by omega) (by (try clear p35_3 p35_4 p35_5); unfold tk_lane tk_num; (try dsimp only); (repeat (first | rw [if_pos (by omega)] | rw [if_neg (by omega)])); (repeat ((first | unfold tk_num); (try dsimp only); (repeat (first | rw [if_pos (by omega)] | rw [if_neg (by omega)])))); exact tk_ORs (by omega) (by first | assumption | exact ⟨by omega, by omega, TKk.mv (by assumption) (by omega) (by omega) (by omega)⟩) (CVr.lane (c := (h 239 1).toNat) xq1 (by omega) (by omega) (fun i _ _ => ((u56 239 i (fn_i (by omega) fn_0)).trans ((u51 239 i (fn_i (by omega) fn_0)).trans ((u35 239 i (fo_nk rfl)).trans (u23 239 i (fo_nk rfl)))))) (fun i _ _ => ((u56 236 i (fn_a (by omega) fn_0)).trans ((u51 236 i (fn_a (by omega) fn_0)).trans ((u35 236 i (fo_gk (m := 12) (by omega) rfl)).trans (u23 236 i (fo_gk (m := 12) (by omega) rfl)))))) (by rw [show 15 + (h 239 1).toNat = 15 by omega]; exact ((u56 239 15 rfl).trans w51).trans (by omega)) (fun i => ((u56 244 i (fn_a (by omega) fn_0)).trans ((u51 244 i (fn_a (by omega) fn_0)).trans ((u35 244 i (fo_nk rfl)).trans (u23 244 i (fo_nk rfl)))))) (by omega) (by omega) (by omega)))
    ·
      refine wr_is (k0 := 239) (a := 15) (f := 15) (x := z38) (bl := 0) (bh := 999) (nx := 33) (r1 := 0) (r2 := 0) (r3 := 0) rfl (by decide) rfl (by omega) (by omega) (by decide) g35 rfl (by omega) (fun h49 g49 w49 u49 => ?_)
      have F50 := F40.then rfl u49
      refine wi_aload_n (i := 0) (x := 236) (nx := 34) (r1 := 0) (r2 := 0) (r3 := 0) rfl rfl ?_
      refine wr_V (k0 := 236) (rest := []) (as := [.ref 236]) (nx := 37) (r1 := 219) (r2 := 0) (r3 := 11) rfl rfl rfl (of_decide_eq_true rfl) rfl rfl (by decide) rfl rfl (of_decide_eq_true rfl) (of_decide_eq_true rfl) ?_
      refine wi_aload_n (i := 0) (x := 236) (nx := 1) (r1 := 0) (r2 := 0) (r3 := 0) rfl rfl ?_
      refine wr_gi0 (k0 := 236) (x := h35 236 8) (nx := 4) (r1 := 11) (r2 := 8) (r3 := 0) rfl rfl (by decide) rfl ⟨rfl, rfl⟩ rfl (u49 236 8 rfl) ?_
      refine wi_if (cd := .ne) (nx := 7) (r1 := 11) (r2 := 0) (r3 := 0) rfl (by omega) (fun (q51 : (h35 236 8) ≠ 0) => ?_) (fun (q51 : ¬ ((h35 236 8) ≠ 0)) => by exfalso; omega)
      refine wi_iconst (n := 0) (nx := 12) (r1 := 0) (r2 := 0) (r3 := 0) rfl ?_
      refine wi_zreturn (nx := 13) (r1 := 0) (r2 := 0) (r3 := 0) rfl rfl (by omega) ?_
      refine wk_i ?_
      refine wi_if (cd := .eq) (nx := 40) (r1 := 50) (r2 := 0) (r3 := 0) rfl (by omega) (fun (q53 : 0 = 0) => ?_) (fun (q53 : ¬ (0 = 0)) => by exfalso; omega)
      refine wi_return (nx := 51) (r1 := 0) (r2 := 0) (r3 := 0) rfl rfl ?_
      have e54 : h49 236 4 = h35 236 4 := (u49 236 4 rfl)
      have e55 : h49 236 8 = h35 236 8 := (u49 236 8 rfl)
      have e56 : h49 239 5 = h 239 5 := ((u49 239 5 rfl).trans ((u35 239 5 rfl).trans (u23 239 5 rfl)))
      have e57 : h49 239 7 = h 239 7 := ((u49 239 7 rfl).trans ((u35 239 7 rfl).trans (u23 239 7 rfl)))
      have e58 : h49 239 15 = z38 := w49
      have e59 : h49 239 16 = h 239 16 := ((u49 239 16 rfl).trans ((u35 239 16 rfl).trans (u23 239 16 rfl)))
      have e60 : h49 239 17 = h 239 17 := ((u49 239 17 rfl).trans ((u35 239 17 rfl).trans (u23 239 17 rfl)))
      have e61 : h49 239 18 = h 239 18 := ((u49 239 18 rfl).trans ((u35 239 18 rfl).trans (u23 239 18 rfl)))
      have e62 : h49 236 9 = h35 236 9 := (u49 236 9 rfl)
      exact k h49 g49 F50 (show (h 236 4) ≤ (h49 236 4) by omega) (show (h49 236 4) ≤ (h 236 3) by omega) (show 1 ≤ (h49 236 8) ∨ ((h49 239 5) ≤ 9 ∧ 1 ≤ (h49 239 5) ∧ (h49 239 7) ≤ 3 ∧ (h49 239 15) ≤ 6 ∧ (h49 239 16) ≤ 6 ∧ (h49 239 17) ≤ 6 ∧ (h49 239 18) ≤ 6) by omega) (show (h49 236 8) ≠ 0 ∨ (h49 236 9) = -1 by omega) (by (try clear p35_3 p35_4 p35_5); unfold tk_lane tk_num; (try dsimp only); (repeat (first | rw [if_pos (by omega)] | rw [if_neg (by omega)])); (repeat ((first | unfold tk_num); (try dsimp only); (repeat (first | rw [if_pos (by omega)] | rw [if_neg (by omega)])))); first | exact tk_ORe (by omega) (by omega) (by omega) | ((repeat' split) <;> (first | exact tk_ORe (by omega) (by omega) (by omega) | (exfalso; omega))))
    ·
      refine wr_is (k0 := 239) (a := 15) (f := 15) (x := z38) (bl := 0) (bh := 999) (nx := 33) (r1 := 0) (r2 := 0) (r3 := 0) rfl (by decide) rfl (by omega) (by omega) (by decide) g35 rfl (by omega) (fun h49 g49 w49 u49 => ?_)
      have F50 := F40.then rfl u49
      refine wi_aload_n (i := 0) (x := 236) (nx := 34) (r1 := 0) (r2 := 0) (r3 := 0) rfl rfl ?_
      refine wr_V (k0 := 236) (rest := []) (as := [.ref 236]) (nx := 37) (r1 := 219) (r2 := 0) (r3 := 11) rfl rfl rfl (of_decide_eq_true rfl) rfl rfl (by decide) rfl rfl (of_decide_eq_true rfl) (of_decide_eq_true rfl) ?_
      refine wi_aload_n (i := 0) (x := 236) (nx := 1) (r1 := 0) (r2 := 0) (r3 := 0) rfl rfl ?_
      refine wr_gi0 (k0 := 236) (x := h35 236 8) (nx := 4) (r1 := 11) (r2 := 8) (r3 := 0) rfl rfl (by decide) rfl ⟨rfl, rfl⟩ rfl (u49 236 8 rfl) ?_
      refine wi_if (cd := .ne) (nx := 7) (r1 := 11) (r2 := 0) (r3 := 0) rfl (by omega) (fun (q51 : (h35 236 8) ≠ 0) => ?_) (fun (q51 : ¬ ((h35 236 8) ≠ 0)) => by exfalso; omega)
      refine wi_iconst (n := 0) (nx := 12) (r1 := 0) (r2 := 0) (r3 := 0) rfl ?_
      refine wi_zreturn (nx := 13) (r1 := 0) (r2 := 0) (r3 := 0) rfl rfl (by omega) ?_
      refine wk_i ?_
      refine wi_if (cd := .eq) (nx := 40) (r1 := 50) (r2 := 0) (r3 := 0) rfl (by omega) (fun (q53 : 0 = 0) => ?_) (fun (q53 : ¬ (0 = 0)) => by exfalso; omega)
      refine wi_return (nx := 51) (r1 := 0) (r2 := 0) (r3 := 0) rfl rfl ?_
      have e54 : h49 236 4 = h35 236 4 := (u49 236 4 rfl)
      have e55 : h49 236 8 = h35 236 8 := (u49 236 8 rfl)
      have e56 : h49 239 5 = h 239 5 := ((u49 239 5 rfl).trans ((u35 239 5 rfl).trans (u23 239 5 rfl)))
      have e57 : h49 239 7 = h 239 7 := ((u49 239 7 rfl).trans ((u35 239 7 rfl).trans (u23 239 7 rfl)))
      have e58 : h49 239 15 = z38 := w49
      have e59 : h49 239 16 = h 239 16 := ((u49 239 16 rfl).trans ((u35 239 16 rfl).trans (u23 239 16 rfl)))
      have e60 : h49 239 17 = h 239 17 := ((u49 239 17 rfl).trans ((u35 239 17 rfl).trans (u23 239 17 rfl)))
      have e61 : h49 239 18 = h 239 18 := ((u49 239 18 rfl).trans ((u35 239 18 rfl).trans (u23 239 18 rfl)))
      have e62 : h49 236 9 = h35 236 9 := (u49 236 9 rfl)
      exact k h49 g49 F50 (show (h 236 4) ≤ (h49 236 4) by omega) (show (h49 236 4) ≤ (h 236 3) by omega) (show 1 ≤ (h49 236 8) ∨ ((h49 239 5) ≤ 9 ∧ 1 ≤ (h49 239 5) ∧ (h49 239 7) ≤ 3 ∧ (h49 239 15) ≤ 6 ∧ (h49 239 16) ≤ 6 ∧ (h49 239 17) ≤ 6 ∧ (h49 239 18) ≤ 6) by omega) (show (h49 236 8) ≠ 0 ∨ (h49 236 9) = -1 by omega) (by (try clear p35_3 p35_4 p35_5); unfold tk_lane tk_num; (try dsimp only); (repeat (first | rw [if_pos (by omega)] | rw [if_neg (by omega)])); (repeat ((first | unfold tk_num); (try dsimp only); (repeat (first | rw [if_pos (by omega)] | rw [if_neg (by omega)])))); first | exact tk_ORe (by omega) (by omega) (by omega) | ((repeat' split) <;> (first | exact tk_ORe (by omega) (by omega) (by omega) | (exfalso; omega))))
  ·
    refine wr_ia (k0 := 239) (a := 1) (f := 1) (x := 1) (nx := 6) (r1 := 0) (r2 := 0) (r3 := 0) rfl (by decide) rfl (by omega) (by omega) (by decide) q18 ?_
    refine wi_istore_n (i := 1) (e := 1) (lo2 := [(1, vi 1), (0, .ref 236)]) (nx := 7) (r1 := 0) (r2 := 0) (r3 := 0) rfl rfl ?_
    refine wi_aload_n (i := 0) (x := 236) (nx := 8) (r1 := 0) (r2 := 0) (r3 := 0) rfl rfl ?_
    refine wi_iconst (n := 1) (nx := 9) (r1 := 0) (r2 := 0) (r3 := 0) rfl ?_
    refine wi_iconst (n := 4) (nx := 10) (r1 := 0) (r2 := 0) (r3 := 0) rfl ?_
    refine wr_V (k0 := 236) (rest := []) (as := [.ref 236, vi 1, vi 4]) (nx := 13) (r1 := 223) (r2 := 2) (r3 := 11) rfl rfl rfl (of_decide_eq_true rfl) rfl rfl (by decide) rfl rfl (of_decide_eq_true rfl) (of_decide_eq_true rfl) ?_
    refine wi_aload_n (i := 0) (x := 236) (nx := 1) (r1 := 0) (r2 := 0) (r3 := 0) rfl rfl ?_
    refine wr_gr (k0 := 236) (x := 239) (nx := 4) (r1 := 11) (r2 := 14) (r3 := 0) rfl rfl (by decide) rfl ⟨rfl, rfl⟩ rfl ?_
    refine wi_iload_n (i := 1) (e := 1) (nx := 5) (r1 := 0) (r2 := 0) (r3 := 0) rfl rfl ?_
    refine wr_ia (k0 := 239) (a := 1) (f := 1) (x := 1) (nx := 6) (r1 := 0) (r2 := 0) (r3 := 0) rfl (by decide) rfl (by omega) (by omega) (by decide) q18 ?_
    refine wi_iload_n (i := 2) (e := 4) (nx := 7) (r1 := 0) (r2 := 0) (r3 := 0) rfl rfl ?_
    refine wi_icmp (cd := .ne) (nx := 10) (r1 := 15) (r2 := 0) (r3 := 0) rfl (by omega) (by omega) (fun (q19 : 1 ≠ 4) => ?_) (fun (q19 : ¬ (1 ≠ 4)) => by exfalso; omega)
    refine wi_aload_n (i := 0) (x := 236) (nx := 16) (r1 := 0) (r2 := 0) (r3 := 0) rfl rfl ?_
    refine wr_V (k0 := 236) (rest := []) (as := [.ref 236]) (nx := 19) (r1 := 219) (r2 := 0) (r3 := 11) rfl rfl rfl (of_decide_eq_true rfl) rfl rfl (by decide) rfl rfl (of_decide_eq_true rfl) (of_decide_eq_true rfl) ?_
    refine wi_aload_n (i := 0) (x := 236) (nx := 1) (r1 := 0) (r2 := 0) (r3 := 0) rfl rfl ?_
    refine wr_gi0 (k0 := 236) (x := h 236 8) (nx := 4) (r1 := 11) (r2 := 8) (r3 := 0) rfl rfl (by decide) rfl ⟨rfl, rfl⟩ rfl rfl ?_
    refine wi_if (cd := .ne) (nx := 7) (r1 := 11) (r2 := 0) (r3 := 0) rfl (by omega) (fun (q20 : (h 236 8) ≠ 0) => by exfalso; omega) (fun (q20 : ¬ ((h 236 8) ≠ 0)) => ?_)
    refine wi_iconst (n := 1) (nx := 8) (r1 := 0) (r2 := 0) (r3 := 0) rfl ?_
    refine wi_goto (nx := 11) (r1 := 12) (r2 := 0) (r3 := 0) rfl ?_
    refine wi_zreturn (nx := 13) (r1 := 0) (r2 := 0) (r3 := 0) rfl rfl (by omega) ?_
    refine wk_i ?_
    refine wi_if (cd := .eq) (nx := 22) (r1 := 26) (r2 := 0) (r3 := 0) rfl (by omega) (fun (q22 : 1 = 0) => by exfalso; omega) (fun (q22 : ¬ (1 = 0)) => ?_)
    refine wi_aload_n (i := 0) (x := 236) (nx := 23) (r1 := 0) (r2 := 0) (r3 := 0) rfl rfl ?_
    refine wr_V (k0 := 236) (rest := []) (as := [.ref 236]) (nx := 26) (r1 := 215) (r2 := 0) (r3 := 11) rfl rfl rfl (of_decide_eq_true rfl) rfl rfl (by decide) rfl rfl (of_decide_eq_true rfl) (of_decide_eq_true rfl) ?_
    refine ct_215_236 hcr  g   (show (h 236 4) ≤ (h 236 3) by omega) (show (h 236 4) = (tk_nx tB tn tp) by omega) (show 0 ≤ (tk_nx tB tn tp) by omega) (show (tk_nx tB tn tp) ≤ tn by omega) xq0 (fun h23 g23 u23 (p23_0 : (h 236 4) ≤ (h23 236 4)) (p23_1 : (h23 236 4) ≤ (h 236 3)) (p23_2 : ((h23 236 4) = tk_nx tB tn (tk_nx tB tn tp) ∧ (h23 236 5) = tk_st tB tn (tk_nx tB tn tp) ∧ TKk tB tn (tk_nx tB tn tp) ((h23 236 6)) ((h23 236 7)) ((h23 236 12)))) (p23_3 : (tk_nx tB tn tp) ≤ tk_nx tB tn (tk_nx tB tn tp) ∧ tk_nx tB tn (tk_nx tB tn tp) ≤ tn) => ?_)
    have F24 := F0.then (by decide +kernel) u23
    have b25 := gi_b (lo := 0) (hi := 800) g23 236 4 rfl
    have b26 := gi_b (lo := 0) (hi := 800) g23 236 5 rfl
    have b27 := gi_b (lo := 0) (hi := 4) g23 236 6 rfl
    have b28 := gi_b (lo := 0) (hi := 999) g23 236 7 rfl
    have b29 := gi_b (lo := -9223372036854775808) (hi := 9223372036854775807) g23 236 12 rfl
    have tkk30 := p23_2.2.2
    have tN31 := @tk_nx_b tB tn (tk_nx tB tn tp) (by omega) (by omega)
    refine wk_n ?_
    refine wi_aload_n (i := 0) (x := 236) (nx := 27) (r1 := 0) (r2 := 0) (r3 := 0) rfl rfl ?_
    refine wr_V (k0 := 236) (rest := []) (as := [.ref 236]) (nx := 30) (r1 := 219) (r2 := 0) (r3 := 11) rfl rfl rfl (of_decide_eq_true rfl) rfl rfl (by decide) rfl rfl (of_decide_eq_true rfl) (of_decide_eq_true rfl) ?_
    refine wi_aload_n (i := 0) (x := 236) (nx := 1) (r1 := 0) (r2 := 0) (r3 := 0) rfl rfl ?_
    refine wr_gi0 (k0 := 236) (x := h 236 8) (nx := 4) (r1 := 11) (r2 := 8) (r3 := 0) rfl rfl (by decide) rfl ⟨rfl, rfl⟩ rfl (u23 236 8 rfl) ?_
    refine wi_if (cd := .ne) (nx := 7) (r1 := 11) (r2 := 0) (r3 := 0) rfl (by omega) (fun (q32 : (h 236 8) ≠ 0) => by exfalso; omega) (fun (q32 : ¬ ((h 236 8) ≠ 0)) => ?_)
    refine wi_iconst (n := 1) (nx := 8) (r1 := 0) (r2 := 0) (r3 := 0) rfl ?_
    refine wi_goto (nx := 11) (r1 := 12) (r2 := 0) (r3 := 0) rfl ?_
    refine wi_zreturn (nx := 13) (r1 := 0) (r2 := 0) (r3 := 0) rfl rfl (by omega) ?_
    refine wk_i ?_
    refine wi_zreturn (nx := 31) (r1 := 0) (r2 := 0) (r3 := 0) rfl rfl (by omega) ?_
    refine wk_i ?_
    refine wi_if (cd := .ne) (nx := 16) (r1 := 17) (r2 := 0) (r3 := 0) rfl (by omega) (fun (q34 : 1 ≠ 0) => ?_) (fun (q34 : ¬ (1 ≠ 0)) => by exfalso; omega)
    refine wi_aload_n (i := 0) (x := 236) (nx := 18) (r1 := 0) (r2 := 0) (r3 := 0) rfl rfl ?_
    refine wr_gr (k0 := 236) (x := 239) (nx := 21) (r1 := 11) (r2 := 14) (r3 := 0) rfl rfl (by decide) rfl ⟨rfl, rfl⟩ rfl ?_
    refine wi_bipush (n := 15) (nx := 23) (r1 := 0) (r2 := 0) (r3 := 0) rfl (by decide) ?_
    refine wi_iload_n (i := 1) (e := 1) (nx := 24) (r1 := 0) (r2 := 0) (r3 := 0) rfl rfl ?_
    refine wr_addL (16) (nx := 25) (r1 := 0) (r2 := 0) (r3 := 0) rfl (by decide) ?_
    refine wi_aload_n (i := 0) (x := 236) (nx := 26) (r1 := 0) (r2 := 0) (r3 := 0) rfl rfl ?_
    refine wi_iconst (n := 1) (nx := 27) (r1 := 0) (r2 := 0) (r3 := 0) rfl ?_
    refine wi_bipush (n := 6) (nx := 29) (r1 := 0) (r2 := 0) (r3 := 0) rfl (by decide) ?_
    refine wr_V (k0 := 236) (rest := [vi 16, .ref 239]) (as := [.ref 236, vi 1, vi 6]) (nx := 32) (r1 := 231) (r2 := 2) (r3 := 11) rfl rfl rfl (of_decide_eq_true rfl) rfl rfl (by decide) rfl rfl (of_decide_eq_true rfl) (of_decide_eq_true rfl) ?_
    have e36 : h23 236 3 = h 236 3 := (u23 236 3 rfl)
    have e37 : h23 236 8 = h 236 8 := (u23 236 8 rfl)
    have rb39 := RefB.fr u23 rfl xq0
    refine ct_231_236 hcr  g23 1 6 (by omega) (by omega) (show (h23 236 4) ≤ (h23 236 3) by omega) (show 0 ≤ (tk_nx tB tn tp) by omega) (show (tk_nx tB tn tp) ≤ tn by omega) (show (tk_nx tB tn tp) ≤ tk_nx tB tn (tk_nx tB tn tp) ∧ tk_nx tB tn (tk_nx tB tn tp) ≤ tn by omega) (show 1 ≤ (h23 236 8) ∨ ((h23 236 4) = tk_nx tB tn (tk_nx tB tn tp) ∧ (h23 236 5) = tk_st tB tn (tk_nx tB tn tp) ∧ TKk tB tn (tk_nx tB tn tp) ((h23 236 6)) ((h23 236 7)) ((h23 236 12))) from (Or.inr (show ((h23 236 4) = tk_nx tB tn (tk_nx tB tn tp) ∧ (h23 236 5) = tk_st tB tn (tk_nx tB tn tp) ∧ TKk tB tn (tk_nx tB tn tp) ((h23 236 6)) ((h23 236 7)) ((h23 236 12))) by first | assumption | exact ⟨by omega, by omega, TKk.mv (by assumption) (by omega) (by omega) (by omega)⟩))) rb39 (fun h35 z38 g35 u35 (fz38 : 0 ≤ z38 ∧ z38 ≤ 999) (p35_0 : (1 ≤ (h23 236 8) ∧ (h35 236 8) = (h23 236 8) ∧ (h35 236 9) = (h23 236 9)) ∨ ((h23 236 8) = 0 ∧ tk_kd tB tn (tk_nx tB tn tp) = 2 ∧ 1 ≤ tk_nb tB tn (tk_nx tB tn tp) ∧ tk_nb tB tn (tk_nx tB tn tp) ≤ 6 ∧ z38 = tk_nb tB tn (tk_nx tB tn tp) ∧ (h35 236 8) = (h23 236 8) ∧ (h35 236 9) = (h23 236 9) ∧ ((h35 236 4) = tk_nx tB tn (tk_nx tB tn (tk_nx tB tn tp)) ∧ (h35 236 5) = tk_st tB tn (tk_nx tB tn (tk_nx tB tn tp)) ∧ TKk tB tn (tk_nx tB tn (tk_nx tB tn tp)) ((h35 236 6)) ((h35 236 7)) ((h35 236 12)))) ∨ ((h23 236 8) = 0 ∧ tk_kd tB tn (tk_nx tB tn tp) ≠ 2 ∧ (h35 236 8) = 1 ∧ (h35 236 9) = tk_st tB tn (tk_nx tB tn tp)) ∨ ((h23 236 8) = 0 ∧ tk_kd tB tn (tk_nx tB tn tp) = 2 ∧ (tk_nb tB tn (tk_nx tB tn tp) < 1 ∨ 6 < tk_nb tB tn (tk_nx tB tn tp)) ∧ (h35 236 8) = 2 ∧ (h35 236 9) = tk_st tB tn (tk_nx tB tn tp))) (p35_1 : (h23 236 4) ≤ (h35 236 4)) (p35_2 : (h35 236 4) ≤ (h23 236 3)) (p35_3 : 1 ≤ (h35 236 8) ∨ (h23 236 8) = 0) (p35_4 : 1 ≤ (h35 236 8) ∨ (1 ≤ z38 ∧ z38 ≤ 6)) (p35_5 : 1 ≤ (h35 236 8) ∨ (h23 236 6) = 2) => ?_)
    have F40 := F24.then (by decide +kernel) u35
    have e41 : h23 236 9 = h 236 9 := (u23 236 9 rfl)
    have b42 := gi_b (lo := 0) (hi := 5) g35 236 8 rfl
    have b43 := gi_b (lo := -2147483648) (hi := 2147483647) g35 236 9 rfl
    have b44 := gi_b (lo := 0) (hi := 800) g35 236 4 rfl
    have b45 := gi_b (lo := 0) (hi := 800) g35 236 5 rfl
    have b46 := gi_b (lo := 0) (hi := 4) g35 236 6 rfl
    have b47 := gi_b (lo := 0) (hi := 999) g35 236 7 rfl
    have b48 := gi_b (lo := -9223372036854775808) (hi := 9223372036854775807) g35 236 12 rfl
    refine wk_i ?_
    rcases p35_0 with p35_0 | p35_0 | p35_0 | p35_0
    ·
      exfalso; omega
    ·
      have tkk49 := (p35_0.2.2.2.2.2.2.2).2.2
      have tN50 := @tk_nx_b tB tn (tk_nx tB tn (tk_nx tB tn tp)) (by omega) (by omega)
      refine wr_is (k0 := 239) (a := 16) (f := 16) (x := z38) (bl := 0) (bh := 999) (nx := 33) (r1 := 0) (r2 := 0) (r3 := 0) rfl (by decide) rfl (by omega) (by omega) (by decide) g35 rfl (by omega) (fun h51 g51 w51 u51 => ?_)
      have F52 := F40.then rfl u51
      refine wi_aload_n (i := 0) (x := 236) (nx := 34) (r1 := 0) (r2 := 0) (r3 := 0) rfl rfl ?_
      refine wr_V (k0 := 236) (rest := []) (as := [.ref 236]) (nx := 37) (r1 := 219) (r2 := 0) (r3 := 11) rfl rfl rfl (of_decide_eq_true rfl) rfl rfl (by decide) rfl rfl (of_decide_eq_true rfl) (of_decide_eq_true rfl) ?_
      refine wi_aload_n (i := 0) (x := 236) (nx := 1) (r1 := 0) (r2 := 0) (r3 := 0) rfl rfl ?_
      refine wr_gi0 (k0 := 236) (x := h35 236 8) (nx := 4) (r1 := 11) (r2 := 8) (r3 := 0) rfl rfl (by decide) rfl ⟨rfl, rfl⟩ rfl (u51 236 8 rfl) ?_
      refine wi_if (cd := .ne) (nx := 7) (r1 := 11) (r2 := 0) (r3 := 0) rfl (by omega) (fun (q53 : (h35 236 8) ≠ 0) => by exfalso; omega) (fun (q53 : ¬ ((h35 236 8) ≠ 0)) => ?_)
      refine wi_iconst (n := 1) (nx := 8) (r1 := 0) (r2 := 0) (r3 := 0) rfl ?_
      refine wi_goto (nx := 11) (r1 := 12) (r2 := 0) (r3 := 0) rfl ?_
      refine wi_zreturn (nx := 13) (r1 := 0) (r2 := 0) (r3 := 0) rfl rfl (by omega) ?_
      refine wk_i ?_
      refine wi_if (cd := .eq) (nx := 40) (r1 := 50) (r2 := 0) (r3 := 0) rfl (by omega) (fun (q55 : 1 = 0) => by exfalso; omega) (fun (q55 : ¬ (1 = 0)) => ?_)
      refine wi_aload_n (i := 0) (x := 236) (nx := 41) (r1 := 0) (r2 := 0) (r3 := 0) rfl rfl ?_
      refine wr_gr (k0 := 236) (x := 239) (nx := 44) (r1 := 11) (r2 := 14) (r3 := 0) rfl rfl (by decide) rfl ⟨rfl, rfl⟩ rfl ?_
      refine wi_iconst (n := 1) (nx := 45) (r1 := 0) (r2 := 0) (r3 := 0) rfl ?_
      refine wi_dup2 (nx := 46) (r1 := 0) (r2 := 0) (r3 := 0) rfl rfl rfl ?_
      refine wr_ia (k0 := 239) (a := 1) (f := 1) (x := 1) (nx := 47) (r1 := 0) (r2 := 0) (r3 := 0) rfl (by decide) rfl (by omega) (by omega) (by decide) ((u51 239 1 rfl).trans ((u35 239 1 rfl).trans ((u23 239 1 rfl).trans q18))) ?_
      refine wi_iconst (n := 1) (nx := 48) (r1 := 0) (r2 := 0) (r3 := 0) rfl ?_
      refine wr_addL (2) (nx := 49) (r1 := 0) (r2 := 0) (r3 := 0) rfl (by decide) ?_
      refine wr_is (k0 := 239) (a := 1) (f := 1) (x := 2) (bl := 0) (bh := 4) (nx := 50) (r1 := 0) (r2 := 0) (r3 := 0) rfl (by decide) rfl (by omega) (by omega) (by decide) g51 rfl (by omega) (fun h56 g56 w56 u56 => ?_)
      have F57 := F52.then rfl u56
      refine wi_return (nx := 51) (r1 := 0) (r2 := 0) (r3 := 0) rfl rfl ?_
      have e58 : h56 236 4 = h35 236 4 := ((u56 236 4 rfl).trans (u51 236 4 rfl))
      have e59 : h56 236 8 = h35 236 8 := ((u56 236 8 rfl).trans (u51 236 8 rfl))
      have e60 : h56 239 5 = h 239 5 := ((u56 239 5 rfl).trans ((u51 239 5 rfl).trans ((u35 239 5 rfl).trans (u23 239 5 rfl))))
      have e61 : h56 239 7 = h 239 7 := ((u56 239 7 rfl).trans ((u51 239 7 rfl).trans ((u35 239 7 rfl).trans (u23 239 7 rfl))))
      have e62 : h56 239 15 = h 239 15 := ((u56 239 15 rfl).trans ((u51 239 15 rfl).trans ((u35 239 15 rfl).trans (u23 239 15 rfl))))
      have e63 : h56 239 16 = z38 := ((u56 239 16 rfl).trans w51)
      have e64 : h56 239 17 = h 239 17 := ((u56 239 17 rfl).trans ((u51 239 17 rfl).trans ((u35 239 17 rfl).trans (u23 239 17 rfl))))
      have e65 : h56 239 18 = h 239 18 := ((u56 239 18 rfl).trans ((u51 239 18 rfl).trans ((u35 239 18 rfl).trans (u23 239 18 rfl))))
      have e66 : h56 236 9 = h35 236 9 := ((u56 236 9 rfl).trans (u51 236 9 rfl))
      have e67 : h56 239 0 = h 239 0 := ((u56 239 0 rfl).trans ((u51 239 0 rfl).trans ((u35 239 0 rfl).trans (u23 239 0 rfl))))
      have e68 : h56 239 1 = 2 := w56
      have e69 : h56 239 2 = h 239 2 := ((u56 239 2 rfl).trans ((u51 239 2 rfl).trans ((u35 239 2 rfl).trans (u23 239 2 rfl))))
      have b70 := gi_b (lo := 0) (hi := 999) g 239 3 rfl
      have e71 : h56 239 3 = h 239 3 := ((u56 239 3 rfl).trans ((u51 239 3 rfl).trans ((u35 239 3 rfl).trans (u23 239 3 rfl))))
      have b72 := gi_b (lo := 0) (hi := 999) g 239 4 rfl
      have e73 : h56 239 4 = h 239 4 := ((u56 239 4 rfl).trans ((u51 239 4 rfl).trans ((u35 239 4 rfl).trans (u23 239 4 rfl))))
      have b74 := gi_b (lo := 0) (hi := 999) g 239 6 rfl
      have e75 : h56 239 6 = h 239 6 := ((u56 239 6 rfl).trans ((u51 239 6 rfl).trans ((u35 239 6 rfl).trans (u23 239 6 rfl))))
      have b76 := gi_b (lo := 0) (hi := 999) g 239 8 rfl
      have e77 : h56 239 8 = h 239 8 := ((u56 239 8 rfl).trans ((u51 239 8 rfl).trans ((u35 239 8 rfl).trans (u23 239 8 rfl))))
      have b78 := gi_b (lo := 0) (hi := 999) g 239 9 rfl
      have e79 : h56 239 9 = h 239 9 := ((u56 239 9 rfl).trans ((u51 239 9 rfl).trans ((u35 239 9 rfl).trans (u23 239 9 rfl))))
      have b80 := gi_b (lo := 0) (hi := 1) g 236 23 rfl
      have e81 : h56 236 23 = h 236 23 := ((u56 236 23 rfl).trans ((u51 236 23 rfl).trans ((u35 236 23 rfl).trans (u23 236 23 rfl))))
      have b82 := gi_b (lo := 0) (hi := 1) g 236 24 rfl
      have e83 : h56 236 24 = h 236 24 := ((u56 236 24 rfl).trans ((u51 236 24 rfl).trans ((u35 236 24 rfl).trans (u23 236 24 rfl))))
      have b84 := gi_b (lo := 0) (hi := 1) g 236 25 rfl
      have e85 : h56 236 25 = h 236 25 := ((u56 236 25 rfl).trans ((u51 236 25 rfl).trans ((u35 236 25 rfl).trans (u23 236 25 rfl))))
      have b86 := gi_b (lo := 0) (hi := 1) g 236 26 rfl
      have e87 : h56 236 26 = h 236 26 := ((u56 236 26 rfl).trans ((u51 236 26 rfl).trans ((u35 236 26 rfl).trans (u23 236 26 rfl))))
      have e88 : h56 236 5 = h35 236 5 := ((u56 236 5 rfl).trans (u51 236 5 rfl))
      have e89 : h56 236 6 = h35 236 6 := ((u56 236 6 rfl).trans (u51 236 6 rfl))
      have e90 : h56 236 7 = h35 236 7 := ((u56 236 7 rfl).trans (u51 236 7 rfl))
      have e91 : h56 236 12 = h35 236 12 := ((u56 236 12 rfl).trans (u51 236 12 rfl))
      exact k h56 g56 F57 (show (h 236 4) ≤ (h56 236 4) by omega) (show (h56 236 4) ≤ (h 236 3) by omega) (show 1 ≤ (h56 236 8) ∨ ((h56 239 5) ≤ 9 ∧ 1 ≤ (h56 239 5) ∧ (h56 239 7) ≤ 3 ∧ (h56 239 15) ≤ 6 ∧ (h56 239 16) ≤ 6 ∧ (h56 239 17) ≤ 6 ∧ (h56 239 18) ≤ 6) by omega) (show (h56 236 8) ≠ 0 ∨ (h56 236 9) = -1 by omega) (by (try clear p35_3 p35_4 p35_5); unfold tk_lane tk_num; (try dsimp only); (repeat (first | rw [if_pos (by omega)] | rw [if_neg (by omega)])); (repeat ((first | unfold tk_num); (try dsimp only); (repeat (first | rw [if_pos (by omega)] | rw [if_neg (by omega)])))); exact tk_ORs (by omega) (by first | assumption | exact ⟨by omega, by omega, TKk.mv (by assumption) (by omega) (by omega) (by omega)⟩) (CVr.lane (c := (h 239 1).toNat) xq1 (by omega) (by omega) (fun i _ _ => ((u56 239 i (fn_i (by omega) fn_0)).trans ((u51 239 i (fn_i (by omega) fn_0)).trans ((u35 239 i (fo_nk rfl)).trans (u23 239 i (fo_nk rfl)))))) (fun i _ _ => ((u56 236 i (fn_a (by omega) fn_0)).trans ((u51 236 i (fn_a (by omega) fn_0)).trans ((u35 236 i (fo_gk (m := 12) (by omega) rfl)).trans (u23 236 i (fo_gk (m := 12) (by omega) rfl)))))) (by rw [show 15 + (h 239 1).toNat = 16 by omega]; exact ((u56 239 16 rfl).trans w51).trans (by omega)) (fun i => ((u56 244 i (fn_a (by omega) fn_0)).trans ((u51 244 i (fn_a (by omega) fn_0)).trans ((u35 244 i (fo_nk rfl)).trans (u23 244 i (fo_nk rfl)))))) (by omega) (by omega) (by omega)))
    ·
      refine wr_is (k0 := 239) (a := 16) (f := 16) (x := z38) (bl := 0) (bh := 999) (nx := 33) (r1 := 0) (r2 := 0) (r3 := 0) rfl (by decide) rfl (by omega) (by omega) (by decide) g35 rfl (by omega) (fun h49 g49 w49 u49 => ?_)
      have F50 := F40.then rfl u49
      refine wi_aload_n (i := 0) (x := 236) (nx := 34) (r1 := 0) (r2 := 0) (r3 := 0) rfl rfl ?_
      refine wr_V (k0 := 236) (rest := []) (as := [.ref 236]) (nx := 37) (r1 := 219) (r2 := 0) (r3 := 11) rfl rfl rfl (of_decide_eq_true rfl) rfl rfl (by decide) rfl rfl (of_decide_eq_true rfl) (of_decide_eq_true rfl) ?_
      refine wi_aload_n (i := 0) (x := 236) (nx := 1) (r1 := 0) (r2 := 0) (r3 := 0) rfl rfl ?_
      refine wr_gi0 (k0 := 236) (x := h35 236 8) (nx := 4) (r1 := 11) (r2 := 8) (r3 := 0) rfl rfl (by decide) rfl ⟨rfl, rfl⟩ rfl (u49 236 8 rfl) ?_
      refine wi_if (cd := .ne) (nx := 7) (r1 := 11) (r2 := 0) (r3 := 0) rfl (by omega) (fun (q51 : (h35 236 8) ≠ 0) => ?_) (fun (q51 : ¬ ((h35 236 8) ≠ 0)) => by exfalso; omega)
      refine wi_iconst (n := 0) (nx := 12) (r1 := 0) (r2 := 0) (r3 := 0) rfl ?_
      refine wi_zreturn (nx := 13) (r1 := 0) (r2 := 0) (r3 := 0) rfl rfl (by omega) ?_
      refine wk_i ?_
      refine wi_if (cd := .eq) (nx := 40) (r1 := 50) (r2 := 0) (r3 := 0) rfl (by omega) (fun (q53 : 0 = 0) => ?_) (fun (q53 : ¬ (0 = 0)) => by exfalso; omega)
      refine wi_return (nx := 51) (r1 := 0) (r2 := 0) (r3 := 0) rfl rfl ?_
      have e54 : h49 236 4 = h35 236 4 := (u49 236 4 rfl)
      have e55 : h49 236 8 = h35 236 8 := (u49 236 8 rfl)
      have e56 : h49 239 5 = h 239 5 := ((u49 239 5 rfl).trans ((u35 239 5 rfl).trans (u23 239 5 rfl)))
      have e57 : h49 239 7 = h 239 7 := ((u49 239 7 rfl).trans ((u35 239 7 rfl).trans (u23 239 7 rfl)))
      have e58 : h49 239 15 = h 239 15 := ((u49 239 15 rfl).trans ((u35 239 15 rfl).trans (u23 239 15 rfl)))
      have e59 : h49 239 16 = z38 := w49
      have e60 : h49 239 17 = h 239 17 := ((u49 239 17 rfl).trans ((u35 239 17 rfl).trans (u23 239 17 rfl)))
      have e61 : h49 239 18 = h 239 18 := ((u49 239 18 rfl).trans ((u35 239 18 rfl).trans (u23 239 18 rfl)))
      have e62 : h49 236 9 = h35 236 9 := (u49 236 9 rfl)
      exact k h49 g49 F50 (show (h 236 4) ≤ (h49 236 4) by omega) (show (h49 236 4) ≤ (h 236 3) by omega) (show 1 ≤ (h49 236 8) ∨ ((h49 239 5) ≤ 9 ∧ 1 ≤ (h49 239 5) ∧ (h49 239 7) ≤ 3 ∧ (h49 239 15) ≤ 6 ∧ (h49 239 16) ≤ 6 ∧ (h49 239 17) ≤ 6 ∧ (h49 239 18) ≤ 6) by omega) (show (h49 236 8) ≠ 0 ∨ (h49 236 9) = -1 by omega) (by (try clear p35_3 p35_4 p35_5); unfold tk_lane tk_num; (try dsimp only); (repeat (first | rw [if_pos (by omega)] | rw [if_neg (by omega)])); (repeat ((first | unfold tk_num); (try dsimp only); (repeat (first | rw [if_pos (by omega)] | rw [if_neg (by omega)])))); first | exact tk_ORe (by omega) (by omega) (by omega) | ((repeat' split) <;> (first | exact tk_ORe (by omega) (by omega) (by omega) | (exfalso; omega))))
    ·
      refine wr_is (k0 := 239) (a := 16) (f := 16) (x := z38) (bl := 0) (bh := 999) (nx := 33) (r1 := 0) (r2 := 0) (r3 := 0) rfl (by decide) rfl (by omega) (by omega) (by decide) g35 rfl (by omega) (fun h49 g49 w49 u49 => ?_)
      have F50 := F40.then rfl u49
      refine wi_aload_n (i := 0) (x := 236) (nx := 34) (r1 := 0) (r2 := 0) (r3 := 0) rfl rfl ?_
      refine wr_V (k0 := 236) (rest := []) (as := [.ref 236]) (nx := 37) (r1 := 219) (r2 := 0) (r3 := 11) rfl rfl rfl (of_decide_eq_true rfl) rfl rfl (by decide) rfl rfl (of_decide_eq_true rfl) (of_decide_eq_true rfl) ?_
      refine wi_aload_n (i := 0) (x := 236) (nx := 1) (r1 := 0) (r2 := 0) (r3 := 0) rfl rfl ?_
      refine wr_gi0 (k0 := 236) (x := h35 236 8) (nx := 4) (r1 := 11) (r2 := 8) (r3 := 0) rfl rfl (by decide) rfl ⟨rfl, rfl⟩ rfl (u49 236 8 rfl) ?_
      refine wi_if (cd := .ne) (nx := 7) (r1 := 11) (r2 := 0) (r3 := 0) rfl (by omega) (fun (q51 : (h35 236 8) ≠ 0) => ?_) (fun (q51 : ¬ ((h35 236 8) ≠ 0)) => by exfalso; omega)
      refine wi_iconst (n := 0) (nx := 12) (r1 := 0) (r2 := 0) (r3 := 0) rfl ?_
      refine wi_zreturn (nx := 13) (r1 := 0) (r2 := 0) (r3 := 0) rfl rfl (by omega) ?_
      refine wk_i ?_
      refine wi_if (cd := .eq) (nx := 40) (r1 := 50) (r2 := 0) (r3 := 0) rfl (by omega) (fun (q53 : 0 = 0) => ?_) (fun (q53 : ¬ (0 = 0)) => by exfalso; omega)
      refine wi_return (nx := 51) (r1 := 0) (r2 := 0) (r3 := 0) rfl rfl ?_
      have e54 : h49 236 4 = h35 236 4 := (u49 236 4 rfl)
      have e55 : h49 236 8 = h35 236 8 := (u49 236 8 rfl)
      have e56 : h49 239 5 = h 239 5 := ((u49 239 5 rfl).trans ((u35 239 5 rfl).trans (u23 239 5 rfl)))
      have e57 : h49 239 7 = h 239 7 := ((u49 239 7 rfl).trans ((u35 239 7 rfl).trans (u23 239 7 rfl)))
      have e58 : h49 239 15 = h 239 15 := ((u49 239 15 rfl).trans ((u35 239 15 rfl).trans (u23 239 15 rfl)))
      have e59 : h49 239 16 = z38 := w49
      have e60 : h49 239 17 = h 239 17 := ((u49 239 17 rfl).trans ((u35 239 17 rfl).trans (u23 239 17 rfl)))
      have e61 : h49 239 18 = h 239 18 := ((u49 239 18 rfl).trans ((u35 239 18 rfl).trans (u23 239 18 rfl)))
      have e62 : h49 236 9 = h35 236 9 := (u49 236 9 rfl)
      exact k h49 g49 F50 (show (h 236 4) ≤ (h49 236 4) by omega) (show (h49 236 4) ≤ (h 236 3) by omega) (show 1 ≤ (h49 236 8) ∨ ((h49 239 5) ≤ 9 ∧ 1 ≤ (h49 239 5) ∧ (h49 239 7) ≤ 3 ∧ (h49 239 15) ≤ 6 ∧ (h49 239 16) ≤ 6 ∧ (h49 239 17) ≤ 6 ∧ (h49 239 18) ≤ 6) by omega) (show (h49 236 8) ≠ 0 ∨ (h49 236 9) = -1 by omega) (by (try clear p35_3 p35_4 p35_5); unfold tk_lane tk_num; (try dsimp only); (repeat (first | rw [if_pos (by omega)] | rw [if_neg (by omega)])); (repeat ((first | unfold tk_num); (try dsimp only); (repeat (first | rw [if_pos (by omega)] | rw [if_neg (by omega)])))); first | exact tk_ORe (by omega) (by omega) (by omega) | ((repeat' split) <;> (first | exact tk_ORe (by omega) (by omega) (by omega) | (exfalso; omega))))
  ·
    refine wr_ia (k0 := 239) (a := 1) (f := 1) (x := 2) (nx := 6) (r1 := 0) (r2 := 0) (r3 := 0) rfl (by decide) rfl (by omega) (by omega) (by decide) q18 ?_
    refine wi_istore_n (i := 1) (e := 2) (lo2 := [(1, vi 2), (0, .ref 236)]) (nx := 7) (r1 := 0) (r2 := 0) (r3 := 0) rfl rfl ?_
    refine wi_aload_n (i := 0) (x := 236) (nx := 8) (r1 := 0) (r2 := 0) (r3 := 0) rfl rfl ?_
    refine wi_iconst (n := 1) (nx := 9) (r1 := 0) (r2 := 0) (r3 := 0) rfl ?_
    refine wi_iconst (n := 4) (nx := 10) (r1 := 0) (r2 := 0) (r3 := 0) rfl ?_
    refine wr_V (k0 := 236) (rest := []) (as := [.ref 236, vi 1, vi 4]) (nx := 13) (r1 := 223) (r2 := 2) (r3 := 11) rfl rfl rfl (of_decide_eq_true rfl) rfl rfl (by decide) rfl rfl (of_decide_eq_true rfl) (of_decide_eq_true rfl) ?_
    refine wi_aload_n (i := 0) (x := 236) (nx := 1) (r1 := 0) (r2 := 0) (r3 := 0) rfl rfl ?_
    refine wr_gr (k0 := 236) (x := 239) (nx := 4) (r1 := 11) (r2 := 14) (r3 := 0) rfl rfl (by decide) rfl ⟨rfl, rfl⟩ rfl ?_
    refine wi_iload_n (i := 1) (e := 1) (nx := 5) (r1 := 0) (r2 := 0) (r3 := 0) rfl rfl ?_
    refine wr_ia (k0 := 239) (a := 1) (f := 1) (x := 2) (nx := 6) (r1 := 0) (r2 := 0) (r3 := 0) rfl (by decide) rfl (by omega) (by omega) (by decide) q18 ?_
    refine wi_iload_n (i := 2) (e := 4) (nx := 7) (r1 := 0) (r2 := 0) (r3 := 0) rfl rfl ?_
    refine wi_icmp (cd := .ne) (nx := 10) (r1 := 15) (r2 := 0) (r3 := 0) rfl (by omega) (by omega) (fun (q19 : 2 ≠ 4) => ?_) (fun (q19 : ¬ (2 ≠ 4)) => by exfalso; omega)
    refine wi_aload_n (i := 0) (x := 236) (nx := 16) (r1 := 0) (r2 := 0) (r3 := 0) rfl rfl ?_
    refine wr_V (k0 := 236) (rest := []) (as := [.ref 236]) (nx := 19) (r1 := 219) (r2 := 0) (r3 := 11) rfl rfl rfl (of_decide_eq_true rfl) rfl rfl (by decide) rfl rfl (of_decide_eq_true rfl) (of_decide_eq_true rfl) ?_
    refine wi_aload_n (i := 0) (x := 236) (nx := 1) (r1 := 0) (r2 := 0) (r3 := 0) rfl rfl ?_
    refine wr_gi0 (k0 := 236) (x := h 236 8) (nx := 4) (r1 := 11) (r2 := 8) (r3 := 0) rfl rfl (by decide) rfl ⟨rfl, rfl⟩ rfl rfl ?_
    refine wi_if (cd := .ne) (nx := 7) (r1 := 11) (r2 := 0) (r3 := 0) rfl (by omega) (fun (q20 : (h 236 8) ≠ 0) => by exfalso; omega) (fun (q20 : ¬ ((h 236 8) ≠ 0)) => ?_)
    refine wi_iconst (n := 1) (nx := 8) (r1 := 0) (r2 := 0) (r3 := 0) rfl ?_
    refine wi_goto (nx := 11) (r1 := 12) (r2 := 0) (r3 := 0) rfl ?_
    refine wi_zreturn (nx := 13) (r1 := 0) (r2 := 0) (r3 := 0) rfl rfl (by omega) ?_
    refine wk_i ?_
    refine wi_if (cd := .eq) (nx := 22) (r1 := 26) (r2 := 0) (r3 := 0) rfl (by omega) (fun (q22 : 1 = 0) => by exfalso; omega) (fun (q22 : ¬ (1 = 0)) => ?_)
    refine wi_aload_n (i := 0) (x := 236) (nx := 23) (r1 := 0) (r2 := 0) (r3 := 0) rfl rfl ?_
    refine wr_V (k0 := 236) (rest := []) (as := [.ref 236]) (nx := 26) (r1 := 215) (r2 := 0) (r3 := 11) rfl rfl rfl (of_decide_eq_true rfl) rfl rfl (by decide) rfl rfl (of_decide_eq_true rfl) (of_decide_eq_true rfl) ?_
    refine ct_215_236 hcr  g   (show (h 236 4) ≤ (h 236 3) by omega) (show (h 236 4) = (tk_nx tB tn tp) by omega) (show 0 ≤ (tk_nx tB tn tp) by omega) (show (tk_nx tB tn tp) ≤ tn by omega) xq0 (fun h23 g23 u23 (p23_0 : (h 236 4) ≤ (h23 236 4)) (p23_1 : (h23 236 4) ≤ (h 236 3)) (p23_2 : ((h23 236 4) = tk_nx tB tn (tk_nx tB tn tp) ∧ (h23 236 5) = tk_st tB tn (tk_nx tB tn tp) ∧ TKk tB tn (tk_nx tB tn tp) ((h23 236 6)) ((h23 236 7)) ((h23 236 12)))) (p23_3 : (tk_nx tB tn tp) ≤ tk_nx tB tn (tk_nx tB tn tp) ∧ tk_nx tB tn (tk_nx tB tn tp) ≤ tn) => ?_)
    have F24 := F0.then (by decide +kernel) u23
    have b25 := gi_b (lo := 0) (hi := 800) g23 236 4 rfl
    have b26 := gi_b (lo := 0) (hi := 800) g23 236 5 rfl
    have b27 := gi_b (lo := 0) (hi := 4) g23 236 6 rfl
    have b28 := gi_b (lo := 0) (hi := 999) g23 236 7 rfl
    have b29 := gi_b (lo := -9223372036854775808) (hi := 9223372036854775807) g23 236 12 rfl
    have tkk30 := p23_2.2.2
    have tN31 := @tk_nx_b tB tn (tk_nx tB tn tp) (by omega) (by omega)
    refine wk_n ?_
    refine wi_aload_n (i := 0) (x := 236) (nx := 27) (r1 := 0) (r2 := 0) (r3 := 0) rfl rfl ?_
    refine wr_V (k0 := 236) (rest := []) (as := [.ref 236]) (nx := 30) (r1 := 219) (r2 := 0) (r3 := 11) rfl rfl rfl (of_decide_eq_true rfl) rfl rfl (by decide) rfl rfl (of_decide_eq_true rfl) (of_decide_eq_true rfl) ?_
    refine wi_aload_n (i := 0) (x := 236) (nx := 1) (r1 := 0) (r2 := 0) (r3 := 0) rfl rfl ?_
    refine wr_gi0 (k0 := 236) (x := h 236 8) (nx := 4) (r1 := 11) (r2 := 8) (r3 := 0) rfl rfl (by decide) rfl ⟨rfl, rfl⟩ rfl (u23 236 8 rfl) ?_
    refine wi_if (cd := .ne) (nx := 7) (r1 := 11) (r2 := 0) (r3 := 0) rfl (by omega) (fun (q32 : (h 236 8) ≠ 0) => by exfalso; omega) (fun (q32 : ¬ ((h 236 8) ≠ 0)) => ?_)
    refine wi_iconst (n := 1) (nx := 8) (r1 := 0) (r2 := 0) (r3 := 0) rfl ?_
    refine wi_goto (nx := 11) (r1 := 12) (r2 := 0) (r3 := 0) rfl ?_
    refine wi_zreturn (nx := 13) (r1 := 0) (r2 := 0) (r3 := 0) rfl rfl (by omega) ?_
    refine wk_i ?_
    refine wi_zreturn (nx := 31) (r1 := 0) (r2 := 0) (r3 := 0) rfl rfl (by omega) ?_
    refine wk_i ?_
    refine wi_if (cd := .ne) (nx := 16) (r1 := 17) (r2 := 0) (r3 := 0) rfl (by omega) (fun (q34 : 1 ≠ 0) => ?_) (fun (q34 : ¬ (1 ≠ 0)) => by exfalso; omega)
    refine wi_aload_n (i := 0) (x := 236) (nx := 18) (r1 := 0) (r2 := 0) (r3 := 0) rfl rfl ?_
    refine wr_gr (k0 := 236) (x := 239) (nx := 21) (r1 := 11) (r2 := 14) (r3 := 0) rfl rfl (by decide) rfl ⟨rfl, rfl⟩ rfl ?_
    refine wi_bipush (n := 15) (nx := 23) (r1 := 0) (r2 := 0) (r3 := 0) rfl (by decide) ?_
    refine wi_iload_n (i := 1) (e := 2) (nx := 24) (r1 := 0) (r2 := 0) (r3 := 0) rfl rfl ?_
    refine wr_addL (17) (nx := 25) (r1 := 0) (r2 := 0) (r3 := 0) rfl (by decide) ?_
    refine wi_aload_n (i := 0) (x := 236) (nx := 26) (r1 := 0) (r2 := 0) (r3 := 0) rfl rfl ?_
    refine wi_iconst (n := 1) (nx := 27) (r1 := 0) (r2 := 0) (r3 := 0) rfl ?_
    refine wi_bipush (n := 6) (nx := 29) (r1 := 0) (r2 := 0) (r3 := 0) rfl (by decide) ?_
    refine wr_V (k0 := 236) (rest := [vi 17, .ref 239]) (as := [.ref 236, vi 1, vi 6]) (nx := 32) (r1 := 231) (r2 := 2) (r3 := 11) rfl rfl rfl (of_decide_eq_true rfl) rfl rfl (by decide) rfl rfl (of_decide_eq_true rfl) (of_decide_eq_true rfl) ?_
    have e36 : h23 236 3 = h 236 3 := (u23 236 3 rfl)
    have e37 : h23 236 8 = h 236 8 := (u23 236 8 rfl)
    have rb39 := RefB.fr u23 rfl xq0
    refine ct_231_236 hcr  g23 1 6 (by omega) (by omega) (show (h23 236 4) ≤ (h23 236 3) by omega) (show 0 ≤ (tk_nx tB tn tp) by omega) (show (tk_nx tB tn tp) ≤ tn by omega) (show (tk_nx tB tn tp) ≤ tk_nx tB tn (tk_nx tB tn tp) ∧ tk_nx tB tn (tk_nx tB tn tp) ≤ tn by omega) (show 1 ≤ (h23 236 8) ∨ ((h23 236 4) = tk_nx tB tn (tk_nx tB tn tp) ∧ (h23 236 5) = tk_st tB tn (tk_nx tB tn tp) ∧ TKk tB tn (tk_nx tB tn tp) ((h23 236 6)) ((h23 236 7)) ((h23 236 12))) from (Or.inr (show ((h23 236 4) = tk_nx tB tn (tk_nx tB tn tp) ∧ (h23 236 5) = tk_st tB tn (tk_nx tB tn tp) ∧ TKk tB tn (tk_nx tB tn tp) ((h23 236 6)) ((h23 236 7)) ((h23 236 12))) by first | assumption | exact ⟨by omega, by omega, TKk.mv (by assumption) (by omega) (by omega) (by omega)⟩))) rb39 (fun h35 z38 g35 u35 (fz38 : 0 ≤ z38 ∧ z38 ≤ 999) (p35_0 : (1 ≤ (h23 236 8) ∧ (h35 236 8) = (h23 236 8) ∧ (h35 236 9) = (h23 236 9)) ∨ ((h23 236 8) = 0 ∧ tk_kd tB tn (tk_nx tB tn tp) = 2 ∧ 1 ≤ tk_nb tB tn (tk_nx tB tn tp) ∧ tk_nb tB tn (tk_nx tB tn tp) ≤ 6 ∧ z38 = tk_nb tB tn (tk_nx tB tn tp) ∧ (h35 236 8) = (h23 236 8) ∧ (h35 236 9) = (h23 236 9) ∧ ((h35 236 4) = tk_nx tB tn (tk_nx tB tn (tk_nx tB tn tp)) ∧ (h35 236 5) = tk_st tB tn (tk_nx tB tn (tk_nx tB tn tp)) ∧ TKk tB tn (tk_nx tB tn (tk_nx tB tn tp)) ((h35 236 6)) ((h35 236 7)) ((h35 236 12)))) ∨ ((h23 236 8) = 0 ∧ tk_kd tB tn (tk_nx tB tn tp) ≠ 2 ∧ (h35 236 8) = 1 ∧ (h35 236 9) = tk_st tB tn (tk_nx tB tn tp)) ∨ ((h23 236 8) = 0 ∧ tk_kd tB tn (tk_nx tB tn tp) = 2 ∧ (tk_nb tB tn (tk_nx tB tn tp) < 1 ∨ 6 < tk_nb tB tn (tk_nx tB tn tp)) ∧ (h35 236 8) = 2 ∧ (h35 236 9) = tk_st tB tn (tk_nx tB tn tp))) (p35_1 : (h23 236 4) ≤ (h35 236 4)) (p35_2 : (h35 236 4) ≤ (h23 236 3)) (p35_3 : 1 ≤ (h35 236 8) ∨ (h23 236 8) = 0) (p35_4 : 1 ≤ (h35 236 8) ∨ (1 ≤ z38 ∧ z38 ≤ 6)) (p35_5 : 1 ≤ (h35 236 8) ∨ (h23 236 6) = 2) => ?_)
    have F40 := F24.then (by decide +kernel) u35
    have e41 : h23 236 9 = h 236 9 := (u23 236 9 rfl)
    have b42 := gi_b (lo := 0) (hi := 5) g35 236 8 rfl
    have b43 := gi_b (lo := -2147483648) (hi := 2147483647) g35 236 9 rfl
    have b44 := gi_b (lo := 0) (hi := 800) g35 236 4 rfl
    have b45 := gi_b (lo := 0) (hi := 800) g35 236 5 rfl
    have b46 := gi_b (lo := 0) (hi := 4) g35 236 6 rfl
    have b47 := gi_b (lo := 0) (hi := 999) g35 236 7 rfl
    have b48 := gi_b (lo := -9223372036854775808) (hi := 9223372036854775807) g35 236 12 rfl
    refine wk_i ?_
    rcases p35_0 with p35_0 | p35_0 | p35_0 | p35_0
    ·
      exfalso; omega
    ·
      have tkk49 := (p35_0.2.2.2.2.2.2.2).2.2
      have tN50 := @tk_nx_b tB tn (tk_nx tB tn (tk_nx tB tn tp)) (by omega) (by omega)
      refine wr_is (k0 := 239) (a := 17) (f := 17) (x := z38) (bl := 0) (bh := 999) (nx := 33) (r1 := 0) (r2 := 0) (r3 := 0) rfl (by decide) rfl (by omega) (by omega) (by decide) g35 rfl (by omega) (fun h51 g51 w51 u51 => ?_)
      have F52 := F40.then rfl u51
      refine wi_aload_n (i := 0) (x := 236) (nx := 34) (r1 := 0) (r2 := 0) (r3 := 0) rfl rfl ?_
      refine wr_V (k0 := 236) (rest := []) (as := [.ref 236]) (nx := 37) (r1 := 219) (r2 := 0) (r3 := 11) rfl rfl rfl (of_decide_eq_true rfl) rfl rfl (by decide) rfl rfl (of_decide_eq_true rfl) (of_decide_eq_true rfl) ?_
      refine wi_aload_n (i := 0) (x := 236) (nx := 1) (r1 := 0) (r2 := 0) (r3 := 0) rfl rfl ?_
      refine wr_gi0 (k0 := 236) (x := h35 236 8) (nx := 4) (r1 := 11) (r2 := 8) (r3 := 0) rfl rfl (by decide) rfl ⟨rfl, rfl⟩ rfl (u51 236 8 rfl) ?_
      refine wi_if (cd := .ne) (nx := 7) (r1 := 11) (r2 := 0) (r3 := 0) rfl (by omega) (fun (q53 : (h35 236 8) ≠ 0) => by exfalso; omega) (fun (q53 : ¬ ((h35 236 8) ≠ 0)) => ?_)
      refine wi_iconst (n := 1) (nx := 8) (r1 := 0) (r2 := 0) (r3 := 0) rfl ?_
      refine wi_goto (nx := 11) (r1 := 12) (r2 := 0) (r3 := 0) rfl ?_
      refine wi_zreturn (nx := 13) (r1 := 0) (r2 := 0) (r3 := 0) rfl rfl (by omega) ?_
      refine wk_i ?_
      refine wi_if (cd := .eq) (nx := 40) (r1 := 50) (r2 := 0) (r3 := 0) rfl (by omega) (fun (q55 : 1 = 0) => by exfalso; omega) (fun (q55 : ¬ (1 = 0)) => ?_)
      refine wi_aload_n (i := 0) (x := 236) (nx := 41) (r1 := 0) (r2 := 0) (r3 := 0) rfl rfl ?_
      refine wr_gr (k0 := 236) (x := 239) (nx := 44) (r1 := 11) (r2 := 14) (r3 := 0) rfl rfl (by decide) rfl ⟨rfl, rfl⟩ rfl ?_
      refine wi_iconst (n := 1) (nx := 45) (r1 := 0) (r2 := 0) (r3 := 0) rfl ?_
      refine wi_dup2 (nx := 46) (r1 := 0) (r2 := 0) (r3 := 0) rfl rfl rfl ?_
      refine wr_ia (k0 := 239) (a := 1) (f := 1) (x := 2) (nx := 47) (r1 := 0) (r2 := 0) (r3 := 0) rfl (by decide) rfl (by omega) (by omega) (by decide) ((u51 239 1 rfl).trans ((u35 239 1 rfl).trans ((u23 239 1 rfl).trans q18))) ?_
      refine wi_iconst (n := 1) (nx := 48) (r1 := 0) (r2 := 0) (r3 := 0) rfl ?_
      refine wr_addL (3) (nx := 49) (r1 := 0) (r2 := 0) (r3 := 0) rfl (by decide) ?_
      refine wr_is (k0 := 239) (a := 1) (f := 1) (x := 3) (bl := 0) (bh := 4) (nx := 50) (r1 := 0) (r2 := 0) (r3 := 0) rfl (by decide) rfl (by omega) (by omega) (by decide) g51 rfl (by omega) (fun h56 g56 w56 u56 => ?_)
      have F57 := F52.then rfl u56
      refine wi_return (nx := 51) (r1 := 0) (r2 := 0) (r3 := 0) rfl rfl ?_
      have e58 : h56 236 4 = h35 236 4 := ((u56 236 4 rfl).trans (u51 236 4 rfl))
      have e59 : h56 236 8 = h35 236 8 := ((u56 236 8 rfl).trans (u51 236 8 rfl))
      have e60 : h56 239 5 = h 239 5 := ((u56 239 5 rfl).trans ((u51 239 5 rfl).trans ((u35 239 5 rfl).trans (u23 239 5 rfl))))
      have e61 : h56 239 7 = h 239 7 := ((u56 239 7 rfl).trans ((u51 239 7 rfl).trans ((u35 239 7 rfl).trans (u23 239 7 rfl))))
      have e62 : h56 239 15 = h 239 15 := ((u56 239 15 rfl).trans ((u51 239 15 rfl).trans ((u35 239 15 rfl).trans (u23 239 15 rfl))))
      have e63 : h56 239 16 = h 239 16 := ((u56 239 16 rfl).trans ((u51 239 16 rfl).trans ((u35 239 16 rfl).trans (u23 239 16 rfl))))
      have e64 : h56 239 17 = z38 := ((u56 239 17 rfl).trans w51)
      have e65 : h56 239 18 = h 239 18 := ((u56 239 18 rfl).trans ((u51 239 18 rfl).trans ((u35 239 18 rfl).trans (u23 239 18 rfl))))
      have e66 : h56 236 9 = h35 236 9 := ((u56 236 9 rfl).trans (u51 236 9 rfl))
      have e67 : h56 239 0 = h 239 0 := ((u56 239 0 rfl).trans ((u51 239 0 rfl).trans ((u35 239 0 rfl).trans (u23 239 0 rfl))))
      have e68 : h56 239 1 = 3 := w56
      have e69 : h56 239 2 = h 239 2 := ((u56 239 2 rfl).trans ((u51 239 2 rfl).trans ((u35 239 2 rfl).trans (u23 239 2 rfl))))
      have b70 := gi_b (lo := 0) (hi := 999) g 239 3 rfl
      have e71 : h56 239 3 = h 239 3 := ((u56 239 3 rfl).trans ((u51 239 3 rfl).trans ((u35 239 3 rfl).trans (u23 239 3 rfl))))
      have b72 := gi_b (lo := 0) (hi := 999) g 239 4 rfl
      have e73 : h56 239 4 = h 239 4 := ((u56 239 4 rfl).trans ((u51 239 4 rfl).trans ((u35 239 4 rfl).trans (u23 239 4 rfl))))
      have b74 := gi_b (lo := 0) (hi := 999) g 239 6 rfl
      have e75 : h56 239 6 = h 239 6 := ((u56 239 6 rfl).trans ((u51 239 6 rfl).trans ((u35 239 6 rfl).trans (u23 239 6 rfl))))
      have b76 := gi_b (lo := 0) (hi := 999) g 239 8 rfl
      have e77 : h56 239 8 = h 239 8 := ((u56 239 8 rfl).trans ((u51 239 8 rfl).trans ((u35 239 8 rfl).trans (u23 239 8 rfl))))
      have b78 := gi_b (lo := 0) (hi := 999) g 239 9 rfl
      have e79 : h56 239 9 = h 239 9 := ((u56 239 9 rfl).trans ((u51 239 9 rfl).trans ((u35 239 9 rfl).trans (u23 239 9 rfl))))
      have b80 := gi_b (lo := 0) (hi := 1) g 236 23 rfl
      have e81 : h56 236 23 = h 236 23 := ((u56 236 23 rfl).trans ((u51 236 23 rfl).trans ((u35 236 23 rfl).trans (u23 236 23 rfl))))
      have b82 := gi_b (lo := 0) (hi := 1) g 236 24 rfl
      have e83 : h56 236 24 = h 236 24 := ((u56 236 24 rfl).trans ((u51 236 24 rfl).trans ((u35 236 24 rfl).trans (u23 236 24 rfl))))
      have b84 := gi_b (lo := 0) (hi := 1) g 236 25 rfl
      have e85 : h56 236 25 = h 236 25 := ((u56 236 25 rfl).trans ((u51 236 25 rfl).trans ((u35 236 25 rfl).trans (u23 236 25 rfl))))
      have b86 := gi_b (lo := 0) (hi := 1) g 236 26 rfl
      have e87 : h56 236 26 = h 236 26 := ((u56 236 26 rfl).trans ((u51 236 26 rfl).trans ((u35 236 26 rfl).trans (u23 236 26 rfl))))
      have e88 : h56 236 5 = h35 236 5 := ((u56 236 5 rfl).trans (u51 236 5 rfl))
      have e89 : h56 236 6 = h35 236 6 := ((u56 236 6 rfl).trans (u51 236 6 rfl))
      have e90 : h56 236 7 = h35 236 7 := ((u56 236 7 rfl).trans (u51 236 7 rfl))
      have e91 : h56 236 12 = h35 236 12 := ((u56 236 12 rfl).trans (u51 236 12 rfl))
      exact k h56 g56 F57 (show (h 236 4) ≤ (h56 236 4) by omega) (show (h56 236 4) ≤ (h 236 3) by omega) (show 1 ≤ (h56 236 8) ∨ ((h56 239 5) ≤ 9 ∧ 1 ≤ (h56 239 5) ∧ (h56 239 7) ≤ 3 ∧ (h56 239 15) ≤ 6 ∧ (h56 239 16) ≤ 6 ∧ (h56 239 17) ≤ 6 ∧ (h56 239 18) ≤ 6) by omega) (show (h56 236 8) ≠ 0 ∨ (h56 236 9) = -1 by omega) (by (try clear p35_3 p35_4 p35_5); unfold tk_lane tk_num; (try dsimp only); (repeat (first | rw [if_pos (by omega)] | rw [if_neg (by omega)])); (repeat ((first | unfold tk_num); (try dsimp only); (repeat (first | rw [if_pos (by omega)] | rw [if_neg (by omega)])))); exact tk_ORs (by omega) (by first | assumption | exact ⟨by omega, by omega, TKk.mv (by assumption) (by omega) (by omega) (by omega)⟩) (CVr.lane (c := (h 239 1).toNat) xq1 (by omega) (by omega) (fun i _ _ => ((u56 239 i (fn_i (by omega) fn_0)).trans ((u51 239 i (fn_i (by omega) fn_0)).trans ((u35 239 i (fo_nk rfl)).trans (u23 239 i (fo_nk rfl)))))) (fun i _ _ => ((u56 236 i (fn_a (by omega) fn_0)).trans ((u51 236 i (fn_a (by omega) fn_0)).trans ((u35 236 i (fo_gk (m := 12) (by omega) rfl)).trans (u23 236 i (fo_gk (m := 12) (by omega) rfl)))))) (by rw [show 15 + (h 239 1).toNat = 17 by omega]; exact ((u56 239 17 rfl).trans w51).trans (by omega)) (fun i => ((u56 244 i (fn_a (by omega) fn_0)).trans ((u51 244 i (fn_a (by omega) fn_0)).trans ((u35 244 i (fo_nk rfl)).trans (u23 244 i (fo_nk rfl)))))) (by omega) (by omega) (by omega)))
    ·
      refine wr_is (k0 := 239) (a := 17) (f := 17) (x := z38) (bl := 0) (bh := 999) (nx := 33) (r1 := 0) (r2 := 0) (r3 := 0) rfl (by decide) rfl (by omega) (by omega) (by decide) g35 rfl (by omega) (fun h49 g49 w49 u49 => ?_)
      have F50 := F40.then rfl u49
      refine wi_aload_n (i := 0) (x := 236) (nx := 34) (r1 := 0) (r2 := 0) (r3 := 0) rfl rfl ?_
      refine wr_V (k0 := 236) (rest := []) (as := [.ref 236]) (nx := 37) (r1 := 219) (r2 := 0) (r3 := 11) rfl rfl rfl (of_decide_eq_true rfl) rfl rfl (by decide) rfl rfl (of_decide_eq_true rfl) (of_decide_eq_true rfl) ?_
      refine wi_aload_n (i := 0) (x := 236) (nx := 1) (r1 := 0) (r2 := 0) (r3 := 0) rfl rfl ?_
      refine wr_gi0 (k0 := 236) (x := h35 236 8) (nx := 4) (r1 := 11) (r2 := 8) (r3 := 0) rfl rfl (by decide) rfl ⟨rfl, rfl⟩ rfl (u49 236 8 rfl) ?_
      refine wi_if (cd := .ne) (nx := 7) (r1 := 11) (r2 := 0) (r3 := 0) rfl (by omega) (fun (q51 : (h35 236 8) ≠ 0) => ?_) (fun (q51 : ¬ ((h35 236 8) ≠ 0)) => by exfalso; omega)
      refine wi_iconst (n := 0) (nx := 12) (r1 := 0) (r2 := 0) (r3 := 0) rfl ?_
      refine wi_zreturn (nx := 13) (r1 := 0) (r2 := 0) (r3 := 0) rfl rfl (by omega) ?_
      refine wk_i ?_
      refine wi_if (cd := .eq) (nx := 40) (r1 := 50) (r2 := 0) (r3 := 0) rfl (by omega) (fun (q53 : 0 = 0) => ?_) (fun (q53 : ¬ (0 = 0)) => by exfalso; omega)
      refine wi_return (nx := 51) (r1 := 0) (r2 := 0) (r3 := 0) rfl rfl ?_
      have e54 : h49 236 4 = h35 236 4 := (u49 236 4 rfl)
      have e55 : h49 236 8 = h35 236 8 := (u49 236 8 rfl)
      have e56 : h49 239 5 = h 239 5 := ((u49 239 5 rfl).trans ((u35 239 5 rfl).trans (u23 239 5 rfl)))
      have e57 : h49 239 7 = h 239 7 := ((u49 239 7 rfl).trans ((u35 239 7 rfl).trans (u23 239 7 rfl)))
      have e58 : h49 239 15 = h 239 15 := ((u49 239 15 rfl).trans ((u35 239 15 rfl).trans (u23 239 15 rfl)))
      have e59 : h49 239 16 = h 239 16 := ((u49 239 16 rfl).trans ((u35 239 16 rfl).trans (u23 239 16 rfl)))
      have e60 : h49 239 17 = z38 := w49
      have e61 : h49 239 18 = h 239 18 := ((u49 239 18 rfl).trans ((u35 239 18 rfl).trans (u23 239 18 rfl)))
      have e62 : h49 236 9 = h35 236 9 := (u49 236 9 rfl)
      exact k h49 g49 F50 (show (h 236 4) ≤ (h49 236 4) by omega) (show (h49 236 4) ≤ (h 236 3) by omega) (show 1 ≤ (h49 236 8) ∨ ((h49 239 5) ≤ 9 ∧ 1 ≤ (h49 239 5) ∧ (h49 239 7) ≤ 3 ∧ (h49 239 15) ≤ 6 ∧ (h49 239 16) ≤ 6 ∧ (h49 239 17) ≤ 6 ∧ (h49 239 18) ≤ 6) by omega) (show (h49 236 8) ≠ 0 ∨ (h49 236 9) = -1 by omega) (by (try clear p35_3 p35_4 p35_5); unfold tk_lane tk_num; (try dsimp only); (repeat (first | rw [if_pos (by omega)] | rw [if_neg (by omega)])); (repeat ((first | unfold tk_num); (try dsimp only); (repeat (first | rw [if_pos (by omega)] | rw [if_neg (by omega)])))); first | exact tk_ORe (by omega) (by omega) (by omega) | ((repeat' split) <;> (first | exact tk_ORe (by omega) (by omega) (by omega) | (exfalso; omega))))
    ·
      refine wr_is (k0 := 239) (a := 17) (f := 17) (x := z38) (bl := 0) (bh := 999) (nx := 33) (r1 := 0) (r2 := 0) (r3 := 0) rfl (by decide) rfl (by omega) (by omega) (by decide) g35 rfl (by omega) (fun h49 g49 w49 u49 => ?_)
      have F50 := F40.then rfl u49
      refine wi_aload_n (i := 0) (x := 236) (nx := 34) (r1 := 0) (r2 := 0) (r3 := 0) rfl rfl ?_
      refine wr_V (k0 := 236) (rest := []) (as := [.ref 236]) (nx := 37) (r1 := 219) (r2 := 0) (r3 := 11) rfl rfl rfl (of_decide_eq_true rfl) rfl rfl (by decide) rfl rfl (of_decide_eq_true rfl) (of_decide_eq_true rfl) ?_
      refine wi_aload_n (i := 0) (x := 236) (nx := 1) (r1 := 0) (r2 := 0) (r3 := 0) rfl rfl ?_
      refine wr_gi0 (k0 := 236) (x := h35 236 8) (nx := 4) (r1 := 11) (r2 := 8) (r3 := 0) rfl rfl (by decide) rfl ⟨rfl, rfl⟩ rfl (u49 236 8 rfl) ?_
      refine wi_if (cd := .ne) (nx := 7) (r1 := 11) (r2 := 0) (r3 := 0) rfl (by omega) (fun (q51 : (h35 236 8) ≠ 0) => ?_) (fun (q51 : ¬ ((h35 236 8) ≠ 0)) => by exfalso; omega)
      refine wi_iconst (n := 0) (nx := 12) (r1 := 0) (r2 := 0) (r3 := 0) rfl ?_
      refine wi_zreturn (nx := 13) (r1 := 0) (r2 := 0) (r3 := 0) rfl rfl (by omega) ?_
      refine wk_i ?_
      refine wi_if (cd := .eq) (nx := 40) (r1 := 50) (r2 := 0) (r3 := 0) rfl (by omega) (fun (q53 : 0 = 0) => ?_) (fun (q53 : ¬ (0 = 0)) => by exfalso; omega)
      refine wi_return (nx := 51) (r1 := 0) (r2 := 0) (r3 := 0) rfl rfl ?_
      have e54 : h49 236 4 = h35 236 4 := (u49 236 4 rfl)
      have e55 : h49 236 8 = h35 236 8 := (u49 236 8 rfl)
      have e56 : h49 239 5 = h 239 5 := ((u49 239 5 rfl).trans ((u35 239 5 rfl).trans (u23 239 5 rfl)))
      have e57 : h49 239 7 = h 239 7 := ((u49 239 7 rfl).trans ((u35 239 7 rfl).trans (u23 239 7 rfl)))
      have e58 : h49 239 15 = h 239 15 := ((u49 239 15 rfl).trans ((u35 239 15 rfl).trans (u23 239 15 rfl)))
      have e59 : h49 239 16 = h 239 16 := ((u49 239 16 rfl).trans ((u35 239 16 rfl).trans (u23 239 16 rfl)))
      have e60 : h49 239 17 = z38 := w49
      have e61 : h49 239 18 = h 239 18 := ((u49 239 18 rfl).trans ((u35 239 18 rfl).trans (u23 239 18 rfl)))
      have e62 : h49 236 9 = h35 236 9 := (u49 236 9 rfl)
      exact k h49 g49 F50 (show (h 236 4) ≤ (h49 236 4) by omega) (show (h49 236 4) ≤ (h 236 3) by omega) (show 1 ≤ (h49 236 8) ∨ ((h49 239 5) ≤ 9 ∧ 1 ≤ (h49 239 5) ∧ (h49 239 7) ≤ 3 ∧ (h49 239 15) ≤ 6 ∧ (h49 239 16) ≤ 6 ∧ (h49 239 17) ≤ 6 ∧ (h49 239 18) ≤ 6) by omega) (show (h49 236 8) ≠ 0 ∨ (h49 236 9) = -1 by omega) (by (try clear p35_3 p35_4 p35_5); unfold tk_lane tk_num; (try dsimp only); (repeat (first | rw [if_pos (by omega)] | rw [if_neg (by omega)])); (repeat ((first | unfold tk_num); (try dsimp only); (repeat (first | rw [if_pos (by omega)] | rw [if_neg (by omega)])))); first | exact tk_ORe (by omega) (by omega) (by omega) | ((repeat' split) <;> (first | exact tk_ORe (by omega) (by omega) (by omega) | (exfalso; omega))))
  ·
    refine wr_ia (k0 := 239) (a := 1) (f := 1) (x := 3) (nx := 6) (r1 := 0) (r2 := 0) (r3 := 0) rfl (by decide) rfl (by omega) (by omega) (by decide) q18 ?_
    refine wi_istore_n (i := 1) (e := 3) (lo2 := [(1, vi 3), (0, .ref 236)]) (nx := 7) (r1 := 0) (r2 := 0) (r3 := 0) rfl rfl ?_
    refine wi_aload_n (i := 0) (x := 236) (nx := 8) (r1 := 0) (r2 := 0) (r3 := 0) rfl rfl ?_
    refine wi_iconst (n := 1) (nx := 9) (r1 := 0) (r2 := 0) (r3 := 0) rfl ?_
    refine wi_iconst (n := 4) (nx := 10) (r1 := 0) (r2 := 0) (r3 := 0) rfl ?_
    refine wr_V (k0 := 236) (rest := []) (as := [.ref 236, vi 1, vi 4]) (nx := 13) (r1 := 223) (r2 := 2) (r3 := 11) rfl rfl rfl (of_decide_eq_true rfl) rfl rfl (by decide) rfl rfl (of_decide_eq_true rfl) (of_decide_eq_true rfl) ?_
    refine wi_aload_n (i := 0) (x := 236) (nx := 1) (r1 := 0) (r2 := 0) (r3 := 0) rfl rfl ?_
    refine wr_gr (k0 := 236) (x := 239) (nx := 4) (r1 := 11) (r2 := 14) (r3 := 0) rfl rfl (by decide) rfl ⟨rfl, rfl⟩ rfl ?_
    refine wi_iload_n (i := 1) (e := 1) (nx := 5) (r1 := 0) (r2 := 0) (r3 := 0) rfl rfl ?_
    refine wr_ia (k0 := 239) (a := 1) (f := 1) (x := 3) (nx := 6) (r1 := 0) (r2 := 0) (r3 := 0) rfl (by decide) rfl (by omega) (by omega) (by decide) q18 ?_
    refine wi_iload_n (i := 2) (e := 4) (nx := 7) (r1 := 0) (r2 := 0) (r3 := 0) rfl rfl ?_
    refine wi_icmp (cd := .ne) (nx := 10) (r1 := 15) (r2 := 0) (r3 := 0) rfl (by omega) (by omega) (fun (q19 : 3 ≠ 4) => ?_) (fun (q19 : ¬ (3 ≠ 4)) => by exfalso; omega)
    refine wi_aload_n (i := 0) (x := 236) (nx := 16) (r1 := 0) (r2 := 0) (r3 := 0) rfl rfl ?_
    refine wr_V (k0 := 236) (rest := []) (as := [.ref 236]) (nx := 19) (r1 := 219) (r2 := 0) (r3 := 11) rfl rfl rfl (of_decide_eq_true rfl) rfl rfl (by decide) rfl rfl (of_decide_eq_true rfl) (of_decide_eq_true rfl) ?_
    refine wi_aload_n (i := 0) (x := 236) (nx := 1) (r1 := 0) (r2 := 0) (r3 := 0) rfl rfl ?_
    refine wr_gi0 (k0 := 236) (x := h 236 8) (nx := 4) (r1 := 11) (r2 := 8) (r3 := 0) rfl rfl (by decide) rfl ⟨rfl, rfl⟩ rfl rfl ?_
    refine wi_if (cd := .ne) (nx := 7) (r1 := 11) (r2 := 0) (r3 := 0) rfl (by omega) (fun (q20 : (h 236 8) ≠ 0) => by exfalso; omega) (fun (q20 : ¬ ((h 236 8) ≠ 0)) => ?_)
    refine wi_iconst (n := 1) (nx := 8) (r1 := 0) (r2 := 0) (r3 := 0) rfl ?_
    refine wi_goto (nx := 11) (r1 := 12) (r2 := 0) (r3 := 0) rfl ?_
    refine wi_zreturn (nx := 13) (r1 := 0) (r2 := 0) (r3 := 0) rfl rfl (by omega) ?_
    refine wk_i ?_
    refine wi_if (cd := .eq) (nx := 22) (r1 := 26) (r2 := 0) (r3 := 0) rfl (by omega) (fun (q22 : 1 = 0) => by exfalso; omega) (fun (q22 : ¬ (1 = 0)) => ?_)
    refine wi_aload_n (i := 0) (x := 236) (nx := 23) (r1 := 0) (r2 := 0) (r3 := 0) rfl rfl ?_
    refine wr_V (k0 := 236) (rest := []) (as := [.ref 236]) (nx := 26) (r1 := 215) (r2 := 0) (r3 := 11) rfl rfl rfl (of_decide_eq_true rfl) rfl rfl (by decide) rfl rfl (of_decide_eq_true rfl) (of_decide_eq_true rfl) ?_
    refine ct_215_236 hcr  g   (show (h 236 4) ≤ (h 236 3) by omega) (show (h 236 4) = (tk_nx tB tn tp) by omega) (show 0 ≤ (tk_nx tB tn tp) by omega) (show (tk_nx tB tn tp) ≤ tn by omega) xq0 (fun h23 g23 u23 (p23_0 : (h 236 4) ≤ (h23 236 4)) (p23_1 : (h23 236 4) ≤ (h 236 3)) (p23_2 : ((h23 236 4) = tk_nx tB tn (tk_nx tB tn tp) ∧ (h23 236 5) = tk_st tB tn (tk_nx tB tn tp) ∧ TKk tB tn (tk_nx tB tn tp) ((h23 236 6)) ((h23 236 7)) ((h23 236 12)))) (p23_3 : (tk_nx tB tn tp) ≤ tk_nx tB tn (tk_nx tB tn tp) ∧ tk_nx tB tn (tk_nx tB tn tp) ≤ tn) => ?_)
    have F24 := F0.then (by decide +kernel) u23
    have b25 := gi_b (lo := 0) (hi := 800) g23 236 4 rfl
    have b26 := gi_b (lo := 0) (hi := 800) g23 236 5 rfl
    have b27 := gi_b (lo := 0) (hi := 4) g23 236 6 rfl
    have b28 := gi_b (lo := 0) (hi := 999) g23 236 7 rfl
    have b29 := gi_b (lo := -9223372036854775808) (hi := 9223372036854775807) g23 236 12 rfl
    have tkk30 := p23_2.2.2
    have tN31 := @tk_nx_b tB tn (tk_nx tB tn tp) (by omega) (by omega)
    refine wk_n ?_
    refine wi_aload_n (i := 0) (x := 236) (nx := 27) (r1 := 0) (r2 := 0) (r3 := 0) rfl rfl ?_
    refine wr_V (k0 := 236) (rest := []) (as := [.ref 236]) (nx := 30) (r1 := 219) (r2 := 0) (r3 := 11) rfl rfl rfl (of_decide_eq_true rfl) rfl rfl (by decide) rfl rfl (of_decide_eq_true rfl) (of_decide_eq_true rfl) ?_
    refine wi_aload_n (i := 0) (x := 236) (nx := 1) (r1 := 0) (r2 := 0) (r3 := 0) rfl rfl ?_
    refine wr_gi0 (k0 := 236) (x := h 236 8) (nx := 4) (r1 := 11) (r2 := 8) (r3 := 0) rfl rfl (by decide) rfl ⟨rfl, rfl⟩ rfl (u23 236 8 rfl) ?_
    refine wi_if (cd := .ne) (nx := 7) (r1 := 11) (r2 := 0) (r3 := 0) rfl (by omega) (fun (q32 : (h 236 8) ≠ 0) => by exfalso; omega) (fun (q32 : ¬ ((h 236 8) ≠ 0)) => ?_)
    refine wi_iconst (n := 1) (nx := 8) (r1 := 0) (r2 := 0) (r3 := 0) rfl ?_
    refine wi_goto (nx := 11) (r1 := 12) (r2 := 0) (r3 := 0) rfl ?_
    refine wi_zreturn (nx := 13) (r1 := 0) (r2 := 0) (r3 := 0) rfl rfl (by omega) ?_
    refine wk_i ?_
    refine wi_zreturn (nx := 31) (r1 := 0) (r2 := 0) (r3 := 0) rfl rfl (by omega) ?_
    refine wk_i ?_
    refine wi_if (cd := .ne) (nx := 16) (r1 := 17) (r2 := 0) (r3 := 0) rfl (by omega) (fun (q34 : 1 ≠ 0) => ?_) (fun (q34 : ¬ (1 ≠ 0)) => by exfalso; omega)
    refine wi_aload_n (i := 0) (x := 236) (nx := 18) (r1 := 0) (r2 := 0) (r3 := 0) rfl rfl ?_
    refine wr_gr (k0 := 236) (x := 239) (nx := 21) (r1 := 11) (r2 := 14) (r3 := 0) rfl rfl (by decide) rfl ⟨rfl, rfl⟩ rfl ?_
    refine wi_bipush (n := 15) (nx := 23) (r1 := 0) (r2 := 0) (r3 := 0) rfl (by decide) ?_
    refine wi_iload_n (i := 1) (e := 3) (nx := 24) (r1 := 0) (r2 := 0) (r3 := 0) rfl rfl ?_
    refine wr_addL (18) (nx := 25) (r1 := 0) (r2 := 0) (r3 := 0) rfl (by decide) ?_
    refine wi_aload_n (i := 0) (x := 236) (nx := 26) (r1 := 0) (r2 := 0) (r3 := 0) rfl rfl ?_
    refine wi_iconst (n := 1) (nx := 27) (r1 := 0) (r2 := 0) (r3 := 0) rfl ?_
    refine wi_bipush (n := 6) (nx := 29) (r1 := 0) (r2 := 0) (r3 := 0) rfl (by decide) ?_
    refine wr_V (k0 := 236) (rest := [vi 18, .ref 239]) (as := [.ref 236, vi 1, vi 6]) (nx := 32) (r1 := 231) (r2 := 2) (r3 := 11) rfl rfl rfl (of_decide_eq_true rfl) rfl rfl (by decide) rfl rfl (of_decide_eq_true rfl) (of_decide_eq_true rfl) ?_
    have e36 : h23 236 3 = h 236 3 := (u23 236 3 rfl)
    have e37 : h23 236 8 = h 236 8 := (u23 236 8 rfl)
    have rb39 := RefB.fr u23 rfl xq0
    refine ct_231_236 hcr  g23 1 6 (by omega) (by omega) (show (h23 236 4) ≤ (h23 236 3) by omega) (show 0 ≤ (tk_nx tB tn tp) by omega) (show (tk_nx tB tn tp) ≤ tn by omega) (show (tk_nx tB tn tp) ≤ tk_nx tB tn (tk_nx tB tn tp) ∧ tk_nx tB tn (tk_nx tB tn tp) ≤ tn by omega) (show 1 ≤ (h23 236 8) ∨ ((h23 236 4) = tk_nx tB tn (tk_nx tB tn tp) ∧ (h23 236 5) = tk_st tB tn (tk_nx tB tn tp) ∧ TKk tB tn (tk_nx tB tn tp) ((h23 236 6)) ((h23 236 7)) ((h23 236 12))) from (Or.inr (show ((h23 236 4) = tk_nx tB tn (tk_nx tB tn tp) ∧ (h23 236 5) = tk_st tB tn (tk_nx tB tn tp) ∧ TKk tB tn (tk_nx tB tn tp) ((h23 236 6)) ((h23 236 7)) ((h23 236 12))) by first | assumption | exact ⟨by omega, by omega, TKk.mv (by assumption) (by omega) (by omega) (by omega)⟩))) rb39 (fun h35 z38 g35 u35 (fz38 : 0 ≤ z38 ∧ z38 ≤ 999) (p35_0 : (1 ≤ (h23 236 8) ∧ (h35 236 8) = (h23 236 8) ∧ (h35 236 9) = (h23 236 9)) ∨ ((h23 236 8) = 0 ∧ tk_kd tB tn (tk_nx tB tn tp) = 2 ∧ 1 ≤ tk_nb tB tn (tk_nx tB tn tp) ∧ tk_nb tB tn (tk_nx tB tn tp) ≤ 6 ∧ z38 = tk_nb tB tn (tk_nx tB tn tp) ∧ (h35 236 8) = (h23 236 8) ∧ (h35 236 9) = (h23 236 9) ∧ ((h35 236 4) = tk_nx tB tn (tk_nx tB tn (tk_nx tB tn tp)) ∧ (h35 236 5) = tk_st tB tn (tk_nx tB tn (tk_nx tB tn tp)) ∧ TKk tB tn (tk_nx tB tn (tk_nx tB tn tp)) ((h35 236 6)) ((h35 236 7)) ((h35 236 12)))) ∨ ((h23 236 8) = 0 ∧ tk_kd tB tn (tk_nx tB tn tp) ≠ 2 ∧ (h35 236 8) = 1 ∧ (h35 236 9) = tk_st tB tn (tk_nx tB tn tp)) ∨ ((h23 236 8) = 0 ∧ tk_kd tB tn (tk_nx tB tn tp) = 2 ∧ (tk_nb tB tn (tk_nx tB tn tp) < 1 ∨ 6 < tk_nb tB tn (tk_nx tB tn tp)) ∧ (h35 236 8) = 2 ∧ (h35 236 9) = tk_st tB tn (tk_nx tB tn tp))) (p35_1 : (h23 236 4) ≤ (h35 236 4)) (p35_2 : (h35 236 4) ≤ (h23 236 3)) (p35_3 : 1 ≤ (h35 236 8) ∨ (h23 236 8) = 0) (p35_4 : 1 ≤ (h35 236 8) ∨ (1 ≤ z38 ∧ z38 ≤ 6)) (p35_5 : 1 ≤ (h35 236 8) ∨ (h23 236 6) = 2) => ?_)
    have F40 := F24.then (by decide +kernel) u35
    have e41 : h23 236 9 = h 236 9 := (u23 236 9 rfl)
    have b42 := gi_b (lo := 0) (hi := 5) g35 236 8 rfl
    have b43 := gi_b (lo := -2147483648) (hi := 2147483647) g35 236 9 rfl
    have b44 := gi_b (lo := 0) (hi := 800) g35 236 4 rfl
    have b45 := gi_b (lo := 0) (hi := 800) g35 236 5 rfl
    have b46 := gi_b (lo := 0) (hi := 4) g35 236 6 rfl
    have b47 := gi_b (lo := 0) (hi := 999) g35 236 7 rfl
    have b48 := gi_b (lo := -9223372036854775808) (hi := 9223372036854775807) g35 236 12 rfl
    refine wk_i ?_
    rcases p35_0 with p35_0 | p35_0 | p35_0 | p35_0
    ·
      exfalso; omega
    ·
      have tkk49 := (p35_0.2.2.2.2.2.2.2).2.2
      have tN50 := @tk_nx_b tB tn (tk_nx tB tn (tk_nx tB tn tp)) (by omega) (by omega)
      refine wr_is (k0 := 239) (a := 18) (f := 18) (x := z38) (bl := 0) (bh := 999) (nx := 33) (r1 := 0) (r2 := 0) (r3 := 0) rfl (by decide) rfl (by omega) (by omega) (by decide) g35 rfl (by omega) (fun h51 g51 w51 u51 => ?_)
      have F52 := F40.then rfl u51
      refine wi_aload_n (i := 0) (x := 236) (nx := 34) (r1 := 0) (r2 := 0) (r3 := 0) rfl rfl ?_
      refine wr_V (k0 := 236) (rest := []) (as := [.ref 236]) (nx := 37) (r1 := 219) (r2 := 0) (r3 := 11) rfl rfl rfl (of_decide_eq_true rfl) rfl rfl (by decide) rfl rfl (of_decide_eq_true rfl) (of_decide_eq_true rfl) ?_
      refine wi_aload_n (i := 0) (x := 236) (nx := 1) (r1 := 0) (r2 := 0) (r3 := 0) rfl rfl ?_
      refine wr_gi0 (k0 := 236) (x := h35 236 8) (nx := 4) (r1 := 11) (r2 := 8) (r3 := 0) rfl rfl (by decide) rfl ⟨rfl, rfl⟩ rfl (u51 236 8 rfl) ?_
      refine wi_if (cd := .ne) (nx := 7) (r1 := 11) (r2 := 0) (r3 := 0) rfl (by omega) (fun (q53 : (h35 236 8) ≠ 0) => by exfalso; omega) (fun (q53 : ¬ ((h35 236 8) ≠ 0)) => ?_)
      refine wi_iconst (n := 1) (nx := 8) (r1 := 0) (r2 := 0) (r3 := 0) rfl ?_
      refine wi_goto (nx := 11) (r1 := 12) (r2 := 0) (r3 := 0) rfl ?_
      refine wi_zreturn (nx := 13) (r1 := 0) (r2 := 0) (r3 := 0) rfl rfl (by omega) ?_
      refine wk_i ?_
      refine wi_if (cd := .eq) (nx := 40) (r1 := 50) (r2 := 0) (r3 := 0) rfl (by omega) (fun (q55 : 1 = 0) => by exfalso; omega) (fun (q55 : ¬ (1 = 0)) => ?_)
      refine wi_aload_n (i := 0) (x := 236) (nx := 41) (r1 := 0) (r2 := 0) (r3 := 0) rfl rfl ?_
      refine wr_gr (k0 := 236) (x := 239) (nx := 44) (r1 := 11) (r2 := 14) (r3 := 0) rfl rfl (by decide) rfl ⟨rfl, rfl⟩ rfl ?_
      refine wi_iconst (n := 1) (nx := 45) (r1 := 0) (r2 := 0) (r3 := 0) rfl ?_
      refine wi_dup2 (nx := 46) (r1 := 0) (r2 := 0) (r3 := 0) rfl rfl rfl ?_
      refine wr_ia (k0 := 239) (a := 1) (f := 1) (x := 3) (nx := 47) (r1 := 0) (r2 := 0) (r3 := 0) rfl (by decide) rfl (by omega) (by omega) (by decide) ((u51 239 1 rfl).trans ((u35 239 1 rfl).trans ((u23 239 1 rfl).trans q18))) ?_
      refine wi_iconst (n := 1) (nx := 48) (r1 := 0) (r2 := 0) (r3 := 0) rfl ?_
      refine wr_addL (4) (nx := 49) (r1 := 0) (r2 := 0) (r3 := 0) rfl (by decide) ?_
      refine wr_is (k0 := 239) (a := 1) (f := 1) (x := 4) (bl := 0) (bh := 4) (nx := 50) (r1 := 0) (r2 := 0) (r3 := 0) rfl (by decide) rfl (by omega) (by omega) (by decide) g51 rfl (by omega) (fun h56 g56 w56 u56 => ?_)
      have F57 := F52.then rfl u56
      refine wi_return (nx := 51) (r1 := 0) (r2 := 0) (r3 := 0) rfl rfl ?_
      have e58 : h56 236 4 = h35 236 4 := ((u56 236 4 rfl).trans (u51 236 4 rfl))
      have e59 : h56 236 8 = h35 236 8 := ((u56 236 8 rfl).trans (u51 236 8 rfl))
      have e60 : h56 239 5 = h 239 5 := ((u56 239 5 rfl).trans ((u51 239 5 rfl).trans ((u35 239 5 rfl).trans (u23 239 5 rfl))))
      have e61 : h56 239 7 = h 239 7 := ((u56 239 7 rfl).trans ((u51 239 7 rfl).trans ((u35 239 7 rfl).trans (u23 239 7 rfl))))
      have e62 : h56 239 15 = h 239 15 := ((u56 239 15 rfl).trans ((u51 239 15 rfl).trans ((u35 239 15 rfl).trans (u23 239 15 rfl))))
      have e63 : h56 239 16 = h 239 16 := ((u56 239 16 rfl).trans ((u51 239 16 rfl).trans ((u35 239 16 rfl).trans (u23 239 16 rfl))))
      have e64 : h56 239 17 = h 239 17 := ((u56 239 17 rfl).trans ((u51 239 17 rfl).trans ((u35 239 17 rfl).trans (u23 239 17 rfl))))
      have e65 : h56 239 18 = z38 := ((u56 239 18 rfl).trans w51)
      have e66 : h56 236 9 = h35 236 9 := ((u56 236 9 rfl).trans (u51 236 9 rfl))
      have e67 : h56 239 0 = h 239 0 := ((u56 239 0 rfl).trans ((u51 239 0 rfl).trans ((u35 239 0 rfl).trans (u23 239 0 rfl))))
      have e68 : h56 239 1 = 4 := w56
      have e69 : h56 239 2 = h 239 2 := ((u56 239 2 rfl).trans ((u51 239 2 rfl).trans ((u35 239 2 rfl).trans (u23 239 2 rfl))))
      have b70 := gi_b (lo := 0) (hi := 999) g 239 3 rfl
      have e71 : h56 239 3 = h 239 3 := ((u56 239 3 rfl).trans ((u51 239 3 rfl).trans ((u35 239 3 rfl).trans (u23 239 3 rfl))))
      have b72 := gi_b (lo := 0) (hi := 999) g 239 4 rfl
      have e73 : h56 239 4 = h 239 4 := ((u56 239 4 rfl).trans ((u51 239 4 rfl).trans ((u35 239 4 rfl).trans (u23 239 4 rfl))))
      have b74 := gi_b (lo := 0) (hi := 999) g 239 6 rfl
      have e75 : h56 239 6 = h 239 6 := ((u56 239 6 rfl).trans ((u51 239 6 rfl).trans ((u35 239 6 rfl).trans (u23 239 6 rfl))))
      have b76 := gi_b (lo := 0) (hi := 999) g 239 8 rfl
      have e77 : h56 239 8 = h 239 8 := ((u56 239 8 rfl).trans ((u51 239 8 rfl).trans ((u35 239 8 rfl).trans (u23 239 8 rfl))))
      have b78 := gi_b (lo := 0) (hi := 999) g 239 9 rfl
      have e79 : h56 239 9 = h 239 9 := ((u56 239 9 rfl).trans ((u51 239 9 rfl).trans ((u35 239 9 rfl).trans (u23 239 9 rfl))))
      have b80 := gi_b (lo := 0) (hi := 1) g 236 23 rfl
      have e81 : h56 236 23 = h 236 23 := ((u56 236 23 rfl).trans ((u51 236 23 rfl).trans ((u35 236 23 rfl).trans (u23 236 23 rfl))))
      have b82 := gi_b (lo := 0) (hi := 1) g 236 24 rfl
      have e83 : h56 236 24 = h 236 24 := ((u56 236 24 rfl).trans ((u51 236 24 rfl).trans ((u35 236 24 rfl).trans (u23 236 24 rfl))))
      have b84 := gi_b (lo := 0) (hi := 1) g 236 25 rfl
      have e85 : h56 236 25 = h 236 25 := ((u56 236 25 rfl).trans ((u51 236 25 rfl).trans ((u35 236 25 rfl).trans (u23 236 25 rfl))))
      have b86 := gi_b (lo := 0) (hi := 1) g 236 26 rfl
      have e87 : h56 236 26 = h 236 26 := ((u56 236 26 rfl).trans ((u51 236 26 rfl).trans ((u35 236 26 rfl).trans (u23 236 26 rfl))))
      have e88 : h56 236 5 = h35 236 5 := ((u56 236 5 rfl).trans (u51 236 5 rfl))
      have e89 : h56 236 6 = h35 236 6 := ((u56 236 6 rfl).trans (u51 236 6 rfl))
      have e90 : h56 236 7 = h35 236 7 := ((u56 236 7 rfl).trans (u51 236 7 rfl))
      have e91 : h56 236 12 = h35 236 12 := ((u56 236 12 rfl).trans (u51 236 12 rfl))
      exact k h56 g56 F57 (show (h 236 4) ≤ (h56 236 4) by omega) (show (h56 236 4) ≤ (h 236 3) by omega) (show 1 ≤ (h56 236 8) ∨ ((h56 239 5) ≤ 9 ∧ 1 ≤ (h56 239 5) ∧ (h56 239 7) ≤ 3 ∧ (h56 239 15) ≤ 6 ∧ (h56 239 16) ≤ 6 ∧ (h56 239 17) ≤ 6 ∧ (h56 239 18) ≤ 6) by omega) (show (h56 236 8) ≠ 0 ∨ (h56 236 9) = -1 by omega) (by (try clear p35_3 p35_4 p35_5); unfold tk_lane tk_num; (try dsimp only); (repeat (first | rw [if_pos (by omega)] | rw [if_neg (by omega)])); (repeat ((first | unfold tk_num); (try dsimp only); (repeat (first | rw [if_pos (by omega)] | rw [if_neg (by omega)])))); exact tk_ORs (by omega) (by first | assumption | exact ⟨by omega, by omega, TKk.mv (by assumption) (by omega) (by omega) (by omega)⟩) (CVr.lane (c := (h 239 1).toNat) xq1 (by omega) (by omega) (fun i _ _ => ((u56 239 i (fn_i (by omega) fn_0)).trans ((u51 239 i (fn_i (by omega) fn_0)).trans ((u35 239 i (fo_nk rfl)).trans (u23 239 i (fo_nk rfl)))))) (fun i _ _ => ((u56 236 i (fn_a (by omega) fn_0)).trans ((u51 236 i (fn_a (by omega) fn_0)).trans ((u35 236 i (fo_gk (m := 12) (by omega) rfl)).trans (u23 236 i (fo_gk (m := 12) (by omega) rfl)))))) (by rw [show 15 + (h 239 1).toNat = 18 by omega]; exact ((u56 239 18 rfl).trans w51).trans (by omega)) (fun i => ((u56 244 i (fn_a (by omega) fn_0)).trans ((u51 244 i (fn_a (by omega) fn_0)).trans ((u35 244 i (fo_nk rfl)).trans (u23 244 i (fo_nk rfl)))))) (by omega) (by omega) (by omega)))
    ·
      refine wr_is (k0 := 239) (a := 18) (f := 18) (x := z38) (bl := 0) (bh := 999) (nx := 33) (r1 := 0) (r2 := 0) (r3 := 0) rfl (by decide) rfl (by omega) (by omega) (by decide) g35 rfl (by omega) (fun h49 g49 w49 u49 => ?_)
      have F50 := F40.then rfl u49
      refine wi_aload_n (i := 0) (x := 236) (nx := 34) (r1 := 0) (r2 := 0) (r3 := 0) rfl rfl ?_
      refine wr_V (k0 := 236) (rest := []) (as := [.ref 236]) (nx := 37) (r1 := 219) (r2 := 0) (r3 := 11) rfl rfl rfl (of_decide_eq_true rfl) rfl rfl (by decide) rfl rfl (of_decide_eq_true rfl) (of_decide_eq_true rfl) ?_
      refine wi_aload_n (i := 0) (x := 236) (nx := 1) (r1 := 0) (r2 := 0) (r3 := 0) rfl rfl ?_
      refine wr_gi0 (k0 := 236) (x := h35 236 8) (nx := 4) (r1 := 11) (r2 := 8) (r3 := 0) rfl rfl (by decide) rfl ⟨rfl, rfl⟩ rfl (u49 236 8 rfl) ?_
      refine wi_if (cd := .ne) (nx := 7) (r1 := 11) (r2 := 0) (r3 := 0) rfl (by omega) (fun (q51 : (h35 236 8) ≠ 0) => ?_) (fun (q51 : ¬ ((h35 236 8) ≠ 0)) => by exfalso; omega)
      refine wi_iconst (n := 0) (nx := 12) (r1 := 0) (r2 := 0) (r3 := 0) rfl ?_
      refine wi_zreturn (nx := 13) (r1 := 0) (r2 := 0) (r3 := 0) rfl rfl (by omega) ?_
      refine wk_i ?_
      refine wi_if (cd := .eq) (nx := 40) (r1 := 50) (r2 := 0) (r3 := 0) rfl (by omega) (fun (q53 : 0 = 0) => ?_) (fun (q53 : ¬ (0 = 0)) => by exfalso; omega)
      refine wi_return (nx := 51) (r1 := 0) (r2 := 0) (r3 := 0) rfl rfl ?_
      have e54 : h49 236 4 = h35 236 4 := (u49 236 4 rfl)
      have e55 : h49 236 8 = h35 236 8 := (u49 236 8 rfl)
      have e56 : h49 239 5 = h 239 5 := ((u49 239 5 rfl).trans ((u35 239 5 rfl).trans (u23 239 5 rfl)))
      have e57 : h49 239 7 = h 239 7 := ((u49 239 7 rfl).trans ((u35 239 7 rfl).trans (u23 239 7 rfl)))
      have e58 : h49 239 15 = h 239 15 := ((u49 239 15 rfl).trans ((u35 239 15 rfl).trans (u23 239 15 rfl)))
      have e59 : h49 239 16 = h 239 16 := ((u49 239 16 rfl).trans ((u35 239 16 rfl).trans (u23 239 16 rfl)))
      have e60 : h49 239 17 = h 239 17 := ((u49 239 17 rfl).trans ((u35 239 17 rfl).trans (u23 239 17 rfl)))
      have e61 : h49 239 18 = z38 := w49
      have e62 : h49 236 9 = h35 236 9 := (u49 236 9 rfl)
      exact k h49 g49 F50 (show (h 236 4) ≤ (h49 236 4) by omega) (show (h49 236 4) ≤ (h 236 3) by omega) (show 1 ≤ (h49 236 8) ∨ ((h49 239 5) ≤ 9 ∧ 1 ≤ (h49 239 5) ∧ (h49 239 7) ≤ 3 ∧ (h49 239 15) ≤ 6 ∧ (h49 239 16) ≤ 6 ∧ (h49 239 17) ≤ 6 ∧ (h49 239 18) ≤ 6) by omega) (show (h49 236 8) ≠ 0 ∨ (h49 236 9) = -1 by omega) (by (try clear p35_3 p35_4 p35_5); unfold tk_lane tk_num; (try dsimp only); (repeat (first | rw [if_pos (by omega)] | rw [if_neg (by omega)])); (repeat ((first | unfold tk_num); (try dsimp only); (repeat (first | rw [if_pos (by omega)] | rw [if_neg (by omega)])))); first | exact tk_ORe (by omega) (by omega) (by omega) | ((repeat' split) <;> (first | exact tk_ORe (by omega) (by omega) (by omega) | (exfalso; omega))))
    ·
      refine wr_is (k0 := 239) (a := 18) (f := 18) (x := z38) (bl := 0) (bh := 999) (nx := 33) (r1 := 0) (r2 := 0) (r3 := 0) rfl (by decide) rfl (by omega) (by omega) (by decide) g35 rfl (by omega) (fun h49 g49 w49 u49 => ?_)
      have F50 := F40.then rfl u49
      refine wi_aload_n (i := 0) (x := 236) (nx := 34) (r1 := 0) (r2 := 0) (r3 := 0) rfl rfl ?_
      refine wr_V (k0 := 236) (rest := []) (as := [.ref 236]) (nx := 37) (r1 := 219) (r2 := 0) (r3 := 11) rfl rfl rfl (of_decide_eq_true rfl) rfl rfl (by decide) rfl rfl (of_decide_eq_true rfl) (of_decide_eq_true rfl) ?_
      refine wi_aload_n (i := 0) (x := 236) (nx := 1) (r1 := 0) (r2 := 0) (r3 := 0) rfl rfl ?_
      refine wr_gi0 (k0 := 236) (x := h35 236 8) (nx := 4) (r1 := 11) (r2 := 8) (r3 := 0) rfl rfl (by decide) rfl ⟨rfl, rfl⟩ rfl (u49 236 8 rfl) ?_
      refine wi_if (cd := .ne) (nx := 7) (r1 := 11) (r2 := 0) (r3 := 0) rfl (by omega) (fun (q51 : (h35 236 8) ≠ 0) => ?_) (fun (q51 : ¬ ((h35 236 8) ≠ 0)) => by exfalso; omega)
      refine wi_iconst (n := 0) (nx := 12) (r1 := 0) (r2 := 0) (r3 := 0) rfl ?_
      refine wi_zreturn (nx := 13) (r1 := 0) (r2 := 0) (r3 := 0) rfl rfl (by omega) ?_
      refine wk_i ?_
      refine wi_if (cd := .eq) (nx := 40) (r1 := 50) (r2 := 0) (r3 := 0) rfl (by omega) (fun (q53 : 0 = 0) => ?_) (fun (q53 : ¬ (0 = 0)) => by exfalso; omega)
      refine wi_return (nx := 51) (r1 := 0) (r2 := 0) (r3 := 0) rfl rfl ?_
      have e54 : h49 236 4 = h35 236 4 := (u49 236 4 rfl)
      have e55 : h49 236 8 = h35 236 8 := (u49 236 8 rfl)
      have e56 : h49 239 5 = h 239 5 := ((u49 239 5 rfl).trans ((u35 239 5 rfl).trans (u23 239 5 rfl)))
      have e57 : h49 239 7 = h 239 7 := ((u49 239 7 rfl).trans ((u35 239 7 rfl).trans (u23 239 7 rfl)))
      have e58 : h49 239 15 = h 239 15 := ((u49 239 15 rfl).trans ((u35 239 15 rfl).trans (u23 239 15 rfl)))
      have e59 : h49 239 16 = h 239 16 := ((u49 239 16 rfl).trans ((u35 239 16 rfl).trans (u23 239 16 rfl)))
      have e60 : h49 239 17 = h 239 17 := ((u49 239 17 rfl).trans ((u35 239 17 rfl).trans (u23 239 17 rfl)))
      have e61 : h49 239 18 = z38 := w49
      have e62 : h49 236 9 = h35 236 9 := (u49 236 9 rfl)
      exact k h49 g49 F50 (show (h 236 4) ≤ (h49 236 4) by omega) (show (h49 236 4) ≤ (h 236 3) by omega) (show 1 ≤ (h49 236 8) ∨ ((h49 239 5) ≤ 9 ∧ 1 ≤ (h49 239 5) ∧ (h49 239 7) ≤ 3 ∧ (h49 239 15) ≤ 6 ∧ (h49 239 16) ≤ 6 ∧ (h49 239 17) ≤ 6 ∧ (h49 239 18) ≤ 6) by omega) (show (h49 236 8) ≠ 0 ∨ (h49 236 9) = -1 by omega) (by (try clear p35_3 p35_4 p35_5); unfold tk_lane tk_num; (try dsimp only); (repeat (first | rw [if_pos (by omega)] | rw [if_neg (by omega)])); (repeat ((first | unfold tk_num); (try dsimp only); (repeat (first | rw [if_pos (by omega)] | rw [if_neg (by omega)])))); first | exact tk_ORe (by omega) (by omega) (by omega) | ((repeat' split) <;> (first | exact tk_ORe (by omega) (by omega) (by omega) | (exfalso; omega))))
  ·
    refine wr_ia (k0 := 239) (a := 1) (f := 1) (x := 4) (nx := 6) (r1 := 0) (r2 := 0) (r3 := 0) rfl (by decide) rfl (by omega) (by omega) (by decide) q18 ?_
    refine wi_istore_n (i := 1) (e := 4) (lo2 := [(1, vi 4), (0, .ref 236)]) (nx := 7) (r1 := 0) (r2 := 0) (r3 := 0) rfl rfl ?_
    refine wi_aload_n (i := 0) (x := 236) (nx := 8) (r1 := 0) (r2 := 0) (r3 := 0) rfl rfl ?_
    refine wi_iconst (n := 1) (nx := 9) (r1 := 0) (r2 := 0) (r3 := 0) rfl ?_
    refine wi_iconst (n := 4) (nx := 10) (r1 := 0) (r2 := 0) (r3 := 0) rfl ?_
    refine wr_V (k0 := 236) (rest := []) (as := [.ref 236, vi 1, vi 4]) (nx := 13) (r1 := 223) (r2 := 2) (r3 := 11) rfl rfl rfl (of_decide_eq_true rfl) rfl rfl (by decide) rfl rfl (of_decide_eq_true rfl) (of_decide_eq_true rfl) ?_
    refine wi_aload_n (i := 0) (x := 236) (nx := 1) (r1 := 0) (r2 := 0) (r3 := 0) rfl rfl ?_
    refine wr_gr (k0 := 236) (x := 239) (nx := 4) (r1 := 11) (r2 := 14) (r3 := 0) rfl rfl (by decide) rfl ⟨rfl, rfl⟩ rfl ?_
    refine wi_iload_n (i := 1) (e := 1) (nx := 5) (r1 := 0) (r2 := 0) (r3 := 0) rfl rfl ?_
    refine wr_ia (k0 := 239) (a := 1) (f := 1) (x := 4) (nx := 6) (r1 := 0) (r2 := 0) (r3 := 0) rfl (by decide) rfl (by omega) (by omega) (by decide) q18 ?_
    refine wi_iload_n (i := 2) (e := 4) (nx := 7) (r1 := 0) (r2 := 0) (r3 := 0) rfl rfl ?_
    refine wi_icmp (cd := .ne) (nx := 10) (r1 := 15) (r2 := 0) (r3 := 0) rfl (by omega) (by omega) (fun (q19 : 4 ≠ 4) => by exfalso; omega) (fun (q19 : ¬ (4 ≠ 4)) => ?_)
    refine wi_aload_n (i := 0) (x := 236) (nx := 11) (r1 := 0) (r2 := 0) (r3 := 0) rfl rfl ?_
    refine wi_iconst (n := 5) (nx := 12) (r1 := 0) (r2 := 0) (r3 := 0) rfl ?_
    refine wr_V (k0 := 236) (rest := []) (as := [.ref 236, vi 5]) (nx := 15) (r1 := 224) (r2 := 1) (r3 := 11) rfl rfl rfl (of_decide_eq_true rfl) rfl rfl (by decide) rfl rfl (of_decide_eq_true rfl) (of_decide_eq_true rfl) ?_
    refine ct_224_236 hcr  g 5 (by omega)  (fun h20 g20 u20 (p20_0 : 1 ≤ (h20 236 8)) (p20_1 : (1 ≤ (h 236 8) ∧ (h20 236 8) = (h 236 8) ∧ (h20 236 9) = (h 236 9)) ∨ ((h 236 8) = 0 ∧ (h20 236 9) = (h 236 5) ∧ (((h 236 6) = 4 ∧ (h20 236 8) = 1) ∨ ((h 236 6) ≠ 4 ∧ (h20 236 8) = 5)))) => ?_)
    have F21 := F0.then (by decide +kernel) u20
    have b22 := gi_b (lo := 0) (hi := 5) g20 236 8 rfl
    have b23 := gi_b (lo := -2147483648) (hi := 2147483647) g20 236 9 rfl
    refine wk_n ?_
    refine wi_aload_n (i := 0) (x := 236) (nx := 16) (r1 := 0) (r2 := 0) (r3 := 0) rfl rfl ?_
    refine wr_V (k0 := 236) (rest := []) (as := [.ref 236]) (nx := 19) (r1 := 219) (r2 := 0) (r3 := 11) rfl rfl rfl (of_decide_eq_true rfl) rfl rfl (by decide) rfl rfl (of_decide_eq_true rfl) (of_decide_eq_true rfl) ?_
    refine wi_aload_n (i := 0) (x := 236) (nx := 1) (r1 := 0) (r2 := 0) (r3 := 0) rfl rfl ?_
    refine wr_gi0 (k0 := 236) (x := h20 236 8) (nx := 4) (r1 := 11) (r2 := 8) (r3 := 0) rfl rfl (by decide) rfl ⟨rfl, rfl⟩ rfl rfl ?_
    refine wi_if (cd := .ne) (nx := 7) (r1 := 11) (r2 := 0) (r3 := 0) rfl (by omega) (fun (q24 : (h20 236 8) ≠ 0) => ?_) (fun (q24 : ¬ ((h20 236 8) ≠ 0)) => by exfalso; omega)
    refine wi_iconst (n := 0) (nx := 12) (r1 := 0) (r2 := 0) (r3 := 0) rfl ?_
    refine wi_zreturn (nx := 13) (r1 := 0) (r2 := 0) (r3 := 0) rfl rfl (by omega) ?_
    refine wk_i ?_
    refine wi_if (cd := .eq) (nx := 22) (r1 := 26) (r2 := 0) (r3 := 0) rfl (by omega) (fun (q26 : 0 = 0) => ?_) (fun (q26 : ¬ (0 = 0)) => by exfalso; omega)
    refine wi_aload_n (i := 0) (x := 236) (nx := 27) (r1 := 0) (r2 := 0) (r3 := 0) rfl rfl ?_
    refine wr_V (k0 := 236) (rest := []) (as := [.ref 236]) (nx := 30) (r1 := 219) (r2 := 0) (r3 := 11) rfl rfl rfl (of_decide_eq_true rfl) rfl rfl (by decide) rfl rfl (of_decide_eq_true rfl) (of_decide_eq_true rfl) ?_
    refine wi_aload_n (i := 0) (x := 236) (nx := 1) (r1 := 0) (r2 := 0) (r3 := 0) rfl rfl ?_
    refine wr_gi0 (k0 := 236) (x := h20 236 8) (nx := 4) (r1 := 11) (r2 := 8) (r3 := 0) rfl rfl (by decide) rfl ⟨rfl, rfl⟩ rfl rfl ?_
    refine wi_if (cd := .ne) (nx := 7) (r1 := 11) (r2 := 0) (r3 := 0) rfl (by omega) (fun (q27 : (h20 236 8) ≠ 0) => ?_) (fun (q27 : ¬ ((h20 236 8) ≠ 0)) => by exfalso; omega)
    refine wi_iconst (n := 0) (nx := 12) (r1 := 0) (r2 := 0) (r3 := 0) rfl ?_
    refine wi_zreturn (nx := 13) (r1 := 0) (r2 := 0) (r3 := 0) rfl rfl (by omega) ?_
    refine wk_i ?_
    refine wi_zreturn (nx := 31) (r1 := 0) (r2 := 0) (r3 := 0) rfl rfl (by omega) ?_
    refine wk_i ?_
    refine wi_if (cd := .ne) (nx := 16) (r1 := 17) (r2 := 0) (r3 := 0) rfl (by omega) (fun (q29 : 0 ≠ 0) => by exfalso; omega) (fun (q29 : ¬ (0 ≠ 0)) => ?_)
    refine wi_return (nx := 17) (r1 := 0) (r2 := 0) (r3 := 0) rfl rfl ?_
    have e30 : h20 236 4 = h 236 4 := (u20 236 4 rfl)
    have e31 : h20 239 5 = h 239 5 := (u20 239 5 rfl)
    have e32 : h20 239 7 = h 239 7 := (u20 239 7 rfl)
    have e33 : h20 239 15 = h 239 15 := (u20 239 15 rfl)
    have e34 : h20 239 16 = h 239 16 := (u20 239 16 rfl)
    have e35 : h20 239 17 = h 239 17 := (u20 239 17 rfl)
    have e36 : h20 239 18 = h 239 18 := (u20 239 18 rfl)
    exact k h20 g20 F21 (show (h 236 4) ≤ (h20 236 4) by omega) (show (h20 236 4) ≤ (h 236 3) by omega) (show 1 ≤ (h20 236 8) ∨ ((h20 239 5) ≤ 9 ∧ 1 ≤ (h20 239 5) ∧ (h20 239 7) ≤ 3 ∧ (h20 239 15) ≤ 6 ∧ (h20 239 16) ≤ 6 ∧ (h20 239 17) ≤ 6 ∧ (h20 239 18) ≤ 6) by omega) (show (h20 236 8) ≠ 0 ∨ (h20 236 9) = -1 by omega) (by (try clear p20_1); unfold tk_lane tk_num; (try dsimp only); (repeat (first | rw [if_pos (by omega)] | rw [if_neg (by omega)])); (repeat ((first | unfold tk_num); (try dsimp only); (repeat (first | rw [if_pos (by omega)] | rw [if_neg (by omega)])))); first | exact tk_ORe (by omega) (by omega) (by omega) | ((repeat' split) <;> (first | exact tk_ORe (by omega) (by omega) (by omega) | (exfalso; omega))))
-- method 222: Model.readsColor()V
set_option maxRecDepth 100000 in
set_option maxHeartbeats 100000000 in
theorem ct_222_236 {L : Nat} {xs : Nat → Int32} {d b c : Nat} {h : hp} {cr : Nat → Nat → Option Nat} {Q : hp_Q} (hcr : CR cr)  {tB : Nat → Int} {tn tp : Int} {tS : tk_S} (g : GI h)   (pp0 : h 236 4 ≤ h 236 3) (pp1 : 0 ≤ tp) (pp2 : tp ≤ tn) (pp3 : tp ≤ tk_nx tB tn tp ∧ tk_nx tB tn tp ≤ tn) (pp4 : h 236 8 = 0) (pp5 : h 239 5 ≤ 9) (pp6 : 1 ≤ h 239 5) (pp7 : h 239 7 ≤ 3) (pp8 : h 239 15 ≤ 6) (pp9 : h 239 16 ≤ 6) (pp10 : h 239 17 ≤ 6) (pp11 : h 239 18 ≤ 6) (pp12 : (h 236 4 = tk_nx tB tn tp ∧ h 236 5 = tk_st tB tn tp ∧ TKk tB tn tp (h 236 6) (h 236 7) (h 236 12))) (pp13 : tS 0 ≤ 5 ∧ tS 1 ≤ 4 ∧ tS 2 ≤ 12) (pp14 : h 236 9 = -1) (pp15 : tk_kd tB tn tp = 1) (xq0 : RefB tB tn h) (xq1 : CVr tS h) (k : ∀ (h2 : hp) , GI h2 → FR [(244, 244, none), (236, 236, some (4, 4)), (236, 236, some (5, 5)), (236, 236, some (6, 6)), (236, 236, some (7, 7)), (236, 236, some (8, 8)), (236, 236, some (9, 9)), (236, 236, some (12, 12)), (239, 239, some (0, 0)), (239, 239, some (10, 14))] h h2 → (h 236 4 ≤ h2 236 4) → (h2 236 4 ≤ h 236 3) → (1 ≤ h2 236 8 ∨ (h2 239 5 ≤ 9 ∧ 1 ≤ h2 239 5 ∧ h2 239 7 ≤ 3 ∧ h2 239 15 ≤ 6 ∧ h2 239 16 ≤ 6 ∧ h2 239 17 ≤ 6 ∧ h2 239 18 ≤ 6)) → (h2 236 8 ≠ 0 ∨ h2 236 9 = -1) → (tk_OR tB tn (tk_color tB tn tp tS) h2) → Q (.inl none) (hp_w h2 cr) b c) : wp (md_xa (L, xs)) (d + 5) 222 (0, [(0, .ref 236)], [], hp_w h cr, b, c) Q := by
  have F0 : FR [(244, 244, none), (236, 236, some (4, 4)), (236, 236, some (5, 5)), (236, 236, some (6, 6)), (236, 236, some (7, 7)), (236, 236, some (8, 8)), (236, 236, some (9, 9)), (236, 236, some (12, 12)), (239, 239, some (0, 0)), (239, 239, some (10, 14))] h h := FR.refl
  have tb_1 : h 236 3 = tn := xq0.2.1
  have tb_2 : 0 ≤ tn ∧ tn ≤ 800 := xq0.2.2
  obtain ⟨⟨rv_0, rv_1, rv_2, rv_3, rv_4, rv_5, rv_6, rv_7, rv_8, rv_9⟩, ⟨rf_0, rf_1, rf_2, rf_3⟩, -⟩ := id xq1
  have b1 := gi_b (lo := 0) (hi := 5) g 239 0 rfl
  have b2 := gi_b (lo := 0) (hi := 4) g 239 1 rfl
  have b3 := gi_b (lo := 0) (hi := 12) g 239 2 rfl
  have tkk0_ := pp12.2.2
  have b4 := gi_b (lo := 0) (hi := 800) g 236 4 rfl
  have b5 := gi_b (lo := 0) (hi := 800) g 236 3 rfl
  have b6 := gi_b (lo := 0) (hi := 5) g 236 8 rfl
  have b7 := gi_b (lo := 0) (hi := 999) g 239 5 rfl
  have b8 := gi_b (lo := 0) (hi := 999) g 239 7 rfl
  have b9 := gi_b (lo := 0) (hi := 999) g 239 15 rfl
  have b10 := gi_b (lo := 0) (hi := 999) g 239 16 rfl
  have b11 := gi_b (lo := 0) (hi := 999) g 239 17 rfl
  have b12 := gi_b (lo := 0) (hi := 999) g 239 18 rfl
  have b13 := gi_b (lo := 0) (hi := 800) g 236 5 rfl
  have b14 := gi_b (lo := 0) (hi := 4) g 236 6 rfl
  have b15 := gi_b (lo := 0) (hi := 999) g 236 7 rfl
  have b16 := gi_b (lo := -9223372036854775808) (hi := 9223372036854775807) g 236 12 rfl
  have b17 := gi_b (lo := -2147483648) (hi := 2147483647) g 236 9 rfl
  refine wi_aload_n (i := 0) (x := 236) (nx := 1) (r1 := 0) (r2 := 0) (r3 := 0) rfl rfl ?_
  refine wr_gr (k0 := 236) (x := 239) (nx := 4) (r1 := 11) (r2 := 14) (r3 := 0) rfl rfl (by decide) rfl ⟨rfl, rfl⟩ rfl ?_
  refine wi_iconst (n := 0) (nx := 5) (r1 := 0) (r2 := 0) (r3 := 0) rfl ?_
  refine wr_ia (k0 := 239) (a := 0) (f := 0) (x := h 239 0) (nx := 6) (r1 := 0) (r2 := 0) (r3 := 0) rfl (by decide) rfl (by omega) (by omega) (by decide) rfl ?_
  refine wi_istore_n (i := 1) (e := h 239 0) (lo2 := [(1, vi (h 239 0)), (0, .ref 236)]) (nx := 7) (r1 := 0) (r2 := 0) (r3 := 0) rfl rfl ?_
  refine wi_aload_n (i := 0) (x := 236) (nx := 8) (r1 := 0) (r2 := 0) (r3 := 0) rfl rfl ?_
  refine wi_iconst (n := 0) (nx := 9) (r1 := 0) (r2 := 0) (r3 := 0) rfl ?_
  refine wi_iconst (n := 5) (nx := 10) (r1 := 0) (r2 := 0) (r3 := 0) rfl ?_
  refine wr_V (k0 := 236) (rest := []) (as := [.ref 236, vi 0, vi 5]) (nx := 13) (r1 := 223) (r2 := 2) (r3 := 11) rfl rfl rfl (of_decide_eq_true rfl) rfl rfl (by decide) rfl rfl (of_decide_eq_true rfl) (of_decide_eq_true rfl) ?_
  refine wi_aload_n (i := 0) (x := 236) (nx := 1) (r1 := 0) (r2 := 0) (r3 := 0) rfl rfl ?_
  refine wr_gr (k0 := 236) (x := 239) (nx := 4) (r1 := 11) (r2 := 14) (r3 := 0) rfl rfl (by decide) rfl ⟨rfl, rfl⟩ rfl ?_
  refine wi_iload_n (i := 1) (e := 0) (nx := 5) (r1 := 0) (r2 := 0) (r3 := 0) rfl rfl ?_
  refine wr_ia (k0 := 239) (a := 0) (f := 0) (x := h 239 0) (nx := 6) (r1 := 0) (r2 := 0) (r3 := 0) rfl (by decide) rfl (by omega) (by omega) (by decide) rfl ?_
  refine wi_iload_n (i := 2) (e := 5) (nx := 7) (r1 := 0) (r2 := 0) (r3 := 0) rfl rfl ?_
  refine wi_icmp (cd := .ne) (nx := 10) (r1 := 15) (r2 := 0) (r3 := 0) rfl (by omega) (by omega) (fun (q18 : (h 239 0) ≠ 5) => ?_) (fun (q18 : ¬ ((h 239 0) ≠ 5)) => ?_)
  ·
    refine wi_aload_n (i := 0) (x := 236) (nx := 16) (r1 := 0) (r2 := 0) (r3 := 0) rfl rfl ?_
    refine wr_V (k0 := 236) (rest := []) (as := [.ref 236]) (nx := 19) (r1 := 219) (r2 := 0) (r3 := 11) rfl rfl rfl (of_decide_eq_true rfl) rfl rfl (by decide) rfl rfl (of_decide_eq_true rfl) (of_decide_eq_true rfl) ?_
    refine wi_aload_n (i := 0) (x := 236) (nx := 1) (r1 := 0) (r2 := 0) (r3 := 0) rfl rfl ?_
    refine wr_gi0 (k0 := 236) (x := h 236 8) (nx := 4) (r1 := 11) (r2 := 8) (r3 := 0) rfl rfl (by decide) rfl ⟨rfl, rfl⟩ rfl rfl ?_
    refine wi_if (cd := .ne) (nx := 7) (r1 := 11) (r2 := 0) (r3 := 0) rfl (by omega) (fun (q19 : (h 236 8) ≠ 0) => by exfalso; omega) (fun (q19 : ¬ ((h 236 8) ≠ 0)) => ?_)
    refine wi_iconst (n := 1) (nx := 8) (r1 := 0) (r2 := 0) (r3 := 0) rfl ?_
    refine wi_goto (nx := 11) (r1 := 12) (r2 := 0) (r3 := 0) rfl ?_
    refine wi_zreturn (nx := 13) (r1 := 0) (r2 := 0) (r3 := 0) rfl rfl (by omega) ?_
    refine wk_i ?_
    refine wi_if (cd := .eq) (nx := 22) (r1 := 26) (r2 := 0) (r3 := 0) rfl (by omega) (fun (q21 : 1 = 0) => by exfalso; omega) (fun (q21 : ¬ (1 = 0)) => ?_)
    refine wi_aload_n (i := 0) (x := 236) (nx := 23) (r1 := 0) (r2 := 0) (r3 := 0) rfl rfl ?_
    refine wr_V (k0 := 236) (rest := []) (as := [.ref 236]) (nx := 26) (r1 := 215) (r2 := 0) (r3 := 11) rfl rfl rfl (of_decide_eq_true rfl) rfl rfl (by decide) rfl rfl (of_decide_eq_true rfl) (of_decide_eq_true rfl) ?_
    refine ct_215_236 hcr  g   (show (h 236 4) ≤ (h 236 3) by omega) (show (h 236 4) = (tk_nx tB tn tp) by omega) (show 0 ≤ (tk_nx tB tn tp) by omega) (show (tk_nx tB tn tp) ≤ tn by omega) xq0 (fun h22 g22 u22 (p22_0 : (h 236 4) ≤ (h22 236 4)) (p22_1 : (h22 236 4) ≤ (h 236 3)) (p22_2 : ((h22 236 4) = tk_nx tB tn (tk_nx tB tn tp) ∧ (h22 236 5) = tk_st tB tn (tk_nx tB tn tp) ∧ TKk tB tn (tk_nx tB tn tp) ((h22 236 6)) ((h22 236 7)) ((h22 236 12)))) (p22_3 : (tk_nx tB tn tp) ≤ tk_nx tB tn (tk_nx tB tn tp) ∧ tk_nx tB tn (tk_nx tB tn tp) ≤ tn) => ?_)
    have F23 := F0.then (by decide +kernel) u22
    have b24 := gi_b (lo := 0) (hi := 800) g22 236 4 rfl
    have b25 := gi_b (lo := 0) (hi := 800) g22 236 5 rfl
    have b26 := gi_b (lo := 0) (hi := 4) g22 236 6 rfl
    have b27 := gi_b (lo := 0) (hi := 999) g22 236 7 rfl
    have b28 := gi_b (lo := -9223372036854775808) (hi := 9223372036854775807) g22 236 12 rfl
    have tkk29 := p22_2.2.2
    have tN30 := @tk_nx_b tB tn (tk_nx tB tn tp) (by omega) (by omega)
    refine wk_n ?_
    refine wi_aload_n (i := 0) (x := 236) (nx := 27) (r1 := 0) (r2 := 0) (r3 := 0) rfl rfl ?_
    refine wr_V (k0 := 236) (rest := []) (as := [.ref 236]) (nx := 30) (r1 := 219) (r2 := 0) (r3 := 11) rfl rfl rfl (of_decide_eq_true rfl) rfl rfl (by decide) rfl rfl (of_decide_eq_true rfl) (of_decide_eq_true rfl) ?_
    refine wi_aload_n (i := 0) (x := 236) (nx := 1) (r1 := 0) (r2 := 0) (r3 := 0) rfl rfl ?_
    refine wr_gi0 (k0 := 236) (x := h 236 8) (nx := 4) (r1 := 11) (r2 := 8) (r3 := 0) rfl rfl (by decide) rfl ⟨rfl, rfl⟩ rfl (u22 236 8 rfl) ?_
    refine wi_if (cd := .ne) (nx := 7) (r1 := 11) (r2 := 0) (r3 := 0) rfl (by omega) (fun (q31 : (h 236 8) ≠ 0) => by exfalso; omega) (fun (q31 : ¬ ((h 236 8) ≠ 0)) => ?_)
    refine wi_iconst (n := 1) (nx := 8) (r1 := 0) (r2 := 0) (r3 := 0) rfl ?_
    refine wi_goto (nx := 11) (r1 := 12) (r2 := 0) (r3 := 0) rfl ?_
    refine wi_zreturn (nx := 13) (r1 := 0) (r2 := 0) (r3 := 0) rfl rfl (by omega) ?_
    refine wk_i ?_
    refine wi_zreturn (nx := 31) (r1 := 0) (r2 := 0) (r3 := 0) rfl rfl (by omega) ?_
    refine wk_i ?_
    refine wi_if (cd := .ne) (nx := 16) (r1 := 17) (r2 := 0) (r3 := 0) rfl (by omega) (fun (q33 : 1 ≠ 0) => ?_) (fun (q33 : ¬ (1 ≠ 0)) => by exfalso; omega)
    refine wi_aload_n (i := 0) (x := 236) (nx := 18) (r1 := 0) (r2 := 0) (r3 := 0) rfl rfl ?_
    refine wr_V (k0 := 236) (rest := []) (as := [.ref 236]) (nx := 21) (r1 := 225) (r2 := 0) (r3 := 11) rfl rfl rfl (of_decide_eq_true rfl) rfl rfl (by decide) rfl rfl (of_decide_eq_true rfl) (of_decide_eq_true rfl) ?_
    have e35 : h22 236 8 = h 236 8 := (u22 236 8 rfl)
    have rb36 := RefB.fr u22 rfl xq0
    refine ct_225_236 hcr  g22   (show 0 ≤ (tk_nx tB tn tp) by omega) (show (tk_nx tB tn tp) ≤ tn by omega) (show (tk_nx tB tn tp) ≤ tk_nx tB tn (tk_nx tB tn tp) ∧ tk_nx tB tn (tk_nx tB tn tp) ≤ tn by omega) (show 1 ≤ (h22 236 8) ∨ ((h22 236 4) = tk_nx tB tn (tk_nx tB tn tp) ∧ (h22 236 5) = tk_st tB tn (tk_nx tB tn tp) ∧ TKk tB tn (tk_nx tB tn tp) ((h22 236 6)) ((h22 236 7)) ((h22 236 12))) from (Or.inr (show ((h22 236 4) = tk_nx tB tn (tk_nx tB tn tp) ∧ (h22 236 5) = tk_st tB tn (tk_nx tB tn tp) ∧ TKk tB tn (tk_nx tB tn tp) ((h22 236 6)) ((h22 236 7)) ((h22 236 12))) by first | assumption | exact ⟨by omega, by omega, TKk.mv (by assumption) (by omega) (by omega) (by omega)⟩))) rb36 (fun h34 g34 u34 (p34_0 : (1 ≤ (h22 236 8) ∧ (h34 236 8) = (h22 236 8) ∧ (h34 236 9) = (h22 236 9)) ∨ ((h22 236 8) = 0 ∧ tk_kd tB tn (tk_nx tB tn tp) = 1 ∧ tk_wd (tk_lw tB tn (tk_nx tB tn tp)) = 21 ∧ (h34 236 8) = (h22 236 8) ∧ (h34 236 9) = (h22 236 9)) ∨ ((h22 236 8) = 0 ∧ (tk_kd tB tn (tk_nx tB tn tp) ≠ 1 ∨ tk_wd (tk_lw tB tn (tk_nx tB tn tp)) ≠ 21) ∧ (h34 236 8) = 1 ∧ (h34 236 9) = tk_st tB tn (tk_nx tB tn tp))) (p34_1 : 1 ≤ (h34 236 8) ∨ (h22 236 8) = 0) => ?_)
    have F37 := F23.then (by decide +kernel) u34
    have e38 : h22 236 9 = h 236 9 := (u22 236 9 rfl)
    have b39 := gi_b (lo := 0) (hi := 5) g34 236 8 rfl
    have b40 := gi_b (lo := -2147483648) (hi := 2147483647) g34 236 9 rfl
    refine wk_n ?_
    rcases p34_0 with p34_0 | p34_0 | p34_0
    ·
      exfalso; omega
    ·
      refine wi_aload_n (i := 0) (x := 236) (nx := 22) (r1 := 0) (r2 := 0) (r3 := 0) rfl rfl ?_
      refine wr_V (k0 := 236) (rest := []) (as := [.ref 236]) (nx := 25) (r1 := 219) (r2 := 0) (r3 := 11) rfl rfl rfl (of_decide_eq_true rfl) rfl rfl (by decide) rfl rfl (of_decide_eq_true rfl) (of_decide_eq_true rfl) ?_
      refine wi_aload_n (i := 0) (x := 236) (nx := 1) (r1 := 0) (r2 := 0) (r3 := 0) rfl rfl ?_
      refine wr_gi0 (k0 := 236) (x := h34 236 8) (nx := 4) (r1 := 11) (r2 := 8) (r3 := 0) rfl rfl (by decide) rfl ⟨rfl, rfl⟩ rfl rfl ?_
      refine wi_if (cd := .ne) (nx := 7) (r1 := 11) (r2 := 0) (r3 := 0) rfl (by omega) (fun (q41 : (h34 236 8) ≠ 0) => by exfalso; omega) (fun (q41 : ¬ ((h34 236 8) ≠ 0)) => ?_)
      refine wi_iconst (n := 1) (nx := 8) (r1 := 0) (r2 := 0) (r3 := 0) rfl ?_
      refine wi_goto (nx := 11) (r1 := 12) (r2 := 0) (r3 := 0) rfl ?_
      refine wi_zreturn (nx := 13) (r1 := 0) (r2 := 0) (r3 := 0) rfl rfl (by omega) ?_
      refine wk_i ?_
      refine wi_if (cd := .eq) (nx := 28) (r1 := 41) (r2 := 0) (r3 := 0) rfl (by omega) (fun (q43 : 1 = 0) => by exfalso; omega) (fun (q43 : ¬ (1 = 0)) => ?_)
      refine wi_aload_n (i := 0) (x := 236) (nx := 29) (r1 := 0) (r2 := 0) (r3 := 0) rfl rfl ?_
      refine wr_V (k0 := 236) (rest := []) (as := [.ref 236]) (nx := 32) (r1 := 227) (r2 := 0) (r3 := 11) rfl rfl rfl (of_decide_eq_true rfl) rfl rfl (by decide) rfl rfl (of_decide_eq_true rfl) (of_decide_eq_true rfl) ?_
      have e45 : h34 236 12 = h22 236 12 := (u34 236 12 rfl)
      have rb47 := RefB.fr u34 rfl rb36
      have cr48 := CVr.fr u22 rfl xq1
      have cr49 := CVr.fr u34 rfl cr48
      refine ct_227_236 hcr  g34   (show 0 ≤ (tk_nx tB tn tp) by omega) (show (tk_nx tB tn tp) ≤ tn by omega) (show (tk_nx tB tn tp) ≤ tk_nx tB tn (tk_nx tB tn tp) ∧ tk_nx tB tn (tk_nx tB tn tp) ≤ tn by omega) (show tk_kd tB tn (tk_nx tB tn tp) = 1 → (h34 236 12) = tk_sw tB tn (tk_nx tB tn tp) by intro e; have kq := TKk.w (B := tB) (n := tn) (p := (tk_nx tB tn tp)) (by assumption) e; omega) rb47 cr49 (fun z46  (fz46 : 0 ≤ z46 ∧ z46 ≤ 5) (p44_0 : z46 ≤ (h34 239 0)) y44_0 => ?_)
      have e50 : h34 239 0 = h 239 0 := ((u34 239 0 rfl).trans (u22 239 0 rfl))
      refine wk_i ?_
      have nd51 : tk_kd tB tn (tk_nx tB tn tp) = 1 → z46 = tk_fi tS (tk_lw tB tn (tk_nx tB tn tp)) := y44_0
      refine wi_iload_n (i := 1) (e := h 239 0) (nx := 33) (r1 := 0) (r2 := 0) (r3 := 0) rfl rfl ?_
      refine wi_icmp (cd := .ge) (nx := 36) (r1 := 41) (r2 := 0) (r3 := 0) rfl (by omega) (by omega) (fun (q52 : (h 239 0) ≤ z46) => ?_) (fun (q52 : ¬ ((h 239 0) ≤ z46)) => ?_)
      ·
        refine wi_aload_n (i := 0) (x := 236) (nx := 42) (r1 := 0) (r2 := 0) (r3 := 0) rfl rfl ?_
        refine wr_V (k0 := 236) (rest := []) (as := [.ref 236]) (nx := 45) (r1 := 219) (r2 := 0) (r3 := 11) rfl rfl rfl (of_decide_eq_true rfl) rfl rfl (by decide) rfl rfl (of_decide_eq_true rfl) (of_decide_eq_true rfl) ?_
        refine wi_aload_n (i := 0) (x := 236) (nx := 1) (r1 := 0) (r2 := 0) (r3 := 0) rfl rfl ?_
        refine wr_gi0 (k0 := 236) (x := h34 236 8) (nx := 4) (r1 := 11) (r2 := 8) (r3 := 0) rfl rfl (by decide) rfl ⟨rfl, rfl⟩ rfl rfl ?_
        refine wi_if (cd := .ne) (nx := 7) (r1 := 11) (r2 := 0) (r3 := 0) rfl (by omega) (fun (q53 : (h34 236 8) ≠ 0) => by exfalso; omega) (fun (q53 : ¬ ((h34 236 8) ≠ 0)) => ?_)
        refine wi_iconst (n := 1) (nx := 8) (r1 := 0) (r2 := 0) (r3 := 0) rfl ?_
        refine wi_goto (nx := 11) (r1 := 12) (r2 := 0) (r3 := 0) rfl ?_
        refine wi_zreturn (nx := 13) (r1 := 0) (r2 := 0) (r3 := 0) rfl rfl (by omega) ?_
        refine wk_i ?_
        refine wi_if (cd := .ne) (nx := 48) (r1 := 49) (r2 := 0) (r3 := 0) rfl (by omega) (fun (q55 : 1 ≠ 0) => ?_) (fun (q55 : ¬ (1 ≠ 0)) => by exfalso; omega)
        refine wi_aload_n (i := 0) (x := 236) (nx := 50) (r1 := 0) (r2 := 0) (r3 := 0) rfl rfl ?_
        refine wr_gr (k0 := 236) (x := 244) (nx := 53) (r1 := 11) (r2 := 19) (r3 := 0) rfl rfl (by decide) rfl ⟨rfl, rfl⟩ rfl ?_
        refine wi_iload_n (i := 1) (e := h 239 0) (nx := 54) (r1 := 0) (r2 := 0) (r3 := 0) rfl rfl ?_
        refine wi_aload_n (i := 0) (x := 236) (nx := 55) (r1 := 0) (r2 := 0) (r3 := 0) rfl rfl ?_
        refine wr_gi1 (k0 := 236) (x := h22 236 12) (nx := 58) (r1 := 11) (r2 := 12) (r3 := 0) rfl rfl (by decide) rfl ⟨rfl, rfl⟩ rfl (u34 236 12 rfl) ?_
        obtain ⟨i56, ei56⟩ : ∃ q : Nat, (h 239 0) = (q : Int) := ⟨(h 239 0).toNat, by omega⟩
        refine wr_ls (k0 := 244) (a := h 239 0) (f := i56) (x := h22 236 12) (bl := -9223372036854775808) (bh := 9223372036854775807) (nx := 59) (r1 := 0) (r2 := 0) (r3 := 0) rfl (by decide) rfl (by omega) (by omega) (by decide) g34 rfl (by omega) (fun h57 g57 w57 u57 => ?_)
        have F58 := F37.then rfl (FR.rngp (lo := 244) (hi := 244) u57 (by decide))
        refine wi_aload_n (i := 0) (x := 236) (nx := 60) (r1 := 0) (r2 := 0) (r3 := 0) rfl rfl ?_
        refine wr_V (k0 := 236) (rest := []) (as := [.ref 236]) (nx := 63) (r1 := 215) (r2 := 0) (r3 := 11) rfl rfl rfl (of_decide_eq_true rfl) rfl rfl (by decide) rfl rfl (of_decide_eq_true rfl) (of_decide_eq_true rfl) ?_
        have e60 : h57 236 4 = h22 236 4 := ((u57 236 4 (fn_a (by omega) fn_0)).trans (u34 236 4 rfl))
        have e61 : h57 236 3 = h 236 3 := ((u57 236 3 (fn_a (by omega) fn_0)).trans ((u34 236 3 rfl).trans (u22 236 3 rfl)))
        have rb62 := RefB.fr u57 rfl rb47
        refine ct_215_236 hcr  g57   (show (h57 236 4) ≤ (h57 236 3) by omega) (show (h57 236 4) = (tk_nx tB tn (tk_nx tB tn tp)) by omega) (show 0 ≤ (tk_nx tB tn (tk_nx tB tn tp)) by omega) (show (tk_nx tB tn (tk_nx tB tn tp)) ≤ tn by omega) rb62 (fun h59 g59 u59 (p59_0 : (h57 236 4) ≤ (h59 236 4)) (p59_1 : (h59 236 4) ≤ (h57 236 3)) (p59_2 : ((h59 236 4) = tk_nx tB tn (tk_nx tB tn (tk_nx tB tn tp)) ∧ (h59 236 5) = tk_st tB tn (tk_nx tB tn (tk_nx tB tn tp)) ∧ TKk tB tn (tk_nx tB tn (tk_nx tB tn tp)) ((h59 236 6)) ((h59 236 7)) ((h59 236 12)))) (p59_3 : (tk_nx tB tn (tk_nx tB tn tp)) ≤ tk_nx tB tn (tk_nx tB tn (tk_nx tB tn tp)) ∧ tk_nx tB tn (tk_nx tB tn (tk_nx tB tn tp)) ≤ tn) => ?_)
        have F63 := F58.then (by decide +kernel) u59
        have b64 := gi_b (lo := 0) (hi := 800) g59 236 4 rfl
        have b65 := gi_b (lo := 0) (hi := 800) g59 236 5 rfl
        have b66 := gi_b (lo := 0) (hi := 4) g59 236 6 rfl
        have b67 := gi_b (lo := 0) (hi := 999) g59 236 7 rfl
        have b68 := gi_b (lo := -9223372036854775808) (hi := 9223372036854775807) g59 236 12 rfl
        have tkk69 := p59_2.2.2
        have tN70 := @tk_nx_b tB tn (tk_nx tB tn (tk_nx tB tn tp)) (by omega) (by omega)
        refine wk_n ?_
        refine wi_aload_n (i := 0) (x := 236) (nx := 64) (r1 := 0) (r2 := 0) (r3 := 0) rfl rfl ?_
        refine wr_gr (k0 := 236) (x := 239) (nx := 67) (r1 := 11) (r2 := 14) (r3 := 0) rfl rfl (by decide) rfl ⟨rfl, rfl⟩ rfl ?_
        refine wi_bipush (n := 10) (nx := 69) (r1 := 0) (r2 := 0) (r3 := 0) rfl (by decide) ?_
        refine wi_iload_n (i := 1) (e := h 239 0) (nx := 70) (r1 := 0) (r2 := 0) (r3 := 0) rfl rfl ?_
        refine wr_add (nx := 71) (r1 := 0) (r2 := 0) (r3 := 0) rfl (fun e71 (fe71 : e71 = 10 + (h 239 0)) => ?_)
        refine wi_aload_n (i := 0) (x := 236) (nx := 72) (r1 := 0) (r2 := 0) (r3 := 0) rfl rfl ?_
        refine wi_ldc2_w (e := 109099237) (nx := 75) (r1 := 109099237) (r2 := 0) (r3 := 0) rfl (by decide) ?_
        refine wi_iconst (n := 0) (nx := 76) (r1 := 0) (r2 := 0) (r3 := 0) rfl ?_
        refine wi_bipush (n := 99) (nx := 78) (r1 := 0) (r2 := 0) (r3 := 0) rfl (by decide) ?_
        have wk72 : tk_kd tB tn (tk_nx tB tn (tk_nx tB tn tp)) = 1 → (tk_sw tB tn (tk_nx tB tn (tk_nx tB tn tp)) = 109099237 ↔ tk_wd (tk_lw tB tn (tk_nx tB tn (tk_nx tB tn tp))) = 2) := fun e => tk_wk 1 (by decide) (by omega) (by omega) e
        refine wr_V (k0 := 236) (rest := [vi e71, .ref 239]) (as := [.ref 236, vl 109099237, vi 0, vi 99]) (nx := 81) (r1 := 228) (r2 := 3) (r3 := 11) rfl rfl rfl (of_decide_eq_true rfl) rfl rfl (by decide) rfl rfl (of_decide_eq_true rfl) (of_decide_eq_true rfl) ?_
        have e74 : h59 236 3 = h 236 3 := ((u59 236 3 rfl).trans ((u57 236 3 (fn_a (by omega) fn_0)).trans ((u34 236 3 rfl).trans (u22 236 3 rfl))))
        have e75 : h59 236 8 = h34 236 8 := ((u59 236 8 rfl).trans (u57 236 8 (fn_a (by omega) fn_0)))
        have rb77 := RefB.fr u59 rfl rb62
        refine ct_228_236 hcr  g59 109099237 0 99 (by omega) (by omega) (by omega) (show (h59 236 4) ≤ (h59 236 3) by omega) (show 0 ≤ (tk_nx tB tn (tk_nx tB tn tp)) by omega) (show (tk_nx tB tn (tk_nx tB tn tp)) ≤ tn by omega) (show (tk_nx tB tn (tk_nx tB tn tp)) ≤ tk_nx tB tn (tk_nx tB tn (tk_nx tB tn tp)) ∧ tk_nx tB tn (tk_nx tB tn (tk_nx tB tn tp)) ≤ tn by omega) (show 1 ≤ (h59 236 8) ∨ ((h59 236 4) = tk_nx tB tn (tk_nx tB tn (tk_nx tB tn tp)) ∧ (h59 236 5) = tk_st tB tn (tk_nx tB tn (tk_nx tB tn tp)) ∧ TKk tB tn (tk_nx tB tn (tk_nx tB tn tp)) ((h59 236 6)) ((h59 236 7)) ((h59 236 12))) from (Or.inr (show ((h59 236 4) = tk_nx tB tn (tk_nx tB tn (tk_nx tB tn tp)) ∧ (h59 236 5) = tk_st tB tn (tk_nx tB tn (tk_nx tB tn tp)) ∧ TKk tB tn (tk_nx tB tn (tk_nx tB tn tp)) ((h59 236 6)) ((h59 236 7)) ((h59 236 12))) by first | assumption | exact ⟨by omega, by omega, TKk.mv (by assumption) (by omega) (by omega) (by omega)⟩))) rb77 (fun h73 z76 g73 u73 (fz76 : 0 ≤ z76 ∧ z76 ≤ 999) (p73_0 : (1 ≤ (h59 236 8) ∧ (h73 236 8) = (h59 236 8) ∧ (h73 236 9) = (h59 236 9)) ∨ ((h59 236 8) = 0 ∧ tk_kd tB tn (tk_nx tB tn (tk_nx tB tn tp)) = 1 ∧ tk_sw tB tn (tk_nx tB tn (tk_nx tB tn tp)) = 109099237 ∧ tk_kd tB tn (tk_nx tB tn (tk_nx tB tn (tk_nx tB tn tp))) = 2 ∧ 0 ≤ tk_nb tB tn (tk_nx tB tn (tk_nx tB tn (tk_nx tB tn tp))) ∧ tk_nb tB tn (tk_nx tB tn (tk_nx tB tn (tk_nx tB tn tp))) ≤ 99 ∧ z76 = tk_nb tB tn (tk_nx tB tn (tk_nx tB tn (tk_nx tB tn tp))) ∧ (h73 236 8) = (h59 236 8) ∧ (h73 236 9) = (h59 236 9) ∧ ((h73 236 4) = tk_nx tB tn (tk_nx tB tn (tk_nx tB tn (tk_nx tB tn (tk_nx tB tn tp)))) ∧ (h73 236 5) = tk_st tB tn (tk_nx tB tn (tk_nx tB tn (tk_nx tB tn (tk_nx tB tn tp)))) ∧ TKk tB tn (tk_nx tB tn (tk_nx tB tn (tk_nx tB tn (tk_nx tB tn tp)))) ((h73 236 6)) ((h73 236 7)) ((h73 236 12)))) ∨ ((h59 236 8) = 0 ∧ (tk_kd tB tn (tk_nx tB tn (tk_nx tB tn tp)) ≠ 1 ∨ tk_sw tB tn (tk_nx tB tn (tk_nx tB tn tp)) ≠ 109099237) ∧ (h73 236 8) = 1 ∧ (h73 236 9) = tk_st tB tn (tk_nx tB tn (tk_nx tB tn tp))) ∨ ((h59 236 8) = 0 ∧ tk_kd tB tn (tk_nx tB tn (tk_nx tB tn tp)) = 1 ∧ tk_sw tB tn (tk_nx tB tn (tk_nx tB tn tp)) = 109099237 ∧ tk_kd tB tn (tk_nx tB tn (tk_nx tB tn (tk_nx tB tn tp))) ≠ 2 ∧ (h73 236 8) = 1 ∧ (h73 236 9) = tk_st tB tn (tk_nx tB tn (tk_nx tB tn (tk_nx tB tn tp)))) ∨ ((h59 236 8) = 0 ∧ tk_kd tB tn (tk_nx tB tn (tk_nx tB tn tp)) = 1 ∧ tk_sw tB tn (tk_nx tB tn (tk_nx tB tn tp)) = 109099237 ∧ tk_kd tB tn (tk_nx tB tn (tk_nx tB tn (tk_nx tB tn tp))) = 2 ∧ (tk_nb tB tn (tk_nx tB tn (tk_nx tB tn (tk_nx tB tn tp))) < 0 ∨ 99 < tk_nb tB tn (tk_nx tB tn (tk_nx tB tn (tk_nx tB tn tp)))) ∧ (h73 236 8) = 2 ∧ (h73 236 9) = tk_st tB tn (tk_nx tB tn (tk_nx tB tn (tk_nx tB tn tp))))) (p73_1 : (h59 236 4) ≤ (h73 236 4)) (p73_2 : (h73 236 4) ≤ (h59 236 3)) (p73_3 : 1 ≤ (h73 236 8) ∨ (h59 236 8) = 0) (p73_4 : 1 ≤ (h73 236 8) ∨ (0 ≤ z76 ∧ z76 ≤ 99)) => ?_)
        have F78 := F63.then (by decide +kernel) u73
        have e79 : h59 236 9 = h34 236 9 := ((u59 236 9 rfl).trans (u57 236 9 (fn_a (by omega) fn_0)))
        have b80 := gi_b (lo := 0) (hi := 5) g73 236 8 rfl
        have b81 := gi_b (lo := -2147483648) (hi := 2147483647) g73 236 9 rfl
        have b82 := gi_b (lo := 0) (hi := 800) g73 236 4 rfl
        have b83 := gi_b (lo := 0) (hi := 800) g73 236 5 rfl
        have b84 := gi_b (lo := 0) (hi := 4) g73 236 6 rfl
        have b85 := gi_b (lo := 0) (hi := 999) g73 236 7 rfl
        have b86 := gi_b (lo := -9223372036854775808) (hi := 9223372036854775807) g73 236 12 rfl
        refine wk_i ?_
        rcases p73_0 with p73_0 | p73_0 | p73_0 | p73_0 | p73_0
        ·
          exfalso; omega
        ·
          have tkk87 := (p73_0.2.2.2.2.2.2.2.2.2).2.2
          have tN88 := @tk_nx_b tB tn (tk_nx tB tn (tk_nx tB tn (tk_nx tB tn tp))) (by omega) (by omega)
          have tN89 := @tk_nx_b tB tn (tk_nx tB tn (tk_nx tB tn (tk_nx tB tn (tk_nx tB tn tp)))) (by omega) (by omega)
          obtain ⟨i90, ei90⟩ : ∃ q : Nat, e71 = (q : Int) := ⟨(e71).toNat, by omega⟩
          refine wr_is (k0 := 239) (a := e71) (f := i90) (x := z76) (bl := 0) (bh := 999) (nx := 82) (r1 := 0) (r2 := 0) (r3 := 0) rfl (by decide) rfl (by omega) (by omega) (by decide) g73 (gi_rq 10 5 (fun _ => rfl) (by decide +kernel) (by omega)) (by omega) (fun h91 g91 w91 u91 => ?_)
          have F92 := F78.then rfl (FR.idx (p := 10) (q := 14) u91 (by omega))
          refine wi_aload_n (i := 0) (x := 236) (nx := 83) (r1 := 0) (r2 := 0) (r3 := 0) rfl rfl ?_
          refine wr_V (k0 := 236) (rest := []) (as := [.ref 236]) (nx := 86) (r1 := 219) (r2 := 0) (r3 := 11) rfl rfl rfl (of_decide_eq_true rfl) rfl rfl (by decide) rfl rfl (of_decide_eq_true rfl) (of_decide_eq_true rfl) ?_
          refine wi_aload_n (i := 0) (x := 236) (nx := 1) (r1 := 0) (r2 := 0) (r3 := 0) rfl rfl ?_
          refine wr_gi0 (k0 := 236) (x := h73 236 8) (nx := 4) (r1 := 11) (r2 := 8) (r3 := 0) rfl rfl (by decide) rfl ⟨rfl, rfl⟩ rfl (u91 236 8 (fn_a (by omega) fn_0)) ?_
          refine wi_if (cd := .ne) (nx := 7) (r1 := 11) (r2 := 0) (r3 := 0) rfl (by omega) (fun (q93 : (h73 236 8) ≠ 0) => by exfalso; omega) (fun (q93 : ¬ ((h73 236 8) ≠ 0)) => ?_)
          refine wi_iconst (n := 1) (nx := 8) (r1 := 0) (r2 := 0) (r3 := 0) rfl ?_
          refine wi_goto (nx := 11) (r1 := 12) (r2 := 0) (r3 := 0) rfl ?_
          refine wi_zreturn (nx := 13) (r1 := 0) (r2 := 0) (r3 := 0) rfl rfl (by omega) ?_
          refine wk_i ?_
          refine wi_if (cd := .eq) (nx := 89) (r1 := 99) (r2 := 0) (r3 := 0) rfl (by omega) (fun (q95 : 1 = 0) => by exfalso; omega) (fun (q95 : ¬ (1 = 0)) => ?_)
          refine wi_aload_n (i := 0) (x := 236) (nx := 90) (r1 := 0) (r2 := 0) (r3 := 0) rfl rfl ?_
          refine wr_gr (k0 := 236) (x := 239) (nx := 93) (r1 := 11) (r2 := 14) (r3 := 0) rfl rfl (by decide) rfl ⟨rfl, rfl⟩ rfl ?_
          refine wi_iconst (n := 0) (nx := 94) (r1 := 0) (r2 := 0) (r3 := 0) rfl ?_
          refine wi_dup2 (nx := 95) (r1 := 0) (r2 := 0) (r3 := 0) rfl rfl rfl ?_
          refine wr_ia (k0 := 239) (a := 0) (f := 0) (x := h 239 0) (nx := 96) (r1 := 0) (r2 := 0) (r3 := 0) rfl (by decide) rfl (by omega) (by omega) (by decide) ((u91 239 0 (fn_i (by omega) fn_0)).trans ((u73 239 0 rfl).trans ((u59 239 0 rfl).trans ((u57 239 0 (fn_a (by omega) fn_0)).trans ((u34 239 0 rfl).trans (u22 239 0 rfl)))))) ?_
          refine wi_iconst (n := 1) (nx := 97) (r1 := 0) (r2 := 0) (r3 := 0) rfl ?_
          refine wr_add (nx := 98) (r1 := 0) (r2 := 0) (r3 := 0) rfl (fun e96 (fe96 : e96 = (h 239 0) + 1) => ?_)
          refine wr_is (k0 := 239) (a := 0) (f := 0) (x := e96) (bl := 0) (bh := 5) (nx := 99) (r1 := 0) (r2 := 0) (r3 := 0) rfl (by decide) rfl (by omega) (by omega) (by decide) g91 rfl (by omega) (fun h97 g97 w97 u97 => ?_)
          have F98 := F92.then rfl u97
          refine wi_return (nx := 100) (r1 := 0) (r2 := 0) (r3 := 0) rfl rfl ?_
          have e99 : h97 236 4 = h73 236 4 := ((u97 236 4 rfl).trans (u91 236 4 (fn_a (by omega) fn_0)))
          have e100 : h97 236 8 = h73 236 8 := ((u97 236 8 rfl).trans (u91 236 8 (fn_a (by omega) fn_0)))
          have e101 : h97 239 5 = h 239 5 := ((u97 239 5 rfl).trans ((u91 239 5 (fn_i (by omega) fn_0)).trans ((u73 239 5 rfl).trans ((u59 239 5 rfl).trans ((u57 239 5 (fn_a (by omega) fn_0)).trans ((u34 239 5 rfl).trans (u22 239 5 rfl)))))))
          have e102 : h97 239 7 = h 239 7 := ((u97 239 7 rfl).trans ((u91 239 7 (fn_i (by omega) fn_0)).trans ((u73 239 7 rfl).trans ((u59 239 7 rfl).trans ((u57 239 7 (fn_a (by omega) fn_0)).trans ((u34 239 7 rfl).trans (u22 239 7 rfl)))))))
          have e103 : h97 239 15 = h 239 15 := ((u97 239 15 rfl).trans ((u91 239 15 (fn_i (by omega) fn_0)).trans ((u73 239 15 rfl).trans ((u59 239 15 rfl).trans ((u57 239 15 (fn_a (by omega) fn_0)).trans ((u34 239 15 rfl).trans (u22 239 15 rfl)))))))
          have e104 : h97 239 16 = h 239 16 := ((u97 239 16 rfl).trans ((u91 239 16 (fn_i (by omega) fn_0)).trans ((u73 239 16 rfl).trans ((u59 239 16 rfl).trans ((u57 239 16 (fn_a (by omega) fn_0)).trans ((u34 239 16 rfl).trans (u22 239 16 rfl)))))))
          have e105 : h97 239 17 = h 239 17 := ((u97 239 17 rfl).trans ((u91 239 17 (fn_i (by omega) fn_0)).trans ((u73 239 17 rfl).trans ((u59 239 17 rfl).trans ((u57 239 17 (fn_a (by omega) fn_0)).trans ((u34 239 17 rfl).trans (u22 239 17 rfl)))))))
          have e106 : h97 239 18 = h 239 18 := ((u97 239 18 rfl).trans ((u91 239 18 (fn_i (by omega) fn_0)).trans ((u73 239 18 rfl).trans ((u59 239 18 rfl).trans ((u57 239 18 (fn_a (by omega) fn_0)).trans ((u34 239 18 rfl).trans (u22 239 18 rfl)))))))
          have e107 : h97 236 9 = h73 236 9 := ((u97 236 9 rfl).trans (u91 236 9 (fn_a (by omega) fn_0)))
          have e108 : h97 239 0 = e96 := w97
          have e109 : h97 239 1 = h 239 1 := ((u97 239 1 rfl).trans ((u91 239 1 (fn_i (by omega) fn_0)).trans ((u73 239 1 rfl).trans ((u59 239 1 rfl).trans ((u57 239 1 (fn_a (by omega) fn_0)).trans ((u34 239 1 rfl).trans (u22 239 1 rfl)))))))
          have e110 : h97 239 2 = h 239 2 := ((u97 239 2 rfl).trans ((u91 239 2 (fn_i (by omega) fn_0)).trans ((u73 239 2 rfl).trans ((u59 239 2 rfl).trans ((u57 239 2 (fn_a (by omega) fn_0)).trans ((u34 239 2 rfl).trans (u22 239 2 rfl)))))))
          have b111 := gi_b (lo := 0) (hi := 999) g 239 3 rfl
          have e112 : h97 239 3 = h 239 3 := ((u97 239 3 rfl).trans ((u91 239 3 (fn_i (by omega) fn_0)).trans ((u73 239 3 rfl).trans ((u59 239 3 rfl).trans ((u57 239 3 (fn_a (by omega) fn_0)).trans ((u34 239 3 rfl).trans (u22 239 3 rfl)))))))
          have b113 := gi_b (lo := 0) (hi := 999) g 239 4 rfl
          have e114 : h97 239 4 = h 239 4 := ((u97 239 4 rfl).trans ((u91 239 4 (fn_i (by omega) fn_0)).trans ((u73 239 4 rfl).trans ((u59 239 4 rfl).trans ((u57 239 4 (fn_a (by omega) fn_0)).trans ((u34 239 4 rfl).trans (u22 239 4 rfl)))))))
          have b115 := gi_b (lo := 0) (hi := 999) g 239 6 rfl
          have e116 : h97 239 6 = h 239 6 := ((u97 239 6 rfl).trans ((u91 239 6 (fn_i (by omega) fn_0)).trans ((u73 239 6 rfl).trans ((u59 239 6 rfl).trans ((u57 239 6 (fn_a (by omega) fn_0)).trans ((u34 239 6 rfl).trans (u22 239 6 rfl)))))))
          have b117 := gi_b (lo := 0) (hi := 999) g 239 8 rfl
          have e118 : h97 239 8 = h 239 8 := ((u97 239 8 rfl).trans ((u91 239 8 (fn_i (by omega) fn_0)).trans ((u73 239 8 rfl).trans ((u59 239 8 rfl).trans ((u57 239 8 (fn_a (by omega) fn_0)).trans ((u34 239 8 rfl).trans (u22 239 8 rfl)))))))
          have b119 := gi_b (lo := 0) (hi := 999) g 239 9 rfl
          have e120 : h97 239 9 = h 239 9 := ((u97 239 9 rfl).trans ((u91 239 9 (fn_i (by omega) fn_0)).trans ((u73 239 9 rfl).trans ((u59 239 9 rfl).trans ((u57 239 9 (fn_a (by omega) fn_0)).trans ((u34 239 9 rfl).trans (u22 239 9 rfl)))))))
          have b121 := gi_b (lo := 0) (hi := 1) g 236 23 rfl
          have e122 : h97 236 23 = h 236 23 := ((u97 236 23 rfl).trans ((u91 236 23 (fn_a (by omega) fn_0)).trans ((u73 236 23 rfl).trans ((u59 236 23 rfl).trans ((u57 236 23 (fn_a (by omega) fn_0)).trans ((u34 236 23 rfl).trans (u22 236 23 rfl)))))))
          have b123 := gi_b (lo := 0) (hi := 1) g 236 24 rfl
          have e124 : h97 236 24 = h 236 24 := ((u97 236 24 rfl).trans ((u91 236 24 (fn_a (by omega) fn_0)).trans ((u73 236 24 rfl).trans ((u59 236 24 rfl).trans ((u57 236 24 (fn_a (by omega) fn_0)).trans ((u34 236 24 rfl).trans (u22 236 24 rfl)))))))
          have b125 := gi_b (lo := 0) (hi := 1) g 236 25 rfl
          have e126 : h97 236 25 = h 236 25 := ((u97 236 25 rfl).trans ((u91 236 25 (fn_a (by omega) fn_0)).trans ((u73 236 25 rfl).trans ((u59 236 25 rfl).trans ((u57 236 25 (fn_a (by omega) fn_0)).trans ((u34 236 25 rfl).trans (u22 236 25 rfl)))))))
          have b127 := gi_b (lo := 0) (hi := 1) g 236 26 rfl
          have e128 : h97 236 26 = h 236 26 := ((u97 236 26 rfl).trans ((u91 236 26 (fn_a (by omega) fn_0)).trans ((u73 236 26 rfl).trans ((u59 236 26 rfl).trans ((u57 236 26 (fn_a (by omega) fn_0)).trans ((u34 236 26 rfl).trans (u22 236 26 rfl)))))))
          have e129 : h97 236 5 = h73 236 5 := ((u97 236 5 rfl).trans (u91 236 5 (fn_a (by omega) fn_0)))
          have e130 : h97 236 6 = h73 236 6 := ((u97 236 6 rfl).trans (u91 236 6 (fn_a (by omega) fn_0)))
          have e131 : h97 236 7 = h73 236 7 := ((u97 236 7 rfl).trans (u91 236 7 (fn_a (by omega) fn_0)))
          have e132 : h97 236 12 = h73 236 12 := ((u97 236 12 rfl).trans (u91 236 12 (fn_a (by omega) fn_0)))
          exact k h97 g97 F98 (show (h 236 4) ≤ (h97 236 4) by omega) (show (h97 236 4) ≤ (h 236 3) by omega) (show 1 ≤ (h97 236 8) ∨ ((h97 239 5) ≤ 9 ∧ 1 ≤ (h97 239 5) ∧ (h97 239 7) ≤ 3 ∧ (h97 239 15) ≤ 6 ∧ (h97 239 16) ≤ 6 ∧ (h97 239 17) ≤ 6 ∧ (h97 239 18) ≤ 6) by omega) (show (h97 236 8) ≠ 0 ∨ (h97 236 9) = -1 by omega) (by (try clear p34_1 p73_3 p73_4); unfold tk_color tk_wrd tk_num; (try dsimp only); (repeat (first | rw [if_pos (by omega)] | rw [if_neg (by omega)])); (repeat ((first | unfold tk_wrd | unfold tk_num); (try dsimp only); (repeat (first | rw [if_pos (by omega)] | rw [if_neg (by omega)])))); exact tk_ORs (by omega) (by first | assumption | exact ⟨by omega, by omega, TKk.mv (by assumption) (by omega) (by omega) (by omega)⟩) (CVr.color (c := (h 239 0).toNat) xq1 (by omega) (by omega) (fun i _ _ => ((u97 239 i (fn_i (by omega) fn_0)).trans ((u91 239 i (fn_i (by omega) fn_0)).trans ((u73 239 i (fo_nk rfl)).trans ((u59 239 i (fo_nk rfl)).trans ((u57 239 i (fn_a (by omega) fn_0)).trans ((u34 239 i (fn_a (by decide) (fn_a (by decide) fn_0))).trans (u22 239 i (fo_nk rfl))))))))) (fun i _ _ => ((u97 236 i (fn_a (by omega) fn_0)).trans ((u91 236 i (fn_a (by omega) fn_0)).trans ((u73 236 i (fo_gk (m := 12) (by omega) rfl)).trans ((u59 236 i (fo_gk (m := 12) (by omega) rfl)).trans ((u57 236 i (fn_a (by omega) fn_0)).trans ((u34 236 i (fn_i (by omega) (fn_i (by omega) fn_0))).trans (u22 236 i (fo_gk (m := 12) (by omega) rfl))))))))) (by rw [show (h 239 0).toNat = i56 by omega, ((u97 244 i56 (fn_a (by omega) fn_0)).trans ((u91 244 i56 (fn_a (by omega) fn_0)).trans ((u73 244 i56 (fo_nk rfl)).trans ((u59 244 i56 (fo_nk rfl)).trans w57)))), show h22 236 12 = tk_sw tB tn (tk_nx tB tn tp) from (by have kq := TKk.w (B := tB) (n := tn) (p := (tk_nx tB tn tp)) (by assumption) (by omega); omega)]; exact tk_sm8 (by omega) (by omega) (by omega)) (by rw [show 10 + (h 239 0).toNat = i90 by omega]; exact ((u97 239 i90 (fn_i (by omega) fn_0)).trans w91).trans (by omega)) (fun i _ => ((u97 244 i (fn_a (by omega) fn_0)).trans ((u91 244 i (fn_a (by omega) fn_0)).trans ((u73 244 i (fo_nk rfl)).trans ((u59 244 i (fo_nk rfl)).trans ((u57 244 i (fn_i (by omega) fn_0)).trans ((u34 244 i (fn_a (by decide) (fn_a (by decide) fn_0))).trans (u22 244 i (fo_nk rfl))))))))) (by omega) (by omega) (by omega)))
        ·
          obtain ⟨i87, ei87⟩ : ∃ q : Nat, e71 = (q : Int) := ⟨(e71).toNat, by omega⟩
          refine wr_is (k0 := 239) (a := e71) (f := i87) (x := z76) (bl := 0) (bh := 999) (nx := 82) (r1 := 0) (r2 := 0) (r3 := 0) rfl (by decide) rfl (by omega) (by omega) (by decide) g73 (gi_rq 10 5 (fun _ => rfl) (by decide +kernel) (by omega)) (by omega) (fun h88 g88 w88 u88 => ?_)
          have F89 := F78.then rfl (FR.idx (p := 10) (q := 14) u88 (by omega))
          refine wi_aload_n (i := 0) (x := 236) (nx := 83) (r1 := 0) (r2 := 0) (r3 := 0) rfl rfl ?_
          refine wr_V (k0 := 236) (rest := []) (as := [.ref 236]) (nx := 86) (r1 := 219) (r2 := 0) (r3 := 11) rfl rfl rfl (of_decide_eq_true rfl) rfl rfl (by decide) rfl rfl (of_decide_eq_true rfl) (of_decide_eq_true rfl) ?_
          refine wi_aload_n (i := 0) (x := 236) (nx := 1) (r1 := 0) (r2 := 0) (r3 := 0) rfl rfl ?_
          refine wr_gi0 (k0 := 236) (x := h73 236 8) (nx := 4) (r1 := 11) (r2 := 8) (r3 := 0) rfl rfl (by decide) rfl ⟨rfl, rfl⟩ rfl (u88 236 8 (fn_a (by omega) fn_0)) ?_
          refine wi_if (cd := .ne) (nx := 7) (r1 := 11) (r2 := 0) (r3 := 0) rfl (by omega) (fun (q90 : (h73 236 8) ≠ 0) => ?_) (fun (q90 : ¬ ((h73 236 8) ≠ 0)) => by exfalso; omega)
          refine wi_iconst (n := 0) (nx := 12) (r1 := 0) (r2 := 0) (r3 := 0) rfl ?_
          refine wi_zreturn (nx := 13) (r1 := 0) (r2 := 0) (r3 := 0) rfl rfl (by omega) ?_
          refine wk_i ?_
          refine wi_if (cd := .eq) (nx := 89) (r1 := 99) (r2 := 0) (r3 := 0) rfl (by omega) (fun (q92 : 0 = 0) => ?_) (fun (q92 : ¬ (0 = 0)) => by exfalso; omega)
          refine wi_return (nx := 100) (r1 := 0) (r2 := 0) (r3 := 0) rfl rfl ?_
          have e93 : h88 236 4 = h73 236 4 := (u88 236 4 (fn_a (by omega) fn_0))
          have e94 : h88 236 8 = h73 236 8 := (u88 236 8 (fn_a (by omega) fn_0))
          have e95 : h88 239 5 = h 239 5 := ((u88 239 5 (fn_i (by omega) fn_0)).trans ((u73 239 5 rfl).trans ((u59 239 5 rfl).trans ((u57 239 5 (fn_a (by omega) fn_0)).trans ((u34 239 5 rfl).trans (u22 239 5 rfl))))))
          have e96 : h88 239 7 = h 239 7 := ((u88 239 7 (fn_i (by omega) fn_0)).trans ((u73 239 7 rfl).trans ((u59 239 7 rfl).trans ((u57 239 7 (fn_a (by omega) fn_0)).trans ((u34 239 7 rfl).trans (u22 239 7 rfl))))))
          have e97 : h88 239 15 = h 239 15 := ((u88 239 15 (fn_i (by omega) fn_0)).trans ((u73 239 15 rfl).trans ((u59 239 15 rfl).trans ((u57 239 15 (fn_a (by omega) fn_0)).trans ((u34 239 15 rfl).trans (u22 239 15 rfl))))))
          have e98 : h88 239 16 = h 239 16 := ((u88 239 16 (fn_i (by omega) fn_0)).trans ((u73 239 16 rfl).trans ((u59 239 16 rfl).trans ((u57 239 16 (fn_a (by omega) fn_0)).trans ((u34 239 16 rfl).trans (u22 239 16 rfl))))))
          have e99 : h88 239 17 = h 239 17 := ((u88 239 17 (fn_i (by omega) fn_0)).trans ((u73 239 17 rfl).trans ((u59 239 17 rfl).trans ((u57 239 17 (fn_a (by omega) fn_0)).trans ((u34 239 17 rfl).trans (u22 239 17 rfl))))))
          have e100 : h88 239 18 = h 239 18 := ((u88 239 18 (fn_i (by omega) fn_0)).trans ((u73 239 18 rfl).trans ((u59 239 18 rfl).trans ((u57 239 18 (fn_a (by omega) fn_0)).trans ((u34 239 18 rfl).trans (u22 239 18 rfl))))))
          have e101 : h88 236 9 = h73 236 9 := (u88 236 9 (fn_a (by omega) fn_0))
          exact k h88 g88 F89 (show (h 236 4) ≤ (h88 236 4) by omega) (show (h88 236 4) ≤ (h 236 3) by omega) (show 1 ≤ (h88 236 8) ∨ ((h88 239 5) ≤ 9 ∧ 1 ≤ (h88 239 5) ∧ (h88 239 7) ≤ 3 ∧ (h88 239 15) ≤ 6 ∧ (h88 239 16) ≤ 6 ∧ (h88 239 17) ≤ 6 ∧ (h88 239 18) ≤ 6) by omega) (show (h88 236 8) ≠ 0 ∨ (h88 236 9) = -1 by omega) (by (try clear p34_1 p73_3 p73_4); unfold tk_color tk_wrd tk_num; (try dsimp only); (repeat (first | rw [if_pos (by omega)] | rw [if_neg (by omega)])); (repeat ((first | unfold tk_wrd | unfold tk_num); (try dsimp only); (repeat (first | rw [if_pos (by omega)] | rw [if_neg (by omega)])))); first | exact tk_ORe (by omega) (by omega) (by omega) | ((repeat' split) <;> (first | exact tk_ORe (by omega) (by omega) (by omega) | (exfalso; omega))))
        ·
          have tN87 := @tk_nx_b tB tn (tk_nx tB tn (tk_nx tB tn tp)) (by omega) (by omega)
          obtain ⟨i88, ei88⟩ : ∃ q : Nat, e71 = (q : Int) := ⟨(e71).toNat, by omega⟩
          refine wr_is (k0 := 239) (a := e71) (f := i88) (x := z76) (bl := 0) (bh := 999) (nx := 82) (r1 := 0) (r2 := 0) (r3 := 0) rfl (by decide) rfl (by omega) (by omega) (by decide) g73 (gi_rq 10 5 (fun _ => rfl) (by decide +kernel) (by omega)) (by omega) (fun h89 g89 w89 u89 => ?_)
          have F90 := F78.then rfl (FR.idx (p := 10) (q := 14) u89 (by omega))
          refine wi_aload_n (i := 0) (x := 236) (nx := 83) (r1 := 0) (r2 := 0) (r3 := 0) rfl rfl ?_
          refine wr_V (k0 := 236) (rest := []) (as := [.ref 236]) (nx := 86) (r1 := 219) (r2 := 0) (r3 := 11) rfl rfl rfl (of_decide_eq_true rfl) rfl rfl (by decide) rfl rfl (of_decide_eq_true rfl) (of_decide_eq_true rfl) ?_
          refine wi_aload_n (i := 0) (x := 236) (nx := 1) (r1 := 0) (r2 := 0) (r3 := 0) rfl rfl ?_
          refine wr_gi0 (k0 := 236) (x := h73 236 8) (nx := 4) (r1 := 11) (r2 := 8) (r3 := 0) rfl rfl (by decide) rfl ⟨rfl, rfl⟩ rfl (u89 236 8 (fn_a (by omega) fn_0)) ?_
          refine wi_if (cd := .ne) (nx := 7) (r1 := 11) (r2 := 0) (r3 := 0) rfl (by omega) (fun (q91 : (h73 236 8) ≠ 0) => ?_) (fun (q91 : ¬ ((h73 236 8) ≠ 0)) => by exfalso; omega)
          refine wi_iconst (n := 0) (nx := 12) (r1 := 0) (r2 := 0) (r3 := 0) rfl ?_
          refine wi_zreturn (nx := 13) (r1 := 0) (r2 := 0) (r3 := 0) rfl rfl (by omega) ?_
          refine wk_i ?_
          refine wi_if (cd := .eq) (nx := 89) (r1 := 99) (r2 := 0) (r3 := 0) rfl (by omega) (fun (q93 : 0 = 0) => ?_) (fun (q93 : ¬ (0 = 0)) => by exfalso; omega)
          refine wi_return (nx := 100) (r1 := 0) (r2 := 0) (r3 := 0) rfl rfl ?_
          have e94 : h89 236 4 = h73 236 4 := (u89 236 4 (fn_a (by omega) fn_0))
          have e95 : h89 236 8 = h73 236 8 := (u89 236 8 (fn_a (by omega) fn_0))
          have e96 : h89 239 5 = h 239 5 := ((u89 239 5 (fn_i (by omega) fn_0)).trans ((u73 239 5 rfl).trans ((u59 239 5 rfl).trans ((u57 239 5 (fn_a (by omega) fn_0)).trans ((u34 239 5 rfl).trans (u22 239 5 rfl))))))
          have e97 : h89 239 7 = h 239 7 := ((u89 239 7 (fn_i (by omega) fn_0)).trans ((u73 239 7 rfl).trans ((u59 239 7 rfl).trans ((u57 239 7 (fn_a (by omega) fn_0)).trans ((u34 239 7 rfl).trans (u22 239 7 rfl))))))
          have e98 : h89 239 15 = h 239 15 := ((u89 239 15 (fn_i (by omega) fn_0)).trans ((u73 239 15 rfl).trans ((u59 239 15 rfl).trans ((u57 239 15 (fn_a (by omega) fn_0)).trans ((u34 239 15 rfl).trans (u22 239 15 rfl))))))
          have e99 : h89 239 16 = h 239 16 := ((u89 239 16 (fn_i (by omega) fn_0)).trans ((u73 239 16 rfl).trans ((u59 239 16 rfl).trans ((u57 239 16 (fn_a (by omega) fn_0)).trans ((u34 239 16 rfl).trans (u22 239 16 rfl))))))
          have e100 : h89 239 17 = h 239 17 := ((u89 239 17 (fn_i (by omega) fn_0)).trans ((u73 239 17 rfl).trans ((u59 239 17 rfl).trans ((u57 239 17 (fn_a (by omega) fn_0)).trans ((u34 239 17 rfl).trans (u22 239 17 rfl))))))
          have e101 : h89 239 18 = h 239 18 := ((u89 239 18 (fn_i (by omega) fn_0)).trans ((u73 239 18 rfl).trans ((u59 239 18 rfl).trans ((u57 239 18 (fn_a (by omega) fn_0)).trans ((u34 239 18 rfl).trans (u22 239 18 rfl))))))
          have e102 : h89 236 9 = h73 236 9 := (u89 236 9 (fn_a (by omega) fn_0))
          exact k h89 g89 F90 (show (h 236 4) ≤ (h89 236 4) by omega) (show (h89 236 4) ≤ (h 236 3) by omega) (show 1 ≤ (h89 236 8) ∨ ((h89 239 5) ≤ 9 ∧ 1 ≤ (h89 239 5) ∧ (h89 239 7) ≤ 3 ∧ (h89 239 15) ≤ 6 ∧ (h89 239 16) ≤ 6 ∧ (h89 239 17) ≤ 6 ∧ (h89 239 18) ≤ 6) by omega) (show (h89 236 8) ≠ 0 ∨ (h89 236 9) = -1 by omega) (by (try clear p34_1 p73_3 p73_4); unfold tk_color tk_wrd tk_num; (try dsimp only); (repeat (first | rw [if_pos (by omega)] | rw [if_neg (by omega)])); (repeat ((first | unfold tk_wrd | unfold tk_num); (try dsimp only); (repeat (first | rw [if_pos (by omega)] | rw [if_neg (by omega)])))); first | exact tk_ORe (by omega) (by omega) (by omega) | ((repeat' split) <;> (first | exact tk_ORe (by omega) (by omega) (by omega) | (exfalso; omega))))
        ·
          have tN87 := @tk_nx_b tB tn (tk_nx tB tn (tk_nx tB tn tp)) (by omega) (by omega)
          obtain ⟨i88, ei88⟩ : ∃ q : Nat, e71 = (q : Int) := ⟨(e71).toNat, by omega⟩
          refine wr_is (k0 := 239) (a := e71) (f := i88) (x := z76) (bl := 0) (bh := 999) (nx := 82) (r1 := 0) (r2 := 0) (r3 := 0) rfl (by decide) rfl (by omega) (by omega) (by decide) g73 (gi_rq 10 5 (fun _ => rfl) (by decide +kernel) (by omega)) (by omega) (fun h89 g89 w89 u89 => ?_)
          have F90 := F78.then rfl (FR.idx (p := 10) (q := 14) u89 (by omega))
          refine wi_aload_n (i := 0) (x := 236) (nx := 83) (r1 := 0) (r2 := 0) (r3 := 0) rfl rfl ?_
          refine wr_V (k0 := 236) (rest := []) (as := [.ref 236]) (nx := 86) (r1 := 219) (r2 := 0) (r3 := 11) rfl rfl rfl (of_decide_eq_true rfl) rfl rfl (by decide) rfl rfl (of_decide_eq_true rfl) (of_decide_eq_true rfl) ?_
          refine wi_aload_n (i := 0) (x := 236) (nx := 1) (r1 := 0) (r2 := 0) (r3 := 0) rfl rfl ?_
          refine wr_gi0 (k0 := 236) (x := h73 236 8) (nx := 4) (r1 := 11) (r2 := 8) (r3 := 0) rfl rfl (by decide) rfl ⟨rfl, rfl⟩ rfl (u89 236 8 (fn_a (by omega) fn_0)) ?_
          refine wi_if (cd := .ne) (nx := 7) (r1 := 11) (r2 := 0) (r3 := 0) rfl (by omega) (fun (q91 : (h73 236 8) ≠ 0) => ?_) (fun (q91 : ¬ ((h73 236 8) ≠ 0)) => by exfalso; omega)
          refine wi_iconst (n := 0) (nx := 12) (r1 := 0) (r2 := 0) (r3 := 0) rfl ?_
          refine wi_zreturn (nx := 13) (r1 := 0) (r2 := 0) (r3 := 0) rfl rfl (by omega) ?_
          refine wk_i ?_
          refine wi_if (cd := .eq) (nx := 89) (r1 := 99) (r2 := 0) (r3 := 0) rfl (by omega) (fun (q93 : 0 = 0) => ?_) (fun (q93 : ¬ (0 = 0)) => by exfalso; omega)
          refine wi_return (nx := 100) (r1 := 0) (r2 := 0) (r3 := 0) rfl rfl ?_
          have e94 : h89 236 4 = h73 236 4 := (u89 236 4 (fn_a (by omega) fn_0))
          have e95 : h89 236 8 = h73 236 8 := (u89 236 8 (fn_a (by omega) fn_0))
          have e96 : h89 239 5 = h 239 5 := ((u89 239 5 (fn_i (by omega) fn_0)).trans ((u73 239 5 rfl).trans ((u59 239 5 rfl).trans ((u57 239 5 (fn_a (by omega) fn_0)).trans ((u34 239 5 rfl).trans (u22 239 5 rfl))))))
          have e97 : h89 239 7 = h 239 7 := ((u89 239 7 (fn_i (by omega) fn_0)).trans ((u73 239 7 rfl).trans ((u59 239 7 rfl).trans ((u57 239 7 (fn_a (by omega) fn_0)).trans ((u34 239 7 rfl).trans (u22 239 7 rfl))))))
          have e98 : h89 239 15 = h 239 15 := ((u89 239 15 (fn_i (by omega) fn_0)).trans ((u73 239 15 rfl).trans ((u59 239 15 rfl).trans ((u57 239 15 (fn_a (by omega) fn_0)).trans ((u34 239 15 rfl).trans (u22 239 15 rfl))))))
          have e99 : h89 239 16 = h 239 16 := ((u89 239 16 (fn_i (by omega) fn_0)).trans ((u73 239 16 rfl).trans ((u59 239 16 rfl).trans ((u57 239 16 (fn_a (by omega) fn_0)).trans ((u34 239 16 rfl).trans (u22 239 16 rfl))))))
          have e100 : h89 239 17 = h 239 17 := ((u89 239 17 (fn_i (by omega) fn_0)).trans ((u73 239 17 rfl).trans ((u59 239 17 rfl).trans ((u57 239 17 (fn_a (by omega) fn_0)).trans ((u34 239 17 rfl).trans (u22 239 17 rfl))))))
          have e101 : h89 239 18 = h 239 18 := ((u89 239 18 (fn_i (by omega) fn_0)).trans ((u73 239 18 rfl).trans ((u59 239 18 rfl).trans ((u57 239 18 (fn_a (by omega) fn_0)).trans ((u34 239 18 rfl).trans (u22 239 18 rfl))))))
          have e102 : h89 236 9 = h73 236 9 := (u89 236 9 (fn_a (by omega) fn_0))
          exact k h89 g89 F90 (show (h 236 4) ≤ (h89 236 4) by omega) (show (h89 236 4) ≤ (h 236 3) by omega) (show 1 ≤ (h89 236 8) ∨ ((h89 239 5) ≤ 9 ∧ 1 ≤ (h89 239 5) ∧ (h89 239 7) ≤ 3 ∧ (h89 239 15) ≤ 6 ∧ (h89 239 16) ≤ 6 ∧ (h89 239 17) ≤ 6 ∧ (h89 239 18) ≤ 6) by omega) (show (h89 236 8) ≠ 0 ∨ (h89 236 9) = -1 by omega) (by (try clear p34_1 p73_3 p73_4); unfold tk_color tk_wrd tk_num; (try dsimp only); (repeat (first | rw [if_pos (by omega)] | rw [if_neg (by omega)])); (repeat ((first | unfold tk_wrd | unfold tk_num); (try dsimp only); (repeat (first | rw [if_pos (by omega)] | rw [if_neg (by omega)])))); first | exact tk_ORe (by omega) (by omega) (by omega) | ((repeat' split) <;> (first | exact tk_ORe (by omega) (by omega) (by omega) | (exfalso; omega))))
      ·
        refine wi_aload_n (i := 0) (x := 236) (nx := 37) (r1 := 0) (r2 := 0) (r3 := 0) rfl rfl ?_
        refine wi_iconst (n := 3) (nx := 38) (r1 := 0) (r2 := 0) (r3 := 0) rfl ?_
        refine wr_V (k0 := 236) (rest := []) (as := [.ref 236, vi 3]) (nx := 41) (r1 := 224) (r2 := 1) (r3 := 11) rfl rfl rfl (of_decide_eq_true rfl) rfl rfl (by decide) rfl rfl (of_decide_eq_true rfl) (of_decide_eq_true rfl) ?_
        refine ct_224_236 hcr  g34 3 (by omega)  (fun h53 g53 u53 (p53_0 : 1 ≤ (h53 236 8)) (p53_1 : (1 ≤ (h34 236 8) ∧ (h53 236 8) = (h34 236 8) ∧ (h53 236 9) = (h34 236 9)) ∨ ((h34 236 8) = 0 ∧ (h53 236 9) = (h34 236 5) ∧ (((h34 236 6) = 4 ∧ (h53 236 8) = 1) ∨ ((h34 236 6) ≠ 4 ∧ (h53 236 8) = 3)))) => ?_)
        have F54 := F37.then (by decide +kernel) u53
        have b55 := gi_b (lo := 0) (hi := 5) g53 236 8 rfl
        have e56 : h34 236 5 = h22 236 5 := (u34 236 5 rfl)
        have e57 : h34 236 6 = h22 236 6 := (u34 236 6 rfl)
        have b58 := gi_b (lo := -2147483648) (hi := 2147483647) g53 236 9 rfl
        refine wk_n ?_
        refine wi_aload_n (i := 0) (x := 236) (nx := 42) (r1 := 0) (r2 := 0) (r3 := 0) rfl rfl ?_
        refine wr_V (k0 := 236) (rest := []) (as := [.ref 236]) (nx := 45) (r1 := 219) (r2 := 0) (r3 := 11) rfl rfl rfl (of_decide_eq_true rfl) rfl rfl (by decide) rfl rfl (of_decide_eq_true rfl) (of_decide_eq_true rfl) ?_
        refine wi_aload_n (i := 0) (x := 236) (nx := 1) (r1 := 0) (r2 := 0) (r3 := 0) rfl rfl ?_
        refine wr_gi0 (k0 := 236) (x := h53 236 8) (nx := 4) (r1 := 11) (r2 := 8) (r3 := 0) rfl rfl (by decide) rfl ⟨rfl, rfl⟩ rfl rfl ?_
        refine wi_if (cd := .ne) (nx := 7) (r1 := 11) (r2 := 0) (r3 := 0) rfl (by omega) (fun (q59 : (h53 236 8) ≠ 0) => ?_) (fun (q59 : ¬ ((h53 236 8) ≠ 0)) => by exfalso; omega)
        refine wi_iconst (n := 0) (nx := 12) (r1 := 0) (r2 := 0) (r3 := 0) rfl ?_
        refine wi_zreturn (nx := 13) (r1 := 0) (r2 := 0) (r3 := 0) rfl rfl (by omega) ?_
        refine wk_i ?_
        refine wi_if (cd := .ne) (nx := 48) (r1 := 49) (r2 := 0) (r3 := 0) rfl (by omega) (fun (q61 : 0 ≠ 0) => by exfalso; omega) (fun (q61 : ¬ (0 ≠ 0)) => ?_)
        refine wi_return (nx := 49) (r1 := 0) (r2 := 0) (r3 := 0) rfl rfl ?_
        have e62 : h53 236 4 = h22 236 4 := ((u53 236 4 rfl).trans (u34 236 4 rfl))
        have e63 : h53 239 5 = h 239 5 := ((u53 239 5 rfl).trans ((u34 239 5 rfl).trans (u22 239 5 rfl)))
        have e64 : h53 239 7 = h 239 7 := ((u53 239 7 rfl).trans ((u34 239 7 rfl).trans (u22 239 7 rfl)))
        have e65 : h53 239 15 = h 239 15 := ((u53 239 15 rfl).trans ((u34 239 15 rfl).trans (u22 239 15 rfl)))
        have e66 : h53 239 16 = h 239 16 := ((u53 239 16 rfl).trans ((u34 239 16 rfl).trans (u22 239 16 rfl)))
        have e67 : h53 239 17 = h 239 17 := ((u53 239 17 rfl).trans ((u34 239 17 rfl).trans (u22 239 17 rfl)))
        have e68 : h53 239 18 = h 239 18 := ((u53 239 18 rfl).trans ((u34 239 18 rfl).trans (u22 239 18 rfl)))
        exact k h53 g53 F54 (show (h 236 4) ≤ (h53 236 4) by omega) (show (h53 236 4) ≤ (h 236 3) by omega) (show 1 ≤ (h53 236 8) ∨ ((h53 239 5) ≤ 9 ∧ 1 ≤ (h53 239 5) ∧ (h53 239 7) ≤ 3 ∧ (h53 239 15) ≤ 6 ∧ (h53 239 16) ≤ 6 ∧ (h53 239 17) ≤ 6 ∧ (h53 239 18) ≤ 6) by omega) (show (h53 236 8) ≠ 0 ∨ (h53 236 9) = -1 by omega) (by (try clear p34_1 p53_1); unfold tk_color tk_wrd tk_num; (try dsimp only); (repeat (first | rw [if_pos (by omega)] | rw [if_neg (by omega)])); (repeat ((first | unfold tk_wrd | unfold tk_num); (try dsimp only); (repeat (first | rw [if_pos (by omega)] | rw [if_neg (by omega)])))); first | exact tk_ORe (by omega) (by omega) (by omega) | ((repeat' split) <;> (first | exact tk_ORe (by omega) (by omega) (by omega) | (exfalso; omega))))
    ·
      refine wi_aload_n (i := 0) (x := 236) (nx := 22) (r1 := 0) (r2 := 0) (r3 := 0) rfl rfl ?_
      refine wr_V (k0 := 236) (rest := []) (as := [.ref 236]) (nx := 25) (r1 := 219) (r2 := 0) (r3 := 11) rfl rfl rfl (of_decide_eq_true rfl) rfl rfl (by decide) rfl rfl (of_decide_eq_true rfl) (of_decide_eq_true rfl) ?_
      refine wi_aload_n (i := 0) (x := 236) (nx := 1) (r1 := 0) (r2 := 0) (r3 := 0) rfl rfl ?_
      refine wr_gi0 (k0 := 236) (x := h34 236 8) (nx := 4) (r1 := 11) (r2 := 8) (r3 := 0) rfl rfl (by decide) rfl ⟨rfl, rfl⟩ rfl rfl ?_
      refine wi_if (cd := .ne) (nx := 7) (r1 := 11) (r2 := 0) (r3 := 0) rfl (by omega) (fun (q41 : (h34 236 8) ≠ 0) => ?_) (fun (q41 : ¬ ((h34 236 8) ≠ 0)) => by exfalso; omega)
      refine wi_iconst (n := 0) (nx := 12) (r1 := 0) (r2 := 0) (r3 := 0) rfl ?_
      refine wi_zreturn (nx := 13) (r1 := 0) (r2 := 0) (r3 := 0) rfl rfl (by omega) ?_
      refine wk_i ?_
      refine wi_if (cd := .eq) (nx := 28) (r1 := 41) (r2 := 0) (r3 := 0) rfl (by omega) (fun (q43 : 0 = 0) => ?_) (fun (q43 : ¬ (0 = 0)) => by exfalso; omega)
      refine wi_aload_n (i := 0) (x := 236) (nx := 42) (r1 := 0) (r2 := 0) (r3 := 0) rfl rfl ?_
      refine wr_V (k0 := 236) (rest := []) (as := [.ref 236]) (nx := 45) (r1 := 219) (r2 := 0) (r3 := 11) rfl rfl rfl (of_decide_eq_true rfl) rfl rfl (by decide) rfl rfl (of_decide_eq_true rfl) (of_decide_eq_true rfl) ?_
      refine wi_aload_n (i := 0) (x := 236) (nx := 1) (r1 := 0) (r2 := 0) (r3 := 0) rfl rfl ?_
      refine wr_gi0 (k0 := 236) (x := h34 236 8) (nx := 4) (r1 := 11) (r2 := 8) (r3 := 0) rfl rfl (by decide) rfl ⟨rfl, rfl⟩ rfl rfl ?_
      refine wi_if (cd := .ne) (nx := 7) (r1 := 11) (r2 := 0) (r3 := 0) rfl (by omega) (fun (q44 : (h34 236 8) ≠ 0) => ?_) (fun (q44 : ¬ ((h34 236 8) ≠ 0)) => by exfalso; omega)
      refine wi_iconst (n := 0) (nx := 12) (r1 := 0) (r2 := 0) (r3 := 0) rfl ?_
      refine wi_zreturn (nx := 13) (r1 := 0) (r2 := 0) (r3 := 0) rfl rfl (by omega) ?_
      refine wk_i ?_
      refine wi_if (cd := .ne) (nx := 48) (r1 := 49) (r2 := 0) (r3 := 0) rfl (by omega) (fun (q46 : 0 ≠ 0) => by exfalso; omega) (fun (q46 : ¬ (0 ≠ 0)) => ?_)
      refine wi_return (nx := 49) (r1 := 0) (r2 := 0) (r3 := 0) rfl rfl ?_
      have e47 : h34 236 4 = h22 236 4 := (u34 236 4 rfl)
      have e48 : h34 239 5 = h 239 5 := ((u34 239 5 rfl).trans (u22 239 5 rfl))
      have e49 : h34 239 7 = h 239 7 := ((u34 239 7 rfl).trans (u22 239 7 rfl))
      have e50 : h34 239 15 = h 239 15 := ((u34 239 15 rfl).trans (u22 239 15 rfl))
      have e51 : h34 239 16 = h 239 16 := ((u34 239 16 rfl).trans (u22 239 16 rfl))
      have e52 : h34 239 17 = h 239 17 := ((u34 239 17 rfl).trans (u22 239 17 rfl))
      have e53 : h34 239 18 = h 239 18 := ((u34 239 18 rfl).trans (u22 239 18 rfl))
      exact k h34 g34 F37 (show (h 236 4) ≤ (h34 236 4) by omega) (show (h34 236 4) ≤ (h 236 3) by omega) (show 1 ≤ (h34 236 8) ∨ ((h34 239 5) ≤ 9 ∧ 1 ≤ (h34 239 5) ∧ (h34 239 7) ≤ 3 ∧ (h34 239 15) ≤ 6 ∧ (h34 239 16) ≤ 6 ∧ (h34 239 17) ≤ 6 ∧ (h34 239 18) ≤ 6) by omega) (show (h34 236 8) ≠ 0 ∨ (h34 236 9) = -1 by omega) (by (try clear p34_1); unfold tk_color tk_wrd tk_num; (try dsimp only); (repeat (first | rw [if_pos (by omega)] | rw [if_neg (by omega)])); (repeat ((first | unfold tk_wrd | unfold tk_num); (try dsimp only); (repeat (first | rw [if_pos (by omega)] | rw [if_neg (by omega)])))); first | exact tk_ORe (by omega) (by omega) (by omega) | ((repeat' split) <;> (first | exact tk_ORe (by omega) (by omega) (by omega) | (exfalso; omega))))
  ·
    refine wi_aload_n (i := 0) (x := 236) (nx := 11) (r1 := 0) (r2 := 0) (r3 := 0) rfl rfl ?_
    refine wi_iconst (n := 5) (nx := 12) (r1 := 0) (r2 := 0) (r3 := 0) rfl ?_
    refine wr_V (k0 := 236) (rest := []) (as := [.ref 236, vi 5]) (nx := 15) (r1 := 224) (r2 := 1) (r3 := 11) rfl rfl rfl (of_decide_eq_true rfl) rfl rfl (by decide) rfl rfl (of_decide_eq_true rfl) (of_decide_eq_true rfl) ?_
    refine ct_224_236 hcr  g 5 (by omega)  (fun h19 g19 u19 (p19_0 : 1 ≤ (h19 236 8)) (p19_1 : (1 ≤ (h 236 8) ∧ (h19 236 8) = (h 236 8) ∧ (h19 236 9) = (h 236 9)) ∨ ((h 236 8) = 0 ∧ (h19 236 9) = (h 236 5) ∧ (((h 236 6) = 4 ∧ (h19 236 8) = 1) ∨ ((h 236 6) ≠ 4 ∧ (h19 236 8) = 5)))) => ?_)
    have F20 := F0.then (by decide +kernel) u19
    have b21 := gi_b (lo := 0) (hi := 5) g19 236 8 rfl
    have b22 := gi_b (lo := -2147483648) (hi := 2147483647) g19 236 9 rfl
    refine wk_n ?_
    refine wi_aload_n (i := 0) (x := 236) (nx := 16) (r1 := 0) (r2 := 0) (r3 := 0) rfl rfl ?_
    refine wr_V (k0 := 236) (rest := []) (as := [.ref 236]) (nx := 19) (r1 := 219) (r2 := 0) (r3 := 11) rfl rfl rfl (of_decide_eq_true rfl) rfl rfl (by decide) rfl rfl (of_decide_eq_true rfl) (of_decide_eq_true rfl) ?_
    refine wi_aload_n (i := 0) (x := 236) (nx := 1) (r1 := 0) (r2 := 0) (r3 := 0) rfl rfl ?_
    refine wr_gi0 (k0 := 236) (x := h19 236 8) (nx := 4) (r1 := 11) (r2 := 8) (r3 := 0) rfl rfl (by decide) rfl ⟨rfl, rfl⟩ rfl rfl ?_
    refine wi_if (cd := .ne) (nx := 7) (r1 := 11) (r2 := 0) (r3 := 0) rfl (by omega) (fun (q23 : (h19 236 8) ≠ 0) => ?_) (fun (q23 : ¬ ((h19 236 8) ≠ 0)) => by exfalso; omega)
    refine wi_iconst (n := 0) (nx := 12) (r1 := 0) (r2 := 0) (r3 := 0) rfl ?_
    refine wi_zreturn (nx := 13) (r1 := 0) (r2 := 0) (r3 := 0) rfl rfl (by omega) ?_
    refine wk_i ?_
    refine wi_if (cd := .eq) (nx := 22) (r1 := 26) (r2 := 0) (r3 := 0) rfl (by omega) (fun (q25 : 0 = 0) => ?_) (fun (q25 : ¬ (0 = 0)) => by exfalso; omega)
    refine wi_aload_n (i := 0) (x := 236) (nx := 27) (r1 := 0) (r2 := 0) (r3 := 0) rfl rfl ?_
    refine wr_V (k0 := 236) (rest := []) (as := [.ref 236]) (nx := 30) (r1 := 219) (r2 := 0) (r3 := 11) rfl rfl rfl (of_decide_eq_true rfl) rfl rfl (by decide) rfl rfl (of_decide_eq_true rfl) (of_decide_eq_true rfl) ?_
    refine wi_aload_n (i := 0) (x := 236) (nx := 1) (r1 := 0) (r2 := 0) (r3 := 0) rfl rfl ?_
    refine wr_gi0 (k0 := 236) (x := h19 236 8) (nx := 4) (r1 := 11) (r2 := 8) (r3 := 0) rfl rfl (by decide) rfl ⟨rfl, rfl⟩ rfl rfl ?_
    refine wi_if (cd := .ne) (nx := 7) (r1 := 11) (r2 := 0) (r3 := 0) rfl (by omega) (fun (q26 : (h19 236 8) ≠ 0) => ?_) (fun (q26 : ¬ ((h19 236 8) ≠ 0)) => by exfalso; omega)
    refine wi_iconst (n := 0) (nx := 12) (r1 := 0) (r2 := 0) (r3 := 0) rfl ?_
    refine wi_zreturn (nx := 13) (r1 := 0) (r2 := 0) (r3 := 0) rfl rfl (by omega) ?_
    refine wk_i ?_
    refine wi_zreturn (nx := 31) (r1 := 0) (r2 := 0) (r3 := 0) rfl rfl (by omega) ?_
    refine wk_i ?_
    refine wi_if (cd := .ne) (nx := 16) (r1 := 17) (r2 := 0) (r3 := 0) rfl (by omega) (fun (q28 : 0 ≠ 0) => by exfalso; omega) (fun (q28 : ¬ (0 ≠ 0)) => ?_)
    refine wi_return (nx := 17) (r1 := 0) (r2 := 0) (r3 := 0) rfl rfl ?_
    have e29 : h19 236 4 = h 236 4 := (u19 236 4 rfl)
    have e30 : h19 239 5 = h 239 5 := (u19 239 5 rfl)
    have e31 : h19 239 7 = h 239 7 := (u19 239 7 rfl)
    have e32 : h19 239 15 = h 239 15 := (u19 239 15 rfl)
    have e33 : h19 239 16 = h 239 16 := (u19 239 16 rfl)
    have e34 : h19 239 17 = h 239 17 := (u19 239 17 rfl)
    have e35 : h19 239 18 = h 239 18 := (u19 239 18 rfl)
    exact k h19 g19 F20 (show (h 236 4) ≤ (h19 236 4) by omega) (show (h19 236 4) ≤ (h 236 3) by omega) (show 1 ≤ (h19 236 8) ∨ ((h19 239 5) ≤ 9 ∧ 1 ≤ (h19 239 5) ∧ (h19 239 7) ≤ 3 ∧ (h19 239 15) ≤ 6 ∧ (h19 239 16) ≤ 6 ∧ (h19 239 17) ≤ 6 ∧ (h19 239 18) ≤ 6) by omega) (show (h19 236 8) ≠ 0 ∨ (h19 236 9) = -1 by omega) (by (try clear p19_1); unfold tk_color tk_wrd tk_num; (try dsimp only); (repeat (first | rw [if_pos (by omega)] | rw [if_neg (by omega)])); (repeat ((first | unfold tk_wrd | unfold tk_num); (try dsimp only); (repeat (first | rw [if_pos (by omega)] | rw [if_neg (by omega)])))); first | exact tk_ORe (by omega) (by omega) (by omega) | ((repeat' split) <;> (first | exact tk_ORe (by omega) (by omega) (by omega) | (exfalso; omega))))
